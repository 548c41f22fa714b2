set_option maxRecDepth 20000 in
theorem ggX4_init_X3_init : GoodIn wsX4_init wsX3_init := goodIn_r _ [26, 27, 2, 3, 28, 29, 30, 31, 32, 6, 33, 34, 35, 36, 37, 53] (by decide +kernel) (by decide +kernel)
set_option maxRecDepth 20000 in
theorem gX4_init_X3_init : GoodIn wsX4_init (wsX3_init) := ggX4_init_X3_init
set_option maxRecDepth 20000 in
theorem ggX4_init_X2_init : GoodIn wsX4_init wsX2_init := goodIn_r _ [40, 41, 2, 3, 42, 28, 43, 63, 64] (by decide +kernel) (by decide +kernel)
set_option maxRecDepth 20000 in
theorem gX4_init_X2_init : GoodIn wsX4_init (wsX2_init) := ggX4_init_X2_init
set_option maxRecDepth 20000 in
theorem ggX4_init_X0_init : GoodIn wsX4_init wsX0_init := goodIn_r _ [45, 46, 2, 3, 47, 48, 65, 66, 67, 68, 69, 70, 71] (by decide +kernel) (by decide +kernel)
set_option maxRecDepth 20000 in
theorem gX4_init_X0_init_n37 : GoodIn wsX4_init (wsX0_init) := ggX4_init_X0_init
set_option maxRecDepth 20000 in
theorem ggX4_init_X1_init : GoodIn wsX4_init wsX1_init := goodIn_r _ [50, 51, 2, 3, 47, 52, 72, 73] (by decide +kernel) (by decide +kernel)
set_option maxRecDepth 20000 in
theorem gX4_init_X1_init_n44 : GoodIn wsX4_init (wsX1_init) := ggX4_init_X1_init
theorem dX4_init_0 : decode cX4_init 0 = .ok (.aload_n 0, 1) := by decide +kernel
theorem dX4_init_1 : decode cX4_init 1 = .ok (.invokespecial 3, 3) := by decide +kernel
theorem dX4_init_4 : decode cX4_init 4 = .ok (.aload_n 0, 1) := by decide +kernel
theorem dX4_init_5 : decode cX4_init 5 = .ok (.new 9, 3) := by decide +kernel
theorem dX4_init_8 : decode cX4_init 8 = .ok (.dup, 1) := by decide +kernel
theorem dX4_init_9 : decode cX4_init 9 = .ok (.invokespecial 11, 3) := by decide +kernel
theorem dX4_init_12 : decode cX4_init 12 = .ok (.putfield 12, 3) := by decide +kernel
theorem dX4_init_15 : decode cX4_init 15 = .ok (.aload_n 0, 1) := by decide +kernel
theorem dX4_init_16 : decode cX4_init 16 = .ok (.new 9, 3) := by decide +kernel
theorem dX4_init_19 : decode cX4_init 19 = .ok (.dup, 1) := by decide +kernel
theorem dX4_init_20 : decode cX4_init 20 = .ok (.invokespecial 11, 3) := by decide +kernel
theorem dX4_init_23 : decode cX4_init 23 = .ok (.putfield 16, 3) := by decide +kernel
theorem dX4_init_26 : decode cX4_init 26 = .ok (.aload_n 0, 1) := by decide +kernel
theorem dX4_init_27 : decode cX4_init 27 = .ok (.new 19, 3) := by decide +kernel
theorem dX4_init_30 : decode cX4_init 30 = .ok (.dup, 1) := by decide +kernel
theorem dX4_init_31 : decode cX4_init 31 = .ok (.bipush 14, 2) := by decide +kernel
theorem dX4_init_33 : decode cX4_init 33 = .ok (.invokespecial 21, 3) := by decide +kernel
theorem dX4_init_36 : decode cX4_init 36 = .ok (.putfield 24, 3) := by decide +kernel
theorem dX4_init_39 : decode cX4_init 39 = .ok (.aload_n 0, 1) := by decide +kernel
theorem dX4_init_40 : decode cX4_init 40 = .ok (.new 19, 3) := by decide +kernel
theorem dX4_init_43 : decode cX4_init 43 = .ok (.dup, 1) := by decide +kernel
theorem dX4_init_44 : decode cX4_init 44 = .ok (.iconst 2, 1) := by decide +kernel
theorem dX4_init_45 : decode cX4_init 45 = .ok (.invokespecial 21, 3) := by decide +kernel
theorem dX4_init_48 : decode cX4_init 48 = .ok (.putfield 28, 3) := by decide +kernel
theorem dX4_init_51 : decode cX4_init 51 = .ok (.aload_n 0, 1) := by decide +kernel
theorem dX4_init_52 : decode cX4_init 52 = .ok (.iconst 2, 1) := by decide +kernel
theorem dX4_init_53 : decode cX4_init 53 = .ok (.newarray .boolean, 2) := by decide +kernel
theorem dX4_init_55 : decode cX4_init 55 = .ok (.putfield 31, 3) := by decide +kernel
theorem dX4_init_58 : decode cX4_init 58 = .ok (.aload_n 0, 1) := by decide +kernel
theorem dX4_init_59 : decode cX4_init 59 = .ok (.new 35, 3) := by decide +kernel
theorem dX4_init_62 : decode cX4_init 62 = .ok (.dup, 1) := by decide +kernel
theorem dX4_init_63 : decode cX4_init 63 = .ok (.invokespecial 37, 3) := by decide +kernel
theorem dX4_init_66 : decode cX4_init 66 = .ok (.putfield 38, 3) := by decide +kernel
theorem dX4_init_69 : decode cX4_init 69 = .ok (.aload_n 0, 1) := by decide +kernel
theorem dX4_init_70 : decode cX4_init 70 = .ok (.new 42, 3) := by decide +kernel
theorem dX4_init_73 : decode cX4_init 73 = .ok (.dup, 1) := by decide +kernel
theorem dX4_init_74 : decode cX4_init 74 = .ok (.invokespecial 44, 3) := by decide +kernel
theorem dX4_init_77 : decode cX4_init 77 = .ok (.putfield 45, 3) := by decide +kernel
theorem dX4_init_80 : decode cX4_init 80 = .ok (.return_, 1) := by decide +kernel
set_option maxRecDepth 20000 in
theorem ggX4_append_X0_isFull : GoodIn wsX4_append wsX0_isFull := goodIn_r _ [10, 11, 26, 27, 28, 29, 30, 31, 32] (by decide +kernel) (by decide +kernel)
set_option maxRecDepth 20000 in
theorem gX4_append_X0_isFull : GoodIn wsX4_append (wsV RX4 56 RX0 yX0_isFull wsX0_isFull) := goodIn_app (goodIn_of _ (by decide +kernel)) ggX4_append_X0_isFull
set_option maxRecDepth 20000 in
theorem ggX4_append_X0_add : GoodIn wsX4_append wsX0_add := goodIn_r _ [15, 11, 16, 26, 27, 28, 29, 30, 31, 32] (by decide +kernel) (by decide +kernel)
set_option maxRecDepth 20000 in
theorem gX4_append_X0_add : GoodIn wsX4_append (wsV RX4 65 RX0 yX0_add wsX0_add) := goodIn_app (goodIn_of _ (by decide +kernel)) ggX4_append_X0_add
theorem dX4_append_0 : decode cX4_append 0 = .ok (.iload_n 1, 1) := by decide +kernel
theorem dX4_append_1 : decode cX4_append 1 = .ok (.ifCond .lt 10, 3) := by decide +kernel
theorem dX4_append_4 : decode cX4_append 4 = .ok (.iload_n 1, 1) := by decide +kernel
theorem dX4_append_5 : decode cX4_append 5 = .ok (.sipush 255, 3) := by decide +kernel
theorem dX4_append_8 : decode cX4_append 8 = .ok (.if_icmp .le 13, 3) := by decide +kernel
theorem dX4_append_11 : decode cX4_append 11 = .ok (.new 49, 3) := by decide +kernel
theorem dX4_append_14 : decode cX4_append 14 = .ok (.dup, 1) := by decide +kernel
theorem dX4_append_15 : decode cX4_append 15 = .ok (.ldc 51, 2) := by decide +kernel
theorem dX4_append_17 : decode cX4_append 17 = .ok (.invokespecial 53, 3) := by decide +kernel
theorem dX4_append_20 : decode cX4_append 20 = .ok (.athrow, 1) := by decide +kernel
theorem dX4_append_21 : decode cX4_append 21 = .ok (.aload_n 0, 1) := by decide +kernel
theorem dX4_append_22 : decode cX4_append 22 = .ok (.getfield 38, 3) := by decide +kernel
theorem dX4_append_25 : decode cX4_append 25 = .ok (.invokevirtual 56, 3) := by decide +kernel
theorem dX4_append_28 : decode cX4_append 28 = .ok (.ifCond .eq 13, 3) := by decide +kernel
theorem dX4_append_31 : decode cX4_append 31 = .ok (.new 60, 3) := by decide +kernel
theorem dX4_append_34 : decode cX4_append 34 = .ok (.dup, 1) := by decide +kernel
theorem dX4_append_35 : decode cX4_append 35 = .ok (.ldc 62, 2) := by decide +kernel
theorem dX4_append_37 : decode cX4_append 37 = .ok (.invokespecial 64, 3) := by decide +kernel
theorem dX4_append_40 : decode cX4_append 40 = .ok (.athrow, 1) := by decide +kernel
theorem dX4_append_41 : decode cX4_append 41 = .ok (.aload_n 0, 1) := by decide +kernel
theorem dX4_append_42 : decode cX4_append 42 = .ok (.getfield 38, 3) := by decide +kernel
theorem dX4_append_45 : decode cX4_append 45 = .ok (.iload_n 1, 1) := by decide +kernel
theorem dX4_append_46 : decode cX4_append 46 = .ok (.i2c, 1) := by decide +kernel
theorem dX4_append_47 : decode cX4_append 47 = .ok (.invokevirtual 65, 3) := by decide +kernel
theorem dX4_append_50 : decode cX4_append 50 = .ok (.ireturn, 1) := by decide +kernel
set_option maxRecDepth 20000 in
theorem ggX4_clearText_X0_empty : GoodIn wsX4_clearText wsX0_empty := goodIn_r _ [6, 7, 17, 18, 19, 20, 21, 22, 23] (by decide +kernel) (by decide +kernel)
set_option maxRecDepth 20000 in
theorem gX4_clearText_X0_empty : GoodIn wsX4_clearText (wsV RX4 69 RX0 yX0_empty wsX0_empty) := goodIn_app (goodIn_of _ (by decide +kernel)) ggX4_clearText_X0_empty
theorem dX4_clearText_0 : decode cX4_clearText 0 = .ok (.aload_n 0, 1) := by decide +kernel
theorem dX4_clearText_1 : decode cX4_clearText 1 = .ok (.getfield 38, 3) := by decide +kernel
theorem dX4_clearText_4 : decode cX4_clearText 4 = .ok (.invokevirtual 69, 3) := by decide +kernel
theorem dX4_clearText_7 : decode cX4_clearText 7 = .ok (.ireturn, 1) := by decide +kernel
set_option maxRecDepth 20000 in
theorem ggX4_errorPosition_X0_firstError : GoodIn wsX4_errorPosition wsX0_firstError := goodIn_r _ [6, 7, 8, 9, 10, 5, 11, 12, 13, 14, 15, 16, 17, 18, 19, 20, 21, 22, 23, 24, 25, 26, 27, 28, 29, 30, 31, 32, 33, 34, 35, 36, 37, 47, 48, 49, 50, 51, 52, 53] (by decide +kernel) (by decide +kernel)
set_option maxRecDepth 20000 in
theorem gX4_errorPosition_X0_firstError : GoodIn wsX4_errorPosition (wsV RX4 73 RX0 yX0_firstError wsX0_firstError) := goodIn_app (goodIn_of _ (by decide +kernel)) ggX4_errorPosition_X0_firstError
theorem dX4_errorPosition_0 : decode cX4_errorPosition 0 = .ok (.aload_n 0, 1) := by decide +kernel
theorem dX4_errorPosition_1 : decode cX4_errorPosition 1 = .ok (.getfield 38, 3) := by decide +kernel
theorem dX4_errorPosition_4 : decode cX4_errorPosition 4 = .ok (.invokevirtual 73, 3) := by decide +kernel
theorem dX4_errorPosition_7 : decode cX4_errorPosition 7 = .ok (.ireturn, 1) := by decide +kernel
set_option maxRecDepth 20000 in
theorem ggX4_load_X0_firstError : GoodIn wsX4_load wsX0_firstError := goodIn_r _ [10, 11, 12, 13, 14, 9, 15, 16, 17, 18, 19, 20, 21, 22, 23, 24, 25, 26, 27, 28, 29, 30, 31, 32, 33, 34, 35, 36, 37, 38, 39, 40, 41, 169, 170, 171, 172, 173, 174, 175] (by decide +kernel) (by decide +kernel)
set_option maxRecDepth 20000 in
theorem gX4_load_X0_firstError : GoodIn wsX4_load (wsV RX4 73 RX0 yX0_firstError wsX0_firstError) := goodIn_app (goodIn_of _ (by decide +kernel)) ggX4_load_X0_firstError
set_option maxRecDepth 20000 in
theorem ggX4_load_X3_reset : GoodIn wsX4_load wsX3_reset := goodIn_r _ [46, 47, 48, 49, 50, 51, 176] (by decide +kernel) (by decide +kernel)
set_option maxRecDepth 20000 in
theorem gX4_load_X3_reset : GoodIn wsX4_load (wsV RX4 78 RX3 yX3_reset wsX3_reset) := goodIn_app (goodIn_of _ (by decide +kernel)) ggX4_load_X3_reset
set_option maxRecDepth 20000 in
theorem ggX4_load_X4_forget : GoodIn wsX4_load wsX4_forget := goodIn_r _ [56, 57, 58, 160, 161, 162, 163, 164, 165, 166, 167, 168] (by decide +kernel) (by decide +kernel)
set_option maxRecDepth 20000 in
theorem gX4_load_X4_forget : GoodIn wsX4_load (wsV RX4 81 RX4 yX4_forget wsX4_forget) := goodIn_app (goodIn_of _ (by decide +kernel)) ggX4_load_X4_forget
set_option maxRecDepth 20000 in
theorem ggX4_load_X4_obeyText : GoodIn wsX4_load wsX4_obeyText := goodIn_r _ [62, 3, 63, 13, 14, 9, 15, 11, 16, 17, 18, 19, 20, 21, 64, 23, 24, 25, 65, 27, 28, 29, 30, 31, 32, 33, 34, 35, 36, 37, 38, 39, 40, 41, 66, 67, 68, 55, 69, 4, 70, 71, 72, 45, 73, 47, 74, 75, 76, 77, 78, 79, 80, 81, 82, 83, 84, 85, 86, 87, 88, 89, 90, 91, 92, 93, 94, 95, 96, 97, 98, 99, 100, 101, 102, 103, 104, 105, 106, 107, 108, 109, 110, 111, 112, 113, 114, 115, 116, 117, 118, 119, 120, 121, 122, 123, 124, 125, 126, 127, 128, 129, 130, 131, 132, 133, 134, 135, 136, 137, 138, 139, 140, 141, 142, 143, 144, 145, 146, 147, 148, 149, 150, 151, 152, 153, 154, 155, 156, 157, 158, 159, 160, 161, 162, 163, 164, 165, 166, 167, 168, 169, 170, 171, 172, 173, 174, 175, 176] (by decide +kernel) (by decide +kernel)
set_option maxRecDepth 20000 in
theorem gX4_load_X4_obeyText : GoodIn wsX4_load (wsV RX4 84 RX4 yX4_obeyText wsX4_obeyText) := goodIn_app (goodIn_of _ (by decide +kernel)) ggX4_load_X4_obeyText
theorem dX4_load_0 : decode cX4_load 0 = .ok (.aload_n 0, 1) := by decide +kernel
theorem dX4_load_1 : decode cX4_load 1 = .ok (.getfield 38, 3) := by decide +kernel
theorem dX4_load_4 : decode cX4_load 4 = .ok (.invokevirtual 73, 3) := by decide +kernel
theorem dX4_load_7 : decode cX4_load 7 = .ok (.iconst (-1), 1) := by decide +kernel
theorem dX4_load_8 : decode cX4_load 8 = .ok (.if_icmp .eq 13, 3) := by decide +kernel
theorem dX4_load_11 : decode cX4_load 11 = .ok (.new 60, 3) := by decide +kernel
theorem dX4_load_14 : decode cX4_load 14 = .ok (.dup, 1) := by decide +kernel
theorem dX4_load_15 : decode cX4_load 15 = .ok (.ldc 76, 2) := by decide +kernel
theorem dX4_load_17 : decode cX4_load 17 = .ok (.invokespecial 64, 3) := by decide +kernel
theorem dX4_load_20 : decode cX4_load 20 = .ok (.athrow, 1) := by decide +kernel
theorem dX4_load_21 : decode cX4_load 21 = .ok (.aload_n 0, 1) := by decide +kernel
theorem dX4_load_22 : decode cX4_load 22 = .ok (.getfield 12, 3) := by decide +kernel
theorem dX4_load_25 : decode cX4_load 25 = .ok (.invokevirtual 78, 3) := by decide +kernel
theorem dX4_load_28 : decode cX4_load 28 = .ok (.aload_n 0, 1) := by decide +kernel
theorem dX4_load_29 : decode cX4_load 29 = .ok (.invokevirtual 81, 3) := by decide +kernel
theorem dX4_load_32 : decode cX4_load 32 = .ok (.aload_n 0, 1) := by decide +kernel
theorem dX4_load_33 : decode cX4_load 33 = .ok (.getfield 31, 3) := by decide +kernel
theorem dX4_load_36 : decode cX4_load 36 = .ok (.iconst 0, 1) := by decide +kernel
theorem dX4_load_37 : decode cX4_load 37 = .ok (.iconst 0, 1) := by decide +kernel
theorem dX4_load_38 : decode cX4_load 38 = .ok (.bastore, 1) := by decide +kernel
theorem dX4_load_39 : decode cX4_load 39 = .ok (.aload_n 0, 1) := by decide +kernel
theorem dX4_load_40 : decode cX4_load 40 = .ok (.getfield 31, 3) := by decide +kernel
theorem dX4_load_43 : decode cX4_load 43 = .ok (.iconst 1, 1) := by decide +kernel
theorem dX4_load_44 : decode cX4_load 44 = .ok (.iconst 0, 1) := by decide +kernel
theorem dX4_load_45 : decode cX4_load 45 = .ok (.bastore, 1) := by decide +kernel
theorem dX4_load_46 : decode cX4_load 46 = .ok (.aload_n 0, 1) := by decide +kernel
theorem dX4_load_47 : decode cX4_load 47 = .ok (.invokevirtual 84, 3) := by decide +kernel
theorem dX4_load_50 : decode cX4_load 50 = .ok (.ireturn, 1) := by decide +kernel
set_option maxRecDepth 20000 in
theorem ggX4_about_X3_total : GoodIn wsX4_about wsX3_total := goodIn_r _ [8, 9, 10, 11, 12, 7, 13, 14, 15, 16, 17, 18, 19, 20, 21, 22, 23, 24, 25, 26, 27, 28, 29, 30, 31, 32, 33, 34, 35, 36, 37, 38, 39, 40, 41, 42, 43, 44, 45, 46, 47, 48, 49, 50, 51, 52, 53, 54, 55, 56, 57, 58, 59, 60, 61, 62, 63, 64, 65, 66, 67, 68, 69, 70, 71, 72, 82] (by decide +kernel) (by decide +kernel)
set_option maxRecDepth 20000 in
theorem gX4_about_X3_total : GoodIn wsX4_about (wsV RX4 89 RX3 yX3_total wsX3_total) := goodIn_app (goodIn_of _ (by decide +kernel)) ggX4_about_X3_total
theorem dX4_about_0 : decode cX4_about 0 = .ok (.iload_n 1, 1) := by decide +kernel
theorem dX4_about_1 : decode cX4_about 1 = .ok (.ifCond .lt 9, 3) := by decide +kernel
theorem dX4_about_4 : decode cX4_about 4 = .ok (.iload_n 1, 1) := by decide +kernel
theorem dX4_about_5 : decode cX4_about 5 = .ok (.bipush 16, 2) := by decide +kernel
theorem dX4_about_7 : decode cX4_about 7 = .ok (.if_icmp .le 13, 3) := by decide +kernel
theorem dX4_about_10 : decode cX4_about 10 = .ok (.new 49, 3) := by decide +kernel
theorem dX4_about_13 : decode cX4_about 13 = .ok (.dup, 1) := by decide +kernel
theorem dX4_about_14 : decode cX4_about 14 = .ok (.ldc 87, 2) := by decide +kernel
theorem dX4_about_16 : decode cX4_about 16 = .ok (.invokespecial 53, 3) := by decide +kernel
theorem dX4_about_19 : decode cX4_about 19 = .ok (.athrow, 1) := by decide +kernel
theorem dX4_about_20 : decode cX4_about 20 = .ok (.aload_n 0, 1) := by decide +kernel
theorem dX4_about_21 : decode cX4_about 21 = .ok (.getfield 12, 3) := by decide +kernel
theorem dX4_about_24 : decode cX4_about 24 = .ok (.iload_n 1, 1) := by decide +kernel
theorem dX4_about_25 : decode cX4_about 25 = .ok (.invokevirtual 89, 3) := by decide +kernel
theorem dX4_about_28 : decode cX4_about 28 = .ok (.ireturn, 1) := by decide +kernel
set_option maxRecDepth 20000 in
theorem ggX4_take_X3_hasTake : GoodIn wsX4_take wsX3_hasTake := goodIn_r _ [10, 11, 45] (by decide +kernel) (by decide +kernel)
set_option maxRecDepth 20000 in
theorem gX4_take_X3_hasTake : GoodIn wsX4_take (wsV RX4 93 RX3 yX3_hasTake wsX3_hasTake) := goodIn_app (goodIn_of _ (by decide +kernel)) ggX4_take_X3_hasTake
set_option maxRecDepth 20000 in
theorem ggX4_take_X3_told : GoodIn wsX4_take wsX3_told := goodIn_r _ [15, 16, 17, 18, 9, 19, 20, 21, 22, 23, 11, 24, 25, 26, 27, 28, 29, 30, 31, 32, 33, 34, 35, 45] (by decide +kernel) (by decide +kernel)
set_option maxRecDepth 20000 in
theorem gX4_take_X3_told : GoodIn wsX4_take (wsV RX4 102 RX3 yX3_told wsX3_told) := goodIn_app (goodIn_of _ (by decide +kernel)) ggX4_take_X3_told
theorem dX4_take_0 : decode cX4_take 0 = .ok (.aload_n 0, 1) := by decide +kernel
theorem dX4_take_1 : decode cX4_take 1 = .ok (.getfield 12, 3) := by decide +kernel
theorem dX4_take_4 : decode cX4_take 4 = .ok (.iload_n 1, 1) := by decide +kernel
theorem dX4_take_5 : decode cX4_take 5 = .ok (.invokevirtual 93, 3) := by decide +kernel
theorem dX4_take_8 : decode cX4_take 8 = .ok (.ifCond .ne 13, 3) := by decide +kernel
theorem dX4_take_11 : decode cX4_take 11 = .ok (.new 97, 3) := by decide +kernel
theorem dX4_take_14 : decode cX4_take 14 = .ok (.dup, 1) := by decide +kernel
theorem dX4_take_15 : decode cX4_take 15 = .ok (.ldc 99, 2) := by decide +kernel
theorem dX4_take_17 : decode cX4_take 17 = .ok (.invokespecial 101, 3) := by decide +kernel
theorem dX4_take_20 : decode cX4_take 20 = .ok (.athrow, 1) := by decide +kernel
theorem dX4_take_21 : decode cX4_take 21 = .ok (.iload_n 2, 1) := by decide +kernel
theorem dX4_take_22 : decode cX4_take 22 = .ok (.ifCond .lt 9, 3) := by decide +kernel
theorem dX4_take_25 : decode cX4_take 25 = .ok (.iload_n 2, 1) := by decide +kernel
theorem dX4_take_26 : decode cX4_take 26 = .ok (.bipush 16, 2) := by decide +kernel
theorem dX4_take_28 : decode cX4_take 28 = .ok (.if_icmp .le 13, 3) := by decide +kernel
theorem dX4_take_31 : decode cX4_take 31 = .ok (.new 49, 3) := by decide +kernel
theorem dX4_take_34 : decode cX4_take 34 = .ok (.dup, 1) := by decide +kernel
theorem dX4_take_35 : decode cX4_take 35 = .ok (.ldc 87, 2) := by decide +kernel
theorem dX4_take_37 : decode cX4_take 37 = .ok (.invokespecial 53, 3) := by decide +kernel
theorem dX4_take_40 : decode cX4_take 40 = .ok (.athrow, 1) := by decide +kernel
theorem dX4_take_41 : decode cX4_take 41 = .ok (.aload_n 0, 1) := by decide +kernel
theorem dX4_take_42 : decode cX4_take 42 = .ok (.getfield 12, 3) := by decide +kernel
theorem dX4_take_45 : decode cX4_take 45 = .ok (.iload_n 1, 1) := by decide +kernel
theorem dX4_take_46 : decode cX4_take 46 = .ok (.iload_n 2, 1) := by decide +kernel
theorem dX4_take_47 : decode cX4_take 47 = .ok (.invokevirtual 102, 3) := by decide +kernel
theorem dX4_take_50 : decode cX4_take 50 = .ok (.ireturn, 1) := by decide +kernel
set_option maxRecDepth 20000 in
theorem ggX4_line_X3_hasTake : GoodIn wsX4_line wsX3_hasTake := goodIn_r _ [11, 12, 75] (by decide +kernel) (by decide +kernel)
set_option maxRecDepth 20000 in
theorem gX4_line_X3_hasTake : GoodIn wsX4_line (wsV RX4 93 RX3 yX3_hasTake wsX3_hasTake) := goodIn_app (goodIn_of _ (by decide +kernel)) ggX4_line_X3_hasTake
set_option maxRecDepth 20000 in
theorem ggX4_line_X1_write : GoodIn wsX4_line wsX1_write := goodIn_r _ [17, 18, 19, 20, 21, 10, 22, 12, 23, 24, 25, 16, 26, 27, 28, 29, 30, 31, 32, 33, 34, 35, 36, 37, 38, 39, 40, 41, 42, 43, 44, 45, 46, 47, 48, 49, 50, 51, 52, 53, 54, 55, 56, 57, 58, 59, 60, 61, 76, 77, 75] (by decide +kernel) (by decide +kernel)
set_option maxRecDepth 20000 in
theorem gX4_line_X1_write : GoodIn wsX4_line (wsV RX4 108 RX1 yX1_write wsX1_write) := goodIn_app (goodIn_of _ (by decide +kernel)) ggX4_line_X1_write
set_option maxRecDepth 20000 in
theorem ggX4_line_X1_signAt : GoodIn wsX4_line wsX1_signAt := goodIn_r _ [65, 18, 32, 76, 77] (by decide +kernel) (by decide +kernel)
set_option maxRecDepth 20000 in
theorem gX4_line_X1_signAt : GoodIn wsX4_line (wsV RX4 112 RX1 yX1_signAt wsX1_signAt) := goodIn_app (goodIn_of _ (by decide +kernel)) ggX4_line_X1_signAt
theorem dX4_line_0 : decode cX4_line 0 = .ok (.aload_n 0, 1) := by decide +kernel
theorem dX4_line_1 : decode cX4_line 1 = .ok (.getfield 12, 3) := by decide +kernel
theorem dX4_line_4 : decode cX4_line 4 = .ok (.iload_n 1, 1) := by decide +kernel
theorem dX4_line_5 : decode cX4_line 5 = .ok (.invokevirtual 93, 3) := by decide +kernel
theorem dX4_line_8 : decode cX4_line 8 = .ok (.ifCond .ne 13, 3) := by decide +kernel
theorem dX4_line_11 : decode cX4_line 11 = .ok (.new 97, 3) := by decide +kernel
theorem dX4_line_14 : decode cX4_line 14 = .ok (.dup, 1) := by decide +kernel
theorem dX4_line_15 : decode cX4_line 15 = .ok (.ldc 99, 2) := by decide +kernel
theorem dX4_line_17 : decode cX4_line 17 = .ok (.invokespecial 101, 3) := by decide +kernel
theorem dX4_line_20 : decode cX4_line 20 = .ok (.athrow, 1) := by decide +kernel
theorem dX4_line_21 : decode cX4_line 21 = .ok (.iload_n 2, 1) := by decide +kernel
theorem dX4_line_22 : decode cX4_line 22 = .ok (.ifCond .ge 13, 3) := by decide +kernel
theorem dX4_line_25 : decode cX4_line 25 = .ok (.new 49, 3) := by decide +kernel
theorem dX4_line_28 : decode cX4_line 28 = .ok (.dup, 1) := by decide +kernel
theorem dX4_line_29 : decode cX4_line 29 = .ok (.ldc 106, 2) := by decide +kernel
theorem dX4_line_31 : decode cX4_line 31 = .ok (.invokespecial 53, 3) := by decide +kernel
theorem dX4_line_34 : decode cX4_line 34 = .ok (.athrow, 1) := by decide +kernel
theorem dX4_line_35 : decode cX4_line 35 = .ok (.aload_n 0, 1) := by decide +kernel
theorem dX4_line_36 : decode cX4_line 36 = .ok (.getfield 45, 3) := by decide +kernel
theorem dX4_line_39 : decode cX4_line 39 = .ok (.aload_n 0, 1) := by decide +kernel
theorem dX4_line_40 : decode cX4_line 40 = .ok (.getfield 12, 3) := by decide +kernel
theorem dX4_line_43 : decode cX4_line 43 = .ok (.iload_n 1, 1) := by decide +kernel
theorem dX4_line_44 : decode cX4_line 44 = .ok (.invokevirtual 108, 3) := by decide +kernel
theorem dX4_line_47 : decode cX4_line 47 = .ok (.aload_n 0, 1) := by decide +kernel
theorem dX4_line_48 : decode cX4_line 48 = .ok (.getfield 45, 3) := by decide +kernel
theorem dX4_line_51 : decode cX4_line 51 = .ok (.iload_n 2, 1) := by decide +kernel
theorem dX4_line_52 : decode cX4_line 52 = .ok (.invokevirtual 112, 3) := by decide +kernel
theorem dX4_line_55 : decode cX4_line 55 = .ok (.ireturn, 1) := by decide +kernel
set_option maxRecDepth 20000 in
theorem ggX4_setting_X3_chosen : GoodIn wsX4_setting wsX3_chosen := goodIn_r _ [8, 9, 19] (by decide +kernel) (by decide +kernel)
set_option maxRecDepth 20000 in
theorem gX4_setting_X3_chosen : GoodIn wsX4_setting (wsV RX4 117 RX3 yX3_chosen wsX3_chosen) := goodIn_app (goodIn_of _ (by decide +kernel)) ggX4_setting_X3_chosen
theorem dX4_setting_0 : decode cX4_setting 0 = .ok (.iload_n 1, 1) := by decide +kernel
theorem dX4_setting_1 : decode cX4_setting 1 = .ok (.ifCond .lt 8, 3) := by decide +kernel
theorem dX4_setting_4 : decode cX4_setting 4 = .ok (.iload_n 1, 1) := by decide +kernel
theorem dX4_setting_5 : decode cX4_setting 5 = .ok (.iconst 3, 1) := by decide +kernel
theorem dX4_setting_6 : decode cX4_setting 6 = .ok (.if_icmp .le 13, 3) := by decide +kernel
theorem dX4_setting_9 : decode cX4_setting 9 = .ok (.new 49, 3) := by decide +kernel
theorem dX4_setting_12 : decode cX4_setting 12 = .ok (.dup, 1) := by decide +kernel
theorem dX4_setting_13 : decode cX4_setting 13 = .ok (.ldc 115, 2) := by decide +kernel
theorem dX4_setting_15 : decode cX4_setting 15 = .ok (.invokespecial 53, 3) := by decide +kernel
theorem dX4_setting_18 : decode cX4_setting 18 = .ok (.athrow, 1) := by decide +kernel
theorem dX4_setting_19 : decode cX4_setting 19 = .ok (.aload_n 0, 1) := by decide +kernel
theorem dX4_setting_20 : decode cX4_setting 20 = .ok (.getfield 12, 3) := by decide +kernel
theorem dX4_setting_23 : decode cX4_setting 23 = .ok (.iload_n 1, 1) := by decide +kernel
theorem dX4_setting_24 : decode cX4_setting 24 = .ok (.invokevirtual 117, 3) := by decide +kernel
theorem dX4_setting_27 : decode cX4_setting 27 = .ok (.ireturn, 1) := by decide +kernel
set_option maxRecDepth 20000 in
theorem ggX4_call_X4_isSetup : GoodIn wsX4_call wsX4_isSetup := goodIn_r _ [7] (by decide +kernel) (by decide +kernel)
set_option maxRecDepth 20000 in
theorem gX4_call_X4_isSetup : GoodIn wsX4_call (va_wsS RX4 120 yX4_isSetup wsX4_isSetup) := goodIn_app (goodIn_of _ (by decide +kernel)) ggX4_call_X4_isSetup
set_option maxRecDepth 20000 in
theorem ggX4_call_X4_remember : GoodIn wsX4_call wsX4_remember := goodIn_r _ [11, 12, 13, 14, 3, 15, 16, 17, 18, 19, 20, 21, 22, 23, 24, 25, 48, 49, 50, 51, 52, 53, 54, 55, 56, 57, 58, 59] (by decide +kernel) (by decide +kernel)
set_option maxRecDepth 20000 in
theorem gX4_call_X4_remember : GoodIn wsX4_call (wsV RX4 126 RX4 yX4_remember wsX4_remember) := goodIn_app (goodIn_of _ (by decide +kernel)) ggX4_call_X4_remember
set_option maxRecDepth 20000 in
theorem ggX4_call_X3_mean : GoodIn wsX4_call wsX3_mean := goodIn_r _ [30, 31, 59] (by decide +kernel) (by decide +kernel)
set_option maxRecDepth 20000 in
theorem gX4_call_X3_mean : GoodIn wsX4_call (wsV RX4 129 RX3 yX3_mean wsX3_mean) := goodIn_app (goodIn_of _ (by decide +kernel)) ggX4_call_X3_mean
set_option maxRecDepth 20000 in
theorem ggX4_call_X3_nextNumber : GoodIn wsX4_call wsX3_nextNumber := goodIn_r _ [35, 31, 36, 37, 38, 29, 39, 40, 41, 42, 43, 44, 45, 46, 47, 59] (by decide +kernel) (by decide +kernel)
set_option maxRecDepth 20000 in
theorem gX4_call_X3_nextNumber : GoodIn wsX4_call (wsV RX4 132 RX3 yX3_nextNumber wsX3_nextNumber) := goodIn_app (goodIn_of _ (by decide +kernel)) ggX4_call_X3_nextNumber
theorem dX4_call_0 : decode cX4_call 0 = .ok (.iload_n 1, 1) := by decide +kernel
theorem dX4_call_1 : decode cX4_call 1 = .ok (.iload_n 2, 1) := by decide +kernel
theorem dX4_call_2 : decode cX4_call 2 = .ok (.invokestatic 120, 3) := by decide +kernel
theorem dX4_call_5 : decode cX4_call 5 = .ok (.ifCond .ne 13, 3) := by decide +kernel
theorem dX4_call_8 : decode cX4_call 8 = .ok (.new 49, 3) := by decide +kernel
theorem dX4_call_11 : decode cX4_call 11 = .ok (.dup, 1) := by decide +kernel
theorem dX4_call_12 : decode cX4_call 12 = .ok (.ldc 124, 2) := by decide +kernel
theorem dX4_call_14 : decode cX4_call 14 = .ok (.invokespecial 53, 3) := by decide +kernel
theorem dX4_call_17 : decode cX4_call 17 = .ok (.athrow, 1) := by decide +kernel
theorem dX4_call_18 : decode cX4_call 18 = .ok (.aload_n 0, 1) := by decide +kernel
theorem dX4_call_19 : decode cX4_call 19 = .ok (.invokevirtual 126, 3) := by decide +kernel
theorem dX4_call_22 : decode cX4_call 22 = .ok (.aload_n 0, 1) := by decide +kernel
theorem dX4_call_23 : decode cX4_call 23 = .ok (.getfield 12, 3) := by decide +kernel
theorem dX4_call_26 : decode cX4_call 26 = .ok (.iload_n 1, 1) := by decide +kernel
theorem dX4_call_27 : decode cX4_call 27 = .ok (.iload_n 2, 1) := by decide +kernel
theorem dX4_call_28 : decode cX4_call 28 = .ok (.invokevirtual 129, 3) := by decide +kernel
theorem dX4_call_31 : decode cX4_call 31 = .ok (.pop, 1) := by decide +kernel
theorem dX4_call_32 : decode cX4_call 32 = .ok (.aload_n 0, 1) := by decide +kernel
theorem dX4_call_33 : decode cX4_call 33 = .ok (.getfield 12, 3) := by decide +kernel
theorem dX4_call_36 : decode cX4_call 36 = .ok (.invokevirtual 132, 3) := by decide +kernel
theorem dX4_call_39 : decode cX4_call 39 = .ok (.ireturn, 1) := by decide +kernel
set_option maxRecDepth 20000 in
theorem ggX4_board_X4_isSetup : GoodIn wsX4_board wsX4_isSetup := goodIn_r _ [7] (by decide +kernel) (by decide +kernel)
set_option maxRecDepth 20000 in
theorem gX4_board_X4_isSetup : GoodIn wsX4_board (va_wsS RX4 120 yX4_isSetup wsX4_isSetup) := goodIn_app (goodIn_of _ (by decide +kernel)) ggX4_board_X4_isSetup
set_option maxRecDepth 20000 in
theorem ggX4_board_X4_remember : GoodIn wsX4_board wsX4_remember := goodIn_r _ [11, 12, 13, 14, 3, 15, 16, 17, 18, 19, 20, 21, 22, 23, 24, 25, 52, 53, 54, 55, 56, 57, 58, 59, 60, 61, 62, 63] (by decide +kernel) (by decide +kernel)
set_option maxRecDepth 20000 in
theorem gX4_board_X4_remember : GoodIn wsX4_board (wsV RX4 126 RX4 yX4_remember wsX4_remember) := goodIn_app (goodIn_of _ (by decide +kernel)) ggX4_board_X4_remember
set_option maxRecDepth 20000 in
theorem ggX4_board_X3_write : GoodIn wsX4_board wsX3_write := goodIn_r _ [30, 31, 63] (by decide +kernel) (by decide +kernel)
set_option maxRecDepth 20000 in
theorem gX4_board_X3_write : GoodIn wsX4_board (wsV RX4 137 RX3 yX3_write wsX3_write) := goodIn_app (goodIn_of _ (by decide +kernel)) ggX4_board_X3_write
set_option maxRecDepth 20000 in
theorem ggX4_board_X3_boardIsRight : GoodIn wsX4_board wsX3_boardIsRight := goodIn_r _ [35, 31, 36, 37, 38, 29, 39, 40, 41, 42, 43, 44, 45, 46, 47, 48, 49, 50, 51, 63] (by decide +kernel) (by decide +kernel)
set_option maxRecDepth 20000 in
theorem gX4_board_X3_boardIsRight : GoodIn wsX4_board (wsV RX4 140 RX3 yX3_boardIsRight wsX3_boardIsRight) := goodIn_app (goodIn_of _ (by decide +kernel)) ggX4_board_X3_boardIsRight
theorem dX4_board_0 : decode cX4_board 0 = .ok (.iload_n 1, 1) := by decide +kernel
theorem dX4_board_1 : decode cX4_board 1 = .ok (.iload_n 2, 1) := by decide +kernel
theorem dX4_board_2 : decode cX4_board 2 = .ok (.invokestatic 120, 3) := by decide +kernel
theorem dX4_board_5 : decode cX4_board 5 = .ok (.ifCond .eq 14, 3) := by decide +kernel
theorem dX4_board_8 : decode cX4_board 8 = .ok (.iload_n 3, 1) := by decide +kernel
theorem dX4_board_9 : decode cX4_board 9 = .ok (.iconst 1, 1) := by decide +kernel
theorem dX4_board_10 : decode cX4_board 10 = .ok (.if_icmp .lt 9, 3) := by decide +kernel
theorem dX4_board_13 : decode cX4_board 13 = .ok (.iload_n 3, 1) := by decide +kernel
theorem dX4_board_14 : decode cX4_board 14 = .ok (.bipush 99, 2) := by decide +kernel
theorem dX4_board_16 : decode cX4_board 16 = .ok (.if_icmp .le 13, 3) := by decide +kernel
theorem dX4_board_19 : decode cX4_board 19 = .ok (.new 49, 3) := by decide +kernel
theorem dX4_board_22 : decode cX4_board 22 = .ok (.dup, 1) := by decide +kernel
theorem dX4_board_23 : decode cX4_board 23 = .ok (.ldc 135, 2) := by decide +kernel
theorem dX4_board_25 : decode cX4_board 25 = .ok (.invokespecial 53, 3) := by decide +kernel
theorem dX4_board_28 : decode cX4_board 28 = .ok (.athrow, 1) := by decide +kernel
theorem dX4_board_29 : decode cX4_board 29 = .ok (.aload_n 0, 1) := by decide +kernel
theorem dX4_board_30 : decode cX4_board 30 = .ok (.invokevirtual 126, 3) := by decide +kernel
theorem dX4_board_33 : decode cX4_board 33 = .ok (.aload_n 0, 1) := by decide +kernel
theorem dX4_board_34 : decode cX4_board 34 = .ok (.getfield 12, 3) := by decide +kernel
theorem dX4_board_37 : decode cX4_board 37 = .ok (.iload_n 1, 1) := by decide +kernel
theorem dX4_board_38 : decode cX4_board 38 = .ok (.iload_n 2, 1) := by decide +kernel
theorem dX4_board_39 : decode cX4_board 39 = .ok (.iload_n 3, 1) := by decide +kernel
theorem dX4_board_40 : decode cX4_board 40 = .ok (.invokevirtual 137, 3) := by decide +kernel
theorem dX4_board_43 : decode cX4_board 43 = .ok (.aload_n 0, 1) := by decide +kernel
theorem dX4_board_44 : decode cX4_board 44 = .ok (.getfield 12, 3) := by decide +kernel
theorem dX4_board_47 : decode cX4_board 47 = .ok (.invokevirtual 140, 3) := by decide +kernel
theorem dX4_board_50 : decode cX4_board 50 = .ok (.ifCond .eq 7, 3) := by decide +kernel
theorem dX4_board_53 : decode cX4_board 53 = .ok (.iconst 1, 1) := by decide +kernel
theorem dX4_board_54 : decode cX4_board 54 = .ok (.goto 4, 3) := by decide +kernel
theorem dX4_board_57 : decode cX4_board 57 = .ok (.iconst 0, 1) := by decide +kernel
theorem dX4_board_58 : decode cX4_board 58 = .ok (.ireturn, 1) := by decide +kernel
set_option maxRecDepth 20000 in
theorem ggX4_right_X4_remember : GoodIn wsX4_right wsX4_remember := goodIn_r _ [6, 7, 8, 9, 1, 10, 11, 12, 13, 14, 15, 16, 17, 18, 19, 20, 48, 49, 50, 51, 52, 53, 54, 55, 56, 57, 58, 59] (by decide +kernel) (by decide +kernel)
set_option maxRecDepth 20000 in
theorem gX4_right_X4_remember : GoodIn wsX4_right (wsV RX4 126 RX4 yX4_remember wsX4_remember) := goodIn_app (goodIn_of _ (by decide +kernel)) ggX4_right_X4_remember
set_option maxRecDepth 20000 in
theorem ggX4_right_X3_writeRight : GoodIn wsX4_right wsX3_writeRight := goodIn_r _ [25, 26, 27, 28, 29, 24, 30, 31, 32, 33, 34, 35, 36, 37, 38, 39, 40, 41, 42, 43, 44, 45, 46, 59] (by decide +kernel) (by decide +kernel)
set_option maxRecDepth 20000 in
theorem gX4_right_X3_writeRight : GoodIn wsX4_right (wsV RX4 143 RX3 yX3_writeRight wsX3_writeRight) := goodIn_app (goodIn_of _ (by decide +kernel)) ggX4_right_X3_writeRight
set_option maxRecDepth 20000 in
theorem ggX4_right_X3_nextNumber : GoodIn wsX4_right wsX3_nextNumber := goodIn_r _ [30, 26, 31, 32, 33, 24, 34, 35, 36, 37, 38, 39, 40, 41, 42, 59] (by decide +kernel) (by decide +kernel)
set_option maxRecDepth 20000 in
theorem gX4_right_X3_nextNumber : GoodIn wsX4_right (wsV RX4 132 RX3 yX3_nextNumber wsX3_nextNumber) := goodIn_app (goodIn_of _ (by decide +kernel)) ggX4_right_X3_nextNumber
theorem dX4_right_0 : decode cX4_right 0 = .ok (.aload_n 0, 1) := by decide +kernel
theorem dX4_right_1 : decode cX4_right 1 = .ok (.invokevirtual 126, 3) := by decide +kernel
theorem dX4_right_4 : decode cX4_right 4 = .ok (.aload_n 0, 1) := by decide +kernel
theorem dX4_right_5 : decode cX4_right 5 = .ok (.getfield 12, 3) := by decide +kernel
theorem dX4_right_8 : decode cX4_right 8 = .ok (.invokevirtual 143, 3) := by decide +kernel
theorem dX4_right_11 : decode cX4_right 11 = .ok (.pop, 1) := by decide +kernel
theorem dX4_right_12 : decode cX4_right 12 = .ok (.aload_n 0, 1) := by decide +kernel
theorem dX4_right_13 : decode cX4_right 13 = .ok (.getfield 12, 3) := by decide +kernel
theorem dX4_right_16 : decode cX4_right 16 = .ok (.invokevirtual 132, 3) := by decide +kernel
theorem dX4_right_19 : decode cX4_right 19 = .ok (.ireturn, 1) := by decide +kernel
set_option maxRecDepth 20000 in
theorem ggX4_shoot_X4_isLength : GoodIn wsX4_shoot wsX4_isLength := goodIn_r _ [9] (by decide +kernel) (by decide +kernel)
set_option maxRecDepth 20000 in
theorem gX4_shoot_X4_isLength : GoodIn wsX4_shoot (va_wsS RX4 146 yX4_isLength wsX4_isLength) := goodIn_app (goodIn_of _ (by decide +kernel)) ggX4_shoot_X4_isLength
set_option maxRecDepth 20000 in
theorem ggX4_shoot_X3_canFilm : GoodIn wsX4_shoot wsX3_canFilm := goodIn_r _ [14, 15, 16, 17, 13, 18, 19, 20, 21, 22, 23, 24, 25, 26, 27, 28, 29, 30, 31, 82] (by decide +kernel) (by decide +kernel)
set_option maxRecDepth 20000 in
theorem gX4_shoot_X3_canFilm : GoodIn wsX4_shoot (wsV RX4 151 RX3 yX3_canFilm wsX3_canFilm) := goodIn_app (goodIn_of _ (by decide +kernel)) ggX4_shoot_X3_canFilm
set_option maxRecDepth 20000 in
theorem ggX4_shoot_X4_remember : GoodIn wsX4_shoot wsX4_remember := goodIn_r _ [35, 36, 37, 38, 5, 39, 40, 41, 42, 43, 44, 45, 46, 47, 48, 49, 73, 74, 75, 76, 77, 78, 79, 80, 81, 83, 84, 82] (by decide +kernel) (by decide +kernel)
set_option maxRecDepth 20000 in
theorem gX4_shoot_X4_remember : GoodIn wsX4_shoot (wsV RX4 126 RX4 yX4_remember wsX4_remember) := goodIn_app (goodIn_of _ (by decide +kernel)) ggX4_shoot_X4_remember
set_option maxRecDepth 20000 in
theorem ggX4_shoot_X3_film : GoodIn wsX4_shoot wsX3_film := goodIn_r _ [53, 54, 55, 26, 56, 19, 15, 16, 17, 13, 18, 20, 21, 22, 23, 24, 25, 27, 28, 29, 30, 31, 57, 58, 59, 60, 61, 62, 63, 64, 65, 66, 67, 68, 69, 70, 71, 72, 82] (by decide +kernel) (by decide +kernel)
set_option maxRecDepth 20000 in
theorem gX4_shoot_X3_film : GoodIn wsX4_shoot (wsV RX4 156 RX3 yX3_film wsX3_film) := goodIn_app (goodIn_of _ (by decide +kernel)) ggX4_shoot_X3_film
theorem dX4_shoot_0 : decode cX4_shoot 0 = .ok (.iload_n 1, 1) := by decide +kernel
theorem dX4_shoot_1 : decode cX4_shoot 1 = .ok (.invokestatic 146, 3) := by decide +kernel
theorem dX4_shoot_4 : decode cX4_shoot 4 = .ok (.ifCond .ne 13, 3) := by decide +kernel
theorem dX4_shoot_7 : decode cX4_shoot 7 = .ok (.new 49, 3) := by decide +kernel
theorem dX4_shoot_10 : decode cX4_shoot 10 = .ok (.dup, 1) := by decide +kernel
theorem dX4_shoot_11 : decode cX4_shoot 11 = .ok (.ldc 149, 2) := by decide +kernel
theorem dX4_shoot_13 : decode cX4_shoot 13 = .ok (.invokespecial 53, 3) := by decide +kernel
theorem dX4_shoot_16 : decode cX4_shoot 16 = .ok (.athrow, 1) := by decide +kernel
theorem dX4_shoot_17 : decode cX4_shoot 17 = .ok (.aload_n 0, 1) := by decide +kernel
theorem dX4_shoot_18 : decode cX4_shoot 18 = .ok (.getfield 12, 3) := by decide +kernel
theorem dX4_shoot_21 : decode cX4_shoot 21 = .ok (.invokevirtual 151, 3) := by decide +kernel
theorem dX4_shoot_24 : decode cX4_shoot 24 = .ok (.ifCond .ne 13, 3) := by decide +kernel
theorem dX4_shoot_27 : decode cX4_shoot 27 = .ok (.new 60, 3) := by decide +kernel
theorem dX4_shoot_30 : decode cX4_shoot 30 = .ok (.dup, 1) := by decide +kernel
theorem dX4_shoot_31 : decode cX4_shoot 31 = .ok (.ldc 154, 2) := by decide +kernel
theorem dX4_shoot_33 : decode cX4_shoot 33 = .ok (.invokespecial 64, 3) := by decide +kernel
theorem dX4_shoot_36 : decode cX4_shoot 36 = .ok (.athrow, 1) := by decide +kernel
theorem dX4_shoot_37 : decode cX4_shoot 37 = .ok (.aload_n 0, 1) := by decide +kernel
theorem dX4_shoot_38 : decode cX4_shoot 38 = .ok (.invokevirtual 126, 3) := by decide +kernel
theorem dX4_shoot_41 : decode cX4_shoot 41 = .ok (.aload_n 0, 1) := by decide +kernel
theorem dX4_shoot_42 : decode cX4_shoot 42 = .ok (.getfield 12, 3) := by decide +kernel
theorem dX4_shoot_45 : decode cX4_shoot 45 = .ok (.iload_n 1, 1) := by decide +kernel
theorem dX4_shoot_46 : decode cX4_shoot 46 = .ok (.iload_n 2, 1) := by decide +kernel
theorem dX4_shoot_47 : decode cX4_shoot 47 = .ok (.invokevirtual 156, 3) := by decide +kernel
theorem dX4_shoot_50 : decode cX4_shoot 50 = .ok (.ireturn, 1) := by decide +kernel
set_option maxRecDepth 20000 in
theorem ggX4_newCamera_X4_remember : GoodIn wsX4_newCamera wsX4_remember := goodIn_r _ [6, 7, 8, 9, 1, 10, 11, 12, 13, 14, 15, 16, 17, 18, 19, 20, 27, 28, 29, 30, 31, 32, 33, 34, 35, 36, 37, 38] (by decide +kernel) (by decide +kernel)
set_option maxRecDepth 20000 in
theorem gX4_newCamera_X4_remember : GoodIn wsX4_newCamera (wsV RX4 126 RX4 yX4_remember wsX4_remember) := goodIn_app (goodIn_of _ (by decide +kernel)) ggX4_newCamera_X4_remember
set_option maxRecDepth 20000 in
theorem ggX4_newCamera_X3_loadCamera : GoodIn wsX4_newCamera wsX3_loadCamera := goodIn_r _ [25, 26, 38] (by decide +kernel) (by decide +kernel)
set_option maxRecDepth 20000 in
theorem gX4_newCamera_X3_loadCamera : GoodIn wsX4_newCamera (wsV RX4 160 RX3 yX3_loadCamera wsX3_loadCamera) := goodIn_app (goodIn_of _ (by decide +kernel)) ggX4_newCamera_X3_loadCamera
theorem dX4_newCamera_0 : decode cX4_newCamera 0 = .ok (.aload_n 0, 1) := by decide +kernel
theorem dX4_newCamera_1 : decode cX4_newCamera 1 = .ok (.invokevirtual 126, 3) := by decide +kernel
theorem dX4_newCamera_4 : decode cX4_newCamera 4 = .ok (.aload_n 0, 1) := by decide +kernel
theorem dX4_newCamera_5 : decode cX4_newCamera 5 = .ok (.getfield 12, 3) := by decide +kernel
theorem dX4_newCamera_8 : decode cX4_newCamera 8 = .ok (.invokevirtual 160, 3) := by decide +kernel
theorem dX4_newCamera_11 : decode cX4_newCamera 11 = .ok (.ireturn, 1) := by decide +kernel
set_option maxRecDepth 20000 in
theorem ggX4_newSound_X4_remember : GoodIn wsX4_newSound wsX4_remember := goodIn_r _ [6, 7, 8, 9, 1, 10, 11, 12, 13, 14, 15, 16, 17, 18, 19, 20, 27, 28, 29, 30, 31, 32, 33, 34, 35, 36, 37, 38] (by decide +kernel) (by decide +kernel)
set_option maxRecDepth 20000 in
theorem gX4_newSound_X4_remember : GoodIn wsX4_newSound (wsV RX4 126 RX4 yX4_remember wsX4_remember) := goodIn_app (goodIn_of _ (by decide +kernel)) ggX4_newSound_X4_remember
set_option maxRecDepth 20000 in
theorem ggX4_newSound_X3_loadSound : GoodIn wsX4_newSound wsX3_loadSound := goodIn_r _ [25, 26, 38] (by decide +kernel) (by decide +kernel)
set_option maxRecDepth 20000 in
theorem gX4_newSound_X3_loadSound : GoodIn wsX4_newSound (wsV RX4 163 RX3 yX3_loadSound wsX3_loadSound) := goodIn_app (goodIn_of _ (by decide +kernel)) ggX4_newSound_X3_loadSound
theorem dX4_newSound_0 : decode cX4_newSound 0 = .ok (.aload_n 0, 1) := by decide +kernel
theorem dX4_newSound_1 : decode cX4_newSound 1 = .ok (.invokevirtual 126, 3) := by decide +kernel
theorem dX4_newSound_4 : decode cX4_newSound 4 = .ok (.aload_n 0, 1) := by decide +kernel
theorem dX4_newSound_5 : decode cX4_newSound 5 = .ok (.getfield 12, 3) := by decide +kernel
theorem dX4_newSound_8 : decode cX4_newSound 8 = .ok (.invokevirtual 163, 3) := by decide +kernel
theorem dX4_newSound_11 : decode cX4_newSound 11 = .ok (.ireturn, 1) := by decide +kernel
set_option maxRecDepth 20000 in
theorem ggX4_circle_X3_hasTake : GoodIn wsX4_circle wsX3_hasTake := goodIn_r _ [8, 9, 59] (by decide +kernel) (by decide +kernel)
set_option maxRecDepth 20000 in
theorem gX4_circle_X3_hasTake : GoodIn wsX4_circle (wsV RX4 93 RX3 yX3_hasTake wsX3_hasTake) := goodIn_app (goodIn_of _ (by decide +kernel)) ggX4_circle_X3_hasTake
set_option maxRecDepth 20000 in
theorem ggX4_circle_X4_remember : GoodIn wsX4_circle wsX4_remember := goodIn_r _ [14, 15, 16, 17, 3, 18, 19, 20, 21, 22, 23, 24, 25, 26, 27, 28, 50, 51, 52, 53, 54, 55, 56, 57, 58, 60, 61, 59] (by decide +kernel) (by decide +kernel)
set_option maxRecDepth 20000 in
theorem gX4_circle_X4_remember : GoodIn wsX4_circle (wsV RX4 126 RX4 yX4_remember wsX4_remember) := goodIn_app (goodIn_of _ (by decide +kernel)) ggX4_circle_X4_remember
set_option maxRecDepth 20000 in
theorem ggX4_circle_X3_mark : GoodIn wsX4_circle wsX3_mark := goodIn_r _ [32, 33, 5, 6, 7, 8, 9, 34, 35, 36, 37, 59] (by decide +kernel) (by decide +kernel)
set_option maxRecDepth 20000 in
theorem gX4_circle_X3_mark : GoodIn wsX4_circle (wsV RX4 166 RX3 yX3_mark wsX3_mark) := goodIn_app (goodIn_of _ (by decide +kernel)) ggX4_circle_X3_mark
set_option maxRecDepth 20000 in
theorem ggX4_circle_X3_marked : GoodIn wsX4_circle wsX3_marked := goodIn_r _ [41, 42, 43, 44, 7, 45, 9, 46, 47, 48, 49, 59] (by decide +kernel) (by decide +kernel)
set_option maxRecDepth 20000 in
theorem gX4_circle_X3_marked : GoodIn wsX4_circle (wsV RX4 170 RX3 yX3_marked wsX3_marked) := goodIn_app (goodIn_of _ (by decide +kernel)) ggX4_circle_X3_marked
theorem dX4_circle_0 : decode cX4_circle 0 = .ok (.aload_n 0, 1) := by decide +kernel
theorem dX4_circle_1 : decode cX4_circle 1 = .ok (.getfield 12, 3) := by decide +kernel
theorem dX4_circle_4 : decode cX4_circle 4 = .ok (.iload_n 1, 1) := by decide +kernel
theorem dX4_circle_5 : decode cX4_circle 5 = .ok (.invokevirtual 93, 3) := by decide +kernel
theorem dX4_circle_8 : decode cX4_circle 8 = .ok (.ifCond .ne 13, 3) := by decide +kernel
theorem dX4_circle_11 : decode cX4_circle 11 = .ok (.new 97, 3) := by decide +kernel
theorem dX4_circle_14 : decode cX4_circle 14 = .ok (.dup, 1) := by decide +kernel
theorem dX4_circle_15 : decode cX4_circle 15 = .ok (.ldc 99, 2) := by decide +kernel
theorem dX4_circle_17 : decode cX4_circle 17 = .ok (.invokespecial 101, 3) := by decide +kernel
theorem dX4_circle_20 : decode cX4_circle 20 = .ok (.athrow, 1) := by decide +kernel
theorem dX4_circle_21 : decode cX4_circle 21 = .ok (.aload_n 0, 1) := by decide +kernel
theorem dX4_circle_22 : decode cX4_circle 22 = .ok (.invokevirtual 126, 3) := by decide +kernel
theorem dX4_circle_25 : decode cX4_circle 25 = .ok (.aload_n 0, 1) := by decide +kernel
theorem dX4_circle_26 : decode cX4_circle 26 = .ok (.getfield 12, 3) := by decide +kernel
theorem dX4_circle_29 : decode cX4_circle 29 = .ok (.iload_n 1, 1) := by decide +kernel
theorem dX4_circle_30 : decode cX4_circle 30 = .ok (.bipush 14, 2) := by decide +kernel
theorem dX4_circle_32 : decode cX4_circle 32 = .ok (.iload_n 2, 1) := by decide +kernel
theorem dX4_circle_33 : decode cX4_circle 33 = .ok (.invokevirtual 166, 3) := by decide +kernel
theorem dX4_circle_36 : decode cX4_circle 36 = .ok (.pop, 1) := by decide +kernel
theorem dX4_circle_37 : decode cX4_circle 37 = .ok (.aload_n 0, 1) := by decide +kernel
theorem dX4_circle_38 : decode cX4_circle 38 = .ok (.getfield 12, 3) := by decide +kernel
theorem dX4_circle_41 : decode cX4_circle 41 = .ok (.bipush 14, 2) := by decide +kernel
theorem dX4_circle_43 : decode cX4_circle 43 = .ok (.invokevirtual 170, 3) := by decide +kernel
theorem dX4_circle_46 : decode cX4_circle 46 = .ok (.ireturn, 1) := by decide +kernel
set_option maxRecDepth 20000 in
theorem ggX4_falseStart_X3_hasTake : GoodIn wsX4_falseStart wsX3_hasTake := goodIn_r _ [8, 9, 86] (by decide +kernel) (by decide +kernel)
set_option maxRecDepth 20000 in
theorem gX4_falseStart_X3_hasTake : GoodIn wsX4_falseStart (wsV RX4 93 RX3 yX3_hasTake wsX3_hasTake) := goodIn_app (goodIn_of _ (by decide +kernel)) ggX4_falseStart_X3_hasTake
set_option maxRecDepth 20000 in
theorem ggX4_falseStart_X4_remember : GoodIn wsX4_falseStart wsX4_remember := goodIn_r _ [14, 15, 16, 17, 3, 18, 19, 20, 21, 22, 23, 24, 25, 26, 27, 28, 77, 78, 79, 80, 81, 82, 83, 84, 85, 87, 88, 86] (by decide +kernel) (by decide +kernel)
set_option maxRecDepth 20000 in
theorem gX4_falseStart_X4_remember : GoodIn wsX4_falseStart (wsV RX4 126 RX4 yX4_remember wsX4_remember) := goodIn_app (goodIn_of _ (by decide +kernel)) ggX4_falseStart_X4_remember
set_option maxRecDepth 20000 in
theorem ggX4_falseStart_X3_mark : GoodIn wsX4_falseStart wsX3_mark := goodIn_r _ [32, 33, 5, 6, 7, 8, 9, 34, 35, 36, 37, 86] (by decide +kernel) (by decide +kernel)
set_option maxRecDepth 20000 in
theorem gX4_falseStart_X3_mark : GoodIn wsX4_falseStart (wsV RX4 166 RX3 yX3_mark wsX3_mark) := goodIn_app (goodIn_of _ (by decide +kernel)) ggX4_falseStart_X3_mark
set_option maxRecDepth 20000 in
theorem ggX4_falseStart_X3_wrongSlates : GoodIn wsX4_falseStart wsX3_wrongSlates := goodIn_r _ [41, 42, 43, 44, 7, 45, 46, 47, 48, 49, 9, 50, 51, 52, 53, 54, 55, 56, 57, 58, 59, 60, 61, 62, 63, 64, 65, 66, 67, 68, 69, 70, 71, 72, 73, 74, 75, 76, 86] (by decide +kernel) (by decide +kernel)
set_option maxRecDepth 20000 in
theorem gX4_falseStart_X3_wrongSlates : GoodIn wsX4_falseStart (wsV RX4 173 RX3 yX3_wrongSlates wsX3_wrongSlates) := goodIn_app (goodIn_of _ (by decide +kernel)) ggX4_falseStart_X3_wrongSlates
theorem dX4_falseStart_0 : decode cX4_falseStart 0 = .ok (.aload_n 0, 1) := by decide +kernel
theorem dX4_falseStart_1 : decode cX4_falseStart 1 = .ok (.getfield 12, 3) := by decide +kernel
theorem dX4_falseStart_4 : decode cX4_falseStart 4 = .ok (.iload_n 1, 1) := by decide +kernel
theorem dX4_falseStart_5 : decode cX4_falseStart 5 = .ok (.invokevirtual 93, 3) := by decide +kernel
theorem dX4_falseStart_8 : decode cX4_falseStart 8 = .ok (.ifCond .ne 13, 3) := by decide +kernel
theorem dX4_falseStart_11 : decode cX4_falseStart 11 = .ok (.new 97, 3) := by decide +kernel
theorem dX4_falseStart_14 : decode cX4_falseStart 14 = .ok (.dup, 1) := by decide +kernel
theorem dX4_falseStart_15 : decode cX4_falseStart 15 = .ok (.ldc 99, 2) := by decide +kernel
theorem dX4_falseStart_17 : decode cX4_falseStart 17 = .ok (.invokespecial 101, 3) := by decide +kernel
theorem dX4_falseStart_20 : decode cX4_falseStart 20 = .ok (.athrow, 1) := by decide +kernel
theorem dX4_falseStart_21 : decode cX4_falseStart 21 = .ok (.aload_n 0, 1) := by decide +kernel
theorem dX4_falseStart_22 : decode cX4_falseStart 22 = .ok (.invokevirtual 126, 3) := by decide +kernel
theorem dX4_falseStart_25 : decode cX4_falseStart 25 = .ok (.aload_n 0, 1) := by decide +kernel
theorem dX4_falseStart_26 : decode cX4_falseStart 26 = .ok (.getfield 12, 3) := by decide +kernel
theorem dX4_falseStart_29 : decode cX4_falseStart 29 = .ok (.iload_n 1, 1) := by decide +kernel
theorem dX4_falseStart_30 : decode cX4_falseStart 30 = .ok (.bipush 15, 2) := by decide +kernel
theorem dX4_falseStart_32 : decode cX4_falseStart 32 = .ok (.iload_n 2, 1) := by decide +kernel
theorem dX4_falseStart_33 : decode cX4_falseStart 33 = .ok (.invokevirtual 166, 3) := by decide +kernel
theorem dX4_falseStart_36 : decode cX4_falseStart 36 = .ok (.pop, 1) := by decide +kernel
theorem dX4_falseStart_37 : decode cX4_falseStart 37 = .ok (.aload_n 0, 1) := by decide +kernel
theorem dX4_falseStart_38 : decode cX4_falseStart 38 = .ok (.getfield 12, 3) := by decide +kernel
theorem dX4_falseStart_41 : decode cX4_falseStart 41 = .ok (.invokevirtual 173, 3) := by decide +kernel
theorem dX4_falseStart_44 : decode cX4_falseStart 44 = .ok (.ireturn, 1) := by decide +kernel
set_option maxRecDepth 20000 in
theorem ggX4_fix_X3_hasTake : GoodIn wsX4_fix wsX3_hasTake := goodIn_r _ [8, 9, 67] (by decide +kernel) (by decide +kernel)
set_option maxRecDepth 20000 in
theorem gX4_fix_X3_hasTake : GoodIn wsX4_fix (wsV RX4 93 RX3 yX3_hasTake wsX3_hasTake) := goodIn_app (goodIn_of _ (by decide +kernel)) ggX4_fix_X3_hasTake
set_option maxRecDepth 20000 in
theorem ggX4_fix_X4_remember : GoodIn wsX4_fix wsX4_remember := goodIn_r _ [14, 15, 16, 17, 3, 18, 19, 20, 21, 22, 23, 24, 25, 26, 27, 28, 58, 59, 60, 61, 62, 63, 64, 65, 66, 68, 69, 67] (by decide +kernel) (by decide +kernel)
set_option maxRecDepth 20000 in
theorem gX4_fix_X4_remember : GoodIn wsX4_fix (wsV RX4 126 RX4 yX4_remember wsX4_remember) := goodIn_app (goodIn_of _ (by decide +kernel)) ggX4_fix_X4_remember
set_option maxRecDepth 20000 in
theorem ggX4_fix_X3_putRight : GoodIn wsX4_fix wsX3_putRight := goodIn_r _ [32, 33, 5, 6, 7, 8, 9, 34, 35, 36, 37, 38, 39, 40, 41, 42, 43, 44, 45, 46, 47, 48, 49, 50, 51, 52, 53, 54, 55, 56, 57, 67] (by decide +kernel) (by decide +kernel)
set_option maxRecDepth 20000 in
theorem gX4_fix_X3_putRight : GoodIn wsX4_fix (wsV RX4 176 RX3 yX3_putRight wsX3_putRight) := goodIn_app (goodIn_of _ (by decide +kernel)) ggX4_fix_X3_putRight
theorem dX4_fix_0 : decode cX4_fix 0 = .ok (.aload_n 0, 1) := by decide +kernel
theorem dX4_fix_1 : decode cX4_fix 1 = .ok (.getfield 12, 3) := by decide +kernel
theorem dX4_fix_4 : decode cX4_fix 4 = .ok (.iload_n 1, 1) := by decide +kernel
theorem dX4_fix_5 : decode cX4_fix 5 = .ok (.invokevirtual 93, 3) := by decide +kernel
theorem dX4_fix_8 : decode cX4_fix 8 = .ok (.ifCond .ne 13, 3) := by decide +kernel
theorem dX4_fix_11 : decode cX4_fix 11 = .ok (.new 97, 3) := by decide +kernel
theorem dX4_fix_14 : decode cX4_fix 14 = .ok (.dup, 1) := by decide +kernel
theorem dX4_fix_15 : decode cX4_fix 15 = .ok (.ldc 99, 2) := by decide +kernel
theorem dX4_fix_17 : decode cX4_fix 17 = .ok (.invokespecial 101, 3) := by decide +kernel
theorem dX4_fix_20 : decode cX4_fix 20 = .ok (.athrow, 1) := by decide +kernel
theorem dX4_fix_21 : decode cX4_fix 21 = .ok (.aload_n 0, 1) := by decide +kernel
theorem dX4_fix_22 : decode cX4_fix 22 = .ok (.invokevirtual 126, 3) := by decide +kernel
theorem dX4_fix_25 : decode cX4_fix 25 = .ok (.aload_n 0, 1) := by decide +kernel
theorem dX4_fix_26 : decode cX4_fix 26 = .ok (.getfield 12, 3) := by decide +kernel
theorem dX4_fix_29 : decode cX4_fix 29 = .ok (.iload_n 1, 1) := by decide +kernel
theorem dX4_fix_30 : decode cX4_fix 30 = .ok (.invokevirtual 176, 3) := by decide +kernel
theorem dX4_fix_33 : decode cX4_fix 33 = .ok (.ifCond .eq 7, 3) := by decide +kernel
theorem dX4_fix_36 : decode cX4_fix 36 = .ok (.iconst 1, 1) := by decide +kernel
theorem dX4_fix_37 : decode cX4_fix 37 = .ok (.goto 4, 3) := by decide +kernel
theorem dX4_fix_40 : decode cX4_fix 40 = .ok (.iconst 0, 1) := by decide +kernel
theorem dX4_fix_41 : decode cX4_fix 41 = .ok (.ireturn, 1) := by decide +kernel
set_option maxRecDepth 20000 in
theorem ggX4_off_X4_remember : GoodIn wsX4_off wsX4_remember := goodIn_r _ [8, 9, 10, 11, 3, 12, 13, 14, 15, 16, 17, 18, 19, 20, 21, 22, 29, 30, 31, 32, 33, 34, 35, 36, 37, 38, 39, 40] (by decide +kernel) (by decide +kernel)
set_option maxRecDepth 20000 in
theorem gX4_off_X4_remember : GoodIn wsX4_off (wsV RX4 126 RX4 yX4_remember wsX4_remember) := goodIn_app (goodIn_of _ (by decide +kernel)) ggX4_off_X4_remember
set_option maxRecDepth 20000 in
theorem ggX4_off_X3_setOff : GoodIn wsX4_off wsX3_setOff := goodIn_r _ [27, 28, 40] (by decide +kernel) (by decide +kernel)
set_option maxRecDepth 20000 in
theorem gX4_off_X3_setOff : GoodIn wsX4_off (wsV RX4 181 RX3 yX3_setOff wsX3_setOff) := goodIn_app (goodIn_of _ (by decide +kernel)) ggX4_off_X3_setOff
theorem dX4_off_0 : decode cX4_off 0 = .ok (.iload_n 1, 1) := by decide +kernel
theorem dX4_off_1 : decode cX4_off 1 = .ok (.bipush (-99), 2) := by decide +kernel
theorem dX4_off_3 : decode cX4_off 3 = .ok (.if_icmp .lt 9, 3) := by decide +kernel
theorem dX4_off_6 : decode cX4_off 6 = .ok (.iload_n 1, 1) := by decide +kernel
theorem dX4_off_7 : decode cX4_off 7 = .ok (.bipush 99, 2) := by decide +kernel
theorem dX4_off_9 : decode cX4_off 9 = .ok (.if_icmp .le 13, 3) := by decide +kernel
theorem dX4_off_12 : decode cX4_off 12 = .ok (.new 49, 3) := by decide +kernel
theorem dX4_off_15 : decode cX4_off 15 = .ok (.dup, 1) := by decide +kernel
theorem dX4_off_16 : decode cX4_off 16 = .ok (.ldc 179, 2) := by decide +kernel
theorem dX4_off_18 : decode cX4_off 18 = .ok (.invokespecial 53, 3) := by decide +kernel
theorem dX4_off_21 : decode cX4_off 21 = .ok (.athrow, 1) := by decide +kernel
theorem dX4_off_22 : decode cX4_off 22 = .ok (.aload_n 0, 1) := by decide +kernel
theorem dX4_off_23 : decode cX4_off 23 = .ok (.invokevirtual 126, 3) := by decide +kernel
theorem dX4_off_26 : decode cX4_off 26 = .ok (.aload_n 0, 1) := by decide +kernel
theorem dX4_off_27 : decode cX4_off 27 = .ok (.getfield 12, 3) := by decide +kernel
theorem dX4_off_30 : decode cX4_off 30 = .ok (.iload_n 1, 1) := by decide +kernel
theorem dX4_off_31 : decode cX4_off 31 = .ok (.invokevirtual 181, 3) := by decide +kernel
theorem dX4_off_34 : decode cX4_off 34 = .ok (.ireturn, 1) := by decide +kernel
set_option maxRecDepth 20000 in
theorem ggX4_set_X4_isSetting : GoodIn wsX4_set wsX4_isSetting := goodIn_r _ [7, 8, 9] (by decide +kernel) (by decide +kernel)
set_option maxRecDepth 20000 in
theorem gX4_set_X4_isSetting : GoodIn wsX4_set (va_wsS RX4 184 yX4_isSetting wsX4_isSetting) := goodIn_app (goodIn_of _ (by decide +kernel)) ggX4_set_X4_isSetting
set_option maxRecDepth 20000 in
theorem ggX4_set_X4_remember : GoodIn wsX4_set wsX4_remember := goodIn_r _ [13, 14, 15, 16, 3, 17, 18, 19, 20, 21, 22, 23, 24, 25, 26, 27, 38, 39, 40, 41, 42, 43, 44, 45, 46, 47, 48, 49] (by decide +kernel) (by decide +kernel)
set_option maxRecDepth 20000 in
theorem gX4_set_X4_remember : GoodIn wsX4_set (wsV RX4 126 RX4 yX4_remember wsX4_remember) := goodIn_app (goodIn_of _ (by decide +kernel)) ggX4_set_X4_remember
set_option maxRecDepth 20000 in
theorem ggX4_set_X3_choose : GoodIn wsX4_set wsX3_choose := goodIn_r _ [32, 33, 34, 35, 36, 31, 37, 49] (by decide +kernel) (by decide +kernel)
set_option maxRecDepth 20000 in
theorem gX4_set_X3_choose : GoodIn wsX4_set (wsV RX4 189 RX3 yX3_choose wsX3_choose) := goodIn_app (goodIn_of _ (by decide +kernel)) ggX4_set_X3_choose
theorem dX4_set_0 : decode cX4_set 0 = .ok (.iload_n 1, 1) := by decide +kernel
theorem dX4_set_1 : decode cX4_set 1 = .ok (.iload_n 2, 1) := by decide +kernel
theorem dX4_set_2 : decode cX4_set 2 = .ok (.invokestatic 184, 3) := by decide +kernel
theorem dX4_set_5 : decode cX4_set 5 = .ok (.ifCond .ne 13, 3) := by decide +kernel
theorem dX4_set_8 : decode cX4_set 8 = .ok (.new 49, 3) := by decide +kernel
theorem dX4_set_11 : decode cX4_set 11 = .ok (.dup, 1) := by decide +kernel
theorem dX4_set_12 : decode cX4_set 12 = .ok (.ldc 187, 2) := by decide +kernel
theorem dX4_set_14 : decode cX4_set 14 = .ok (.invokespecial 53, 3) := by decide +kernel
theorem dX4_set_17 : decode cX4_set 17 = .ok (.athrow, 1) := by decide +kernel
theorem dX4_set_18 : decode cX4_set 18 = .ok (.aload_n 0, 1) := by decide +kernel
theorem dX4_set_19 : decode cX4_set 19 = .ok (.invokevirtual 126, 3) := by decide +kernel
theorem dX4_set_22 : decode cX4_set 22 = .ok (.aload_n 0, 1) := by decide +kernel
theorem dX4_set_23 : decode cX4_set 23 = .ok (.getfield 12, 3) := by decide +kernel
theorem dX4_set_26 : decode cX4_set 26 = .ok (.iload_n 1, 1) := by decide +kernel
theorem dX4_set_27 : decode cX4_set 27 = .ok (.iload_n 2, 1) := by decide +kernel
theorem dX4_set_28 : decode cX4_set 28 = .ok (.invokevirtual 189, 3) := by decide +kernel
theorem dX4_set_31 : decode cX4_set 31 = .ok (.ireturn, 1) := by decide +kernel
set_option maxRecDepth 20000 in
theorem ggX4_undo_X2_fetch : GoodIn wsX4_undo wsX2_fetch := goodIn_r _ [11, 12, 13, 14, 15, 16, 17, 27, 28, 29] (by decide +kernel) (by decide +kernel)
set_option maxRecDepth 20000 in
theorem gX4_undo_X2_fetch : GoodIn wsX4_undo (wsV RX4 201 RX2 yX2_fetch wsX2_fetch) := goodIn_app (goodIn_of _ (by decide +kernel)) ggX4_undo_X2_fetch
theorem dX4_undo_0 : decode cX4_undo 0 = .ok (.aload_n 0, 1) := by decide +kernel
theorem dX4_undo_1 : decode cX4_undo 1 = .ok (.getfield 192, 3) := by decide +kernel
theorem dX4_undo_4 : decode cX4_undo 4 = .ok (.ifCond .ne 13, 3) := by decide +kernel
theorem dX4_undo_7 : decode cX4_undo 7 = .ok (.new 60, 3) := by decide +kernel
theorem dX4_undo_10 : decode cX4_undo 10 = .ok (.dup, 1) := by decide +kernel
theorem dX4_undo_11 : decode cX4_undo 11 = .ok (.ldc 196, 2) := by decide +kernel
theorem dX4_undo_13 : decode cX4_undo 13 = .ok (.invokespecial 64, 3) := by decide +kernel
theorem dX4_undo_16 : decode cX4_undo 16 = .ok (.athrow, 1) := by decide +kernel
theorem dX4_undo_17 : decode cX4_undo 17 = .ok (.aload_n 0, 1) := by decide +kernel
theorem dX4_undo_18 : decode cX4_undo 18 = .ok (.dup, 1) := by decide +kernel
theorem dX4_undo_19 : decode cX4_undo 19 = .ok (.getfield 192, 3) := by decide +kernel
theorem dX4_undo_22 : decode cX4_undo 22 = .ok (.iconst 1, 1) := by decide +kernel
theorem dX4_undo_23 : decode cX4_undo 23 = .ok (.isub, 1) := by decide +kernel
theorem dX4_undo_24 : decode cX4_undo 24 = .ok (.putfield 192, 3) := by decide +kernel
theorem dX4_undo_27 : decode cX4_undo 27 = .ok (.aload_n 0, 1) := by decide +kernel
theorem dX4_undo_28 : decode cX4_undo 28 = .ok (.getfield 24, 3) := by decide +kernel
theorem dX4_undo_31 : decode cX4_undo 31 = .ok (.aload_n 0, 1) := by decide +kernel
theorem dX4_undo_32 : decode cX4_undo 32 = .ok (.getfield 198, 3) := by decide +kernel
theorem dX4_undo_35 : decode cX4_undo 35 = .ok (.aload_n 0, 1) := by decide +kernel
theorem dX4_undo_36 : decode cX4_undo 36 = .ok (.getfield 192, 3) := by decide +kernel
theorem dX4_undo_39 : decode cX4_undo 39 = .ok (.iadd, 1) := by decide +kernel
theorem dX4_undo_40 : decode cX4_undo 40 = .ok (.bipush 14, 2) := by decide +kernel
theorem dX4_undo_42 : decode cX4_undo 42 = .ok (.irem, 1) := by decide +kernel
theorem dX4_undo_43 : decode cX4_undo 43 = .ok (.aload_n 0, 1) := by decide +kernel
theorem dX4_undo_44 : decode cX4_undo 44 = .ok (.getfield 12, 3) := by decide +kernel
theorem dX4_undo_47 : decode cX4_undo 47 = .ok (.invokevirtual 201, 3) := by decide +kernel
theorem dX4_undo_50 : decode cX4_undo 50 = .ok (.aload_n 0, 1) := by decide +kernel
theorem dX4_undo_51 : decode cX4_undo 51 = .ok (.getfield 192, 3) := by decide +kernel
theorem dX4_undo_54 : decode cX4_undo 54 = .ok (.ireturn, 1) := by decide +kernel
set_option maxRecDepth 20000 in
theorem ggX4_find_X3_saidSo : GoodIn wsX4_find wsX3_saidSo := goodIn_r _ [6, 7, 8, 9, 5, 10, 11, 12, 13, 14, 15, 16, 17, 18, 19, 41] (by decide +kernel) (by decide +kernel)
set_option maxRecDepth 20000 in
theorem gX4_find_X3_saidSo : GoodIn wsX4_find (wsV RX4 205 RX3 yX3_saidSo wsX3_saidSo) := goodIn_app (goodIn_of _ (by decide +kernel)) ggX4_find_X3_saidSo
set_option maxRecDepth 20000 in
theorem ggX4_find_X3_meantSo : GoodIn wsX4_find wsX3_meantSo := goodIn_r _ [23, 7, 8, 9, 5, 10, 11, 16, 17, 18, 19, 24, 25, 26, 27, 28, 29, 30, 31, 41] (by decide +kernel) (by decide +kernel)
set_option maxRecDepth 20000 in
theorem gX4_find_X3_meantSo : GoodIn wsX4_find (wsV RX4 209 RX3 yX3_meantSo wsX3_meantSo) := goodIn_app (goodIn_of _ (by decide +kernel)) ggX4_find_X3_meantSo
theorem dX4_find_0 : decode cX4_find 0 = .ok (.iload 4, 2) := by decide +kernel
theorem dX4_find_2 : decode cX4_find 2 = .ok (.ifCond .eq 16, 3) := by decide +kernel
theorem dX4_find_5 : decode cX4_find 5 = .ok (.aload_n 0, 1) := by decide +kernel
theorem dX4_find_6 : decode cX4_find 6 = .ok (.getfield 12, 3) := by decide +kernel
theorem dX4_find_9 : decode cX4_find 9 = .ok (.iload_n 1, 1) := by decide +kernel
theorem dX4_find_10 : decode cX4_find 10 = .ok (.iload_n 2, 1) := by decide +kernel
theorem dX4_find_11 : decode cX4_find 11 = .ok (.iload_n 3, 1) := by decide +kernel
theorem dX4_find_12 : decode cX4_find 12 = .ok (.invokevirtual 205, 3) := by decide +kernel
theorem dX4_find_15 : decode cX4_find 15 = .ok (.goto 13, 3) := by decide +kernel
theorem dX4_find_18 : decode cX4_find 18 = .ok (.aload_n 0, 1) := by decide +kernel
theorem dX4_find_19 : decode cX4_find 19 = .ok (.getfield 12, 3) := by decide +kernel
theorem dX4_find_22 : decode cX4_find 22 = .ok (.iload_n 1, 1) := by decide +kernel
theorem dX4_find_23 : decode cX4_find 23 = .ok (.iload_n 2, 1) := by decide +kernel
theorem dX4_find_24 : decode cX4_find 24 = .ok (.iload_n 3, 1) := by decide +kernel
theorem dX4_find_25 : decode cX4_find 25 = .ok (.invokevirtual 209, 3) := by decide +kernel
theorem dX4_find_28 : decode cX4_find 28 = .ok (.ireturn, 1) := by decide +kernel
set_option maxRecDepth 20000 in
theorem ggX4_atCamera_X3_takes : GoodIn wsX4_atCamera wsX3_takes := goodIn_r _ [6, 7, 26] (by decide +kernel) (by decide +kernel)
set_option maxRecDepth 20000 in
theorem gX4_atCamera_X3_takes : GoodIn wsX4_atCamera (wsV RX4 212 RX3 yX3_takes wsX3_takes) := goodIn_app (goodIn_of _ (by decide +kernel)) ggX4_atCamera_X3_takes
set_option maxRecDepth 20000 in
theorem ggX4_atCamera_X3_of : GoodIn wsX4_atCamera wsX3_of := goodIn_r _ [11, 7, 26] (by decide +kernel) (by decide +kernel)
set_option maxRecDepth 20000 in
theorem gX4_atCamera_X3_of : GoodIn wsX4_atCamera (wsV RX4 215 RX3 yX3_of wsX3_of) := goodIn_app (goodIn_of _ (by decide +kernel)) ggX4_atCamera_X3_of
set_option maxRecDepth 20000 in
theorem ggX4_atCamera_X3_holds : GoodIn wsX4_atCamera wsX3_holds := goodIn_r _ [15, 16, 9, 10, 5, 11, 7, 26] (by decide +kernel) (by decide +kernel)
set_option maxRecDepth 20000 in
theorem gX4_atCamera_X3_holds : GoodIn wsX4_atCamera (wsV RX4 218 RX3 yX3_holds wsX3_holds) := goodIn_app (goodIn_of _ (by decide +kernel)) ggX4_atCamera_X3_holds
theorem dX4_atCamera_0 : decode cX4_atCamera 0 = .ok (.iconst 0, 1) := by decide +kernel
theorem dX4_atCamera_1 : decode cX4_atCamera 1 = .ok (.istore_n 3, 1) := by decide +kernel
theorem dX4_atCamera_2 : decode cX4_atCamera 2 = .ok (.iload_n 3, 1) := by decide +kernel
theorem dX4_atCamera_3 : decode cX4_atCamera 3 = .ok (.aload_n 0, 1) := by decide +kernel
theorem dX4_atCamera_4 : decode cX4_atCamera 4 = .ok (.getfield 12, 3) := by decide +kernel
theorem dX4_atCamera_7 : decode cX4_atCamera 7 = .ok (.invokevirtual 212, 3) := by decide +kernel
theorem dX4_atCamera_10 : decode cX4_atCamera 10 = .ok (.if_icmp .ge 39, 3) := by decide +kernel
theorem dX4_atCamera_13 : decode cX4_atCamera 13 = .ok (.aload_n 0, 1) := by decide +kernel
theorem dX4_atCamera_14 : decode cX4_atCamera 14 = .ok (.getfield 12, 3) := by decide +kernel
theorem dX4_atCamera_17 : decode cX4_atCamera 17 = .ok (.iload_n 3, 1) := by decide +kernel
theorem dX4_atCamera_18 : decode cX4_atCamera 18 = .ok (.bipush 6, 2) := by decide +kernel
theorem dX4_atCamera_20 : decode cX4_atCamera 20 = .ok (.invokevirtual 215, 3) := by decide +kernel
theorem dX4_atCamera_23 : decode cX4_atCamera 23 = .ok (.iload_n 1, 1) := by decide +kernel
theorem dX4_atCamera_24 : decode cX4_atCamera 24 = .ok (.if_icmp .ne 19, 3) := by decide +kernel
theorem dX4_atCamera_27 : decode cX4_atCamera 27 = .ok (.aload_n 0, 1) := by decide +kernel
theorem dX4_atCamera_28 : decode cX4_atCamera 28 = .ok (.getfield 12, 3) := by decide +kernel
theorem dX4_atCamera_31 : decode cX4_atCamera 31 = .ok (.iload_n 3, 1) := by decide +kernel
theorem dX4_atCamera_32 : decode cX4_atCamera 32 = .ok (.bipush 7, 2) := by decide +kernel
theorem dX4_atCamera_34 : decode cX4_atCamera 34 = .ok (.iload_n 2, 1) := by decide +kernel
theorem dX4_atCamera_35 : decode cX4_atCamera 35 = .ok (.invokevirtual 218, 3) := by decide +kernel
theorem dX4_atCamera_38 : decode cX4_atCamera 38 = .ok (.ifCond .eq 5, 3) := by decide +kernel
theorem dX4_atCamera_41 : decode cX4_atCamera 41 = .ok (.iload_n 3, 1) := by decide +kernel
theorem dX4_atCamera_42 : decode cX4_atCamera 42 = .ok (.ireturn, 1) := by decide +kernel
theorem dX4_atCamera_43 : decode cX4_atCamera 43 = .ok (.iinc 3 1, 3) := by decide +kernel
theorem dX4_atCamera_46 : decode cX4_atCamera 46 = .ok (.goto (-44), 3) := by decide +kernel
theorem dX4_atCamera_49 : decode cX4_atCamera 49 = .ok (.iconst (-1), 1) := by decide +kernel
theorem dX4_atCamera_50 : decode cX4_atCamera 50 = .ok (.ireturn, 1) := by decide +kernel
set_option maxRecDepth 20000 in
theorem ggX4_atSound_X3_takes : GoodIn wsX4_atSound wsX3_takes := goodIn_r _ [6, 7, 30] (by decide +kernel) (by decide +kernel)
set_option maxRecDepth 20000 in
theorem gX4_atSound_X3_takes : GoodIn wsX4_atSound (wsV RX4 212 RX3 yX3_takes wsX3_takes) := goodIn_app (goodIn_of _ (by decide +kernel)) ggX4_atSound_X3_takes
set_option maxRecDepth 20000 in
theorem ggX4_atSound_X3_hasSound : GoodIn wsX4_atSound wsX3_hasSound := goodIn_r _ [11, 12, 13, 14, 5, 15, 7, 30] (by decide +kernel) (by decide +kernel)
set_option maxRecDepth 20000 in
theorem gX4_atSound_X3_hasSound : GoodIn wsX4_atSound (wsV RX4 222 RX3 yX3_hasSound wsX3_hasSound) := goodIn_app (goodIn_of _ (by decide +kernel)) ggX4_atSound_X3_hasSound
set_option maxRecDepth 20000 in
theorem ggX4_atSound_X3_of : GoodIn wsX4_atSound wsX3_of := goodIn_r _ [15, 7, 30] (by decide +kernel) (by decide +kernel)
set_option maxRecDepth 20000 in
theorem gX4_atSound_X3_of : GoodIn wsX4_atSound (wsV RX4 215 RX3 yX3_of wsX3_of) := goodIn_app (goodIn_of _ (by decide +kernel)) ggX4_atSound_X3_of
set_option maxRecDepth 20000 in
theorem ggX4_atSound_X3_holds : GoodIn wsX4_atSound wsX3_holds := goodIn_r _ [20, 12, 13, 14, 5, 15, 7, 30] (by decide +kernel) (by decide +kernel)
set_option maxRecDepth 20000 in
theorem gX4_atSound_X3_holds : GoodIn wsX4_atSound (wsV RX4 218 RX3 yX3_holds wsX3_holds) := goodIn_app (goodIn_of _ (by decide +kernel)) ggX4_atSound_X3_holds
theorem dX4_atSound_0 : decode cX4_atSound 0 = .ok (.iconst 0, 1) := by decide +kernel
theorem dX4_atSound_1 : decode cX4_atSound 1 = .ok (.istore_n 3, 1) := by decide +kernel
theorem dX4_atSound_2 : decode cX4_atSound 2 = .ok (.iload_n 3, 1) := by decide +kernel
theorem dX4_atSound_3 : decode cX4_atSound 3 = .ok (.aload_n 0, 1) := by decide +kernel
theorem dX4_atSound_4 : decode cX4_atSound 4 = .ok (.getfield 12, 3) := by decide +kernel
theorem dX4_atSound_7 : decode cX4_atSound 7 = .ok (.invokevirtual 212, 3) := by decide +kernel
theorem dX4_atSound_10 : decode cX4_atSound 10 = .ok (.if_icmp .ge 50, 3) := by decide +kernel
theorem dX4_atSound_13 : decode cX4_atSound 13 = .ok (.aload_n 0, 1) := by decide +kernel
theorem dX4_atSound_14 : decode cX4_atSound 14 = .ok (.getfield 12, 3) := by decide +kernel
theorem dX4_atSound_17 : decode cX4_atSound 17 = .ok (.iload_n 3, 1) := by decide +kernel
theorem dX4_atSound_18 : decode cX4_atSound 18 = .ok (.invokevirtual 222, 3) := by decide +kernel
theorem dX4_atSound_21 : decode cX4_atSound 21 = .ok (.ifCond .eq 33, 3) := by decide +kernel
theorem dX4_atSound_24 : decode cX4_atSound 24 = .ok (.aload_n 0, 1) := by decide +kernel
theorem dX4_atSound_25 : decode cX4_atSound 25 = .ok (.getfield 12, 3) := by decide +kernel
theorem dX4_atSound_28 : decode cX4_atSound 28 = .ok (.iload_n 3, 1) := by decide +kernel
theorem dX4_atSound_29 : decode cX4_atSound 29 = .ok (.bipush 9, 2) := by decide +kernel
theorem dX4_atSound_31 : decode cX4_atSound 31 = .ok (.invokevirtual 215, 3) := by decide +kernel
theorem dX4_atSound_34 : decode cX4_atSound 34 = .ok (.iload_n 1, 1) := by decide +kernel
theorem dX4_atSound_35 : decode cX4_atSound 35 = .ok (.if_icmp .ne 19, 3) := by decide +kernel
theorem dX4_atSound_38 : decode cX4_atSound 38 = .ok (.aload_n 0, 1) := by decide +kernel
theorem dX4_atSound_39 : decode cX4_atSound 39 = .ok (.getfield 12, 3) := by decide +kernel
theorem dX4_atSound_42 : decode cX4_atSound 42 = .ok (.iload_n 3, 1) := by decide +kernel
theorem dX4_atSound_43 : decode cX4_atSound 43 = .ok (.bipush 10, 2) := by decide +kernel
theorem dX4_atSound_45 : decode cX4_atSound 45 = .ok (.iload_n 2, 1) := by decide +kernel
theorem dX4_atSound_46 : decode cX4_atSound 46 = .ok (.invokevirtual 218, 3) := by decide +kernel
theorem dX4_atSound_49 : decode cX4_atSound 49 = .ok (.ifCond .eq 5, 3) := by decide +kernel
theorem dX4_atSound_52 : decode cX4_atSound 52 = .ok (.iload_n 3, 1) := by decide +kernel
theorem dX4_atSound_53 : decode cX4_atSound 53 = .ok (.ireturn, 1) := by decide +kernel
theorem dX4_atSound_54 : decode cX4_atSound 54 = .ok (.iinc 3 1, 3) := by decide +kernel
theorem dX4_atSound_57 : decode cX4_atSound 57 = .ok (.goto (-55), 3) := by decide +kernel
theorem dX4_atSound_60 : decode cX4_atSound 60 = .ok (.iconst (-1), 1) := by decide +kernel
theorem dX4_atSound_61 : decode cX4_atSound 61 = .ok (.ireturn, 1) := by decide +kernel
set_option maxRecDepth 20000 in
theorem ggX4_atTime_X3_takes : GoodIn wsX4_atTime wsX3_takes := goodIn_r _ [6, 7, 25] (by decide +kernel) (by decide +kernel)
set_option maxRecDepth 20000 in
theorem gX4_atTime_X3_takes : GoodIn wsX4_atTime (wsV RX4 212 RX3 yX3_takes wsX3_takes) := goodIn_app (goodIn_of _ (by decide +kernel)) ggX4_atTime_X3_takes
set_option maxRecDepth 20000 in
theorem ggX4_atTime_X3_holds : GoodIn wsX4_atTime wsX3_holds := goodIn_r _ [11, 12, 13, 14, 5, 15, 7, 25] (by decide +kernel) (by decide +kernel)
set_option maxRecDepth 20000 in
theorem gX4_atTime_X3_holds : GoodIn wsX4_atTime (wsV RX4 218 RX3 yX3_holds wsX3_holds) := goodIn_app (goodIn_of _ (by decide +kernel)) ggX4_atTime_X3_holds
theorem dX4_atTime_0 : decode cX4_atTime 0 = .ok (.iconst 0, 1) := by decide +kernel
theorem dX4_atTime_1 : decode cX4_atTime 1 = .ok (.istore_n 2, 1) := by decide +kernel
theorem dX4_atTime_2 : decode cX4_atTime 2 = .ok (.iload_n 2, 1) := by decide +kernel
theorem dX4_atTime_3 : decode cX4_atTime 3 = .ok (.aload_n 0, 1) := by decide +kernel
theorem dX4_atTime_4 : decode cX4_atTime 4 = .ok (.getfield 12, 3) := by decide +kernel
theorem dX4_atTime_7 : decode cX4_atTime 7 = .ok (.invokevirtual 212, 3) := by decide +kernel
theorem dX4_atTime_10 : decode cX4_atTime 10 = .ok (.if_icmp .ge 25, 3) := by decide +kernel
theorem dX4_atTime_13 : decode cX4_atTime 13 = .ok (.aload_n 0, 1) := by decide +kernel
theorem dX4_atTime_14 : decode cX4_atTime 14 = .ok (.getfield 12, 3) := by decide +kernel
theorem dX4_atTime_17 : decode cX4_atTime 17 = .ok (.iload_n 2, 1) := by decide +kernel
theorem dX4_atTime_18 : decode cX4_atTime 18 = .ok (.bipush 12, 2) := by decide +kernel
theorem dX4_atTime_20 : decode cX4_atTime 20 = .ok (.iload_n 1, 1) := by decide +kernel
theorem dX4_atTime_21 : decode cX4_atTime 21 = .ok (.invokevirtual 218, 3) := by decide +kernel
theorem dX4_atTime_24 : decode cX4_atTime 24 = .ok (.ifCond .eq 5, 3) := by decide +kernel
theorem dX4_atTime_27 : decode cX4_atTime 27 = .ok (.iload_n 2, 1) := by decide +kernel
theorem dX4_atTime_28 : decode cX4_atTime 28 = .ok (.ireturn, 1) := by decide +kernel
theorem dX4_atTime_29 : decode cX4_atTime 29 = .ok (.iinc 2 1, 3) := by decide +kernel
theorem dX4_atTime_32 : decode cX4_atTime 32 = .ok (.goto (-30), 3) := by decide +kernel
theorem dX4_atTime_35 : decode cX4_atTime 35 = .ok (.iconst (-1), 1) := by decide +kernel
theorem dX4_atTime_36 : decode cX4_atTime 36 = .ok (.ireturn, 1) := by decide +kernel
set_option maxRecDepth 20000 in
theorem ggX4_byFile_X3_takes : GoodIn wsX4_byFile wsX3_takes := goodIn_r _ [6, 7, 26] (by decide +kernel) (by decide +kernel)
set_option maxRecDepth 20000 in
theorem gX4_byFile_X3_takes : GoodIn wsX4_byFile (wsV RX4 212 RX3 yX3_takes wsX3_takes) := goodIn_app (goodIn_of _ (by decide +kernel)) ggX4_byFile_X3_takes
set_option maxRecDepth 20000 in
theorem ggX4_byFile_X3_hasSound : GoodIn wsX4_byFile wsX3_hasSound := goodIn_r _ [11, 12, 13, 14, 5, 15, 7, 26] (by decide +kernel) (by decide +kernel)
set_option maxRecDepth 20000 in
theorem gX4_byFile_X3_hasSound : GoodIn wsX4_byFile (wsV RX4 222 RX3 yX3_hasSound wsX3_hasSound) := goodIn_app (goodIn_of _ (by decide +kernel)) ggX4_byFile_X3_hasSound
set_option maxRecDepth 20000 in
theorem ggX4_byFile_X3_of : GoodIn wsX4_byFile wsX3_of := goodIn_r _ [15, 7, 26] (by decide +kernel) (by decide +kernel)
set_option maxRecDepth 20000 in
theorem gX4_byFile_X3_of : GoodIn wsX4_byFile (wsV RX4 215 RX3 yX3_of wsX3_of) := goodIn_app (goodIn_of _ (by decide +kernel)) ggX4_byFile_X3_of
theorem dX4_byFile_0 : decode cX4_byFile 0 = .ok (.iconst 0, 1) := by decide +kernel
theorem dX4_byFile_1 : decode cX4_byFile 1 = .ok (.istore_n 3, 1) := by decide +kernel
theorem dX4_byFile_2 : decode cX4_byFile 2 = .ok (.iload_n 3, 1) := by decide +kernel
theorem dX4_byFile_3 : decode cX4_byFile 3 = .ok (.aload_n 0, 1) := by decide +kernel
theorem dX4_byFile_4 : decode cX4_byFile 4 = .ok (.getfield 12, 3) := by decide +kernel
theorem dX4_byFile_7 : decode cX4_byFile 7 = .ok (.invokevirtual 212, 3) := by decide +kernel
theorem dX4_byFile_10 : decode cX4_byFile 10 = .ok (.if_icmp .ge 50, 3) := by decide +kernel
theorem dX4_byFile_13 : decode cX4_byFile 13 = .ok (.aload_n 0, 1) := by decide +kernel
theorem dX4_byFile_14 : decode cX4_byFile 14 = .ok (.getfield 12, 3) := by decide +kernel
theorem dX4_byFile_17 : decode cX4_byFile 17 = .ok (.iload_n 3, 1) := by decide +kernel
theorem dX4_byFile_18 : decode cX4_byFile 18 = .ok (.invokevirtual 222, 3) := by decide +kernel
theorem dX4_byFile_21 : decode cX4_byFile 21 = .ok (.ifCond .eq 33, 3) := by decide +kernel
theorem dX4_byFile_24 : decode cX4_byFile 24 = .ok (.aload_n 0, 1) := by decide +kernel
theorem dX4_byFile_25 : decode cX4_byFile 25 = .ok (.getfield 12, 3) := by decide +kernel
theorem dX4_byFile_28 : decode cX4_byFile 28 = .ok (.iload_n 3, 1) := by decide +kernel
theorem dX4_byFile_29 : decode cX4_byFile 29 = .ok (.bipush 9, 2) := by decide +kernel
theorem dX4_byFile_31 : decode cX4_byFile 31 = .ok (.invokevirtual 215, 3) := by decide +kernel
theorem dX4_byFile_34 : decode cX4_byFile 34 = .ok (.iload_n 1, 1) := by decide +kernel
theorem dX4_byFile_35 : decode cX4_byFile 35 = .ok (.if_icmp .ne 19, 3) := by decide +kernel
theorem dX4_byFile_38 : decode cX4_byFile 38 = .ok (.aload_n 0, 1) := by decide +kernel
theorem dX4_byFile_39 : decode cX4_byFile 39 = .ok (.getfield 12, 3) := by decide +kernel
theorem dX4_byFile_42 : decode cX4_byFile 42 = .ok (.iload_n 3, 1) := by decide +kernel
theorem dX4_byFile_43 : decode cX4_byFile 43 = .ok (.bipush 11, 2) := by decide +kernel
theorem dX4_byFile_45 : decode cX4_byFile 45 = .ok (.invokevirtual 215, 3) := by decide +kernel
theorem dX4_byFile_48 : decode cX4_byFile 48 = .ok (.iload_n 2, 1) := by decide +kernel
theorem dX4_byFile_49 : decode cX4_byFile 49 = .ok (.if_icmp .ne 5, 3) := by decide +kernel
theorem dX4_byFile_52 : decode cX4_byFile 52 = .ok (.iload_n 3, 1) := by decide +kernel
theorem dX4_byFile_53 : decode cX4_byFile 53 = .ok (.ireturn, 1) := by decide +kernel
theorem dX4_byFile_54 : decode cX4_byFile 54 = .ok (.iinc 3 1, 3) := by decide +kernel
theorem dX4_byFile_57 : decode cX4_byFile 57 = .ok (.goto (-55), 3) := by decide +kernel
theorem dX4_byFile_60 : decode cX4_byFile 60 = .ok (.iconst (-1), 1) := by decide +kernel
theorem dX4_byFile_61 : decode cX4_byFile 61 = .ok (.ireturn, 1) := by decide +kernel
set_option maxRecDepth 20000 in
theorem ggX4_synced_X3_hasTake : GoodIn wsX4_synced wsX3_hasTake := goodIn_r _ [8, 9, 39] (by decide +kernel) (by decide +kernel)
set_option maxRecDepth 20000 in
theorem gX4_synced_X3_hasTake : GoodIn wsX4_synced (wsV RX4 93 RX3 yX3_hasTake wsX3_hasTake) := goodIn_app (goodIn_of _ (by decide +kernel)) ggX4_synced_X3_hasTake
set_option maxRecDepth 20000 in
theorem ggX4_synced_X3_soundFor : GoodIn wsX4_synced wsX3_soundFor := goodIn_r _ [13, 14, 15, 16, 7, 17, 9, 18, 19, 20, 21, 22, 23, 24, 25, 26, 27, 28, 29, 39] (by decide +kernel) (by decide +kernel)
set_option maxRecDepth 20000 in
theorem gX4_synced_X3_soundFor : GoodIn wsX4_synced (wsV RX4 225 RX3 yX3_soundFor wsX3_soundFor) := goodIn_app (goodIn_of _ (by decide +kernel)) ggX4_synced_X3_soundFor
theorem dX4_synced_0 : decode cX4_synced 0 = .ok (.aload_n 0, 1) := by decide +kernel
theorem dX4_synced_1 : decode cX4_synced 1 = .ok (.getfield 12, 3) := by decide +kernel
theorem dX4_synced_4 : decode cX4_synced 4 = .ok (.iload_n 1, 1) := by decide +kernel
theorem dX4_synced_5 : decode cX4_synced 5 = .ok (.invokevirtual 93, 3) := by decide +kernel
theorem dX4_synced_8 : decode cX4_synced 8 = .ok (.ifCond .ne 13, 3) := by decide +kernel
theorem dX4_synced_11 : decode cX4_synced 11 = .ok (.new 97, 3) := by decide +kernel
theorem dX4_synced_14 : decode cX4_synced 14 = .ok (.dup, 1) := by decide +kernel
theorem dX4_synced_15 : decode cX4_synced 15 = .ok (.ldc 99, 2) := by decide +kernel
theorem dX4_synced_17 : decode cX4_synced 17 = .ok (.invokespecial 101, 3) := by decide +kernel
theorem dX4_synced_20 : decode cX4_synced 20 = .ok (.athrow, 1) := by decide +kernel
theorem dX4_synced_21 : decode cX4_synced 21 = .ok (.aload_n 0, 1) := by decide +kernel
theorem dX4_synced_22 : decode cX4_synced 22 = .ok (.getfield 12, 3) := by decide +kernel
theorem dX4_synced_25 : decode cX4_synced 25 = .ok (.iload_n 1, 1) := by decide +kernel
theorem dX4_synced_26 : decode cX4_synced 26 = .ok (.iconst 0, 1) := by decide +kernel
theorem dX4_synced_27 : decode cX4_synced 27 = .ok (.invokevirtual 225, 3) := by decide +kernel
theorem dX4_synced_30 : decode cX4_synced 30 = .ok (.ireturn, 1) := by decide +kernel
set_option maxRecDepth 20000 in
theorem ggX4_bestShift_X3_keptSounds : GoodIn wsX4_bestShift wsX3_keptSounds := goodIn_r _ [6, 7, 8, 9, 5, 10, 11, 12, 13, 14, 15, 16, 17, 18, 19, 20, 21, 22, 23, 24, 25, 26, 27, 28, 29, 30, 31, 32, 33, 34, 35, 49] (by decide +kernel) (by decide +kernel)
set_option maxRecDepth 20000 in
theorem gX4_bestShift_X3_keptSounds : GoodIn wsX4_bestShift (wsV RX4 228 RX3 yX3_keptSounds wsX3_keptSounds) := goodIn_app (goodIn_of _ (by decide +kernel)) ggX4_bestShift_X3_keptSounds
set_option maxRecDepth 20000 in
theorem ggX4_bestShift_X3_sounds : GoodIn wsX4_bestShift wsX3_sounds := goodIn_r _ [39, 7, 8, 9, 5, 10, 11, 12, 13, 14, 15, 16, 17, 18, 19, 49] (by decide +kernel) (by decide +kernel)
set_option maxRecDepth 20000 in
theorem gX4_bestShift_X3_sounds : GoodIn wsX4_bestShift (wsV RX4 231 RX3 yX3_sounds wsX3_sounds) := goodIn_app (goodIn_of _ (by decide +kernel)) ggX4_bestShift_X3_sounds
theorem dX4_bestShift_0 : decode cX4_bestShift 0 = .ok (.iconst 0, 1) := by decide +kernel
theorem dX4_bestShift_1 : decode cX4_bestShift 1 = .ok (.istore_n 1, 1) := by decide +kernel
theorem dX4_bestShift_2 : decode cX4_bestShift 2 = .ok (.aload_n 0, 1) := by decide +kernel
theorem dX4_bestShift_3 : decode cX4_bestShift 3 = .ok (.getfield 12, 3) := by decide +kernel
theorem dX4_bestShift_6 : decode cX4_bestShift 6 = .ok (.iconst 0, 1) := by decide +kernel
theorem dX4_bestShift_7 : decode cX4_bestShift 7 = .ok (.invokevirtual 228, 3) := by decide +kernel
theorem dX4_bestShift_10 : decode cX4_bestShift 10 = .ok (.istore_n 2, 1) := by decide +kernel
theorem dX4_bestShift_11 : decode cX4_bestShift 11 = .ok (.aload_n 0, 1) := by decide +kernel
theorem dX4_bestShift_12 : decode cX4_bestShift 12 = .ok (.getfield 12, 3) := by decide +kernel
theorem dX4_bestShift_15 : decode cX4_bestShift 15 = .ok (.invokevirtual 231, 3) := by decide +kernel
theorem dX4_bestShift_18 : decode cX4_bestShift 18 = .ok (.istore_n 3, 1) := by decide +kernel
theorem dX4_bestShift_19 : decode cX4_bestShift 19 = .ok (.iconst 2, 1) := by decide +kernel
theorem dX4_bestShift_20 : decode cX4_bestShift 20 = .ok (.istore 4, 2) := by decide +kernel
theorem dX4_bestShift_22 : decode cX4_bestShift 22 = .ok (.iload 4, 2) := by decide +kernel
theorem dX4_bestShift_24 : decode cX4_bestShift 24 = .ok (.sipush 199, 3) := by decide +kernel
theorem dX4_bestShift_27 : decode cX4_bestShift 27 = .ok (.if_icmp .gt 58, 3) := by decide +kernel
theorem dX4_bestShift_30 : decode cX4_bestShift 30 = .ok (.iload_n 2, 1) := by decide +kernel
theorem dX4_bestShift_31 : decode cX4_bestShift 31 = .ok (.iload_n 3, 1) := by decide +kernel
theorem dX4_bestShift_32 : decode cX4_bestShift 32 = .ok (.if_icmp .ge 53, 3) := by decide +kernel
theorem dX4_bestShift_35 : decode cX4_bestShift 35 = .ok (.iload 4, 2) := by decide +kernel
theorem dX4_bestShift_37 : decode cX4_bestShift 37 = .ok (.iconst 2, 1) := by decide +kernel
theorem dX4_bestShift_38 : decode cX4_bestShift 38 = .ok (.irem, 1) := by decide +kernel
theorem dX4_bestShift_39 : decode cX4_bestShift 39 = .ok (.ifCond .ne 11, 3) := by decide +kernel
theorem dX4_bestShift_42 : decode cX4_bestShift 42 = .ok (.iload 4, 2) := by decide +kernel
theorem dX4_bestShift_44 : decode cX4_bestShift 44 = .ok (.iconst 2, 1) := by decide +kernel
theorem dX4_bestShift_45 : decode cX4_bestShift 45 = .ok (.idiv, 1) := by decide +kernel
theorem dX4_bestShift_46 : decode cX4_bestShift 46 = .ok (.ineg, 1) := by decide +kernel
theorem dX4_bestShift_47 : decode cX4_bestShift 47 = .ok (.goto 7, 3) := by decide +kernel
theorem dX4_bestShift_50 : decode cX4_bestShift 50 = .ok (.iload 4, 2) := by decide +kernel
theorem dX4_bestShift_52 : decode cX4_bestShift 52 = .ok (.iconst 2, 1) := by decide +kernel
theorem dX4_bestShift_53 : decode cX4_bestShift 53 = .ok (.idiv, 1) := by decide +kernel
theorem dX4_bestShift_54 : decode cX4_bestShift 54 = .ok (.istore 5, 2) := by decide +kernel
theorem dX4_bestShift_56 : decode cX4_bestShift 56 = .ok (.aload_n 0, 1) := by decide +kernel
theorem dX4_bestShift_57 : decode cX4_bestShift 57 = .ok (.getfield 12, 3) := by decide +kernel
theorem dX4_bestShift_60 : decode cX4_bestShift 60 = .ok (.iload 5, 2) := by decide +kernel
theorem dX4_bestShift_62 : decode cX4_bestShift 62 = .ok (.invokevirtual 228, 3) := by decide +kernel
theorem dX4_bestShift_65 : decode cX4_bestShift 65 = .ok (.istore 6, 2) := by decide +kernel
theorem dX4_bestShift_67 : decode cX4_bestShift 67 = .ok (.iload 6, 2) := by decide +kernel
theorem dX4_bestShift_69 : decode cX4_bestShift 69 = .ok (.iload_n 2, 1) := by decide +kernel
theorem dX4_bestShift_70 : decode cX4_bestShift 70 = .ok (.if_icmp .le 9, 3) := by decide +kernel
theorem dX4_bestShift_73 : decode cX4_bestShift 73 = .ok (.iload 6, 2) := by decide +kernel
theorem dX4_bestShift_75 : decode cX4_bestShift 75 = .ok (.istore_n 2, 1) := by decide +kernel
theorem dX4_bestShift_76 : decode cX4_bestShift 76 = .ok (.iload 5, 2) := by decide +kernel
theorem dX4_bestShift_78 : decode cX4_bestShift 78 = .ok (.istore_n 1, 1) := by decide +kernel
theorem dX4_bestShift_79 : decode cX4_bestShift 79 = .ok (.iinc 4 1, 3) := by decide +kernel
theorem dX4_bestShift_82 : decode cX4_bestShift 82 = .ok (.goto (-60), 3) := by decide +kernel
theorem dX4_bestShift_85 : decode cX4_bestShift 85 = .ok (.iload_n 1, 1) := by decide +kernel
theorem dX4_bestShift_86 : decode cX4_bestShift 86 = .ok (.ireturn, 1) := by decide +kernel
set_option maxRecDepth 20000 in
theorem ggX4_rolls_X4_isLength : GoodIn wsX4_rolls wsX4_isLength := goodIn_r _ [11] (by decide +kernel) (by decide +kernel)
set_option maxRecDepth 20000 in
theorem gX4_rolls_X4_isLength : GoodIn wsX4_rolls (va_wsS RX4 146 yX4_isLength wsX4_isLength) := goodIn_app (goodIn_of _ (by decide +kernel)) ggX4_rolls_X4_isLength
set_option maxRecDepth 20000 in
theorem ggX4_rolls_X3_cameraLeft : GoodIn wsX4_rolls wsX3_cameraLeft := goodIn_r _ [16, 17, 18, 19, 6, 20, 21, 22, 23, 15, 24, 35] (by decide +kernel) (by decide +kernel)
set_option maxRecDepth 20000 in
theorem gX4_rolls_X3_cameraLeft : GoodIn wsX4_rolls (wsV RX4 236 RX3 yX3_cameraLeft wsX3_cameraLeft) := goodIn_app (goodIn_of _ (by decide +kernel)) ggX4_rolls_X3_cameraLeft
set_option maxRecDepth 20000 in
theorem ggX4_rolls_X3_chosen : GoodIn wsX4_rolls wsX3_chosen := goodIn_r _ [24, 17, 35] (by decide +kernel) (by decide +kernel)
set_option maxRecDepth 20000 in
theorem gX4_rolls_X3_chosen : GoodIn wsX4_rolls (wsV RX4 117 RX3 yX3_chosen wsX3_chosen) := goodIn_app (goodIn_of _ (by decide +kernel)) ggX4_rolls_X3_chosen
theorem dX4_rolls_0 : decode cX4_rolls 0 = .ok (.iload_n 1, 1) := by decide +kernel
theorem dX4_rolls_1 : decode cX4_rolls 1 = .ok (.invokestatic 146, 3) := by decide +kernel
theorem dX4_rolls_4 : decode cX4_rolls 4 = .ok (.ifCond .eq 14, 3) := by decide +kernel
theorem dX4_rolls_7 : decode cX4_rolls 7 = .ok (.iload_n 2, 1) := by decide +kernel
theorem dX4_rolls_8 : decode cX4_rolls 8 = .ok (.iconst 1, 1) := by decide +kernel
theorem dX4_rolls_9 : decode cX4_rolls 9 = .ok (.if_icmp .lt 9, 3) := by decide +kernel
theorem dX4_rolls_12 : decode cX4_rolls 12 = .ok (.iload_n 2, 1) := by decide +kernel
theorem dX4_rolls_13 : decode cX4_rolls 13 = .ok (.bipush 99, 2) := by decide +kernel
theorem dX4_rolls_15 : decode cX4_rolls 15 = .ok (.if_icmp .le 13, 3) := by decide +kernel
theorem dX4_rolls_18 : decode cX4_rolls 18 = .ok (.new 49, 3) := by decide +kernel
theorem dX4_rolls_21 : decode cX4_rolls 21 = .ok (.dup, 1) := by decide +kernel
theorem dX4_rolls_22 : decode cX4_rolls 22 = .ok (.ldc 234, 2) := by decide +kernel
theorem dX4_rolls_24 : decode cX4_rolls 24 = .ok (.invokespecial 53, 3) := by decide +kernel
theorem dX4_rolls_27 : decode cX4_rolls 27 = .ok (.athrow, 1) := by decide +kernel
theorem dX4_rolls_28 : decode cX4_rolls 28 = .ok (.iconst 0, 1) := by decide +kernel
theorem dX4_rolls_29 : decode cX4_rolls 29 = .ok (.istore_n 3, 1) := by decide +kernel
theorem dX4_rolls_30 : decode cX4_rolls 30 = .ok (.aload_n 0, 1) := by decide +kernel
theorem dX4_rolls_31 : decode cX4_rolls 31 = .ok (.getfield 12, 3) := by decide +kernel
theorem dX4_rolls_34 : decode cX4_rolls 34 = .ok (.invokevirtual 236, 3) := by decide +kernel
theorem dX4_rolls_37 : decode cX4_rolls 37 = .ok (.istore 4, 2) := by decide +kernel
theorem dX4_rolls_39 : decode cX4_rolls 39 = .ok (.iconst 0, 1) := by decide +kernel
theorem dX4_rolls_40 : decode cX4_rolls 40 = .ok (.istore 5, 2) := by decide +kernel
theorem dX4_rolls_42 : decode cX4_rolls 42 = .ok (.iload 5, 2) := by decide +kernel
theorem dX4_rolls_44 : decode cX4_rolls 44 = .ok (.iload_n 2, 1) := by decide +kernel
theorem dX4_rolls_45 : decode cX4_rolls 45 = .ok (.if_icmp .ge 39, 3) := by decide +kernel
theorem dX4_rolls_48 : decode cX4_rolls 48 = .ok (.iload 4, 2) := by decide +kernel
theorem dX4_rolls_50 : decode cX4_rolls 50 = .ok (.iload_n 1, 1) := by decide +kernel
theorem dX4_rolls_51 : decode cX4_rolls 51 = .ok (.if_icmp .ge 16, 3) := by decide +kernel
theorem dX4_rolls_54 : decode cX4_rolls 54 = .ok (.iinc 3 1, 3) := by decide +kernel
theorem dX4_rolls_57 : decode cX4_rolls 57 = .ok (.aload_n 0, 1) := by decide +kernel
theorem dX4_rolls_58 : decode cX4_rolls 58 = .ok (.getfield 12, 3) := by decide +kernel
theorem dX4_rolls_61 : decode cX4_rolls 61 = .ok (.iconst 0, 1) := by decide +kernel
theorem dX4_rolls_62 : decode cX4_rolls 62 = .ok (.invokevirtual 117, 3) := by decide +kernel
theorem dX4_rolls_65 : decode cX4_rolls 65 = .ok (.istore 4, 2) := by decide +kernel
theorem dX4_rolls_67 : decode cX4_rolls 67 = .ok (.iload 4, 2) := by decide +kernel
theorem dX4_rolls_69 : decode cX4_rolls 69 = .ok (.iload_n 1, 1) := by decide +kernel
theorem dX4_rolls_70 : decode cX4_rolls 70 = .ok (.iload 4, 2) := by decide +kernel
theorem dX4_rolls_72 : decode cX4_rolls 72 = .ok (.invokestatic 239, 3) := by decide +kernel
theorem dX4_rolls_75 : decode cX4_rolls 75 = .ok (.isub, 1) := by decide +kernel
theorem dX4_rolls_76 : decode cX4_rolls 76 = .ok (.istore 4, 2) := by decide +kernel
theorem dX4_rolls_78 : decode cX4_rolls 78 = .ok (.iinc 5 1, 3) := by decide +kernel
theorem dX4_rolls_81 : decode cX4_rolls 81 = .ok (.goto (-39), 3) := by decide +kernel
theorem dX4_rolls_84 : decode cX4_rolls 84 = .ok (.iload_n 3, 1) := by decide +kernel
theorem dX4_rolls_85 : decode cX4_rolls 85 = .ok (.ireturn, 1) := by decide +kernel
set_option maxRecDepth 20000 in
theorem ggX4_ifFalse_X3_hasTake : GoodIn wsX4_ifFalse wsX3_hasTake := goodIn_r _ [9, 10, 66] (by decide +kernel) (by decide +kernel)
set_option maxRecDepth 20000 in
theorem gX4_ifFalse_X3_hasTake : GoodIn wsX4_ifFalse (wsV RX4 93 RX3 yX3_hasTake wsX3_hasTake) := goodIn_app (goodIn_of _ (by decide +kernel)) ggX4_ifFalse_X3_hasTake
set_option maxRecDepth 20000 in
theorem ggX4_ifFalse_X3_copyFrom : GoodIn wsX4_ifFalse wsX3_copyFrom := goodIn_r _ [14, 10, 15, 16, 17, 18, 66] (by decide +kernel) (by decide +kernel)
set_option maxRecDepth 20000 in
theorem gX4_ifFalse_X3_copyFrom : GoodIn wsX4_ifFalse (wsV RX4 244 RX3 yX3_copyFrom wsX3_copyFrom) := goodIn_app (goodIn_of _ (by decide +kernel)) ggX4_ifFalse_X3_copyFrom
set_option maxRecDepth 20000 in
theorem ggX4_ifFalse_X3_of : GoodIn wsX4_ifFalse wsX3_of := goodIn_r _ [22, 10, 66] (by decide +kernel) (by decide +kernel)
set_option maxRecDepth 20000 in
theorem gX4_ifFalse_X3_of : GoodIn wsX4_ifFalse (wsV RX4 215 RX3 yX3_of wsX3_of) := goodIn_app (goodIn_of _ (by decide +kernel)) ggX4_ifFalse_X3_of
set_option maxRecDepth 20000 in
theorem ggX4_ifFalse_X3_mark : GoodIn wsX4_ifFalse wsX3_mark := goodIn_r _ [26, 27, 6, 7, 8, 9, 10, 28, 29, 30, 31, 66] (by decide +kernel) (by decide +kernel)
set_option maxRecDepth 20000 in
theorem gX4_ifFalse_X3_mark : GoodIn wsX4_ifFalse (wsV RX4 166 RX3 yX3_mark wsX3_mark) := goodIn_app (goodIn_of _ (by decide +kernel)) ggX4_ifFalse_X3_mark
set_option maxRecDepth 20000 in
theorem ggX4_ifFalse_X3_wrongSet : GoodIn wsX4_ifFalse wsX3_wrongSet := goodIn_r _ [35, 36, 37, 38, 8, 39, 10, 40, 41, 42, 43, 44, 20, 21, 22, 45, 46, 47, 48, 49, 50, 51, 52, 53, 54, 55, 56, 66] (by decide +kernel) (by decide +kernel)
set_option maxRecDepth 20000 in
theorem gX4_ifFalse_X3_wrongSet : GoodIn wsX4_ifFalse (wsV RX4 248 RX3 yX3_wrongSet wsX3_wrongSet) := goodIn_app (goodIn_of _ (by decide +kernel)) ggX4_ifFalse_X3_wrongSet
theorem dX4_ifFalse_0 : decode cX4_ifFalse 0 = .ok (.aload_n 0, 1) := by decide +kernel
theorem dX4_ifFalse_1 : decode cX4_ifFalse 1 = .ok (.getfield 12, 3) := by decide +kernel
theorem dX4_ifFalse_4 : decode cX4_ifFalse 4 = .ok (.iload_n 1, 1) := by decide +kernel
theorem dX4_ifFalse_5 : decode cX4_ifFalse 5 = .ok (.invokevirtual 93, 3) := by decide +kernel
theorem dX4_ifFalse_8 : decode cX4_ifFalse 8 = .ok (.ifCond .ne 13, 3) := by decide +kernel
theorem dX4_ifFalse_11 : decode cX4_ifFalse 11 = .ok (.new 97, 3) := by decide +kernel
theorem dX4_ifFalse_14 : decode cX4_ifFalse 14 = .ok (.dup, 1) := by decide +kernel
theorem dX4_ifFalse_15 : decode cX4_ifFalse 15 = .ok (.ldc 99, 2) := by decide +kernel
theorem dX4_ifFalse_17 : decode cX4_ifFalse 17 = .ok (.invokespecial 101, 3) := by decide +kernel
theorem dX4_ifFalse_20 : decode cX4_ifFalse 20 = .ok (.athrow, 1) := by decide +kernel
theorem dX4_ifFalse_21 : decode cX4_ifFalse 21 = .ok (.aload_n 0, 1) := by decide +kernel
theorem dX4_ifFalse_22 : decode cX4_ifFalse 22 = .ok (.getfield 16, 3) := by decide +kernel
theorem dX4_ifFalse_25 : decode cX4_ifFalse 25 = .ok (.aload_n 0, 1) := by decide +kernel
theorem dX4_ifFalse_26 : decode cX4_ifFalse 26 = .ok (.getfield 12, 3) := by decide +kernel
theorem dX4_ifFalse_29 : decode cX4_ifFalse 29 = .ok (.invokevirtual 244, 3) := by decide +kernel
theorem dX4_ifFalse_32 : decode cX4_ifFalse 32 = .ok (.aload_n 0, 1) := by decide +kernel
theorem dX4_ifFalse_33 : decode cX4_ifFalse 33 = .ok (.getfield 16, 3) := by decide +kernel
theorem dX4_ifFalse_36 : decode cX4_ifFalse 36 = .ok (.iload_n 1, 1) := by decide +kernel
theorem dX4_ifFalse_37 : decode cX4_ifFalse 37 = .ok (.bipush 15, 2) := by decide +kernel
theorem dX4_ifFalse_39 : decode cX4_ifFalse 39 = .ok (.aload_n 0, 1) := by decide +kernel
theorem dX4_ifFalse_40 : decode cX4_ifFalse 40 = .ok (.getfield 12, 3) := by decide +kernel
theorem dX4_ifFalse_43 : decode cX4_ifFalse 43 = .ok (.iload_n 1, 1) := by decide +kernel
theorem dX4_ifFalse_44 : decode cX4_ifFalse 44 = .ok (.bipush 15, 2) := by decide +kernel
theorem dX4_ifFalse_46 : decode cX4_ifFalse 46 = .ok (.invokevirtual 215, 3) := by decide +kernel
theorem dX4_ifFalse_49 : decode cX4_ifFalse 49 = .ok (.ifCond .ne 7, 3) := by decide +kernel
theorem dX4_ifFalse_52 : decode cX4_ifFalse 52 = .ok (.iconst 1, 1) := by decide +kernel
theorem dX4_ifFalse_53 : decode cX4_ifFalse 53 = .ok (.goto 4, 3) := by decide +kernel
theorem dX4_ifFalse_56 : decode cX4_ifFalse 56 = .ok (.iconst 0, 1) := by decide +kernel
theorem dX4_ifFalse_57 : decode cX4_ifFalse 57 = .ok (.invokevirtual 166, 3) := by decide +kernel
theorem dX4_ifFalse_60 : decode cX4_ifFalse 60 = .ok (.pop, 1) := by decide +kernel
theorem dX4_ifFalse_61 : decode cX4_ifFalse 61 = .ok (.aload_n 0, 1) := by decide +kernel
theorem dX4_ifFalse_62 : decode cX4_ifFalse 62 = .ok (.getfield 12, 3) := by decide +kernel
theorem dX4_ifFalse_65 : decode cX4_ifFalse 65 = .ok (.invokevirtual 248, 3) := by decide +kernel
theorem dX4_ifFalse_68 : decode cX4_ifFalse 68 = .ok (.aload_n 0, 1) := by decide +kernel
theorem dX4_ifFalse_69 : decode cX4_ifFalse 69 = .ok (.getfield 16, 3) := by decide +kernel
theorem dX4_ifFalse_72 : decode cX4_ifFalse 72 = .ok (.invokevirtual 248, 3) := by decide +kernel
theorem dX4_ifFalse_75 : decode cX4_ifFalse 75 = .ok (.ixor, 1) := by decide +kernel
theorem dX4_ifFalse_76 : decode cX4_ifFalse 76 = .ok (.ireturn, 1) := by decide +kernel
set_option maxRecDepth 20000 in
theorem ggX4_scene_X3_ofScene : GoodIn wsX4_scene wsX3_ofScene := goodIn_r _ [8, 9, 10, 11, 7, 12, 13, 14, 15, 16, 17, 18, 19, 20, 21, 22, 23, 24, 34] (by decide +kernel) (by decide +kernel)
set_option maxRecDepth 20000 in
theorem gX4_scene_X3_ofScene : GoodIn wsX4_scene (wsV RX4 253 RX3 yX3_ofScene wsX3_ofScene) := goodIn_app (goodIn_of _ (by decide +kernel)) ggX4_scene_X3_ofScene
theorem dX4_scene_0 : decode cX4_scene 0 = .ok (.iload_n 2, 1) := by decide +kernel
theorem dX4_scene_1 : decode cX4_scene 1 = .ok (.ifCond .lt 8, 3) := by decide +kernel
theorem dX4_scene_4 : decode cX4_scene 4 = .ok (.iload_n 2, 1) := by decide +kernel
theorem dX4_scene_5 : decode cX4_scene 5 = .ok (.iconst 4, 1) := by decide +kernel
theorem dX4_scene_6 : decode cX4_scene 6 = .ok (.if_icmp .le 13, 3) := by decide +kernel
theorem dX4_scene_9 : decode cX4_scene 9 = .ok (.new 49, 3) := by decide +kernel
theorem dX4_scene_12 : decode cX4_scene 12 = .ok (.dup, 1) := by decide +kernel
theorem dX4_scene_13 : decode cX4_scene 13 = .ok (.ldc 251, 2) := by decide +kernel
theorem dX4_scene_15 : decode cX4_scene 15 = .ok (.invokespecial 53, 3) := by decide +kernel
theorem dX4_scene_18 : decode cX4_scene 18 = .ok (.athrow, 1) := by decide +kernel
theorem dX4_scene_19 : decode cX4_scene 19 = .ok (.aload_n 0, 1) := by decide +kernel
theorem dX4_scene_20 : decode cX4_scene 20 = .ok (.getfield 12, 3) := by decide +kernel
theorem dX4_scene_23 : decode cX4_scene 23 = .ok (.iload_n 1, 1) := by decide +kernel
theorem dX4_scene_24 : decode cX4_scene 24 = .ok (.iload_n 2, 1) := by decide +kernel
theorem dX4_scene_25 : decode cX4_scene 25 = .ok (.invokevirtual 253, 3) := by decide +kernel
theorem dX4_scene_28 : decode cX4_scene 28 = .ok (.ireturn, 1) := by decide +kernel
set_option maxRecDepth 20000 in
theorem ggX4_runScript_X4_withoutGroups : GoodIn wsX4_runScript wsX4_withoutGroups := goodIn_r _ [9, 5] (by decide +kernel) (by decide +kernel)
set_option maxRecDepth 20000 in
theorem gX4_runScript_X4_withoutGroups : GoodIn wsX4_runScript (va_wsS RX4 258 yX4_withoutGroups wsX4_withoutGroups) := goodIn_app (goodIn_of _ (by decide +kernel)) ggX4_runScript_X4_withoutGroups
set_option maxRecDepth 20000 in
theorem ggX4_runScript_X3_copyFrom : GoodIn wsX4_runScript wsX3_copyFrom := goodIn_r _ [14, 15, 16, 17, 18, 19, 167] (by decide +kernel) (by decide +kernel)
set_option maxRecDepth 20000 in
theorem gX4_runScript_X3_copyFrom : GoodIn wsX4_runScript (wsV RX4 244 RX3 yX3_copyFrom wsX3_copyFrom) := goodIn_app (goodIn_of _ (by decide +kernel)) ggX4_runScript_X3_copyFrom
set_option maxRecDepth 20000 in
theorem ggX4_runScript_X4_succeeds : GoodIn wsX4_runScript wsX4_succeeds := goodIn_r _ [23, 3, 24, 25, 26, 13, 27, 28, 8, 29, 30, 31, 32, 33, 34, 35, 36, 37, 15, 38, 39, 40, 41, 42, 43, 44, 45, 46, 47, 48, 49, 50, 51, 52, 53, 54, 55, 56, 57, 58, 59, 60, 61, 62, 63, 64, 65, 66, 67, 68, 69, 70, 71, 72, 73, 74, 75, 76, 77, 78, 79, 80, 81, 82, 83, 84, 85, 86, 87, 88, 89, 90, 91, 92, 93, 94, 95, 96, 97, 98, 99, 100, 101, 102, 103, 104, 105, 106, 107, 108, 109, 110, 111, 112, 113, 114, 115, 116, 117, 118, 119, 120, 121, 122, 123, 124, 125, 126, 127, 128, 129, 130, 131, 132, 133, 134, 135, 136, 137, 138, 139, 140, 141, 142, 143, 144, 145, 146, 147, 148, 149, 150, 151, 152, 153, 154, 155, 156, 157, 158, 159, 160, 161, 162, 163, 164, 165, 166, 167] (by decide +kernel) (by decide +kernel)
set_option maxRecDepth 20000 in
theorem gX4_runScript_X4_succeeds : GoodIn wsX4_runScript (wsV RX4 266 RX4 yX4_succeeds wsX4_succeeds) := goodIn_app (goodIn_of _ (by decide +kernel)) ggX4_runScript_X4_succeeds
theorem dX4_runScript_0 : decode cX4_runScript 0 = .ok (.iload_n 1, 1) := by decide +kernel
theorem dX4_runScript_1 : decode cX4_runScript 1 = .ok (.iconst 1, 1) := by decide +kernel
theorem dX4_runScript_2 : decode cX4_runScript 2 = .ok (.if_icmp .lt 8, 3) := by decide +kernel
theorem dX4_runScript_5 : decode cX4_runScript 5 = .ok (.iload_n 1, 1) := by decide +kernel
theorem dX4_runScript_6 : decode cX4_runScript 6 = .ok (.iconst 3, 1) := by decide +kernel
theorem dX4_runScript_7 : decode cX4_runScript 7 = .ok (.if_icmp .le 14, 3) := by decide +kernel
theorem dX4_runScript_10 : decode cX4_runScript 10 = .ok (.new 49, 3) := by decide +kernel
theorem dX4_runScript_13 : decode cX4_runScript 13 = .ok (.dup, 1) := by decide +kernel
theorem dX4_runScript_14 : decode cX4_runScript 14 = .ok (.ldc_w 256, 3) := by decide +kernel
theorem dX4_runScript_17 : decode cX4_runScript 17 = .ok (.invokespecial 53, 3) := by decide +kernel
theorem dX4_runScript_20 : decode cX4_runScript 20 = .ok (.athrow, 1) := by decide +kernel
theorem dX4_runScript_21 : decode cX4_runScript 21 = .ok (.lload_n 2, 1) := by decide +kernel
theorem dX4_runScript_22 : decode cX4_runScript 22 = .ok (.lconst 0, 1) := by decide +kernel
theorem dX4_runScript_23 : decode cX4_runScript 23 = .ok (.lcmp, 1) := by decide +kernel
theorem dX4_runScript_24 : decode cX4_runScript 24 = .ok (.ifCond .lt 13, 3) := by decide +kernel
theorem dX4_runScript_27 : decode cX4_runScript 27 = .ok (.lload_n 2, 1) := by decide +kernel
theorem dX4_runScript_28 : decode cX4_runScript 28 = .ok (.iload_n 1, 1) := by decide +kernel
theorem dX4_runScript_29 : decode cX4_runScript 29 = .ok (.invokestatic 258, 3) := by decide +kernel
theorem dX4_runScript_32 : decode cX4_runScript 32 = .ok (.lconst 0, 1) := by decide +kernel
theorem dX4_runScript_33 : decode cX4_runScript 33 = .ok (.lcmp, 1) := by decide +kernel
theorem dX4_runScript_34 : decode cX4_runScript 34 = .ok (.ifCond .le 14, 3) := by decide +kernel
theorem dX4_runScript_37 : decode cX4_runScript 37 = .ok (.new 49, 3) := by decide +kernel
theorem dX4_runScript_40 : decode cX4_runScript 40 = .ok (.dup, 1) := by decide +kernel
theorem dX4_runScript_41 : decode cX4_runScript 41 = .ok (.ldc_w 262, 3) := by decide +kernel
theorem dX4_runScript_44 : decode cX4_runScript 44 = .ok (.invokespecial 53, 3) := by decide +kernel
theorem dX4_runScript_47 : decode cX4_runScript 47 = .ok (.athrow, 1) := by decide +kernel
theorem dX4_runScript_48 : decode cX4_runScript 48 = .ok (.aload_n 0, 1) := by decide +kernel
theorem dX4_runScript_49 : decode cX4_runScript 49 = .ok (.getfield 16, 3) := by decide +kernel
theorem dX4_runScript_52 : decode cX4_runScript 52 = .ok (.aload_n 0, 1) := by decide +kernel
theorem dX4_runScript_53 : decode cX4_runScript 53 = .ok (.getfield 12, 3) := by decide +kernel
theorem dX4_runScript_56 : decode cX4_runScript 56 = .ok (.invokevirtual 244, 3) := by decide +kernel
theorem dX4_runScript_59 : decode cX4_runScript 59 = .ok (.iconst 0, 1) := by decide +kernel
theorem dX4_runScript_60 : decode cX4_runScript 60 = .ok (.istore 4, 2) := by decide +kernel
theorem dX4_runScript_62 : decode cX4_runScript 62 = .ok (.iload 4, 2) := by decide +kernel
theorem dX4_runScript_64 : decode cX4_runScript 64 = .ok (.iload_n 1, 1) := by decide +kernel
theorem dX4_runScript_65 : decode cX4_runScript 65 = .ok (.if_icmp .ge 34, 3) := by decide +kernel
theorem dX4_runScript_68 : decode cX4_runScript 68 = .ok (.aload_n 0, 1) := by decide +kernel
theorem dX4_runScript_69 : decode cX4_runScript 69 = .ok (.lload_n 2, 1) := by decide +kernel
theorem dX4_runScript_70 : decode cX4_runScript 70 = .ok (.iload_n 1, 1) := by decide +kernel
theorem dX4_runScript_71 : decode cX4_runScript 71 = .ok (.iconst 1, 1) := by decide +kernel
theorem dX4_runScript_72 : decode cX4_runScript 72 = .ok (.isub, 1) := by decide +kernel
theorem dX4_runScript_73 : decode cX4_runScript 73 = .ok (.iload 4, 2) := by decide +kernel
theorem dX4_runScript_75 : decode cX4_runScript 75 = .ok (.isub, 1) := by decide +kernel
theorem dX4_runScript_76 : decode cX4_runScript 76 = .ok (.invokestatic 258, 3) := by decide +kernel
theorem dX4_runScript_79 : decode cX4_runScript 79 = .ok (.ldc2_w 264, 3) := by decide +kernel
theorem dX4_runScript_82 : decode cX4_runScript 82 = .ok (.lrem, 1) := by decide +kernel
theorem dX4_runScript_83 : decode cX4_runScript 83 = .ok (.l2i, 1) := by decide +kernel
theorem dX4_runScript_84 : decode cX4_runScript 84 = .ok (.invokevirtual 266, 3) := by decide +kernel
theorem dX4_runScript_87 : decode cX4_runScript 87 = .ok (.ifCond .ne 6, 3) := by decide +kernel
theorem dX4_runScript_90 : decode cX4_runScript 90 = .ok (.iload 4, 2) := by decide +kernel
theorem dX4_runScript_92 : decode cX4_runScript 92 = .ok (.ireturn, 1) := by decide +kernel
theorem dX4_runScript_93 : decode cX4_runScript 93 = .ok (.iinc 4 1, 3) := by decide +kernel
theorem dX4_runScript_96 : decode cX4_runScript 96 = .ok (.goto (-34), 3) := by decide +kernel
theorem dX4_runScript_99 : decode cX4_runScript 99 = .ok (.iconst (-1), 1) := by decide +kernel
theorem dX4_runScript_100 : decode cX4_runScript 100 = .ok (.ireturn, 1) := by decide +kernel
set_option maxRecDepth 20000 in
theorem ggX4_simulate_X3_copyFrom : GoodIn wsX4_simulate wsX3_copyFrom := goodIn_r _ [11, 12, 13, 14, 15, 16, 168] (by decide +kernel) (by decide +kernel)
set_option maxRecDepth 20000 in
theorem gX4_simulate_X3_copyFrom : GoodIn wsX4_simulate (wsV RX4 244 RX3 yX3_copyFrom wsX3_copyFrom) := goodIn_app (goodIn_of _ (by decide +kernel)) ggX4_simulate_X3_copyFrom
set_option maxRecDepth 20000 in
theorem ggX4_simulate_X4_doTurn : GoodIn wsX4_simulate wsX4_doTurn := goodIn_r _ [21, 3, 22, 23, 24, 10, 25, 12, 26, 27, 28, 29, 30, 31, 32, 33, 34, 35, 36, 37, 38, 39, 40, 41, 42, 43, 44, 45, 46, 47, 48, 49, 50, 51, 52, 53, 54, 55, 56, 57, 58, 59, 60, 61, 62, 63, 64, 65, 66, 67, 68, 69, 70, 71, 72, 73, 74, 75, 76, 77, 78, 79, 80, 81, 82, 83, 84, 85, 86, 87, 88, 89, 90, 91, 92, 93, 94, 95, 20, 96, 97, 98, 99, 100, 101, 102, 103, 104, 105, 106, 107, 108, 109, 110, 111, 112, 113, 114, 115, 116, 117, 118, 119, 120, 121, 122, 123, 124, 125, 126, 127, 159, 160, 161, 162, 163, 164, 165, 166, 167, 168] (by decide +kernel) (by decide +kernel)
set_option maxRecDepth 20000 in
theorem gX4_simulate_X4_doTurn : GoodIn wsX4_simulate (wsV RX4 275 RX4 yX4_doTurn wsX4_doTurn) := goodIn_app (goodIn_of _ (by decide +kernel)) ggX4_simulate_X4_doTurn
set_option maxRecDepth 20000 in
theorem ggX4_simulate_X3_wrongSlates : GoodIn wsX4_simulate wsX3_wrongSlates := goodIn_r _ [131, 132, 133, 134, 10, 135, 34, 35, 36, 37, 12, 79, 80, 81, 82, 42, 43, 44, 45, 83, 84, 85, 86, 38, 39, 40, 41, 87, 88, 89, 90, 136, 137, 138, 139, 140, 141, 142, 168] (by decide +kernel) (by decide +kernel)
set_option maxRecDepth 20000 in
theorem gX4_simulate_X3_wrongSlates : GoodIn wsX4_simulate (wsV RX4 173 RX3 yX3_wrongSlates wsX3_wrongSlates) := goodIn_app (goodIn_of _ (by decide +kernel)) ggX4_simulate_X3_wrongSlates
set_option maxRecDepth 20000 in
theorem ggX4_simulate_X3_unlikeSounds : GoodIn wsX4_simulate wsX3_unlikeSounds := goodIn_r _ [146, 34, 35, 36, 10, 37, 12, 147, 148, 149, 150, 42, 43, 44, 45, 151, 152, 153, 154, 155, 156, 157, 158, 168] (by decide +kernel) (by decide +kernel)
set_option maxRecDepth 20000 in
theorem gX4_simulate_X3_unlikeSounds : GoodIn wsX4_simulate (wsV RX4 278 RX3 yX3_unlikeSounds wsX3_unlikeSounds) := goodIn_app (goodIn_of _ (by decide +kernel)) ggX4_simulate_X3_unlikeSounds
theorem dX4_simulate_0 : decode cX4_simulate 0 = .ok (.iload_n 3, 1) := by decide +kernel
theorem dX4_simulate_1 : decode cX4_simulate 1 = .ok (.iconst 1, 1) := by decide +kernel
theorem dX4_simulate_2 : decode cX4_simulate 2 = .ok (.if_icmp .lt 9, 3) := by decide +kernel
theorem dX4_simulate_5 : decode cX4_simulate 5 = .ok (.iload_n 3, 1) := by decide +kernel
theorem dX4_simulate_6 : decode cX4_simulate 6 = .ok (.bipush 80, 2) := by decide +kernel
theorem dX4_simulate_8 : decode cX4_simulate 8 = .ok (.if_icmp .le 14, 3) := by decide +kernel
theorem dX4_simulate_11 : decode cX4_simulate 11 = .ok (.new 49, 3) := by decide +kernel
theorem dX4_simulate_14 : decode cX4_simulate 14 = .ok (.dup, 1) := by decide +kernel
theorem dX4_simulate_15 : decode cX4_simulate 15 = .ok (.ldc_w 269, 3) := by decide +kernel
theorem dX4_simulate_18 : decode cX4_simulate 18 = .ok (.invokespecial 53, 3) := by decide +kernel
theorem dX4_simulate_21 : decode cX4_simulate 21 = .ok (.athrow, 1) := by decide +kernel
theorem dX4_simulate_22 : decode cX4_simulate 22 = .ok (.aload_n 0, 1) := by decide +kernel
theorem dX4_simulate_23 : decode cX4_simulate 23 = .ok (.getfield 16, 3) := by decide +kernel
theorem dX4_simulate_26 : decode cX4_simulate 26 = .ok (.aload_n 0, 1) := by decide +kernel
theorem dX4_simulate_27 : decode cX4_simulate 27 = .ok (.getfield 12, 3) := by decide +kernel
theorem dX4_simulate_30 : decode cX4_simulate 30 = .ok (.invokevirtual 244, 3) := by decide +kernel
theorem dX4_simulate_33 : decode cX4_simulate 33 = .ok (.lload_n 1, 1) := by decide +kernel
theorem dX4_simulate_34 : decode cX4_simulate 34 = .ok (.lstore 4, 2) := by decide +kernel
theorem dX4_simulate_36 : decode cX4_simulate 36 = .ok (.iconst 0, 1) := by decide +kernel
theorem dX4_simulate_37 : decode cX4_simulate 37 = .ok (.istore 6, 2) := by decide +kernel
theorem dX4_simulate_39 : decode cX4_simulate 39 = .ok (.iload 6, 2) := by decide +kernel
theorem dX4_simulate_41 : decode cX4_simulate 41 = .ok (.iload_n 3, 1) := by decide +kernel
theorem dX4_simulate_42 : decode cX4_simulate 42 = .ok (.if_icmp .ge 31, 3) := by decide +kernel
theorem dX4_simulate_45 : decode cX4_simulate 45 = .ok (.lload 4, 2) := by decide +kernel
theorem dX4_simulate_47 : decode cX4_simulate 47 = .ok (.ldc2_w 271, 3) := by decide +kernel
theorem dX4_simulate_50 : decode cX4_simulate 50 = .ok (.lmul, 1) := by decide +kernel
theorem dX4_simulate_51 : decode cX4_simulate 51 = .ok (.ldc2_w 273, 3) := by decide +kernel
theorem dX4_simulate_54 : decode cX4_simulate 54 = .ok (.ladd, 1) := by decide +kernel
theorem dX4_simulate_55 : decode cX4_simulate 55 = .ok (.lstore 4, 2) := by decide +kernel
theorem dX4_simulate_57 : decode cX4_simulate 57 = .ok (.aload_n 0, 1) := by decide +kernel
theorem dX4_simulate_58 : decode cX4_simulate 58 = .ok (.lload 4, 2) := by decide +kernel
theorem dX4_simulate_60 : decode cX4_simulate 60 = .ok (.bipush 33, 2) := by decide +kernel
theorem dX4_simulate_62 : decode cX4_simulate 62 = .ok (.lushr, 1) := by decide +kernel
theorem dX4_simulate_63 : decode cX4_simulate 63 = .ok (.l2i, 1) := by decide +kernel
theorem dX4_simulate_64 : decode cX4_simulate 64 = .ok (.invokevirtual 275, 3) := by decide +kernel
theorem dX4_simulate_67 : decode cX4_simulate 67 = .ok (.iinc 6 1, 3) := by decide +kernel
theorem dX4_simulate_70 : decode cX4_simulate 70 = .ok (.goto (-31), 3) := by decide +kernel
theorem dX4_simulate_73 : decode cX4_simulate 73 = .ok (.sipush 1000, 3) := by decide +kernel
theorem dX4_simulate_76 : decode cX4_simulate 76 = .ok (.aload_n 0, 1) := by decide +kernel
theorem dX4_simulate_77 : decode cX4_simulate 77 = .ok (.getfield 16, 3) := by decide +kernel
theorem dX4_simulate_80 : decode cX4_simulate 80 = .ok (.invokevirtual 173, 3) := by decide +kernel
theorem dX4_simulate_83 : decode cX4_simulate 83 = .ok (.imul, 1) := by decide +kernel
theorem dX4_simulate_84 : decode cX4_simulate 84 = .ok (.aload_n 0, 1) := by decide +kernel
theorem dX4_simulate_85 : decode cX4_simulate 85 = .ok (.getfield 16, 3) := by decide +kernel
theorem dX4_simulate_88 : decode cX4_simulate 88 = .ok (.invokevirtual 278, 3) := by decide +kernel
theorem dX4_simulate_91 : decode cX4_simulate 91 = .ok (.iadd, 1) := by decide +kernel
theorem dX4_simulate_92 : decode cX4_simulate 92 = .ok (.ireturn, 1) := by decide +kernel
set_option maxRecDepth 20000 in
theorem ggX4_save_X2_store : GoodIn wsX4_save wsX2_store := goodIn_r _ [10, 11, 12, 13, 14, 15, 16, 32, 33, 34] (by decide +kernel) (by decide +kernel)
set_option maxRecDepth 20000 in
theorem gX4_save_X2_store : GoodIn wsX4_save (wsV RX4 283 RX2 yX2_store wsX2_store) := goodIn_app (goodIn_of _ (by decide +kernel)) ggX4_save_X2_store
set_option maxRecDepth 20000 in
theorem ggX4_save_X3_takes : GoodIn wsX4_save wsX3_takes := goodIn_r _ [21, 22, 34] (by decide +kernel) (by decide +kernel)
set_option maxRecDepth 20000 in
theorem gX4_save_X3_takes : GoodIn wsX4_save (wsV RX4 212 RX3 yX3_takes wsX3_takes) := goodIn_app (goodIn_of _ (by decide +kernel)) ggX4_save_X3_takes
theorem dX4_save_0 : decode cX4_save 0 = .ok (.iload_n 1, 1) := by decide +kernel
theorem dX4_save_1 : decode cX4_save 1 = .ok (.ifCond .lt 8, 3) := by decide +kernel
theorem dX4_save_4 : decode cX4_save 4 = .ok (.iload_n 1, 1) := by decide +kernel
theorem dX4_save_5 : decode cX4_save 5 = .ok (.iconst 2, 1) := by decide +kernel
theorem dX4_save_6 : decode cX4_save 6 = .ok (.if_icmp .lt 14, 3) := by decide +kernel
theorem dX4_save_9 : decode cX4_save 9 = .ok (.new 97, 3) := by decide +kernel
theorem dX4_save_12 : decode cX4_save 12 = .ok (.dup, 1) := by decide +kernel
theorem dX4_save_13 : decode cX4_save 13 = .ok (.ldc_w 281, 3) := by decide +kernel
theorem dX4_save_16 : decode cX4_save 16 = .ok (.invokespecial 101, 3) := by decide +kernel
theorem dX4_save_19 : decode cX4_save 19 = .ok (.athrow, 1) := by decide +kernel
theorem dX4_save_20 : decode cX4_save 20 = .ok (.aload_n 0, 1) := by decide +kernel
theorem dX4_save_21 : decode cX4_save 21 = .ok (.getfield 28, 3) := by decide +kernel
theorem dX4_save_24 : decode cX4_save 24 = .ok (.iload_n 1, 1) := by decide +kernel
theorem dX4_save_25 : decode cX4_save 25 = .ok (.aload_n 0, 1) := by decide +kernel
theorem dX4_save_26 : decode cX4_save 26 = .ok (.getfield 12, 3) := by decide +kernel
theorem dX4_save_29 : decode cX4_save 29 = .ok (.invokevirtual 283, 3) := by decide +kernel
theorem dX4_save_32 : decode cX4_save 32 = .ok (.aload_n 0, 1) := by decide +kernel
theorem dX4_save_33 : decode cX4_save 33 = .ok (.getfield 31, 3) := by decide +kernel
theorem dX4_save_36 : decode cX4_save 36 = .ok (.iload_n 1, 1) := by decide +kernel
theorem dX4_save_37 : decode cX4_save 37 = .ok (.iconst 1, 1) := by decide +kernel
theorem dX4_save_38 : decode cX4_save 38 = .ok (.bastore, 1) := by decide +kernel
theorem dX4_save_39 : decode cX4_save 39 = .ok (.aload_n 0, 1) := by decide +kernel
theorem dX4_save_40 : decode cX4_save 40 = .ok (.getfield 12, 3) := by decide +kernel
theorem dX4_save_43 : decode cX4_save 43 = .ok (.invokevirtual 212, 3) := by decide +kernel
theorem dX4_save_46 : decode cX4_save 46 = .ok (.ireturn, 1) := by decide +kernel
set_option maxRecDepth 20000 in
theorem ggX4_restore_X2_fetch : GoodIn wsX4_restore wsX2_fetch := goodIn_r _ [12, 13, 14, 15, 16, 17, 18, 41, 42, 43] (by decide +kernel) (by decide +kernel)
set_option maxRecDepth 20000 in
theorem gX4_restore_X2_fetch : GoodIn wsX4_restore (wsV RX4 201 RX2 yX2_fetch wsX2_fetch) := goodIn_app (goodIn_of _ (by decide +kernel)) ggX4_restore_X2_fetch
set_option maxRecDepth 20000 in
theorem ggX4_restore_X4_forget : GoodIn wsX4_restore wsX4_forget := goodIn_r _ [23, 24, 25, 32, 33, 34, 35, 36, 37, 38, 39, 40] (by decide +kernel) (by decide +kernel)
set_option maxRecDepth 20000 in
theorem gX4_restore_X4_forget : GoodIn wsX4_restore (wsV RX4 81 RX4 yX4_forget wsX4_forget) := goodIn_app (goodIn_of _ (by decide +kernel)) ggX4_restore_X4_forget
set_option maxRecDepth 20000 in
theorem ggX4_restore_X3_takes : GoodIn wsX4_restore wsX3_takes := goodIn_r _ [30, 31, 43] (by decide +kernel) (by decide +kernel)
set_option maxRecDepth 20000 in
theorem gX4_restore_X3_takes : GoodIn wsX4_restore (wsV RX4 212 RX3 yX3_takes wsX3_takes) := goodIn_app (goodIn_of _ (by decide +kernel)) ggX4_restore_X3_takes
theorem dX4_restore_0 : decode cX4_restore 0 = .ok (.iload_n 1, 1) := by decide +kernel
theorem dX4_restore_1 : decode cX4_restore 1 = .ok (.ifCond .lt 8, 3) := by decide +kernel
theorem dX4_restore_4 : decode cX4_restore 4 = .ok (.iload_n 1, 1) := by decide +kernel
theorem dX4_restore_5 : decode cX4_restore 5 = .ok (.iconst 2, 1) := by decide +kernel
theorem dX4_restore_6 : decode cX4_restore 6 = .ok (.if_icmp .lt 14, 3) := by decide +kernel
theorem dX4_restore_9 : decode cX4_restore 9 = .ok (.new 97, 3) := by decide +kernel
theorem dX4_restore_12 : decode cX4_restore 12 = .ok (.dup, 1) := by decide +kernel
theorem dX4_restore_13 : decode cX4_restore 13 = .ok (.ldc_w 281, 3) := by decide +kernel
theorem dX4_restore_16 : decode cX4_restore 16 = .ok (.invokespecial 101, 3) := by decide +kernel
theorem dX4_restore_19 : decode cX4_restore 19 = .ok (.athrow, 1) := by decide +kernel
theorem dX4_restore_20 : decode cX4_restore 20 = .ok (.aload_n 0, 1) := by decide +kernel
theorem dX4_restore_21 : decode cX4_restore 21 = .ok (.getfield 31, 3) := by decide +kernel
theorem dX4_restore_24 : decode cX4_restore 24 = .ok (.iload_n 1, 1) := by decide +kernel
theorem dX4_restore_25 : decode cX4_restore 25 = .ok (.baload, 1) := by decide +kernel
theorem dX4_restore_26 : decode cX4_restore 26 = .ok (.ifCond .ne 14, 3) := by decide +kernel
theorem dX4_restore_29 : decode cX4_restore 29 = .ok (.new 60, 3) := by decide +kernel
theorem dX4_restore_32 : decode cX4_restore 32 = .ok (.dup, 1) := by decide +kernel
theorem dX4_restore_33 : decode cX4_restore 33 = .ok (.ldc_w 286, 3) := by decide +kernel
theorem dX4_restore_36 : decode cX4_restore 36 = .ok (.invokespecial 64, 3) := by decide +kernel
theorem dX4_restore_39 : decode cX4_restore 39 = .ok (.athrow, 1) := by decide +kernel
theorem dX4_restore_40 : decode cX4_restore 40 = .ok (.aload_n 0, 1) := by decide +kernel
theorem dX4_restore_41 : decode cX4_restore 41 = .ok (.getfield 28, 3) := by decide +kernel
theorem dX4_restore_44 : decode cX4_restore 44 = .ok (.iload_n 1, 1) := by decide +kernel
theorem dX4_restore_45 : decode cX4_restore 45 = .ok (.aload_n 0, 1) := by decide +kernel
theorem dX4_restore_46 : decode cX4_restore 46 = .ok (.getfield 12, 3) := by decide +kernel
theorem dX4_restore_49 : decode cX4_restore 49 = .ok (.invokevirtual 201, 3) := by decide +kernel
theorem dX4_restore_52 : decode cX4_restore 52 = .ok (.aload_n 0, 1) := by decide +kernel
theorem dX4_restore_53 : decode cX4_restore 53 = .ok (.invokevirtual 81, 3) := by decide +kernel
theorem dX4_restore_56 : decode cX4_restore 56 = .ok (.aload_n 0, 1) := by decide +kernel
theorem dX4_restore_57 : decode cX4_restore 57 = .ok (.getfield 12, 3) := by decide +kernel
theorem dX4_restore_60 : decode cX4_restore 60 = .ok (.invokevirtual 212, 3) := by decide +kernel
theorem dX4_restore_63 : decode cX4_restore 63 = .ok (.ireturn, 1) := by decide +kernel
theorem dX4_isSetup_0 : decode cX4_isSetup 0 = .ok (.iload_n 0, 1) := by decide +kernel
theorem dX4_isSetup_1 : decode cX4_isSetup 1 = .ok (.iconst 1, 1) := by decide +kernel
theorem dX4_isSetup_2 : decode cX4_isSetup 2 = .ok (.if_icmp .lt 23, 3) := by decide +kernel
theorem dX4_isSetup_5 : decode cX4_isSetup 5 = .ok (.iload_n 0, 1) := by decide +kernel
theorem dX4_isSetup_6 : decode cX4_isSetup 6 = .ok (.bipush 99, 2) := by decide +kernel
theorem dX4_isSetup_8 : decode cX4_isSetup 8 = .ok (.if_icmp .gt 17, 3) := by decide +kernel
theorem dX4_isSetup_11 : decode cX4_isSetup 11 = .ok (.iload_n 1, 1) := by decide +kernel
theorem dX4_isSetup_12 : decode cX4_isSetup 12 = .ok (.ifCond .lt 13, 3) := by decide +kernel
theorem dX4_isSetup_15 : decode cX4_isSetup 15 = .ok (.iload_n 1, 1) := by decide +kernel
theorem dX4_isSetup_16 : decode cX4_isSetup 16 = .ok (.bipush 25, 2) := by decide +kernel
theorem dX4_isSetup_18 : decode cX4_isSetup 18 = .ok (.if_icmp .gt 7, 3) := by decide +kernel
theorem dX4_isSetup_21 : decode cX4_isSetup 21 = .ok (.iconst 1, 1) := by decide +kernel
theorem dX4_isSetup_22 : decode cX4_isSetup 22 = .ok (.goto 4, 3) := by decide +kernel
theorem dX4_isSetup_25 : decode cX4_isSetup 25 = .ok (.iconst 0, 1) := by decide +kernel
theorem dX4_isSetup_26 : decode cX4_isSetup 26 = .ok (.ireturn, 1) := by decide +kernel
theorem dX4_isLength_0 : decode cX4_isLength 0 = .ok (.iload_n 0, 1) := by decide +kernel
theorem dX4_isLength_1 : decode cX4_isLength 1 = .ok (.iconst 1, 1) := by decide +kernel
theorem dX4_isLength_2 : decode cX4_isLength 2 = .ok (.if_icmp .lt 13, 3) := by decide +kernel
theorem dX4_isLength_5 : decode cX4_isLength 5 = .ok (.iload_n 0, 1) := by decide +kernel
theorem dX4_isLength_6 : decode cX4_isLength 6 = .ok (.bipush 120, 2) := by decide +kernel
theorem dX4_isLength_8 : decode cX4_isLength 8 = .ok (.if_icmp .gt 7, 3) := by decide +kernel
theorem dX4_isLength_11 : decode cX4_isLength 11 = .ok (.iconst 1, 1) := by decide +kernel
theorem dX4_isLength_12 : decode cX4_isLength 12 = .ok (.goto 4, 3) := by decide +kernel
theorem dX4_isLength_15 : decode cX4_isLength 15 = .ok (.iconst 0, 1) := by decide +kernel
theorem dX4_isLength_16 : decode cX4_isLength 16 = .ok (.ireturn, 1) := by decide +kernel
theorem dX4_isSetting_0 : decode cX4_isSetting 0 = .ok (.iload_n 0, 1) := by decide +kernel
theorem dX4_isSetting_1 : decode cX4_isSetting 1 = .ok (.ifCond .lt 30, 3) := by decide +kernel
theorem dX4_isSetting_4 : decode cX4_isSetting 4 = .ok (.iload_n 0, 1) := by decide +kernel
theorem dX4_isSetting_5 : decode cX4_isSetting 5 = .ok (.iconst 3, 1) := by decide +kernel
theorem dX4_isSetting_6 : decode cX4_isSetting 6 = .ok (.if_icmp .gt 25, 3) := by decide +kernel
theorem dX4_isSetting_9 : decode cX4_isSetting 9 = .ok (.iload_n 1, 1) := by decide +kernel
theorem dX4_isSetting_10 : decode cX4_isSetting 10 = .ok (.getstatic 288, 3) := by decide +kernel
theorem dX4_isSetting_13 : decode cX4_isSetting 13 = .ok (.iload_n 0, 1) := by decide +kernel
theorem dX4_isSetting_14 : decode cX4_isSetting 14 = .ok (.iaload, 1) := by decide +kernel
theorem dX4_isSetting_15 : decode cX4_isSetting 15 = .ok (.if_icmp .lt 16, 3) := by decide +kernel
theorem dX4_isSetting_18 : decode cX4_isSetting 18 = .ok (.iload_n 1, 1) := by decide +kernel
theorem dX4_isSetting_19 : decode cX4_isSetting 19 = .ok (.getstatic 292, 3) := by decide +kernel
theorem dX4_isSetting_22 : decode cX4_isSetting 22 = .ok (.iload_n 0, 1) := by decide +kernel
theorem dX4_isSetting_23 : decode cX4_isSetting 23 = .ok (.iaload, 1) := by decide +kernel
theorem dX4_isSetting_24 : decode cX4_isSetting 24 = .ok (.if_icmp .gt 7, 3) := by decide +kernel
theorem dX4_isSetting_27 : decode cX4_isSetting 27 = .ok (.iconst 1, 1) := by decide +kernel
theorem dX4_isSetting_28 : decode cX4_isSetting 28 = .ok (.goto 4, 3) := by decide +kernel
theorem dX4_isSetting_31 : decode cX4_isSetting 31 = .ok (.iconst 0, 1) := by decide +kernel
theorem dX4_isSetting_32 : decode cX4_isSetting 32 = .ok (.ireturn, 1) := by decide +kernel
set_option maxRecDepth 20000 in
theorem ggX4_remember_X2_store : GoodIn wsX4_remember wsX2_store := goodIn_r _ [9, 10, 11, 12, 13, 14, 15, 25, 26, 27] (by decide +kernel) (by decide +kernel)
set_option maxRecDepth 20000 in
theorem gX4_remember_X2_store : GoodIn wsX4_remember (wsV RX4 283 RX2 yX2_store wsX2_store) := goodIn_app (goodIn_of _ (by decide +kernel)) ggX4_remember_X2_store
theorem dX4_remember_0 : decode cX4_remember 0 = .ok (.aload_n 0, 1) := by decide +kernel
theorem dX4_remember_1 : decode cX4_remember 1 = .ok (.getfield 192, 3) := by decide +kernel
theorem dX4_remember_4 : decode cX4_remember 4 = .ok (.bipush 14, 2) := by decide +kernel
theorem dX4_remember_6 : decode cX4_remember 6 = .ok (.if_icmp .ne 26, 3) := by decide +kernel
theorem dX4_remember_9 : decode cX4_remember 9 = .ok (.aload_n 0, 1) := by decide +kernel
theorem dX4_remember_10 : decode cX4_remember 10 = .ok (.aload_n 0, 1) := by decide +kernel
theorem dX4_remember_11 : decode cX4_remember 11 = .ok (.getfield 198, 3) := by decide +kernel
theorem dX4_remember_14 : decode cX4_remember 14 = .ok (.iconst 1, 1) := by decide +kernel
theorem dX4_remember_15 : decode cX4_remember 15 = .ok (.iadd, 1) := by decide +kernel
theorem dX4_remember_16 : decode cX4_remember 16 = .ok (.bipush 14, 2) := by decide +kernel
theorem dX4_remember_18 : decode cX4_remember 18 = .ok (.irem, 1) := by decide +kernel
theorem dX4_remember_19 : decode cX4_remember 19 = .ok (.putfield 198, 3) := by decide +kernel
theorem dX4_remember_22 : decode cX4_remember 22 = .ok (.aload_n 0, 1) := by decide +kernel
theorem dX4_remember_23 : decode cX4_remember 23 = .ok (.dup, 1) := by decide +kernel
theorem dX4_remember_24 : decode cX4_remember 24 = .ok (.getfield 192, 3) := by decide +kernel
theorem dX4_remember_27 : decode cX4_remember 27 = .ok (.iconst 1, 1) := by decide +kernel
theorem dX4_remember_28 : decode cX4_remember 28 = .ok (.isub, 1) := by decide +kernel
theorem dX4_remember_29 : decode cX4_remember 29 = .ok (.putfield 192, 3) := by decide +kernel
theorem dX4_remember_32 : decode cX4_remember 32 = .ok (.aload_n 0, 1) := by decide +kernel
theorem dX4_remember_33 : decode cX4_remember 33 = .ok (.getfield 24, 3) := by decide +kernel
theorem dX4_remember_36 : decode cX4_remember 36 = .ok (.aload_n 0, 1) := by decide +kernel
theorem dX4_remember_37 : decode cX4_remember 37 = .ok (.getfield 198, 3) := by decide +kernel
theorem dX4_remember_40 : decode cX4_remember 40 = .ok (.aload_n 0, 1) := by decide +kernel
theorem dX4_remember_41 : decode cX4_remember 41 = .ok (.getfield 192, 3) := by decide +kernel
theorem dX4_remember_44 : decode cX4_remember 44 = .ok (.iadd, 1) := by decide +kernel
theorem dX4_remember_45 : decode cX4_remember 45 = .ok (.bipush 14, 2) := by decide +kernel
theorem dX4_remember_47 : decode cX4_remember 47 = .ok (.irem, 1) := by decide +kernel
theorem dX4_remember_48 : decode cX4_remember 48 = .ok (.aload_n 0, 1) := by decide +kernel
theorem dX4_remember_49 : decode cX4_remember 49 = .ok (.getfield 12, 3) := by decide +kernel
theorem dX4_remember_52 : decode cX4_remember 52 = .ok (.invokevirtual 283, 3) := by decide +kernel
theorem dX4_remember_55 : decode cX4_remember 55 = .ok (.aload_n 0, 1) := by decide +kernel
theorem dX4_remember_56 : decode cX4_remember 56 = .ok (.dup, 1) := by decide +kernel
theorem dX4_remember_57 : decode cX4_remember 57 = .ok (.getfield 192, 3) := by decide +kernel
theorem dX4_remember_60 : decode cX4_remember 60 = .ok (.iconst 1, 1) := by decide +kernel
theorem dX4_remember_61 : decode cX4_remember 61 = .ok (.iadd, 1) := by decide +kernel
theorem dX4_remember_62 : decode cX4_remember 62 = .ok (.putfield 192, 3) := by decide +kernel
theorem dX4_remember_65 : decode cX4_remember 65 = .ok (.return_, 1) := by decide +kernel
theorem dX4_forget_0 : decode cX4_forget 0 = .ok (.aload_n 0, 1) := by decide +kernel
theorem dX4_forget_1 : decode cX4_forget 1 = .ok (.iconst 0, 1) := by decide +kernel
theorem dX4_forget_2 : decode cX4_forget 2 = .ok (.putfield 192, 3) := by decide +kernel
theorem dX4_forget_5 : decode cX4_forget 5 = .ok (.aload_n 0, 1) := by decide +kernel
theorem dX4_forget_6 : decode cX4_forget 6 = .ok (.iconst 0, 1) := by decide +kernel
theorem dX4_forget_7 : decode cX4_forget 7 = .ok (.putfield 198, 3) := by decide +kernel
theorem dX4_forget_10 : decode cX4_forget 10 = .ok (.return_, 1) := by decide +kernel
set_option maxRecDepth 20000 in
theorem ggX4_obeyText_X0_startReading : GoodIn wsX4_obeyText wsX0_startReading := goodIn_r _ [6, 7, 8, 9, 10, 5, 11, 12, 13, 141, 142, 143, 144, 145, 146, 147] (by decide +kernel) (by decide +kernel)
set_option maxRecDepth 20000 in
theorem gX4_obeyText_X0_startReading : GoodIn wsX4_obeyText (wsV RX4 295 RX0 yX0_startReading wsX0_startReading) := goodIn_app (goodIn_of _ (by decide +kernel)) ggX4_obeyText_X0_startReading
set_option maxRecDepth 20000 in
theorem ggX4_obeyText_X0_hasMore : GoodIn wsX4_obeyText wsX0_hasMore := goodIn_r _ [17, 7, 12, 141, 142, 143, 144, 145, 146, 147] (by decide +kernel) (by decide +kernel)
set_option maxRecDepth 20000 in
theorem gX4_obeyText_X0_hasMore : GoodIn wsX4_obeyText (wsV RX4 298 RX0 yX0_hasMore wsX0_hasMore) := goodIn_app (goodIn_of _ (by decide +kernel)) ggX4_obeyText_X0_hasMore
set_option maxRecDepth 20000 in
theorem ggX4_obeyText_X0_readCommand : GoodIn wsX4_obeyText wsX0_readCommand := goodIn_r _ [21, 7, 22, 8, 9, 10, 5, 11, 12, 13, 23, 24, 25, 26, 27, 28, 29, 30, 31, 32, 33, 141, 142, 143, 144, 145, 146, 147] (by decide +kernel) (by decide +kernel)
set_option maxRecDepth 20000 in
theorem gX4_obeyText_X0_readCommand : GoodIn wsX4_obeyText (wsV RX4 301 RX0 yX0_readCommand wsX0_readCommand) := goodIn_app (goodIn_of _ (by decide +kernel)) ggX4_obeyText_X0_readCommand
set_option maxRecDepth 20000 in
theorem ggX4_obeyText_X4_obeyCommand : GoodIn wsX4_obeyText wsX4_obeyCommand := goodIn_r _ [38, 1, 39, 40, 41, 42, 43, 44, 45, 46, 47, 48, 49, 50, 51, 52, 53, 54, 55, 56, 57, 58, 59, 60, 61, 62, 63, 64, 65, 66, 67, 68, 69, 70, 71, 72, 73, 74, 75, 37, 76, 77, 78, 79, 80, 81, 82, 83, 84, 85, 86, 87, 88, 89, 90, 91, 92, 93, 94, 95, 96, 97, 98, 99, 100, 101, 102, 103, 104, 105, 106, 107, 108, 109, 110, 111, 112, 113, 114, 115, 116, 117, 118, 119, 120, 121, 122, 123, 124, 125, 126, 127, 128, 129, 130, 131, 132, 133, 134, 135, 136, 137, 138, 139, 140, 141, 142, 143, 144, 145, 146, 147, 148] (by decide +kernel) (by decide +kernel)
set_option maxRecDepth 20000 in
theorem gX4_obeyText_X4_obeyCommand : GoodIn wsX4_obeyText (wsV RX4 304 RX4 yX4_obeyCommand wsX4_obeyCommand) := goodIn_app (goodIn_of _ (by decide +kernel)) ggX4_obeyText_X4_obeyCommand
theorem dX4_obeyText_0 : decode cX4_obeyText 0 = .ok (.iconst 0, 1) := by decide +kernel
theorem dX4_obeyText_1 : decode cX4_obeyText 1 = .ok (.istore_n 1, 1) := by decide +kernel
theorem dX4_obeyText_2 : decode cX4_obeyText 2 = .ok (.aload_n 0, 1) := by decide +kernel
theorem dX4_obeyText_3 : decode cX4_obeyText 3 = .ok (.getfield 38, 3) := by decide +kernel
theorem dX4_obeyText_6 : decode cX4_obeyText 6 = .ok (.invokevirtual 295, 3) := by decide +kernel
theorem dX4_obeyText_9 : decode cX4_obeyText 9 = .ok (.pop, 1) := by decide +kernel
theorem dX4_obeyText_10 : decode cX4_obeyText 10 = .ok (.iconst 0, 1) := by decide +kernel
theorem dX4_obeyText_11 : decode cX4_obeyText 11 = .ok (.istore_n 2, 1) := by decide +kernel
theorem dX4_obeyText_12 : decode cX4_obeyText 12 = .ok (.iload_n 2, 1) := by decide +kernel
theorem dX4_obeyText_13 : decode cX4_obeyText 13 = .ok (.bipush 120, 2) := by decide +kernel
theorem dX4_obeyText_15 : decode cX4_obeyText 15 = .ok (.if_icmp .ge 39, 3) := by decide +kernel
theorem dX4_obeyText_18 : decode cX4_obeyText 18 = .ok (.aload_n 0, 1) := by decide +kernel
theorem dX4_obeyText_19 : decode cX4_obeyText 19 = .ok (.getfield 38, 3) := by decide +kernel
theorem dX4_obeyText_22 : decode cX4_obeyText 22 = .ok (.invokevirtual 298, 3) := by decide +kernel
theorem dX4_obeyText_25 : decode cX4_obeyText 25 = .ok (.ifCond .eq 29, 3) := by decide +kernel
theorem dX4_obeyText_28 : decode cX4_obeyText 28 = .ok (.aload_n 0, 1) := by decide +kernel
theorem dX4_obeyText_29 : decode cX4_obeyText 29 = .ok (.getfield 38, 3) := by decide +kernel
theorem dX4_obeyText_32 : decode cX4_obeyText 32 = .ok (.invokevirtual 301, 3) := by decide +kernel
theorem dX4_obeyText_35 : decode cX4_obeyText 35 = .ok (.ifCond .eq 19, 3) := by decide +kernel
theorem dX4_obeyText_38 : decode cX4_obeyText 38 = .ok (.aload_n 0, 1) := by decide +kernel
theorem dX4_obeyText_39 : decode cX4_obeyText 39 = .ok (.invokevirtual 304, 3) := by decide +kernel
theorem dX4_obeyText_42 : decode cX4_obeyText 42 = .ok (.ifCond .ne 6, 3) := by decide +kernel
theorem dX4_obeyText_45 : decode cX4_obeyText 45 = .ok (.iinc 1 1, 3) := by decide +kernel
theorem dX4_obeyText_48 : decode cX4_obeyText 48 = .ok (.iinc 2 1, 3) := by decide +kernel
theorem dX4_obeyText_51 : decode cX4_obeyText 51 = .ok (.goto (-39), 3) := by decide +kernel
theorem dX4_obeyText_54 : decode cX4_obeyText 54 = .ok (.iload_n 1, 1) := by decide +kernel
theorem dX4_obeyText_55 : decode cX4_obeyText 55 = .ok (.ireturn, 1) := by decide +kernel
set_option maxRecDepth 20000 in
theorem ggX4_obeyCommand_X3_mean : GoodIn wsX4_obeyCommand wsX3_mean := goodIn_r _ [7, 8, 112] (by decide +kernel) (by decide +kernel)
set_option maxRecDepth 20000 in
theorem gX4_obeyCommand_X3_mean : GoodIn wsX4_obeyCommand (wsV RX4 129 RX3 yX3_mean wsX3_mean) := goodIn_app (goodIn_of _ (by decide +kernel)) ggX4_obeyCommand_X3_mean
set_option maxRecDepth 20000 in
theorem ggX4_obeyCommand_X3_write : GoodIn wsX4_obeyCommand wsX3_write := goodIn_r _ [12, 8, 112] (by decide +kernel) (by decide +kernel)
set_option maxRecDepth 20000 in
theorem gX4_obeyCommand_X3_write : GoodIn wsX4_obeyCommand (wsV RX4 137 RX3 yX3_write wsX3_write) := goodIn_app (goodIn_of _ (by decide +kernel)) ggX4_obeyCommand_X3_write
set_option maxRecDepth 20000 in
theorem ggX4_obeyCommand_X3_writeRight : GoodIn wsX4_obeyCommand wsX3_writeRight := goodIn_r _ [16, 8, 17, 18, 19, 6, 20, 21, 22, 23, 24, 25, 26, 27, 28, 29, 30, 31, 32, 33, 10, 11, 12, 112] (by decide +kernel) (by decide +kernel)
set_option maxRecDepth 20000 in
theorem gX4_obeyCommand_X3_writeRight : GoodIn wsX4_obeyCommand (wsV RX4 143 RX3 yX3_writeRight wsX3_writeRight) := goodIn_app (goodIn_of _ (by decide +kernel)) ggX4_obeyCommand_X3_writeRight
set_option maxRecDepth 20000 in
theorem ggX4_obeyCommand_X3_tryToFilm : GoodIn wsX4_obeyCommand wsX3_tryToFilm := goodIn_r _ [37, 38, 39, 40, 41, 42, 43, 6, 44, 21, 22, 23, 24, 8, 45, 46, 47, 48, 49, 50, 51, 52, 53, 54, 55, 56, 57, 58, 59, 60, 61, 62, 63, 64, 65, 66, 67, 68, 69, 70, 71, 72, 73, 74, 75, 29, 30, 31, 32, 112] (by decide +kernel) (by decide +kernel)
set_option maxRecDepth 20000 in
theorem gX4_obeyCommand_X3_tryToFilm : GoodIn wsX4_obeyCommand (wsV RX4 319 RX3 yX3_tryToFilm wsX3_tryToFilm) := goodIn_app (goodIn_of _ (by decide +kernel)) ggX4_obeyCommand_X3_tryToFilm
set_option maxRecDepth 20000 in
theorem ggX4_obeyCommand_X3_loadCamera : GoodIn wsX4_obeyCommand wsX3_loadCamera := goodIn_r _ [79, 8, 112] (by decide +kernel) (by decide +kernel)
set_option maxRecDepth 20000 in
theorem gX4_obeyCommand_X3_loadCamera : GoodIn wsX4_obeyCommand (wsV RX4 160 RX3 yX3_loadCamera wsX3_loadCamera) := goodIn_app (goodIn_of _ (by decide +kernel)) ggX4_obeyCommand_X3_loadCamera
set_option maxRecDepth 20000 in
theorem ggX4_obeyCommand_X3_loadSound : GoodIn wsX4_obeyCommand wsX3_loadSound := goodIn_r _ [83, 8, 112] (by decide +kernel) (by decide +kernel)
set_option maxRecDepth 20000 in
theorem gX4_obeyCommand_X3_loadSound : GoodIn wsX4_obeyCommand (wsV RX4 163 RX3 yX3_loadSound wsX3_loadSound) := goodIn_app (goodIn_of _ (by decide +kernel)) ggX4_obeyCommand_X3_loadSound
set_option maxRecDepth 20000 in
theorem ggX4_obeyCommand_X3_mark : GoodIn wsX4_obeyCommand wsX3_mark := goodIn_r _ [87, 88, 89, 90, 6, 91, 8, 64, 65, 66, 67, 112] (by decide +kernel) (by decide +kernel)
set_option maxRecDepth 20000 in
theorem gX4_obeyCommand_X3_mark : GoodIn wsX4_obeyCommand (wsV RX4 166 RX3 yX3_mark wsX3_mark) := goodIn_app (goodIn_of _ (by decide +kernel)) ggX4_obeyCommand_X3_mark
set_option maxRecDepth 20000 in
theorem ggX4_obeyCommand_X3_setOff : GoodIn wsX4_obeyCommand wsX3_setOff := goodIn_r _ [95, 8, 112] (by decide +kernel) (by decide +kernel)
set_option maxRecDepth 20000 in
theorem gX4_obeyCommand_X3_setOff : GoodIn wsX4_obeyCommand (wsV RX4 181 RX3 yX3_setOff wsX3_setOff) := goodIn_app (goodIn_of _ (by decide +kernel)) ggX4_obeyCommand_X3_setOff
theorem dX4_obeyCommand_0 : decode cX4_obeyCommand 0 = .ok (.aload_n 0, 1) := by decide +kernel
theorem dX4_obeyCommand_1 : decode cX4_obeyCommand 1 = .ok (.getfield 38, 3) := by decide +kernel
theorem dX4_obeyCommand_4 : decode cX4_obeyCommand 4 = .ok (.getfield 307, 3) := by decide +kernel
theorem dX4_obeyCommand_7 : decode cX4_obeyCommand 7 = .ok (.tableswitch 241 98 116 #[113, 89, 241, 241, 205, 241, 241, 241, 241, 241, 241, 153, 185, 223, 241, 241, 143, 195, 153], 89) := by decide +kernel
theorem dX4_obeyCommand_96 : decode cX4_obeyCommand 96 = .ok (.aload_n 0, 1) := by decide +kernel
theorem dX4_obeyCommand_97 : decode cX4_obeyCommand 97 = .ok (.getfield 12, 3) := by decide +kernel
theorem dX4_obeyCommand_100 : decode cX4_obeyCommand 100 = .ok (.aload_n 0, 1) := by decide +kernel
theorem dX4_obeyCommand_101 : decode cX4_obeyCommand 101 = .ok (.getfield 38, 3) := by decide +kernel
theorem dX4_obeyCommand_104 : decode cX4_obeyCommand 104 = .ok (.getfield 310, 3) := by decide +kernel
theorem dX4_obeyCommand_107 : decode cX4_obeyCommand 107 = .ok (.aload_n 0, 1) := by decide +kernel
theorem dX4_obeyCommand_108 : decode cX4_obeyCommand 108 = .ok (.getfield 38, 3) := by decide +kernel
theorem dX4_obeyCommand_111 : decode cX4_obeyCommand 111 = .ok (.getfield 313, 3) := by decide +kernel
theorem dX4_obeyCommand_114 : decode cX4_obeyCommand 114 = .ok (.invokevirtual 129, 3) := by decide +kernel
theorem dX4_obeyCommand_117 : decode cX4_obeyCommand 117 = .ok (.pop, 1) := by decide +kernel
theorem dX4_obeyCommand_118 : decode cX4_obeyCommand 118 = .ok (.iconst 1, 1) := by decide +kernel
theorem dX4_obeyCommand_119 : decode cX4_obeyCommand 119 = .ok (.ireturn, 1) := by decide +kernel
theorem dX4_obeyCommand_120 : decode cX4_obeyCommand 120 = .ok (.aload_n 0, 1) := by decide +kernel
theorem dX4_obeyCommand_121 : decode cX4_obeyCommand 121 = .ok (.getfield 12, 3) := by decide +kernel
theorem dX4_obeyCommand_124 : decode cX4_obeyCommand 124 = .ok (.aload_n 0, 1) := by decide +kernel
theorem dX4_obeyCommand_125 : decode cX4_obeyCommand 125 = .ok (.getfield 38, 3) := by decide +kernel
theorem dX4_obeyCommand_128 : decode cX4_obeyCommand 128 = .ok (.getfield 310, 3) := by decide +kernel
theorem dX4_obeyCommand_131 : decode cX4_obeyCommand 131 = .ok (.aload_n 0, 1) := by decide +kernel
theorem dX4_obeyCommand_132 : decode cX4_obeyCommand 132 = .ok (.getfield 38, 3) := by decide +kernel
theorem dX4_obeyCommand_135 : decode cX4_obeyCommand 135 = .ok (.getfield 313, 3) := by decide +kernel
theorem dX4_obeyCommand_138 : decode cX4_obeyCommand 138 = .ok (.aload_n 0, 1) := by decide +kernel
theorem dX4_obeyCommand_139 : decode cX4_obeyCommand 139 = .ok (.getfield 38, 3) := by decide +kernel
theorem dX4_obeyCommand_142 : decode cX4_obeyCommand 142 = .ok (.getfield 316, 3) := by decide +kernel
theorem dX4_obeyCommand_145 : decode cX4_obeyCommand 145 = .ok (.invokevirtual 137, 3) := by decide +kernel
theorem dX4_obeyCommand_148 : decode cX4_obeyCommand 148 = .ok (.iconst 1, 1) := by decide +kernel
theorem dX4_obeyCommand_149 : decode cX4_obeyCommand 149 = .ok (.ireturn, 1) := by decide +kernel
theorem dX4_obeyCommand_150 : decode cX4_obeyCommand 150 = .ok (.aload_n 0, 1) := by decide +kernel
theorem dX4_obeyCommand_151 : decode cX4_obeyCommand 151 = .ok (.getfield 12, 3) := by decide +kernel
theorem dX4_obeyCommand_154 : decode cX4_obeyCommand 154 = .ok (.invokevirtual 143, 3) := by decide +kernel
theorem dX4_obeyCommand_157 : decode cX4_obeyCommand 157 = .ok (.pop, 1) := by decide +kernel
theorem dX4_obeyCommand_158 : decode cX4_obeyCommand 158 = .ok (.iconst 1, 1) := by decide +kernel
theorem dX4_obeyCommand_159 : decode cX4_obeyCommand 159 = .ok (.ireturn, 1) := by decide +kernel
theorem dX4_obeyCommand_160 : decode cX4_obeyCommand 160 = .ok (.aload_n 0, 1) := by decide +kernel
theorem dX4_obeyCommand_161 : decode cX4_obeyCommand 161 = .ok (.getfield 12, 3) := by decide +kernel
theorem dX4_obeyCommand_164 : decode cX4_obeyCommand 164 = .ok (.aload_n 0, 1) := by decide +kernel
theorem dX4_obeyCommand_165 : decode cX4_obeyCommand 165 = .ok (.getfield 38, 3) := by decide +kernel
theorem dX4_obeyCommand_168 : decode cX4_obeyCommand 168 = .ok (.getfield 316, 3) := by decide +kernel
theorem dX4_obeyCommand_171 : decode cX4_obeyCommand 171 = .ok (.aload_n 0, 1) := by decide +kernel
theorem dX4_obeyCommand_172 : decode cX4_obeyCommand 172 = .ok (.getfield 38, 3) := by decide +kernel
theorem dX4_obeyCommand_175 : decode cX4_obeyCommand 175 = .ok (.getfield 307, 3) := by decide +kernel
theorem dX4_obeyCommand_178 : decode cX4_obeyCommand 178 = .ok (.bipush 116, 2) := by decide +kernel
theorem dX4_obeyCommand_180 : decode cX4_obeyCommand 180 = .ok (.if_icmp .ne 7, 3) := by decide +kernel
theorem dX4_obeyCommand_183 : decode cX4_obeyCommand 183 = .ok (.iconst 1, 1) := by decide +kernel
theorem dX4_obeyCommand_184 : decode cX4_obeyCommand 184 = .ok (.goto 4, 3) := by decide +kernel
theorem dX4_obeyCommand_187 : decode cX4_obeyCommand 187 = .ok (.iconst 0, 1) := by decide +kernel
theorem dX4_obeyCommand_188 : decode cX4_obeyCommand 188 = .ok (.invokevirtual 319, 3) := by decide +kernel
theorem dX4_obeyCommand_191 : decode cX4_obeyCommand 191 = .ok (.ireturn, 1) := by decide +kernel
theorem dX4_obeyCommand_192 : decode cX4_obeyCommand 192 = .ok (.aload_n 0, 1) := by decide +kernel
theorem dX4_obeyCommand_193 : decode cX4_obeyCommand 193 = .ok (.getfield 12, 3) := by decide +kernel
theorem dX4_obeyCommand_196 : decode cX4_obeyCommand 196 = .ok (.invokevirtual 160, 3) := by decide +kernel
theorem dX4_obeyCommand_199 : decode cX4_obeyCommand 199 = .ok (.pop, 1) := by decide +kernel
theorem dX4_obeyCommand_200 : decode cX4_obeyCommand 200 = .ok (.iconst 1, 1) := by decide +kernel
theorem dX4_obeyCommand_201 : decode cX4_obeyCommand 201 = .ok (.ireturn, 1) := by decide +kernel
theorem dX4_obeyCommand_202 : decode cX4_obeyCommand 202 = .ok (.aload_n 0, 1) := by decide +kernel
theorem dX4_obeyCommand_203 : decode cX4_obeyCommand 203 = .ok (.getfield 12, 3) := by decide +kernel
theorem dX4_obeyCommand_206 : decode cX4_obeyCommand 206 = .ok (.invokevirtual 163, 3) := by decide +kernel
theorem dX4_obeyCommand_209 : decode cX4_obeyCommand 209 = .ok (.pop, 1) := by decide +kernel
theorem dX4_obeyCommand_210 : decode cX4_obeyCommand 210 = .ok (.iconst 1, 1) := by decide +kernel
theorem dX4_obeyCommand_211 : decode cX4_obeyCommand 211 = .ok (.ireturn, 1) := by decide +kernel
theorem dX4_obeyCommand_212 : decode cX4_obeyCommand 212 = .ok (.aload_n 0, 1) := by decide +kernel
theorem dX4_obeyCommand_213 : decode cX4_obeyCommand 213 = .ok (.getfield 12, 3) := by decide +kernel
theorem dX4_obeyCommand_216 : decode cX4_obeyCommand 216 = .ok (.aload_n 0, 1) := by decide +kernel
theorem dX4_obeyCommand_217 : decode cX4_obeyCommand 217 = .ok (.getfield 38, 3) := by decide +kernel
theorem dX4_obeyCommand_220 : decode cX4_obeyCommand 220 = .ok (.getfield 316, 3) := by decide +kernel
theorem dX4_obeyCommand_223 : decode cX4_obeyCommand 223 = .ok (.bipush 15, 2) := by decide +kernel
theorem dX4_obeyCommand_225 : decode cX4_obeyCommand 225 = .ok (.iconst 1, 1) := by decide +kernel
theorem dX4_obeyCommand_226 : decode cX4_obeyCommand 226 = .ok (.invokevirtual 166, 3) := by decide +kernel
theorem dX4_obeyCommand_229 : decode cX4_obeyCommand 229 = .ok (.ireturn, 1) := by decide +kernel
theorem dX4_obeyCommand_230 : decode cX4_obeyCommand 230 = .ok (.aload_n 0, 1) := by decide +kernel
theorem dX4_obeyCommand_231 : decode cX4_obeyCommand 231 = .ok (.getfield 12, 3) := by decide +kernel
theorem dX4_obeyCommand_234 : decode cX4_obeyCommand 234 = .ok (.aload_n 0, 1) := by decide +kernel
theorem dX4_obeyCommand_235 : decode cX4_obeyCommand 235 = .ok (.getfield 38, 3) := by decide +kernel
theorem dX4_obeyCommand_238 : decode cX4_obeyCommand 238 = .ok (.getfield 316, 3) := by decide +kernel
theorem dX4_obeyCommand_241 : decode cX4_obeyCommand 241 = .ok (.bipush 14, 2) := by decide +kernel
theorem dX4_obeyCommand_243 : decode cX4_obeyCommand 243 = .ok (.iconst 1, 1) := by decide +kernel
theorem dX4_obeyCommand_244 : decode cX4_obeyCommand 244 = .ok (.invokevirtual 166, 3) := by decide +kernel
theorem dX4_obeyCommand_247 : decode cX4_obeyCommand 247 = .ok (.ireturn, 1) := by decide +kernel
theorem dX4_obeyCommand_248 : decode cX4_obeyCommand 248 = .ok (.aload_n 0, 1) := by decide +kernel
theorem dX4_obeyCommand_249 : decode cX4_obeyCommand 249 = .ok (.getfield 12, 3) := by decide +kernel
theorem dX4_obeyCommand_252 : decode cX4_obeyCommand 252 = .ok (.aload_n 0, 1) := by decide +kernel
theorem dX4_obeyCommand_253 : decode cX4_obeyCommand 253 = .ok (.getfield 38, 3) := by decide +kernel
theorem dX4_obeyCommand_256 : decode cX4_obeyCommand 256 = .ok (.getfield 316, 3) := by decide +kernel
theorem dX4_obeyCommand_259 : decode cX4_obeyCommand 259 = .ok (.bipush 50, 2) := by decide +kernel
theorem dX4_obeyCommand_261 : decode cX4_obeyCommand 261 = .ok (.isub, 1) := by decide +kernel
theorem dX4_obeyCommand_262 : decode cX4_obeyCommand 262 = .ok (.invokevirtual 181, 3) := by decide +kernel
theorem dX4_obeyCommand_265 : decode cX4_obeyCommand 265 = .ok (.pop, 1) := by decide +kernel
theorem dX4_obeyCommand_266 : decode cX4_obeyCommand 266 = .ok (.iconst 1, 1) := by decide +kernel
theorem dX4_obeyCommand_267 : decode cX4_obeyCommand 267 = .ok (.ireturn, 1) := by decide +kernel
theorem dX4_withoutGroups_0 : decode cX4_withoutGroups 0 = .ok (.lload_n 0, 1) := by decide +kernel
theorem dX4_withoutGroups_1 : decode cX4_withoutGroups 1 = .ok (.lstore_n 3, 1) := by decide +kernel
theorem dX4_withoutGroups_2 : decode cX4_withoutGroups 2 = .ok (.iconst 0, 1) := by decide +kernel
theorem dX4_withoutGroups_3 : decode cX4_withoutGroups 3 = .ok (.istore 5, 2) := by decide +kernel
theorem dX4_withoutGroups_5 : decode cX4_withoutGroups 5 = .ok (.iload 5, 2) := by decide +kernel
theorem dX4_withoutGroups_7 : decode cX4_withoutGroups 7 = .ok (.iload_n 2, 1) := by decide +kernel
theorem dX4_withoutGroups_8 : decode cX4_withoutGroups 8 = .ok (.if_icmp .ge 15, 3) := by decide +kernel
theorem dX4_withoutGroups_11 : decode cX4_withoutGroups 11 = .ok (.lload_n 3, 1) := by decide +kernel
theorem dX4_withoutGroups_12 : decode cX4_withoutGroups 12 = .ok (.ldc2_w 264, 3) := by decide +kernel
theorem dX4_withoutGroups_15 : decode cX4_withoutGroups 15 = .ok (.ldiv, 1) := by decide +kernel
theorem dX4_withoutGroups_16 : decode cX4_withoutGroups 16 = .ok (.lstore_n 3, 1) := by decide +kernel
theorem dX4_withoutGroups_17 : decode cX4_withoutGroups 17 = .ok (.iinc 5 1, 3) := by decide +kernel
theorem dX4_withoutGroups_20 : decode cX4_withoutGroups 20 = .ok (.goto (-15), 3) := by decide +kernel
theorem dX4_withoutGroups_23 : decode cX4_withoutGroups 23 = .ok (.lload_n 3, 1) := by decide +kernel
theorem dX4_withoutGroups_24 : decode cX4_withoutGroups 24 = .ok (.lreturn, 1) := by decide +kernel
set_option maxRecDepth 20000 in
theorem ggX4_succeeds_X3_tryToFilm : GoodIn wsX4_succeeds wsX3_tryToFilm := goodIn_r _ [6, 7, 8, 9, 10, 11, 12, 5, 13, 14, 15, 16, 17, 18, 19, 20, 21, 22, 23, 24, 25, 26, 27, 28, 29, 30, 31, 32, 33, 34, 35, 36, 37, 38, 39, 40, 41, 42, 43, 44, 45, 46, 47, 48, 49, 50, 51, 52, 53, 148] (by decide +kernel) (by decide +kernel)
set_option maxRecDepth 20000 in
theorem gX4_succeeds_X3_tryToFilm : GoodIn wsX4_succeeds (wsV RX4 319 RX3 yX3_tryToFilm wsX3_tryToFilm) := goodIn_app (goodIn_of _ (by decide +kernel)) ggX4_succeeds_X3_tryToFilm
set_option maxRecDepth 20000 in
theorem ggX4_succeeds_X4_loadRoll : GoodIn wsX4_succeeds wsX4_loadRoll := goodIn_r _ [57, 1, 58, 59, 60, 5, 61, 18, 62, 63, 64, 65, 139, 140, 141, 142, 143, 144, 145, 146, 147, 148] (by decide +kernel) (by decide +kernel)
set_option maxRecDepth 20000 in
theorem gX4_succeeds_X4_loadRoll : GoodIn wsX4_succeeds (wsV RX4 323 RX4 yX4_loadRoll wsX4_loadRoll) := goodIn_app (goodIn_of _ (by decide +kernel)) ggX4_succeeds_X4_loadRoll
set_option maxRecDepth 20000 in
theorem ggX4_succeeds_X3_mark : GoodIn wsX4_succeeds wsX3_mark := goodIn_r _ [69, 70, 71, 72, 5, 73, 18, 38, 39, 40, 41, 148] (by decide +kernel) (by decide +kernel)
set_option maxRecDepth 20000 in
theorem gX4_succeeds_X3_mark : GoodIn wsX4_succeeds (wsV RX4 166 RX3 yX3_mark wsX3_mark) := goodIn_app (goodIn_of _ (by decide +kernel)) ggX4_succeeds_X3_mark
set_option maxRecDepth 20000 in
theorem ggX4_succeeds_X4_isSetup : GoodIn wsX4_succeeds wsX4_isSetup := goodIn_r _ [76] (by decide +kernel) (by decide +kernel)
set_option maxRecDepth 20000 in
theorem gX4_succeeds_X4_isSetup : GoodIn wsX4_succeeds (va_wsS RX4 120 yX4_isSetup wsX4_isSetup) := goodIn_app (goodIn_of _ (by decide +kernel)) ggX4_succeeds_X4_isSetup
set_option maxRecDepth 20000 in
theorem ggX4_succeeds_X3_mean : GoodIn wsX4_succeeds wsX3_mean := goodIn_r _ [80, 18, 148] (by decide +kernel) (by decide +kernel)
set_option maxRecDepth 20000 in
theorem gX4_succeeds_X3_mean : GoodIn wsX4_succeeds (wsV RX4 129 RX3 yX3_mean wsX3_mean) := goodIn_app (goodIn_of _ (by decide +kernel)) ggX4_succeeds_X3_mean
set_option maxRecDepth 20000 in
theorem ggX4_succeeds_X3_writeRight : GoodIn wsX4_succeeds wsX3_writeRight := goodIn_r _ [84, 18, 85, 86, 87, 5, 88, 14, 15, 16, 17, 89, 90, 91, 92, 50, 51, 52, 53, 93, 94, 95, 96, 148] (by decide +kernel) (by decide +kernel)
set_option maxRecDepth 20000 in
theorem gX4_succeeds_X3_writeRight : GoodIn wsX4_succeeds (wsV RX4 143 RX3 yX3_writeRight wsX3_writeRight) := goodIn_app (goodIn_of _ (by decide +kernel)) ggX4_succeeds_X3_writeRight
set_option maxRecDepth 20000 in
theorem ggX4_succeeds_X3_hasTake : GoodIn wsX4_succeeds wsX3_hasTake := goodIn_r _ [73, 18, 148] (by decide +kernel) (by decide +kernel)
set_option maxRecDepth 20000 in
theorem gX4_succeeds_X3_hasTake : GoodIn wsX4_succeeds (wsV RX4 93 RX3 yX3_hasTake wsX3_hasTake) := goodIn_app (goodIn_of _ (by decide +kernel)) ggX4_succeeds_X3_hasTake
set_option maxRecDepth 20000 in
theorem ggX4_succeeds_X3_isRight : GoodIn wsX4_succeeds wsX3_isRight := goodIn_r _ [101, 50, 51, 52, 5, 53, 18, 102, 103, 104, 105, 89, 90, 91, 92, 106, 107, 108, 109, 148] (by decide +kernel) (by decide +kernel)
set_option maxRecDepth 20000 in
theorem gX4_succeeds_X3_isRight : GoodIn wsX4_succeeds (wsV RX4 327 RX3 yX3_isRight wsX3_isRight) := goodIn_app (goodIn_of _ (by decide +kernel)) ggX4_succeeds_X3_isRight
set_option maxRecDepth 20000 in
theorem ggX4_succeeds_X3_wrongSlates : GoodIn wsX4_succeeds wsX3_wrongSlates := goodIn_r _ [113, 114, 115, 116, 5, 117, 14, 15, 16, 17, 18, 118, 99, 100, 101, 50, 51, 52, 53, 102, 103, 104, 105, 89, 90, 91, 92, 106, 107, 108, 109, 119, 120, 121, 122, 123, 124, 125, 148] (by decide +kernel) (by decide +kernel)
set_option maxRecDepth 20000 in
theorem gX4_succeeds_X3_wrongSlates : GoodIn wsX4_succeeds (wsV RX4 173 RX3 yX3_wrongSlates wsX3_wrongSlates) := goodIn_app (goodIn_of _ (by decide +kernel)) ggX4_succeeds_X3_wrongSlates
set_option maxRecDepth 20000 in
theorem ggX4_succeeds_X3_soundFor : GoodIn wsX4_succeeds wsX3_soundFor := goodIn_r _ [129, 50, 51, 52, 5, 53, 18, 14, 15, 16, 17, 130, 131, 132, 133, 134, 135, 136, 137, 148] (by decide +kernel) (by decide +kernel)
set_option maxRecDepth 20000 in
theorem gX4_succeeds_X3_soundFor : GoodIn wsX4_succeeds (wsV RX4 225 RX3 yX3_soundFor wsX3_soundFor) := goodIn_app (goodIn_of _ (by decide +kernel)) ggX4_succeeds_X3_soundFor
set_option maxRecDepth 20000 in
theorem ggX4_succeeds_X3_cameraLeft : GoodIn wsX4_succeeds wsX3_cameraLeft := goodIn_r _ [22, 18, 23, 24, 25, 26, 27, 28, 29, 5, 30, 148] (by decide +kernel) (by decide +kernel)
set_option maxRecDepth 20000 in
theorem gX4_succeeds_X3_cameraLeft : GoodIn wsX4_succeeds (wsV RX4 236 RX3 yX3_cameraLeft wsX3_cameraLeft) := goodIn_app (goodIn_of _ (by decide +kernel)) ggX4_succeeds_X3_cameraLeft
theorem dX4_succeeds_0 : decode cX4_succeeds 0 = .ok (.iload_n 1, 1) := by decide +kernel
theorem dX4_succeeds_1 : decode cX4_succeeds 1 = .ok (.sipush 1000, 3) := by decide +kernel
theorem dX4_succeeds_4 : decode cX4_succeeds 4 = .ok (.idiv, 1) := by decide +kernel
theorem dX4_succeeds_5 : decode cX4_succeeds 5 = .ok (.bipush 10, 2) := by decide +kernel
theorem dX4_succeeds_7 : decode cX4_succeeds 7 = .ok (.irem, 1) := by decide +kernel
theorem dX4_succeeds_8 : decode cX4_succeeds 8 = .ok (.istore_n 2, 1) := by decide +kernel
theorem dX4_succeeds_9 : decode cX4_succeeds 9 = .ok (.iload_n 1, 1) := by decide +kernel
theorem dX4_succeeds_10 : decode cX4_succeeds 10 = .ok (.bipush 100, 2) := by decide +kernel
theorem dX4_succeeds_12 : decode cX4_succeeds 12 = .ok (.idiv, 1) := by decide +kernel
theorem dX4_succeeds_13 : decode cX4_succeeds 13 = .ok (.bipush 100, 2) := by decide +kernel
theorem dX4_succeeds_15 : decode cX4_succeeds 15 = .ok (.irem, 1) := by decide +kernel
theorem dX4_succeeds_16 : decode cX4_succeeds 16 = .ok (.istore_n 3, 1) := by decide +kernel
theorem dX4_succeeds_17 : decode cX4_succeeds 17 = .ok (.iload_n 1, 1) := by decide +kernel
theorem dX4_succeeds_18 : decode cX4_succeeds 18 = .ok (.bipush 100, 2) := by decide +kernel
theorem dX4_succeeds_20 : decode cX4_succeeds 20 = .ok (.irem, 1) := by decide +kernel
theorem dX4_succeeds_21 : decode cX4_succeeds 21 = .ok (.istore 4, 2) := by decide +kernel
theorem dX4_succeeds_23 : decode cX4_succeeds 23 = .ok (.iload_n 1, 1) := by decide +kernel
theorem dX4_succeeds_24 : decode cX4_succeeds 24 = .ok (.sipush 10000, 3) := by decide +kernel
theorem dX4_succeeds_27 : decode cX4_succeeds 27 = .ok (.idiv, 1) := by decide +kernel
theorem dX4_succeeds_28 : decode cX4_succeeds 28 = .ok (.tableswitch 346 1 9 #[52, 88, 122, 158, 186, 211, 256, 278, 321], 52) := by decide +kernel
theorem dX4_succeeds_80 : decode cX4_succeeds 80 = .ok (.iload_n 2, 1) := by decide +kernel
theorem dX4_succeeds_81 : decode cX4_succeeds 81 = .ok (.iconst 1, 1) := by decide +kernel
theorem dX4_succeeds_82 : decode cX4_succeeds 82 = .ok (.if_icmp .gt 32, 3) := by decide +kernel
theorem dX4_succeeds_85 : decode cX4_succeeds 85 = .ok (.aload_n 0, 1) := by decide +kernel
theorem dX4_succeeds_86 : decode cX4_succeeds 86 = .ok (.getfield 16, 3) := by decide +kernel
theorem dX4_succeeds_89 : decode cX4_succeeds 89 = .ok (.iload_n 1, 1) := by decide +kernel
theorem dX4_succeeds_90 : decode cX4_succeeds 90 = .ok (.sipush 1000, 3) := by decide +kernel
theorem dX4_succeeds_93 : decode cX4_succeeds 93 = .ok (.irem, 1) := by decide +kernel
theorem dX4_succeeds_94 : decode cX4_succeeds 94 = .ok (.iload_n 2, 1) := by decide +kernel
theorem dX4_succeeds_95 : decode cX4_succeeds 95 = .ok (.iconst 1, 1) := by decide +kernel
theorem dX4_succeeds_96 : decode cX4_succeeds 96 = .ok (.if_icmp .ne 7, 3) := by decide +kernel
theorem dX4_succeeds_99 : decode cX4_succeeds 99 = .ok (.iconst 1, 1) := by decide +kernel
theorem dX4_succeeds_100 : decode cX4_succeeds 100 = .ok (.goto 4, 3) := by decide +kernel
theorem dX4_succeeds_103 : decode cX4_succeeds 103 = .ok (.iconst 0, 1) := by decide +kernel
theorem dX4_succeeds_104 : decode cX4_succeeds 104 = .ok (.invokevirtual 319, 3) := by decide +kernel
theorem dX4_succeeds_107 : decode cX4_succeeds 107 = .ok (.ifCond .eq 7, 3) := by decide +kernel
theorem dX4_succeeds_110 : decode cX4_succeeds 110 = .ok (.iconst 1, 1) := by decide +kernel
theorem dX4_succeeds_111 : decode cX4_succeeds 111 = .ok (.goto 4, 3) := by decide +kernel
theorem dX4_succeeds_114 : decode cX4_succeeds 114 = .ok (.iconst 0, 1) := by decide +kernel
theorem dX4_succeeds_115 : decode cX4_succeeds 115 = .ok (.ireturn, 1) := by decide +kernel
theorem dX4_succeeds_116 : decode cX4_succeeds 116 = .ok (.iload_n 3, 1) := by decide +kernel
theorem dX4_succeeds_117 : decode cX4_succeeds 117 = .ok (.ifCond .ne 31, 3) := by decide +kernel
theorem dX4_succeeds_120 : decode cX4_succeeds 120 = .ok (.iload 4, 2) := by decide +kernel
theorem dX4_succeeds_122 : decode cX4_succeeds 122 = .ok (.iconst 1, 1) := by decide +kernel
theorem dX4_succeeds_123 : decode cX4_succeeds 123 = .ok (.if_icmp .gt 25, 3) := by decide +kernel
theorem dX4_succeeds_126 : decode cX4_succeeds 126 = .ok (.aload_n 0, 1) := by decide +kernel
theorem dX4_succeeds_127 : decode cX4_succeeds 127 = .ok (.iload 4, 2) := by decide +kernel
theorem dX4_succeeds_129 : decode cX4_succeeds 129 = .ok (.iconst 1, 1) := by decide +kernel
theorem dX4_succeeds_130 : decode cX4_succeeds 130 = .ok (.if_icmp .ne 7, 3) := by decide +kernel
theorem dX4_succeeds_133 : decode cX4_succeeds 133 = .ok (.iconst 1, 1) := by decide +kernel
theorem dX4_succeeds_134 : decode cX4_succeeds 134 = .ok (.goto 4, 3) := by decide +kernel
theorem dX4_succeeds_137 : decode cX4_succeeds 137 = .ok (.iconst 0, 1) := by decide +kernel
theorem dX4_succeeds_138 : decode cX4_succeeds 138 = .ok (.invokevirtual 323, 3) := by decide +kernel
theorem dX4_succeeds_141 : decode cX4_succeeds 141 = .ok (.ifCond .eq 7, 3) := by decide +kernel
theorem dX4_succeeds_144 : decode cX4_succeeds 144 = .ok (.iconst 1, 1) := by decide +kernel
theorem dX4_succeeds_145 : decode cX4_succeeds 145 = .ok (.goto 4, 3) := by decide +kernel
theorem dX4_succeeds_148 : decode cX4_succeeds 148 = .ok (.iconst 0, 1) := by decide +kernel
theorem dX4_succeeds_149 : decode cX4_succeeds 149 = .ok (.ireturn, 1) := by decide +kernel
theorem dX4_succeeds_150 : decode cX4_succeeds 150 = .ok (.iload 4, 2) := by decide +kernel
theorem dX4_succeeds_152 : decode cX4_succeeds 152 = .ok (.iconst 1, 1) := by decide +kernel
theorem dX4_succeeds_153 : decode cX4_succeeds 153 = .ok (.if_icmp .gt 31, 3) := by decide +kernel
theorem dX4_succeeds_156 : decode cX4_succeeds 156 = .ok (.aload_n 0, 1) := by decide +kernel
theorem dX4_succeeds_157 : decode cX4_succeeds 157 = .ok (.getfield 16, 3) := by decide +kernel
theorem dX4_succeeds_160 : decode cX4_succeeds 160 = .ok (.iload_n 3, 1) := by decide +kernel
theorem dX4_succeeds_161 : decode cX4_succeeds 161 = .ok (.bipush 15, 2) := by decide +kernel
theorem dX4_succeeds_163 : decode cX4_succeeds 163 = .ok (.iload 4, 2) := by decide +kernel
theorem dX4_succeeds_165 : decode cX4_succeeds 165 = .ok (.iconst 1, 1) := by decide +kernel
theorem dX4_succeeds_166 : decode cX4_succeeds 166 = .ok (.if_icmp .ne 7, 3) := by decide +kernel
theorem dX4_succeeds_169 : decode cX4_succeeds 169 = .ok (.iconst 1, 1) := by decide +kernel
theorem dX4_succeeds_170 : decode cX4_succeeds 170 = .ok (.goto 4, 3) := by decide +kernel
theorem dX4_succeeds_173 : decode cX4_succeeds 173 = .ok (.iconst 0, 1) := by decide +kernel
theorem dX4_succeeds_174 : decode cX4_succeeds 174 = .ok (.invokevirtual 166, 3) := by decide +kernel
theorem dX4_succeeds_177 : decode cX4_succeeds 177 = .ok (.ifCond .eq 7, 3) := by decide +kernel
theorem dX4_succeeds_180 : decode cX4_succeeds 180 = .ok (.iconst 1, 1) := by decide +kernel
theorem dX4_succeeds_181 : decode cX4_succeeds 181 = .ok (.goto 4, 3) := by decide +kernel
theorem dX4_succeeds_184 : decode cX4_succeeds 184 = .ok (.iconst 0, 1) := by decide +kernel
theorem dX4_succeeds_185 : decode cX4_succeeds 185 = .ok (.ireturn, 1) := by decide +kernel
theorem dX4_succeeds_186 : decode cX4_succeeds 186 = .ok (.iload_n 3, 1) := by decide +kernel
theorem dX4_succeeds_187 : decode cX4_succeeds 187 = .ok (.iload 4, 2) := by decide +kernel
theorem dX4_succeeds_189 : decode cX4_succeeds 189 = .ok (.invokestatic 120, 3) := by decide +kernel
theorem dX4_succeeds_192 : decode cX4_succeeds 192 = .ok (.ifCond .eq 20, 3) := by decide +kernel
theorem dX4_succeeds_195 : decode cX4_succeeds 195 = .ok (.aload_n 0, 1) := by decide +kernel
theorem dX4_succeeds_196 : decode cX4_succeeds 196 = .ok (.getfield 16, 3) := by decide +kernel
theorem dX4_succeeds_199 : decode cX4_succeeds 199 = .ok (.iload_n 3, 1) := by decide +kernel
theorem dX4_succeeds_200 : decode cX4_succeeds 200 = .ok (.iload 4, 2) := by decide +kernel
theorem dX4_succeeds_202 : decode cX4_succeeds 202 = .ok (.invokevirtual 129, 3) := by decide +kernel
theorem dX4_succeeds_205 : decode cX4_succeeds 205 = .ok (.ifCond .eq 7, 3) := by decide +kernel
theorem dX4_succeeds_208 : decode cX4_succeeds 208 = .ok (.iconst 1, 1) := by decide +kernel
theorem dX4_succeeds_209 : decode cX4_succeeds 209 = .ok (.goto 4, 3) := by decide +kernel
theorem dX4_succeeds_212 : decode cX4_succeeds 212 = .ok (.iconst 0, 1) := by decide +kernel
theorem dX4_succeeds_213 : decode cX4_succeeds 213 = .ok (.ireturn, 1) := by decide +kernel
theorem dX4_succeeds_214 : decode cX4_succeeds 214 = .ok (.iload_n 3, 1) := by decide +kernel
theorem dX4_succeeds_215 : decode cX4_succeeds 215 = .ok (.ifCond .ne 22, 3) := by decide +kernel
theorem dX4_succeeds_218 : decode cX4_succeeds 218 = .ok (.iload 4, 2) := by decide +kernel
theorem dX4_succeeds_220 : decode cX4_succeeds 220 = .ok (.ifCond .ne 17, 3) := by decide +kernel
theorem dX4_succeeds_223 : decode cX4_succeeds 223 = .ok (.aload_n 0, 1) := by decide +kernel
theorem dX4_succeeds_224 : decode cX4_succeeds 224 = .ok (.getfield 16, 3) := by decide +kernel
theorem dX4_succeeds_227 : decode cX4_succeeds 227 = .ok (.invokevirtual 143, 3) := by decide +kernel
theorem dX4_succeeds_230 : decode cX4_succeeds 230 = .ok (.ifCond .eq 7, 3) := by decide +kernel
theorem dX4_succeeds_233 : decode cX4_succeeds 233 = .ok (.iconst 1, 1) := by decide +kernel
theorem dX4_succeeds_234 : decode cX4_succeeds 234 = .ok (.goto 4, 3) := by decide +kernel
theorem dX4_succeeds_237 : decode cX4_succeeds 237 = .ok (.iconst 0, 1) := by decide +kernel
theorem dX4_succeeds_238 : decode cX4_succeeds 238 = .ok (.ireturn, 1) := by decide +kernel
theorem dX4_succeeds_239 : decode cX4_succeeds 239 = .ok (.iload 4, 2) := by decide +kernel
theorem dX4_succeeds_241 : decode cX4_succeeds 241 = .ok (.iconst 1, 1) := by decide +kernel
theorem dX4_succeeds_242 : decode cX4_succeeds 242 = .ok (.if_icmp .gt 40, 3) := by decide +kernel
theorem dX4_succeeds_245 : decode cX4_succeeds 245 = .ok (.aload_n 0, 1) := by decide +kernel
theorem dX4_succeeds_246 : decode cX4_succeeds 246 = .ok (.getfield 16, 3) := by decide +kernel
theorem dX4_succeeds_249 : decode cX4_succeeds 249 = .ok (.iload_n 3, 1) := by decide +kernel
theorem dX4_succeeds_250 : decode cX4_succeeds 250 = .ok (.invokevirtual 93, 3) := by decide +kernel
theorem dX4_succeeds_253 : decode cX4_succeeds 253 = .ok (.ifCond .eq 29, 3) := by decide +kernel
theorem dX4_succeeds_256 : decode cX4_succeeds 256 = .ok (.aload_n 0, 1) := by decide +kernel
theorem dX4_succeeds_257 : decode cX4_succeeds 257 = .ok (.getfield 16, 3) := by decide +kernel
theorem dX4_succeeds_260 : decode cX4_succeeds 260 = .ok (.iload_n 3, 1) := by decide +kernel
theorem dX4_succeeds_261 : decode cX4_succeeds 261 = .ok (.invokevirtual 327, 3) := by decide +kernel
theorem dX4_succeeds_264 : decode cX4_succeeds 264 = .ok (.iload 4, 2) := by decide +kernel
theorem dX4_succeeds_266 : decode cX4_succeeds 266 = .ok (.iconst 1, 1) := by decide +kernel
theorem dX4_succeeds_267 : decode cX4_succeeds 267 = .ok (.if_icmp .ne 7, 3) := by decide +kernel
theorem dX4_succeeds_270 : decode cX4_succeeds 270 = .ok (.iconst 1, 1) := by decide +kernel
theorem dX4_succeeds_271 : decode cX4_succeeds 271 = .ok (.goto 4, 3) := by decide +kernel
theorem dX4_succeeds_274 : decode cX4_succeeds 274 = .ok (.iconst 0, 1) := by decide +kernel
theorem dX4_succeeds_275 : decode cX4_succeeds 275 = .ok (.if_icmp .ne 7, 3) := by decide +kernel
theorem dX4_succeeds_278 : decode cX4_succeeds 278 = .ok (.iconst 1, 1) := by decide +kernel
theorem dX4_succeeds_279 : decode cX4_succeeds 279 = .ok (.goto 4, 3) := by decide +kernel
theorem dX4_succeeds_282 : decode cX4_succeeds 282 = .ok (.iconst 0, 1) := by decide +kernel
theorem dX4_succeeds_283 : decode cX4_succeeds 283 = .ok (.ireturn, 1) := by decide +kernel
theorem dX4_succeeds_284 : decode cX4_succeeds 284 = .ok (.iload_n 3, 1) := by decide +kernel
theorem dX4_succeeds_285 : decode cX4_succeeds 285 = .ok (.ifCond .ne 19, 3) := by decide +kernel
theorem dX4_succeeds_288 : decode cX4_succeeds 288 = .ok (.aload_n 0, 1) := by decide +kernel
theorem dX4_succeeds_289 : decode cX4_succeeds 289 = .ok (.getfield 16, 3) := by decide +kernel
theorem dX4_succeeds_292 : decode cX4_succeeds 292 = .ok (.invokevirtual 173, 3) := by decide +kernel
theorem dX4_succeeds_295 : decode cX4_succeeds 295 = .ok (.iload 4, 2) := by decide +kernel
theorem dX4_succeeds_297 : decode cX4_succeeds 297 = .ok (.if_icmp .gt 7, 3) := by decide +kernel
theorem dX4_succeeds_300 : decode cX4_succeeds 300 = .ok (.iconst 1, 1) := by decide +kernel
theorem dX4_succeeds_301 : decode cX4_succeeds 301 = .ok (.goto 4, 3) := by decide +kernel
theorem dX4_succeeds_304 : decode cX4_succeeds 304 = .ok (.iconst 0, 1) := by decide +kernel
theorem dX4_succeeds_305 : decode cX4_succeeds 305 = .ok (.ireturn, 1) := by decide +kernel
theorem dX4_succeeds_306 : decode cX4_succeeds 306 = .ok (.aload_n 0, 1) := by decide +kernel
theorem dX4_succeeds_307 : decode cX4_succeeds 307 = .ok (.getfield 16, 3) := by decide +kernel
theorem dX4_succeeds_310 : decode cX4_succeeds 310 = .ok (.iload_n 3, 1) := by decide +kernel
theorem dX4_succeeds_311 : decode cX4_succeeds 311 = .ok (.invokevirtual 93, 3) := by decide +kernel
theorem dX4_succeeds_314 : decode cX4_succeeds 314 = .ok (.ifCond .eq 33, 3) := by decide +kernel
theorem dX4_succeeds_317 : decode cX4_succeeds 317 = .ok (.aload_n 0, 1) := by decide +kernel
theorem dX4_succeeds_318 : decode cX4_succeeds 318 = .ok (.getfield 16, 3) := by decide +kernel
theorem dX4_succeeds_321 : decode cX4_succeeds 321 = .ok (.iload 4, 2) := by decide +kernel
theorem dX4_succeeds_323 : decode cX4_succeeds 323 = .ok (.invokevirtual 93, 3) := by decide +kernel
theorem dX4_succeeds_326 : decode cX4_succeeds 326 = .ok (.ifCond .eq 21, 3) := by decide +kernel
theorem dX4_succeeds_329 : decode cX4_succeeds 329 = .ok (.aload_n 0, 1) := by decide +kernel
theorem dX4_succeeds_330 : decode cX4_succeeds 330 = .ok (.getfield 16, 3) := by decide +kernel
theorem dX4_succeeds_333 : decode cX4_succeeds 333 = .ok (.iload_n 3, 1) := by decide +kernel
theorem dX4_succeeds_334 : decode cX4_succeeds 334 = .ok (.iconst 0, 1) := by decide +kernel
theorem dX4_succeeds_335 : decode cX4_succeeds 335 = .ok (.invokevirtual 225, 3) := by decide +kernel
theorem dX4_succeeds_338 : decode cX4_succeeds 338 = .ok (.iload 4, 2) := by decide +kernel
theorem dX4_succeeds_340 : decode cX4_succeeds 340 = .ok (.if_icmp .ne 7, 3) := by decide +kernel
theorem dX4_succeeds_343 : decode cX4_succeeds 343 = .ok (.iconst 1, 1) := by decide +kernel
theorem dX4_succeeds_344 : decode cX4_succeeds 344 = .ok (.goto 4, 3) := by decide +kernel
theorem dX4_succeeds_347 : decode cX4_succeeds 347 = .ok (.iconst 0, 1) := by decide +kernel
theorem dX4_succeeds_348 : decode cX4_succeeds 348 = .ok (.ireturn, 1) := by decide +kernel
theorem dX4_succeeds_349 : decode cX4_succeeds 349 = .ok (.iload_n 2, 1) := by decide +kernel
theorem dX4_succeeds_350 : decode cX4_succeeds 350 = .ok (.ifCond .ne 22, 3) := by decide +kernel
theorem dX4_succeeds_353 : decode cX4_succeeds 353 = .ok (.aload_n 0, 1) := by decide +kernel
theorem dX4_succeeds_354 : decode cX4_succeeds 354 = .ok (.getfield 16, 3) := by decide +kernel
theorem dX4_succeeds_357 : decode cX4_succeeds 357 = .ok (.invokevirtual 236, 3) := by decide +kernel
theorem dX4_succeeds_360 : decode cX4_succeeds 360 = .ok (.iload_n 1, 1) := by decide +kernel
theorem dX4_succeeds_361 : decode cX4_succeeds 361 = .ok (.sipush 1000, 3) := by decide +kernel
theorem dX4_succeeds_364 : decode cX4_succeeds 364 = .ok (.irem, 1) := by decide +kernel
theorem dX4_succeeds_365 : decode cX4_succeeds 365 = .ok (.if_icmp .lt 7, 3) := by decide +kernel
theorem dX4_succeeds_368 : decode cX4_succeeds 368 = .ok (.iconst 1, 1) := by decide +kernel
theorem dX4_succeeds_369 : decode cX4_succeeds 369 = .ok (.goto 4, 3) := by decide +kernel
theorem dX4_succeeds_372 : decode cX4_succeeds 372 = .ok (.iconst 0, 1) := by decide +kernel
theorem dX4_succeeds_373 : decode cX4_succeeds 373 = .ok (.ireturn, 1) := by decide +kernel
theorem dX4_succeeds_374 : decode cX4_succeeds 374 = .ok (.iconst 0, 1) := by decide +kernel
theorem dX4_succeeds_375 : decode cX4_succeeds 375 = .ok (.ireturn, 1) := by decide +kernel
set_option maxRecDepth 20000 in
theorem ggX4_loadRoll_X3_loadSound : GoodIn wsX4_loadRoll wsX3_loadSound := goodIn_r _ [6, 7, 21] (by decide +kernel) (by decide +kernel)
set_option maxRecDepth 20000 in
theorem gX4_loadRoll_X3_loadSound : GoodIn wsX4_loadRoll (wsV RX4 163 RX3 yX3_loadSound wsX3_loadSound) := goodIn_app (goodIn_of _ (by decide +kernel)) ggX4_loadRoll_X3_loadSound
set_option maxRecDepth 20000 in
theorem ggX4_loadRoll_X3_loadCamera : GoodIn wsX4_loadRoll wsX3_loadCamera := goodIn_r _ [11, 7, 21] (by decide +kernel) (by decide +kernel)
set_option maxRecDepth 20000 in
theorem gX4_loadRoll_X3_loadCamera : GoodIn wsX4_loadRoll (wsV RX4 160 RX3 yX3_loadCamera wsX3_loadCamera) := goodIn_app (goodIn_of _ (by decide +kernel)) ggX4_loadRoll_X3_loadCamera
theorem dX4_loadRoll_0 : decode cX4_loadRoll 0 = .ok (.iload_n 1, 1) := by decide +kernel
theorem dX4_loadRoll_1 : decode cX4_loadRoll 1 = .ok (.ifCond .eq 14, 3) := by decide +kernel
theorem dX4_loadRoll_4 : decode cX4_loadRoll 4 = .ok (.aload_n 0, 1) := by decide +kernel
theorem dX4_loadRoll_5 : decode cX4_loadRoll 5 = .ok (.getfield 16, 3) := by decide +kernel
theorem dX4_loadRoll_8 : decode cX4_loadRoll 8 = .ok (.invokevirtual 163, 3) := by decide +kernel
theorem dX4_loadRoll_11 : decode cX4_loadRoll 11 = .ok (.pop, 1) := by decide +kernel
theorem dX4_loadRoll_12 : decode cX4_loadRoll 12 = .ok (.goto 11, 3) := by decide +kernel
theorem dX4_loadRoll_15 : decode cX4_loadRoll 15 = .ok (.aload_n 0, 1) := by decide +kernel
theorem dX4_loadRoll_16 : decode cX4_loadRoll 16 = .ok (.getfield 16, 3) := by decide +kernel
theorem dX4_loadRoll_19 : decode cX4_loadRoll 19 = .ok (.invokevirtual 160, 3) := by decide +kernel
theorem dX4_loadRoll_22 : decode cX4_loadRoll 22 = .ok (.pop, 1) := by decide +kernel
theorem dX4_loadRoll_23 : decode cX4_loadRoll 23 = .ok (.iconst 1, 1) := by decide +kernel
theorem dX4_loadRoll_24 : decode cX4_loadRoll 24 = .ok (.ireturn, 1) := by decide +kernel
set_option maxRecDepth 20000 in
theorem ggX4_doTurn_X3_mean : GoodIn wsX4_doTurn wsX3_mean := goodIn_r _ [6, 7, 120] (by decide +kernel) (by decide +kernel)
set_option maxRecDepth 20000 in
theorem gX4_doTurn_X3_mean : GoodIn wsX4_doTurn (wsV RX4 129 RX3 yX3_mean wsX3_mean) := goodIn_app (goodIn_of _ (by decide +kernel)) ggX4_doTurn_X3_mean
set_option maxRecDepth 20000 in
theorem ggX4_doTurn_X3_writeRight : GoodIn wsX4_doTurn wsX3_writeRight := goodIn_r _ [11, 7, 12, 13, 14, 5, 15, 16, 17, 18, 19, 20, 21, 22, 23, 24, 25, 26, 27, 28, 29, 30, 31, 120] (by decide +kernel) (by decide +kernel)
set_option maxRecDepth 20000 in
theorem gX4_doTurn_X3_writeRight : GoodIn wsX4_doTurn (wsV RX4 143 RX3 yX3_writeRight wsX3_writeRight) := goodIn_app (goodIn_of _ (by decide +kernel)) ggX4_doTurn_X3_writeRight
set_option maxRecDepth 20000 in
theorem ggX4_doTurn_X3_write : GoodIn wsX4_doTurn wsX3_write := goodIn_r _ [31, 7, 120] (by decide +kernel) (by decide +kernel)
set_option maxRecDepth 20000 in
theorem gX4_doTurn_X3_write : GoodIn wsX4_doTurn (wsV RX4 137 RX3 yX3_write wsX3_write) := goodIn_app (goodIn_of _ (by decide +kernel)) ggX4_doTurn_X3_write
set_option maxRecDepth 20000 in
theorem ggX4_doTurn_X3_loadCamera : GoodIn wsX4_doTurn wsX3_loadCamera := goodIn_r _ [36, 7, 120] (by decide +kernel) (by decide +kernel)
set_option maxRecDepth 20000 in
theorem gX4_doTurn_X3_loadCamera : GoodIn wsX4_doTurn (wsV RX4 160 RX3 yX3_loadCamera wsX3_loadCamera) := goodIn_app (goodIn_of _ (by decide +kernel)) ggX4_doTurn_X3_loadCamera
set_option maxRecDepth 20000 in
theorem ggX4_doTurn_X3_loadSound : GoodIn wsX4_doTurn wsX3_loadSound := goodIn_r _ [40, 7, 120] (by decide +kernel) (by decide +kernel)
set_option maxRecDepth 20000 in
theorem gX4_doTurn_X3_loadSound : GoodIn wsX4_doTurn (wsV RX4 163 RX3 yX3_loadSound wsX3_loadSound) := goodIn_app (goodIn_of _ (by decide +kernel)) ggX4_doTurn_X3_loadSound
set_option maxRecDepth 20000 in
theorem ggX4_doTurn_X3_mark : GoodIn wsX4_doTurn wsX3_mark := goodIn_r _ [44, 45, 46, 47, 5, 48, 7, 49, 50, 51, 52, 120] (by decide +kernel) (by decide +kernel)
set_option maxRecDepth 20000 in
theorem gX4_doTurn_X3_mark : GoodIn wsX4_doTurn (wsV RX4 166 RX3 yX3_mark wsX3_mark) := goodIn_app (goodIn_of _ (by decide +kernel)) ggX4_doTurn_X3_mark
set_option maxRecDepth 20000 in
theorem ggX4_doTurn_X3_setOff : GoodIn wsX4_doTurn wsX3_setOff := goodIn_r _ [56, 7, 120] (by decide +kernel) (by decide +kernel)
set_option maxRecDepth 20000 in
theorem gX4_doTurn_X3_setOff : GoodIn wsX4_doTurn (wsV RX4 181 RX3 yX3_setOff wsX3_setOff) := goodIn_app (goodIn_of _ (by decide +kernel)) ggX4_doTurn_X3_setOff
set_option maxRecDepth 20000 in
theorem ggX4_doTurn_X3_putRight : GoodIn wsX4_doTurn wsX3_putRight := goodIn_r _ [60, 45, 46, 47, 5, 48, 7, 61, 62, 63, 64, 24, 25, 26, 27, 65, 66, 67, 68, 20, 21, 22, 23, 69, 70, 71, 72, 49, 50, 51, 52, 120] (by decide +kernel) (by decide +kernel)
set_option maxRecDepth 20000 in
theorem gX4_doTurn_X3_putRight : GoodIn wsX4_doTurn (wsV RX4 176 RX3 yX3_putRight wsX3_putRight) := goodIn_app (goodIn_of _ (by decide +kernel)) ggX4_doTurn_X3_putRight
set_option maxRecDepth 20000 in
theorem ggX4_doTurn_X3_tryToFilm : GoodIn wsX4_doTurn wsX3_tryToFilm := goodIn_r _ [76, 77, 78, 79, 80, 81, 82, 5, 83, 16, 17, 18, 19, 7, 84, 85, 86, 87, 88, 89, 90, 91, 92, 93, 94, 95, 96, 97, 98, 99, 100, 101, 102, 49, 50, 51, 52, 103, 104, 105, 106, 107, 108, 109, 110, 24, 25, 26, 27, 120] (by decide +kernel) (by decide +kernel)
set_option maxRecDepth 20000 in
theorem gX4_doTurn_X3_tryToFilm : GoodIn wsX4_doTurn (wsV RX4 319 RX3 yX3_tryToFilm wsX3_tryToFilm) := goodIn_app (goodIn_of _ (by decide +kernel)) ggX4_doTurn_X3_tryToFilm
theorem dX4_doTurn_0 : decode cX4_doTurn 0 = .ok (.iload_n 1, 1) := by decide +kernel
theorem dX4_doTurn_1 : decode cX4_doTurn 1 = .ok (.bipush 16, 2) := by decide +kernel
theorem dX4_doTurn_3 : decode cX4_doTurn 3 = .ok (.idiv, 1) := by decide +kernel
theorem dX4_doTurn_4 : decode cX4_doTurn 4 = .ok (.istore_n 2, 1) := by decide +kernel
theorem dX4_doTurn_5 : decode cX4_doTurn 5 = .ok (.iload_n 1, 1) := by decide +kernel
theorem dX4_doTurn_6 : decode cX4_doTurn 6 = .ok (.bipush 16, 2) := by decide +kernel
theorem dX4_doTurn_8 : decode cX4_doTurn 8 = .ok (.irem, 1) := by decide +kernel
theorem dX4_doTurn_9 : decode cX4_doTurn 9 = .ok (.tableswitch 206 0 8 #[51, 73, 84, 114, 125, 136, 154, 172, 191], 51) := by decide +kernel
theorem dX4_doTurn_60 : decode cX4_doTurn 60 = .ok (.aload_n 0, 1) := by decide +kernel
theorem dX4_doTurn_61 : decode cX4_doTurn 61 = .ok (.getfield 16, 3) := by decide +kernel
theorem dX4_doTurn_64 : decode cX4_doTurn 64 = .ok (.iconst 1, 1) := by decide +kernel
theorem dX4_doTurn_65 : decode cX4_doTurn 65 = .ok (.iload_n 2, 1) := by decide +kernel
theorem dX4_doTurn_66 : decode cX4_doTurn 66 = .ok (.iconst 4, 1) := by decide +kernel
theorem dX4_doTurn_67 : decode cX4_doTurn 67 = .ok (.irem, 1) := by decide +kernel
theorem dX4_doTurn_68 : decode cX4_doTurn 68 = .ok (.iadd, 1) := by decide +kernel
theorem dX4_doTurn_69 : decode cX4_doTurn 69 = .ok (.iload_n 1, 1) := by decide +kernel
theorem dX4_doTurn_70 : decode cX4_doTurn 70 = .ok (.bipush 64, 2) := by decide +kernel
theorem dX4_doTurn_72 : decode cX4_doTurn 72 = .ok (.idiv, 1) := by decide +kernel
theorem dX4_doTurn_73 : decode cX4_doTurn 73 = .ok (.iconst 3, 1) := by decide +kernel
theorem dX4_doTurn_74 : decode cX4_doTurn 74 = .ok (.irem, 1) := by decide +kernel
theorem dX4_doTurn_75 : decode cX4_doTurn 75 = .ok (.invokevirtual 129, 3) := by decide +kernel
theorem dX4_doTurn_78 : decode cX4_doTurn 78 = .ok (.pop, 1) := by decide +kernel
theorem dX4_doTurn_79 : decode cX4_doTurn 79 = .ok (.goto 164, 3) := by decide +kernel
theorem dX4_doTurn_82 : decode cX4_doTurn 82 = .ok (.aload_n 0, 1) := by decide +kernel
theorem dX4_doTurn_83 : decode cX4_doTurn 83 = .ok (.getfield 16, 3) := by decide +kernel
theorem dX4_doTurn_86 : decode cX4_doTurn 86 = .ok (.invokevirtual 143, 3) := by decide +kernel
theorem dX4_doTurn_89 : decode cX4_doTurn 89 = .ok (.pop, 1) := by decide +kernel
theorem dX4_doTurn_90 : decode cX4_doTurn 90 = .ok (.goto 153, 3) := by decide +kernel
theorem dX4_doTurn_93 : decode cX4_doTurn 93 = .ok (.aload_n 0, 1) := by decide +kernel
theorem dX4_doTurn_94 : decode cX4_doTurn 94 = .ok (.getfield 16, 3) := by decide +kernel
theorem dX4_doTurn_97 : decode cX4_doTurn 97 = .ok (.iconst 1, 1) := by decide +kernel
theorem dX4_doTurn_98 : decode cX4_doTurn 98 = .ok (.iload_n 2, 1) := by decide +kernel
theorem dX4_doTurn_99 : decode cX4_doTurn 99 = .ok (.iconst 4, 1) := by decide +kernel
theorem dX4_doTurn_100 : decode cX4_doTurn 100 = .ok (.irem, 1) := by decide +kernel
theorem dX4_doTurn_101 : decode cX4_doTurn 101 = .ok (.iadd, 1) := by decide +kernel
theorem dX4_doTurn_102 : decode cX4_doTurn 102 = .ok (.iload_n 1, 1) := by decide +kernel
theorem dX4_doTurn_103 : decode cX4_doTurn 103 = .ok (.bipush 64, 2) := by decide +kernel
theorem dX4_doTurn_105 : decode cX4_doTurn 105 = .ok (.idiv, 1) := by decide +kernel
theorem dX4_doTurn_106 : decode cX4_doTurn 106 = .ok (.iconst 3, 1) := by decide +kernel
theorem dX4_doTurn_107 : decode cX4_doTurn 107 = .ok (.irem, 1) := by decide +kernel
theorem dX4_doTurn_108 : decode cX4_doTurn 108 = .ok (.iconst 1, 1) := by decide +kernel
theorem dX4_doTurn_109 : decode cX4_doTurn 109 = .ok (.iload_n 1, 1) := by decide +kernel
theorem dX4_doTurn_110 : decode cX4_doTurn 110 = .ok (.sipush 256, 3) := by decide +kernel
theorem dX4_doTurn_113 : decode cX4_doTurn 113 = .ok (.idiv, 1) := by decide +kernel
theorem dX4_doTurn_114 : decode cX4_doTurn 114 = .ok (.iconst 5, 1) := by decide +kernel
theorem dX4_doTurn_115 : decode cX4_doTurn 115 = .ok (.irem, 1) := by decide +kernel
theorem dX4_doTurn_116 : decode cX4_doTurn 116 = .ok (.iadd, 1) := by decide +kernel
theorem dX4_doTurn_117 : decode cX4_doTurn 117 = .ok (.invokevirtual 137, 3) := by decide +kernel
theorem dX4_doTurn_120 : decode cX4_doTurn 120 = .ok (.goto 123, 3) := by decide +kernel
theorem dX4_doTurn_123 : decode cX4_doTurn 123 = .ok (.aload_n 0, 1) := by decide +kernel
theorem dX4_doTurn_124 : decode cX4_doTurn 124 = .ok (.getfield 16, 3) := by decide +kernel
theorem dX4_doTurn_127 : decode cX4_doTurn 127 = .ok (.invokevirtual 160, 3) := by decide +kernel
theorem dX4_doTurn_130 : decode cX4_doTurn 130 = .ok (.pop, 1) := by decide +kernel
theorem dX4_doTurn_131 : decode cX4_doTurn 131 = .ok (.goto 112, 3) := by decide +kernel
theorem dX4_doTurn_134 : decode cX4_doTurn 134 = .ok (.aload_n 0, 1) := by decide +kernel
theorem dX4_doTurn_135 : decode cX4_doTurn 135 = .ok (.getfield 16, 3) := by decide +kernel
theorem dX4_doTurn_138 : decode cX4_doTurn 138 = .ok (.invokevirtual 163, 3) := by decide +kernel
theorem dX4_doTurn_141 : decode cX4_doTurn 141 = .ok (.pop, 1) := by decide +kernel
theorem dX4_doTurn_142 : decode cX4_doTurn 142 = .ok (.goto 101, 3) := by decide +kernel
theorem dX4_doTurn_145 : decode cX4_doTurn 145 = .ok (.aload_n 0, 1) := by decide +kernel
theorem dX4_doTurn_146 : decode cX4_doTurn 146 = .ok (.getfield 16, 3) := by decide +kernel
theorem dX4_doTurn_149 : decode cX4_doTurn 149 = .ok (.iload_n 2, 1) := by decide +kernel
theorem dX4_doTurn_150 : decode cX4_doTurn 150 = .ok (.bipush 24, 2) := by decide +kernel
theorem dX4_doTurn_152 : decode cX4_doTurn 152 = .ok (.irem, 1) := by decide +kernel
theorem dX4_doTurn_153 : decode cX4_doTurn 153 = .ok (.bipush 15, 2) := by decide +kernel
theorem dX4_doTurn_155 : decode cX4_doTurn 155 = .ok (.iconst 1, 1) := by decide +kernel
theorem dX4_doTurn_156 : decode cX4_doTurn 156 = .ok (.invokevirtual 166, 3) := by decide +kernel
theorem dX4_doTurn_159 : decode cX4_doTurn 159 = .ok (.pop, 1) := by decide +kernel
theorem dX4_doTurn_160 : decode cX4_doTurn 160 = .ok (.goto 83, 3) := by decide +kernel
theorem dX4_doTurn_163 : decode cX4_doTurn 163 = .ok (.aload_n 0, 1) := by decide +kernel
theorem dX4_doTurn_164 : decode cX4_doTurn 164 = .ok (.getfield 16, 3) := by decide +kernel
theorem dX4_doTurn_167 : decode cX4_doTurn 167 = .ok (.iload_n 2, 1) := by decide +kernel
theorem dX4_doTurn_168 : decode cX4_doTurn 168 = .ok (.bipush 24, 2) := by decide +kernel
theorem dX4_doTurn_170 : decode cX4_doTurn 170 = .ok (.irem, 1) := by decide +kernel
theorem dX4_doTurn_171 : decode cX4_doTurn 171 = .ok (.bipush 14, 2) := by decide +kernel
theorem dX4_doTurn_173 : decode cX4_doTurn 173 = .ok (.iconst 1, 1) := by decide +kernel
theorem dX4_doTurn_174 : decode cX4_doTurn 174 = .ok (.invokevirtual 166, 3) := by decide +kernel
theorem dX4_doTurn_177 : decode cX4_doTurn 177 = .ok (.pop, 1) := by decide +kernel
theorem dX4_doTurn_178 : decode cX4_doTurn 178 = .ok (.goto 65, 3) := by decide +kernel
theorem dX4_doTurn_181 : decode cX4_doTurn 181 = .ok (.aload_n 0, 1) := by decide +kernel
theorem dX4_doTurn_182 : decode cX4_doTurn 182 = .ok (.getfield 16, 3) := by decide +kernel
theorem dX4_doTurn_185 : decode cX4_doTurn 185 = .ok (.iload_n 2, 1) := by decide +kernel
theorem dX4_doTurn_186 : decode cX4_doTurn 186 = .ok (.sipush 199, 3) := by decide +kernel
theorem dX4_doTurn_189 : decode cX4_doTurn 189 = .ok (.irem, 1) := by decide +kernel
theorem dX4_doTurn_190 : decode cX4_doTurn 190 = .ok (.bipush 99, 2) := by decide +kernel
theorem dX4_doTurn_192 : decode cX4_doTurn 192 = .ok (.isub, 1) := by decide +kernel
theorem dX4_doTurn_193 : decode cX4_doTurn 193 = .ok (.invokevirtual 181, 3) := by decide +kernel
theorem dX4_doTurn_196 : decode cX4_doTurn 196 = .ok (.pop, 1) := by decide +kernel
theorem dX4_doTurn_197 : decode cX4_doTurn 197 = .ok (.goto 46, 3) := by decide +kernel
theorem dX4_doTurn_200 : decode cX4_doTurn 200 = .ok (.aload_n 0, 1) := by decide +kernel
theorem dX4_doTurn_201 : decode cX4_doTurn 201 = .ok (.getfield 16, 3) := by decide +kernel
theorem dX4_doTurn_204 : decode cX4_doTurn 204 = .ok (.iload_n 2, 1) := by decide +kernel
theorem dX4_doTurn_205 : decode cX4_doTurn 205 = .ok (.bipush 24, 2) := by decide +kernel
theorem dX4_doTurn_207 : decode cX4_doTurn 207 = .ok (.irem, 1) := by decide +kernel
theorem dX4_doTurn_208 : decode cX4_doTurn 208 = .ok (.invokevirtual 176, 3) := by decide +kernel
theorem dX4_doTurn_211 : decode cX4_doTurn 211 = .ok (.pop, 1) := by decide +kernel
theorem dX4_doTurn_212 : decode cX4_doTurn 212 = .ok (.goto 31, 3) := by decide +kernel
theorem dX4_doTurn_215 : decode cX4_doTurn 215 = .ok (.aload_n 0, 1) := by decide +kernel
theorem dX4_doTurn_216 : decode cX4_doTurn 216 = .ok (.getfield 16, 3) := by decide +kernel
theorem dX4_doTurn_219 : decode cX4_doTurn 219 = .ok (.iconst 1, 1) := by decide +kernel
theorem dX4_doTurn_220 : decode cX4_doTurn 220 = .ok (.iload_n 1, 1) := by decide +kernel
theorem dX4_doTurn_221 : decode cX4_doTurn 221 = .ok (.bipush 32, 2) := by decide +kernel
theorem dX4_doTurn_223 : decode cX4_doTurn 223 = .ok (.idiv, 1) := by decide +kernel
theorem dX4_doTurn_224 : decode cX4_doTurn 224 = .ok (.bipush 120, 2) := by decide +kernel
theorem dX4_doTurn_226 : decode cX4_doTurn 226 = .ok (.irem, 1) := by decide +kernel
theorem dX4_doTurn_227 : decode cX4_doTurn 227 = .ok (.iadd, 1) := by decide +kernel
theorem dX4_doTurn_228 : decode cX4_doTurn 228 = .ok (.iload_n 2, 1) := by decide +kernel
theorem dX4_doTurn_229 : decode cX4_doTurn 229 = .ok (.iconst 2, 1) := by decide +kernel
theorem dX4_doTurn_230 : decode cX4_doTurn 230 = .ok (.irem, 1) := by decide +kernel
theorem dX4_doTurn_231 : decode cX4_doTurn 231 = .ok (.ifCond .ne 7, 3) := by decide +kernel
theorem dX4_doTurn_234 : decode cX4_doTurn 234 = .ok (.iconst 1, 1) := by decide +kernel
theorem dX4_doTurn_235 : decode cX4_doTurn 235 = .ok (.goto 4, 3) := by decide +kernel
theorem dX4_doTurn_238 : decode cX4_doTurn 238 = .ok (.iconst 0, 1) := by decide +kernel
theorem dX4_doTurn_239 : decode cX4_doTurn 239 = .ok (.invokevirtual 319, 3) := by decide +kernel
theorem dX4_doTurn_242 : decode cX4_doTurn 242 = .ok (.pop, 1) := by decide +kernel
theorem dX4_doTurn_243 : decode cX4_doTurn 243 = .ok (.return_, 1) := by decide +kernel
