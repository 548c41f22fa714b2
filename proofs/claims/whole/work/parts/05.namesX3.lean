set_option maxRecDepth 20000 in
theorem ggX3_init_X3_reset : GoodIn wsX3_init wsX3_reset := goodIn_r _ [10, 5, 11, 12, 13, 14, 15] (by decide +kernel) (by decide +kernel)
set_option maxRecDepth 20000 in
theorem gX3_init_X3_reset : GoodIn wsX3_init (wsV RX3 15 RX3 yX3_reset wsX3_reset) := goodIn_app (goodIn_of _ (by decide +kernel)) ggX3_init_X3_reset
theorem dX3_init_0 : decode cX3_init 0 = .ok (.aload_n 0, 1) := by decide +kernel
theorem dX3_init_1 : decode cX3_init 1 = .ok (.invokespecial 3, 3) := by decide +kernel
theorem dX3_init_4 : decode cX3_init 4 = .ok (.aload_n 0, 1) := by decide +kernel
theorem dX3_init_5 : decode cX3_init 5 = .ok (.sipush 400, 3) := by decide +kernel
theorem dX3_init_8 : decode cX3_init 8 = .ok (.newarray .int, 2) := by decide +kernel
theorem dX3_init_10 : decode cX3_init 10 = .ok (.putfield 9, 3) := by decide +kernel
theorem dX3_init_13 : decode cX3_init 13 = .ok (.aload_n 0, 1) := by decide +kernel
theorem dX3_init_14 : decode cX3_init 14 = .ok (.invokevirtual 15, 3) := by decide +kernel
theorem dX3_init_17 : decode cX3_init 17 = .ok (.return_, 1) := by decide +kernel
set_option maxRecDepth 20000 in
theorem ggX3_reset_J7_fill_53178 : GoodIn wsX3_reset wsJ7_fill_53178 := goodIn_r _ [5] (by decide +kernel) (by decide +kernel)
set_option maxRecDepth 20000 in
theorem gX3_reset_J7_fill_53178 : GoodIn wsX3_reset (va_wsS RX3 18 yJ7_fill_53178 wsJ7_fill_53178) := goodIn_app (goodIn_of _ (by decide +kernel)) ggX3_reset_J7_fill_53178
theorem dX3_reset_0 : decode cX3_reset 0 = .ok (.aload_n 0, 1) := by decide +kernel
theorem dX3_reset_1 : decode cX3_reset 1 = .ok (.getfield 9, 3) := by decide +kernel
theorem dX3_reset_4 : decode cX3_reset 4 = .ok (.iconst 0, 1) := by decide +kernel
theorem dX3_reset_5 : decode cX3_reset 5 = .ok (.invokestatic 18, 3) := by decide +kernel
theorem dX3_reset_8 : decode cX3_reset 8 = .ok (.aload_n 0, 1) := by decide +kernel
theorem dX3_reset_9 : decode cX3_reset 9 = .ok (.getfield 9, 3) := by decide +kernel
theorem dX3_reset_12 : decode cX3_reset 12 = .ok (.iconst 1, 1) := by decide +kernel
theorem dX3_reset_13 : decode cX3_reset 13 = .ok (.iconst 1, 1) := by decide +kernel
theorem dX3_reset_14 : decode cX3_reset 14 = .ok (.iastore, 1) := by decide +kernel
theorem dX3_reset_15 : decode cX3_reset 15 = .ok (.aload_n 0, 1) := by decide +kernel
theorem dX3_reset_16 : decode cX3_reset 16 = .ok (.getfield 9, 3) := by decide +kernel
theorem dX3_reset_19 : decode cX3_reset 19 = .ok (.iconst 3, 1) := by decide +kernel
theorem dX3_reset_20 : decode cX3_reset 20 = .ok (.iconst 1, 1) := by decide +kernel
theorem dX3_reset_21 : decode cX3_reset 21 = .ok (.iastore, 1) := by decide +kernel
theorem dX3_reset_22 : decode cX3_reset 22 = .ok (.aload_n 0, 1) := by decide +kernel
theorem dX3_reset_23 : decode cX3_reset 23 = .ok (.getfield 9, 3) := by decide +kernel
theorem dX3_reset_26 : decode cX3_reset 26 = .ok (.iconst 5, 1) := by decide +kernel
theorem dX3_reset_27 : decode cX3_reset 27 = .ok (.iconst 1, 1) := by decide +kernel
theorem dX3_reset_28 : decode cX3_reset 28 = .ok (.iastore, 1) := by decide +kernel
theorem dX3_reset_29 : decode cX3_reset 29 = .ok (.aload_n 0, 1) := by decide +kernel
theorem dX3_reset_30 : decode cX3_reset 30 = .ok (.getfield 9, 3) := by decide +kernel
theorem dX3_reset_33 : decode cX3_reset 33 = .ok (.bipush 6, 2) := by decide +kernel
theorem dX3_reset_35 : decode cX3_reset 35 = .ok (.iconst 1, 1) := by decide +kernel
theorem dX3_reset_36 : decode cX3_reset 36 = .ok (.iastore, 1) := by decide +kernel
theorem dX3_reset_37 : decode cX3_reset 37 = .ok (.aload_n 0, 1) := by decide +kernel
theorem dX3_reset_38 : decode cX3_reset 38 = .ok (.getfield 9, 3) := by decide +kernel
theorem dX3_reset_41 : decode cX3_reset 41 = .ok (.bipush 8, 2) := by decide +kernel
theorem dX3_reset_43 : decode cX3_reset 43 = .ok (.iconst 1, 1) := by decide +kernel
theorem dX3_reset_44 : decode cX3_reset 44 = .ok (.iastore, 1) := by decide +kernel
theorem dX3_reset_45 : decode cX3_reset 45 = .ok (.aload_n 0, 1) := by decide +kernel
theorem dX3_reset_46 : decode cX3_reset 46 = .ok (.getfield 9, 3) := by decide +kernel
theorem dX3_reset_49 : decode cX3_reset 49 = .ok (.bipush 12, 2) := by decide +kernel
theorem dX3_reset_51 : decode cX3_reset 51 = .ok (.sipush 300, 3) := by decide +kernel
theorem dX3_reset_54 : decode cX3_reset 54 = .ok (.iastore, 1) := by decide +kernel
theorem dX3_reset_55 : decode cX3_reset 55 = .ok (.aload_n 0, 1) := by decide +kernel
theorem dX3_reset_56 : decode cX3_reset 56 = .ok (.getfield 9, 3) := by decide +kernel
theorem dX3_reset_59 : decode cX3_reset 59 = .ok (.bipush 13, 2) := by decide +kernel
theorem dX3_reset_61 : decode cX3_reset 61 = .ok (.sipush 900, 3) := by decide +kernel
theorem dX3_reset_64 : decode cX3_reset 64 = .ok (.iastore, 1) := by decide +kernel
theorem dX3_reset_65 : decode cX3_reset 65 = .ok (.aload_n 0, 1) := by decide +kernel
theorem dX3_reset_66 : decode cX3_reset 66 = .ok (.getfield 9, 3) := by decide +kernel
theorem dX3_reset_69 : decode cX3_reset 69 = .ok (.bipush 14, 2) := by decide +kernel
theorem dX3_reset_71 : decode cX3_reset 71 = .ok (.bipush 10, 2) := by decide +kernel
theorem dX3_reset_73 : decode cX3_reset 73 = .ok (.iastore, 1) := by decide +kernel
theorem dX3_reset_74 : decode cX3_reset 74 = .ok (.aload_n 0, 1) := by decide +kernel
theorem dX3_reset_75 : decode cX3_reset 75 = .ok (.getfield 9, 3) := by decide +kernel
theorem dX3_reset_78 : decode cX3_reset 78 = .ok (.bipush 15, 2) := by decide +kernel
theorem dX3_reset_80 : decode cX3_reset 80 = .ok (.iconst 1, 1) := by decide +kernel
theorem dX3_reset_81 : decode cX3_reset 81 = .ok (.iastore, 1) := by decide +kernel
theorem dX3_reset_82 : decode cX3_reset 82 = .ok (.return_, 1) := by decide +kernel
theorem dX3_copyFrom_0 : decode cX3_copyFrom 0 = .ok (.aload_n 1, 1) := by decide +kernel
theorem dX3_copyFrom_1 : decode cX3_copyFrom 1 = .ok (.getfield 9, 3) := by decide +kernel
theorem dX3_copyFrom_4 : decode cX3_copyFrom 4 = .ok (.iconst 0, 1) := by decide +kernel
theorem dX3_copyFrom_5 : decode cX3_copyFrom 5 = .ok (.aload_n 0, 1) := by decide +kernel
theorem dX3_copyFrom_6 : decode cX3_copyFrom 6 = .ok (.getfield 9, 3) := by decide +kernel
theorem dX3_copyFrom_9 : decode cX3_copyFrom 9 = .ok (.iconst 0, 1) := by decide +kernel
theorem dX3_copyFrom_10 : decode cX3_copyFrom 10 = .ok (.sipush 400, 3) := by decide +kernel
theorem dX3_copyFrom_13 : decode cX3_copyFrom 13 = .ok (.invokestatic 24, 3) := by decide +kernel
theorem dX3_copyFrom_16 : decode cX3_copyFrom 16 = .ok (.return_, 1) := by decide +kernel
theorem dX3_takes_0 : decode cX3_takes 0 = .ok (.aload_n 0, 1) := by decide +kernel
theorem dX3_takes_1 : decode cX3_takes 1 = .ok (.getfield 9, 3) := by decide +kernel
theorem dX3_takes_4 : decode cX3_takes 4 = .ok (.iconst 0, 1) := by decide +kernel
theorem dX3_takes_5 : decode cX3_takes 5 = .ok (.iaload, 1) := by decide +kernel
theorem dX3_takes_6 : decode cX3_takes 6 = .ok (.ireturn, 1) := by decide +kernel
theorem dX3_hasTake_0 : decode cX3_hasTake 0 = .ok (.iload_n 1, 1) := by decide +kernel
theorem dX3_hasTake_1 : decode cX3_hasTake 1 = .ok (.ifCond .lt 17, 3) := by decide +kernel
theorem dX3_hasTake_4 : decode cX3_hasTake 4 = .ok (.iload_n 1, 1) := by decide +kernel
theorem dX3_hasTake_5 : decode cX3_hasTake 5 = .ok (.aload_n 0, 1) := by decide +kernel
theorem dX3_hasTake_6 : decode cX3_hasTake 6 = .ok (.getfield 9, 3) := by decide +kernel
theorem dX3_hasTake_9 : decode cX3_hasTake 9 = .ok (.iconst 0, 1) := by decide +kernel
theorem dX3_hasTake_10 : decode cX3_hasTake 10 = .ok (.iaload, 1) := by decide +kernel
theorem dX3_hasTake_11 : decode cX3_hasTake 11 = .ok (.if_icmp .ge 7, 3) := by decide +kernel
theorem dX3_hasTake_14 : decode cX3_hasTake 14 = .ok (.iconst 1, 1) := by decide +kernel
theorem dX3_hasTake_15 : decode cX3_hasTake 15 = .ok (.goto 4, 3) := by decide +kernel
theorem dX3_hasTake_18 : decode cX3_hasTake 18 = .ok (.iconst 0, 1) := by decide +kernel
theorem dX3_hasTake_19 : decode cX3_hasTake 19 = .ok (.ireturn, 1) := by decide +kernel
theorem dX3_of_0 : decode cX3_of 0 = .ok (.bipush 16, 2) := by decide +kernel
theorem dX3_of_2 : decode cX3_of 2 = .ok (.iload_n 1, 1) := by decide +kernel
theorem dX3_of_3 : decode cX3_of 3 = .ok (.bipush 16, 2) := by decide +kernel
theorem dX3_of_5 : decode cX3_of 5 = .ok (.imul, 1) := by decide +kernel
theorem dX3_of_6 : decode cX3_of 6 = .ok (.iadd, 1) := by decide +kernel
theorem dX3_of_7 : decode cX3_of 7 = .ok (.iload_n 2, 1) := by decide +kernel
theorem dX3_of_8 : decode cX3_of 8 = .ok (.iadd, 1) := by decide +kernel
theorem dX3_of_9 : decode cX3_of 9 = .ok (.istore_n 3, 1) := by decide +kernel
theorem dX3_of_10 : decode cX3_of 10 = .ok (.iload_n 3, 1) := by decide +kernel
theorem dX3_of_11 : decode cX3_of 11 = .ok (.bipush 16, 2) := by decide +kernel
theorem dX3_of_13 : decode cX3_of 13 = .ok (.if_icmp .lt 10, 3) := by decide +kernel
theorem dX3_of_16 : decode cX3_of 16 = .ok (.iload_n 3, 1) := by decide +kernel
theorem dX3_of_17 : decode cX3_of 17 = .ok (.sipush 400, 3) := by decide +kernel
theorem dX3_of_20 : decode cX3_of 20 = .ok (.if_icmp .lt 7, 3) := by decide +kernel
theorem dX3_of_23 : decode cX3_of 23 = .ok (.iconst (-1), 1) := by decide +kernel
theorem dX3_of_24 : decode cX3_of 24 = .ok (.goto 9, 3) := by decide +kernel
theorem dX3_of_27 : decode cX3_of 27 = .ok (.aload_n 0, 1) := by decide +kernel
theorem dX3_of_28 : decode cX3_of 28 = .ok (.getfield 9, 3) := by decide +kernel
theorem dX3_of_31 : decode cX3_of 31 = .ok (.iload_n 3, 1) := by decide +kernel
theorem dX3_of_32 : decode cX3_of 32 = .ok (.iaload, 1) := by decide +kernel
theorem dX3_of_33 : decode cX3_of 33 = .ok (.ireturn, 1) := by decide +kernel
theorem dX3_put_0 : decode cX3_put 0 = .ok (.bipush 16, 2) := by decide +kernel
theorem dX3_put_2 : decode cX3_put 2 = .ok (.iload_n 1, 1) := by decide +kernel
theorem dX3_put_3 : decode cX3_put 3 = .ok (.bipush 16, 2) := by decide +kernel
theorem dX3_put_5 : decode cX3_put 5 = .ok (.imul, 1) := by decide +kernel
theorem dX3_put_6 : decode cX3_put 6 = .ok (.iadd, 1) := by decide +kernel
theorem dX3_put_7 : decode cX3_put 7 = .ok (.iload_n 2, 1) := by decide +kernel
theorem dX3_put_8 : decode cX3_put 8 = .ok (.iadd, 1) := by decide +kernel
theorem dX3_put_9 : decode cX3_put 9 = .ok (.istore 4, 2) := by decide +kernel
theorem dX3_put_11 : decode cX3_put 11 = .ok (.iload 4, 2) := by decide +kernel
theorem dX3_put_13 : decode cX3_put 13 = .ok (.bipush 16, 2) := by decide +kernel
theorem dX3_put_15 : decode cX3_put 15 = .ok (.if_icmp .lt 19, 3) := by decide +kernel
theorem dX3_put_18 : decode cX3_put 18 = .ok (.iload 4, 2) := by decide +kernel
theorem dX3_put_20 : decode cX3_put 20 = .ok (.sipush 400, 3) := by decide +kernel
theorem dX3_put_23 : decode cX3_put 23 = .ok (.if_icmp .ge 11, 3) := by decide +kernel
theorem dX3_put_26 : decode cX3_put 26 = .ok (.aload_n 0, 1) := by decide +kernel
theorem dX3_put_27 : decode cX3_put 27 = .ok (.getfield 9, 3) := by decide +kernel
theorem dX3_put_30 : decode cX3_put 30 = .ok (.iload 4, 2) := by decide +kernel
theorem dX3_put_32 : decode cX3_put 32 = .ok (.iload_n 3, 1) := by decide +kernel
theorem dX3_put_33 : decode cX3_put 33 = .ok (.iastore, 1) := by decide +kernel
theorem dX3_put_34 : decode cX3_put 34 = .ok (.return_, 1) := by decide +kernel
theorem dX3_chosen_0 : decode cX3_chosen 0 = .ok (.bipush 12, 2) := by decide +kernel
theorem dX3_chosen_2 : decode cX3_chosen 2 = .ok (.iload_n 1, 1) := by decide +kernel
theorem dX3_chosen_3 : decode cX3_chosen 3 = .ok (.iadd, 1) := by decide +kernel
theorem dX3_chosen_4 : decode cX3_chosen 4 = .ok (.istore_n 2, 1) := by decide +kernel
theorem dX3_chosen_5 : decode cX3_chosen 5 = .ok (.iload_n 2, 1) := by decide +kernel
theorem dX3_chosen_6 : decode cX3_chosen 6 = .ok (.bipush 12, 2) := by decide +kernel
theorem dX3_chosen_8 : decode cX3_chosen 8 = .ok (.if_icmp .lt 9, 3) := by decide +kernel
theorem dX3_chosen_11 : decode cX3_chosen 11 = .ok (.iload_n 2, 1) := by decide +kernel
theorem dX3_chosen_12 : decode cX3_chosen 12 = .ok (.bipush 15, 2) := by decide +kernel
theorem dX3_chosen_14 : decode cX3_chosen 14 = .ok (.if_icmp .le 7, 3) := by decide +kernel
theorem dX3_chosen_17 : decode cX3_chosen 17 = .ok (.iconst (-1), 1) := by decide +kernel
theorem dX3_chosen_18 : decode cX3_chosen 18 = .ok (.goto 9, 3) := by decide +kernel
theorem dX3_chosen_21 : decode cX3_chosen 21 = .ok (.aload_n 0, 1) := by decide +kernel
theorem dX3_chosen_22 : decode cX3_chosen 22 = .ok (.getfield 9, 3) := by decide +kernel
theorem dX3_chosen_25 : decode cX3_chosen 25 = .ok (.iload_n 2, 1) := by decide +kernel
theorem dX3_chosen_26 : decode cX3_chosen 26 = .ok (.iaload, 1) := by decide +kernel
theorem dX3_chosen_27 : decode cX3_chosen 27 = .ok (.ireturn, 1) := by decide +kernel
set_option maxRecDepth 20000 in
theorem ggX3_cameraLeft_X3_chosen : GoodIn wsX3_cameraLeft wsX3_chosen := goodIn_r _ [10, 1, 11] (by decide +kernel) (by decide +kernel)
set_option maxRecDepth 20000 in
theorem gX3_cameraLeft_X3_chosen : GoodIn wsX3_cameraLeft (wsV RX3 30 RX3 yX3_chosen wsX3_chosen) := goodIn_app (goodIn_of _ (by decide +kernel)) ggX3_cameraLeft_X3_chosen
theorem dX3_cameraLeft_0 : decode cX3_cameraLeft 0 = .ok (.iconst 0, 1) := by decide +kernel
theorem dX3_cameraLeft_1 : decode cX3_cameraLeft 1 = .ok (.aload_n 0, 1) := by decide +kernel
theorem dX3_cameraLeft_2 : decode cX3_cameraLeft 2 = .ok (.iconst 0, 1) := by decide +kernel
theorem dX3_cameraLeft_3 : decode cX3_cameraLeft 3 = .ok (.invokevirtual 30, 3) := by decide +kernel
theorem dX3_cameraLeft_6 : decode cX3_cameraLeft 6 = .ok (.aload_n 0, 1) := by decide +kernel
theorem dX3_cameraLeft_7 : decode cX3_cameraLeft 7 = .ok (.getfield 9, 3) := by decide +kernel
theorem dX3_cameraLeft_10 : decode cX3_cameraLeft 10 = .ok (.bipush 7, 2) := by decide +kernel
theorem dX3_cameraLeft_12 : decode cX3_cameraLeft 12 = .ok (.iaload, 1) := by decide +kernel
theorem dX3_cameraLeft_13 : decode cX3_cameraLeft 13 = .ok (.isub, 1) := by decide +kernel
theorem dX3_cameraLeft_14 : decode cX3_cameraLeft 14 = .ok (.invokestatic 34, 3) := by decide +kernel
theorem dX3_cameraLeft_17 : decode cX3_cameraLeft 17 = .ok (.ireturn, 1) := by decide +kernel
set_option maxRecDepth 20000 in
theorem ggX3_hasSound_X3_of : GoodIn wsX3_hasSound wsX3_of := goodIn_r _ [5, 6, 7] (by decide +kernel) (by decide +kernel)
set_option maxRecDepth 20000 in
theorem gX3_hasSound_X3_of : GoodIn wsX3_hasSound (wsV RX3 40 RX3 yX3_of wsX3_of) := goodIn_app (goodIn_of _ (by decide +kernel)) ggX3_hasSound_X3_of
theorem dX3_hasSound_0 : decode cX3_hasSound 0 = .ok (.aload_n 0, 1) := by decide +kernel
theorem dX3_hasSound_1 : decode cX3_hasSound 1 = .ok (.iload_n 1, 1) := by decide +kernel
theorem dX3_hasSound_2 : decode cX3_hasSound 2 = .ok (.bipush 9, 2) := by decide +kernel
theorem dX3_hasSound_4 : decode cX3_hasSound 4 = .ok (.invokevirtual 40, 3) := by decide +kernel
theorem dX3_hasSound_7 : decode cX3_hasSound 7 = .ok (.iconst (-1), 1) := by decide +kernel
theorem dX3_hasSound_8 : decode cX3_hasSound 8 = .ok (.if_icmp .eq 7, 3) := by decide +kernel
theorem dX3_hasSound_11 : decode cX3_hasSound 11 = .ok (.iconst 1, 1) := by decide +kernel
theorem dX3_hasSound_12 : decode cX3_hasSound 12 = .ok (.goto 4, 3) := by decide +kernel
theorem dX3_hasSound_15 : decode cX3_hasSound 15 = .ok (.iconst 0, 1) := by decide +kernel
theorem dX3_hasSound_16 : decode cX3_hasSound 16 = .ok (.ireturn, 1) := by decide +kernel
set_option maxRecDepth 20000 in
theorem ggX3_told_X3_rightNumber : GoodIn wsX3_told wsX3_rightNumber := goodIn_r _ [5, 6, 7, 8, 4, 9, 10, 11, 12, 13, 14, 23] (by decide +kernel) (by decide +kernel)
set_option maxRecDepth 20000 in
theorem gX3_told_X3_rightNumber : GoodIn wsX3_told (wsV RX3 43 RX3 yX3_rightNumber wsX3_rightNumber) := goodIn_app (goodIn_of _ (by decide +kernel)) ggX3_told_X3_rightNumber
set_option maxRecDepth 20000 in
theorem ggX3_told_X3_isRight : GoodIn wsX3_told wsX3_isRight := goodIn_r _ [18, 6, 7, 8, 4, 9, 10, 1, 2, 3, 5, 11, 12, 13, 14, 19, 20, 21, 22, 23] (by decide +kernel) (by decide +kernel)
set_option maxRecDepth 20000 in
theorem gX3_told_X3_isRight : GoodIn wsX3_told (wsV RX3 46 RX3 yX3_isRight wsX3_isRight) := goodIn_app (goodIn_of _ (by decide +kernel)) ggX3_told_X3_isRight
set_option maxRecDepth 20000 in
theorem ggX3_told_X3_of : GoodIn wsX3_told wsX3_of := goodIn_r _ [9, 10, 23] (by decide +kernel) (by decide +kernel)
set_option maxRecDepth 20000 in
theorem gX3_told_X3_of : GoodIn wsX3_told (wsV RX3 40 RX3 yX3_of wsX3_of) := goodIn_app (goodIn_of _ (by decide +kernel)) ggX3_told_X3_of
theorem dX3_told_0 : decode cX3_told 0 = .ok (.iload_n 2, 1) := by decide +kernel
theorem dX3_told_1 : decode cX3_told 1 = .ok (.lookupswitch 47 #[(2, 27), (16, 33)], 27) := by decide +kernel
theorem dX3_told_28 : decode cX3_told 28 = .ok (.aload_n 0, 1) := by decide +kernel
theorem dX3_told_29 : decode cX3_told 29 = .ok (.iload_n 1, 1) := by decide +kernel
theorem dX3_told_30 : decode cX3_told 30 = .ok (.invokevirtual 43, 3) := by decide +kernel
theorem dX3_told_33 : decode cX3_told 33 = .ok (.ireturn, 1) := by decide +kernel
theorem dX3_told_34 : decode cX3_told 34 = .ok (.aload_n 0, 1) := by decide +kernel
theorem dX3_told_35 : decode cX3_told 35 = .ok (.iload_n 1, 1) := by decide +kernel
theorem dX3_told_36 : decode cX3_told 36 = .ok (.invokevirtual 46, 3) := by decide +kernel
theorem dX3_told_39 : decode cX3_told 39 = .ok (.ifCond .eq 7, 3) := by decide +kernel
theorem dX3_told_42 : decode cX3_told 42 = .ok (.iconst 1, 1) := by decide +kernel
theorem dX3_told_43 : decode cX3_told 43 = .ok (.goto 4, 3) := by decide +kernel
theorem dX3_told_46 : decode cX3_told 46 = .ok (.iconst 0, 1) := by decide +kernel
theorem dX3_told_47 : decode cX3_told 47 = .ok (.ireturn, 1) := by decide +kernel
theorem dX3_told_48 : decode cX3_told 48 = .ok (.aload_n 0, 1) := by decide +kernel
theorem dX3_told_49 : decode cX3_told 49 = .ok (.iload_n 1, 1) := by decide +kernel
theorem dX3_told_50 : decode cX3_told 50 = .ok (.iload_n 2, 1) := by decide +kernel
theorem dX3_told_51 : decode cX3_told 51 = .ok (.invokevirtual 40, 3) := by decide +kernel
theorem dX3_told_54 : decode cX3_told 54 = .ok (.ireturn, 1) := by decide +kernel
set_option maxRecDepth 20000 in
theorem ggX3_total_X3_wrongSlates : GoodIn wsX3_total wsX3_wrongSlates := goodIn_r _ [6, 7, 8, 9, 5, 10, 11, 12, 13, 14, 1, 15, 16, 17, 18, 19, 20, 21, 22, 23, 24, 25, 26, 27, 28, 29, 30, 31, 32, 33, 34, 35, 36, 37, 38, 39, 40, 41, 66] (by decide +kernel) (by decide +kernel)
set_option maxRecDepth 20000 in
theorem gX3_total_X3_wrongSlates : GoodIn wsX3_total (wsV RX3 50 RX3 yX3_wrongSlates wsX3_wrongSlates) := goodIn_app (goodIn_of _ (by decide +kernel)) ggX3_total_X3_wrongSlates
set_option maxRecDepth 20000 in
theorem ggX3_total_X3_marked : GoodIn wsX3_total wsX3_marked := goodIn_r _ [45, 11, 12, 13, 5, 14, 1, 19, 20, 21, 22, 66] (by decide +kernel) (by decide +kernel)
set_option maxRecDepth 20000 in
theorem gX3_total_X3_marked : GoodIn wsX3_total (wsV RX3 54 RX3 yX3_marked wsX3_marked) := goodIn_app (goodIn_of _ (by decide +kernel)) ggX3_total_X3_marked
set_option maxRecDepth 20000 in
theorem ggX3_total_X3_circledSeconds : GoodIn wsX3_total wsX3_circledSeconds := goodIn_r _ [49, 11, 12, 13, 5, 14, 1, 19, 20, 21, 22, 66] (by decide +kernel) (by decide +kernel)
set_option maxRecDepth 20000 in
theorem gX3_total_X3_circledSeconds : GoodIn wsX3_total (wsV RX3 57 RX3 yX3_circledSeconds wsX3_circledSeconds) := goodIn_app (goodIn_of _ (by decide +kernel)) ggX3_total_X3_circledSeconds
set_option maxRecDepth 20000 in
theorem ggX3_total_X3_unlikeSounds : GoodIn wsX3_total wsX3_unlikeSounds := goodIn_r _ [53, 11, 12, 13, 5, 14, 1, 54, 55, 56, 57, 19, 20, 21, 22, 58, 59, 60, 61, 62, 63, 64, 65, 66] (by decide +kernel) (by decide +kernel)
set_option maxRecDepth 20000 in
theorem gX3_total_X3_unlikeSounds : GoodIn wsX3_total (wsV RX3 60 RX3 yX3_unlikeSounds wsX3_unlikeSounds) := goodIn_app (goodIn_of _ (by decide +kernel)) ggX3_total_X3_unlikeSounds
theorem dX3_total_0 : decode cX3_total 0 = .ok (.iload_n 1, 1) := by decide +kernel
theorem dX3_total_1 : decode cX3_total 1 = .ok (.tableswitch 64 12 16 #[35, 40, 47, 52, 59], 35) := by decide +kernel
theorem dX3_total_36 : decode cX3_total 36 = .ok (.aload_n 0, 1) := by decide +kernel
theorem dX3_total_37 : decode cX3_total 37 = .ok (.invokevirtual 50, 3) := by decide +kernel
theorem dX3_total_40 : decode cX3_total 40 = .ok (.ireturn, 1) := by decide +kernel
theorem dX3_total_41 : decode cX3_total 41 = .ok (.aload_n 0, 1) := by decide +kernel
theorem dX3_total_42 : decode cX3_total 42 = .ok (.bipush 14, 2) := by decide +kernel
theorem dX3_total_44 : decode cX3_total 44 = .ok (.invokevirtual 54, 3) := by decide +kernel
theorem dX3_total_47 : decode cX3_total 47 = .ok (.ireturn, 1) := by decide +kernel
theorem dX3_total_48 : decode cX3_total 48 = .ok (.aload_n 0, 1) := by decide +kernel
theorem dX3_total_49 : decode cX3_total 49 = .ok (.invokevirtual 57, 3) := by decide +kernel
theorem dX3_total_52 : decode cX3_total 52 = .ok (.ireturn, 1) := by decide +kernel
theorem dX3_total_53 : decode cX3_total 53 = .ok (.aload_n 0, 1) := by decide +kernel
theorem dX3_total_54 : decode cX3_total 54 = .ok (.bipush 15, 2) := by decide +kernel
theorem dX3_total_56 : decode cX3_total 56 = .ok (.invokevirtual 54, 3) := by decide +kernel
theorem dX3_total_59 : decode cX3_total 59 = .ok (.ireturn, 1) := by decide +kernel
theorem dX3_total_60 : decode cX3_total 60 = .ok (.aload_n 0, 1) := by decide +kernel
theorem dX3_total_61 : decode cX3_total 61 = .ok (.invokevirtual 60, 3) := by decide +kernel
theorem dX3_total_64 : decode cX3_total 64 = .ok (.ireturn, 1) := by decide +kernel
theorem dX3_total_65 : decode cX3_total 65 = .ok (.iload_n 1, 1) := by decide +kernel
theorem dX3_total_66 : decode cX3_total 66 = .ok (.ifCond .lt 9, 3) := by decide +kernel
theorem dX3_total_69 : decode cX3_total 69 = .ok (.iload_n 1, 1) := by decide +kernel
theorem dX3_total_70 : decode cX3_total 70 = .ok (.bipush 11, 2) := by decide +kernel
theorem dX3_total_72 : decode cX3_total 72 = .ok (.if_icmp .le 7, 3) := by decide +kernel
theorem dX3_total_75 : decode cX3_total 75 = .ok (.iconst (-1), 1) := by decide +kernel
theorem dX3_total_76 : decode cX3_total 76 = .ok (.goto 9, 3) := by decide +kernel
theorem dX3_total_79 : decode cX3_total 79 = .ok (.aload_n 0, 1) := by decide +kernel
theorem dX3_total_80 : decode cX3_total 80 = .ok (.getfield 9, 3) := by decide +kernel
theorem dX3_total_83 : decode cX3_total 83 = .ok (.iload_n 1, 1) := by decide +kernel
theorem dX3_total_84 : decode cX3_total 84 = .ok (.iaload, 1) := by decide +kernel
theorem dX3_total_85 : decode cX3_total 85 = .ok (.ireturn, 1) := by decide +kernel
set_option maxRecDepth 20000 in
theorem ggX3_marked_X3_takes : GoodIn wsX3_marked wsX3_takes := goodIn_r _ [5, 6, 11] (by decide +kernel) (by decide +kernel)
set_option maxRecDepth 20000 in
theorem gX3_marked_X3_takes : GoodIn wsX3_marked (wsV RX3 63 RX3 yX3_takes wsX3_takes) := goodIn_app (goodIn_of _ (by decide +kernel)) ggX3_marked_X3_takes
set_option maxRecDepth 20000 in
theorem ggX3_marked_X3_of : GoodIn wsX3_marked wsX3_of := goodIn_r _ [10, 6, 11] (by decide +kernel) (by decide +kernel)
set_option maxRecDepth 20000 in
theorem gX3_marked_X3_of : GoodIn wsX3_marked (wsV RX3 40 RX3 yX3_of wsX3_of) := goodIn_app (goodIn_of _ (by decide +kernel)) ggX3_marked_X3_of
theorem dX3_marked_0 : decode cX3_marked 0 = .ok (.iconst 0, 1) := by decide +kernel
theorem dX3_marked_1 : decode cX3_marked 1 = .ok (.istore_n 2, 1) := by decide +kernel
theorem dX3_marked_2 : decode cX3_marked 2 = .ok (.iconst 0, 1) := by decide +kernel
theorem dX3_marked_3 : decode cX3_marked 3 = .ok (.istore_n 3, 1) := by decide +kernel
theorem dX3_marked_4 : decode cX3_marked 4 = .ok (.iload_n 3, 1) := by decide +kernel
theorem dX3_marked_5 : decode cX3_marked 5 = .ok (.aload_n 0, 1) := by decide +kernel
theorem dX3_marked_6 : decode cX3_marked 6 = .ok (.invokevirtual 63, 3) := by decide +kernel
theorem dX3_marked_9 : decode cX3_marked 9 = .ok (.if_icmp .ge 18, 3) := by decide +kernel
theorem dX3_marked_12 : decode cX3_marked 12 = .ok (.iload_n 2, 1) := by decide +kernel
theorem dX3_marked_13 : decode cX3_marked 13 = .ok (.aload_n 0, 1) := by decide +kernel
theorem dX3_marked_14 : decode cX3_marked 14 = .ok (.iload_n 3, 1) := by decide +kernel
theorem dX3_marked_15 : decode cX3_marked 15 = .ok (.iload_n 1, 1) := by decide +kernel
theorem dX3_marked_16 : decode cX3_marked 16 = .ok (.invokevirtual 40, 3) := by decide +kernel
theorem dX3_marked_19 : decode cX3_marked 19 = .ok (.iadd, 1) := by decide +kernel
theorem dX3_marked_20 : decode cX3_marked 20 = .ok (.istore_n 2, 1) := by decide +kernel
theorem dX3_marked_21 : decode cX3_marked 21 = .ok (.iinc 3 1, 3) := by decide +kernel
theorem dX3_marked_24 : decode cX3_marked 24 = .ok (.goto (-20), 3) := by decide +kernel
theorem dX3_marked_27 : decode cX3_marked 27 = .ok (.iload_n 2, 1) := by decide +kernel
theorem dX3_marked_28 : decode cX3_marked 28 = .ok (.ireturn, 1) := by decide +kernel
set_option maxRecDepth 20000 in
theorem ggX3_circledSeconds_X3_takes : GoodIn wsX3_circledSeconds wsX3_takes := goodIn_r _ [5, 6, 11] (by decide +kernel) (by decide +kernel)
set_option maxRecDepth 20000 in
theorem gX3_circledSeconds_X3_takes : GoodIn wsX3_circledSeconds (wsV RX3 63 RX3 yX3_takes wsX3_takes) := goodIn_app (goodIn_of _ (by decide +kernel)) ggX3_circledSeconds_X3_takes
set_option maxRecDepth 20000 in
theorem ggX3_circledSeconds_X3_of : GoodIn wsX3_circledSeconds wsX3_of := goodIn_r _ [10, 6, 11] (by decide +kernel) (by decide +kernel)
set_option maxRecDepth 20000 in
theorem gX3_circledSeconds_X3_of : GoodIn wsX3_circledSeconds (wsV RX3 40 RX3 yX3_of wsX3_of) := goodIn_app (goodIn_of _ (by decide +kernel)) ggX3_circledSeconds_X3_of
theorem dX3_circledSeconds_0 : decode cX3_circledSeconds 0 = .ok (.iconst 0, 1) := by decide +kernel
theorem dX3_circledSeconds_1 : decode cX3_circledSeconds 1 = .ok (.istore_n 1, 1) := by decide +kernel
theorem dX3_circledSeconds_2 : decode cX3_circledSeconds 2 = .ok (.iconst 0, 1) := by decide +kernel
theorem dX3_circledSeconds_3 : decode cX3_circledSeconds 3 = .ok (.istore_n 2, 1) := by decide +kernel
theorem dX3_circledSeconds_4 : decode cX3_circledSeconds 4 = .ok (.iload_n 2, 1) := by decide +kernel
theorem dX3_circledSeconds_5 : decode cX3_circledSeconds 5 = .ok (.aload_n 0, 1) := by decide +kernel
theorem dX3_circledSeconds_6 : decode cX3_circledSeconds 6 = .ok (.invokevirtual 63, 3) := by decide +kernel
theorem dX3_circledSeconds_9 : decode cX3_circledSeconds 9 = .ok (.if_icmp .ge 27, 3) := by decide +kernel
theorem dX3_circledSeconds_12 : decode cX3_circledSeconds 12 = .ok (.iload_n 1, 1) := by decide +kernel
theorem dX3_circledSeconds_13 : decode cX3_circledSeconds 13 = .ok (.aload_n 0, 1) := by decide +kernel
theorem dX3_circledSeconds_14 : decode cX3_circledSeconds 14 = .ok (.iload_n 2, 1) := by decide +kernel
theorem dX3_circledSeconds_15 : decode cX3_circledSeconds 15 = .ok (.bipush 14, 2) := by decide +kernel
theorem dX3_circledSeconds_17 : decode cX3_circledSeconds 17 = .ok (.invokevirtual 40, 3) := by decide +kernel
theorem dX3_circledSeconds_20 : decode cX3_circledSeconds 20 = .ok (.aload_n 0, 1) := by decide +kernel
theorem dX3_circledSeconds_21 : decode cX3_circledSeconds 21 = .ok (.iload_n 2, 1) := by decide +kernel
theorem dX3_circledSeconds_22 : decode cX3_circledSeconds 22 = .ok (.bipush 8, 2) := by decide +kernel
theorem dX3_circledSeconds_24 : decode cX3_circledSeconds 24 = .ok (.invokevirtual 40, 3) := by decide +kernel
theorem dX3_circledSeconds_27 : decode cX3_circledSeconds 27 = .ok (.imul, 1) := by decide +kernel
theorem dX3_circledSeconds_28 : decode cX3_circledSeconds 28 = .ok (.iadd, 1) := by decide +kernel
theorem dX3_circledSeconds_29 : decode cX3_circledSeconds 29 = .ok (.istore_n 1, 1) := by decide +kernel
theorem dX3_circledSeconds_30 : decode cX3_circledSeconds 30 = .ok (.iinc 2 1, 3) := by decide +kernel
theorem dX3_circledSeconds_33 : decode cX3_circledSeconds 33 = .ok (.goto (-29), 3) := by decide +kernel
theorem dX3_circledSeconds_36 : decode cX3_circledSeconds 36 = .ok (.iload_n 1, 1) := by decide +kernel
theorem dX3_circledSeconds_37 : decode cX3_circledSeconds 37 = .ok (.ireturn, 1) := by decide +kernel
set_option maxRecDepth 20000 in
theorem ggX3_ofScene_X3_takes : GoodIn wsX3_ofScene wsX3_takes := goodIn_r _ [5, 6, 18] (by decide +kernel) (by decide +kernel)
set_option maxRecDepth 20000 in
theorem gX3_ofScene_X3_takes : GoodIn wsX3_ofScene (wsV RX3 63 RX3 yX3_takes wsX3_takes) := goodIn_app (goodIn_of _ (by decide +kernel)) ggX3_ofScene_X3_takes
set_option maxRecDepth 20000 in
theorem ggX3_ofScene_X3_of : GoodIn wsX3_ofScene wsX3_of := goodIn_r _ [10, 6, 18] (by decide +kernel) (by decide +kernel)
set_option maxRecDepth 20000 in
theorem gX3_ofScene_X3_of : GoodIn wsX3_ofScene (wsV RX3 40 RX3 yX3_of wsX3_of) := goodIn_app (goodIn_of _ (by decide +kernel)) ggX3_ofScene_X3_of
set_option maxRecDepth 20000 in
theorem ggX3_ofScene_J6_bitCount_0f7a4 : GoodIn wsX3_ofScene wsJ6_bitCount_0f7a4 := goodIn_r _ [14, 15, 16, 17] (by decide +kernel) (by decide +kernel)
set_option maxRecDepth 20000 in
theorem gX3_ofScene_J6_bitCount_0f7a4 : GoodIn wsX3_ofScene (va_wsS RX3 66 yJ6_bitCount_0f7a4 wsJ6_bitCount_0f7a4) := goodIn_app (goodIn_of _ (by decide +kernel)) ggX3_ofScene_J6_bitCount_0f7a4
theorem dX3_ofScene_0 : decode cX3_ofScene 0 = .ok (.iconst 0, 1) := by decide +kernel
theorem dX3_ofScene_1 : decode cX3_ofScene 1 = .ok (.istore_n 3, 1) := by decide +kernel
theorem dX3_ofScene_2 : decode cX3_ofScene 2 = .ok (.iconst 0, 1) := by decide +kernel
theorem dX3_ofScene_3 : decode cX3_ofScene 3 = .ok (.istore 4, 2) := by decide +kernel
theorem dX3_ofScene_5 : decode cX3_ofScene 5 = .ok (.iconst 0, 1) := by decide +kernel
theorem dX3_ofScene_6 : decode cX3_ofScene 6 = .ok (.istore 5, 2) := by decide +kernel
theorem dX3_ofScene_8 : decode cX3_ofScene 8 = .ok (.iconst 0, 1) := by decide +kernel
theorem dX3_ofScene_9 : decode cX3_ofScene 9 = .ok (.istore 6, 2) := by decide +kernel
theorem dX3_ofScene_11 : decode cX3_ofScene 11 = .ok (.iconst 0, 1) := by decide +kernel
theorem dX3_ofScene_12 : decode cX3_ofScene 12 = .ok (.istore 7, 2) := by decide +kernel
theorem dX3_ofScene_14 : decode cX3_ofScene 14 = .ok (.iconst 0, 1) := by decide +kernel
theorem dX3_ofScene_15 : decode cX3_ofScene 15 = .ok (.istore 8, 2) := by decide +kernel
theorem dX3_ofScene_17 : decode cX3_ofScene 17 = .ok (.iload 8, 2) := by decide +kernel
theorem dX3_ofScene_19 : decode cX3_ofScene 19 = .ok (.aload_n 0, 1) := by decide +kernel
theorem dX3_ofScene_20 : decode cX3_ofScene 20 = .ok (.invokevirtual 63, 3) := by decide +kernel
theorem dX3_ofScene_23 : decode cX3_ofScene 23 = .ok (.if_icmp .ge 84, 3) := by decide +kernel
theorem dX3_ofScene_26 : decode cX3_ofScene 26 = .ok (.aload_n 0, 1) := by decide +kernel
theorem dX3_ofScene_27 : decode cX3_ofScene 27 = .ok (.iload 8, 2) := by decide +kernel
theorem dX3_ofScene_29 : decode cX3_ofScene 29 = .ok (.iconst 0, 1) := by decide +kernel
theorem dX3_ofScene_30 : decode cX3_ofScene 30 = .ok (.invokevirtual 40, 3) := by decide +kernel
theorem dX3_ofScene_33 : decode cX3_ofScene 33 = .ok (.iload_n 1, 1) := by decide +kernel
theorem dX3_ofScene_34 : decode cX3_ofScene 34 = .ok (.if_icmp .ne 67, 3) := by decide +kernel
theorem dX3_ofScene_37 : decode cX3_ofScene 37 = .ok (.iinc 3 1, 3) := by decide +kernel
theorem dX3_ofScene_40 : decode cX3_ofScene 40 = .ok (.iload 4, 2) := by decide +kernel
theorem dX3_ofScene_42 : decode cX3_ofScene 42 = .ok (.aload_n 0, 1) := by decide +kernel
theorem dX3_ofScene_43 : decode cX3_ofScene 43 = .ok (.iload 8, 2) := by decide +kernel
theorem dX3_ofScene_45 : decode cX3_ofScene 45 = .ok (.bipush 14, 2) := by decide +kernel
theorem dX3_ofScene_47 : decode cX3_ofScene 47 = .ok (.invokevirtual 40, 3) := by decide +kernel
theorem dX3_ofScene_50 : decode cX3_ofScene 50 = .ok (.iadd, 1) := by decide +kernel
theorem dX3_ofScene_51 : decode cX3_ofScene 51 = .ok (.istore 4, 2) := by decide +kernel
theorem dX3_ofScene_53 : decode cX3_ofScene 53 = .ok (.iload 5, 2) := by decide +kernel
theorem dX3_ofScene_55 : decode cX3_ofScene 55 = .ok (.aload_n 0, 1) := by decide +kernel
theorem dX3_ofScene_56 : decode cX3_ofScene 56 = .ok (.iload 8, 2) := by decide +kernel
theorem dX3_ofScene_58 : decode cX3_ofScene 58 = .ok (.bipush 8, 2) := by decide +kernel
theorem dX3_ofScene_60 : decode cX3_ofScene 60 = .ok (.invokevirtual 40, 3) := by decide +kernel
theorem dX3_ofScene_63 : decode cX3_ofScene 63 = .ok (.iadd, 1) := by decide +kernel
theorem dX3_ofScene_64 : decode cX3_ofScene 64 = .ok (.istore 5, 2) := by decide +kernel
theorem dX3_ofScene_66 : decode cX3_ofScene 66 = .ok (.iload 6, 2) := by decide +kernel
theorem dX3_ofScene_68 : decode cX3_ofScene 68 = .ok (.iconst 1, 1) := by decide +kernel
theorem dX3_ofScene_69 : decode cX3_ofScene 69 = .ok (.aload_n 0, 1) := by decide +kernel
theorem dX3_ofScene_70 : decode cX3_ofScene 70 = .ok (.iload 8, 2) := by decide +kernel
theorem dX3_ofScene_72 : decode cX3_ofScene 72 = .ok (.iconst 1, 1) := by decide +kernel
theorem dX3_ofScene_73 : decode cX3_ofScene 73 = .ok (.invokevirtual 40, 3) := by decide +kernel
theorem dX3_ofScene_76 : decode cX3_ofScene 76 = .ok (.ishl, 1) := by decide +kernel
theorem dX3_ofScene_77 : decode cX3_ofScene 77 = .ok (.ior, 1) := by decide +kernel
theorem dX3_ofScene_78 : decode cX3_ofScene 78 = .ok (.istore 6, 2) := by decide +kernel
theorem dX3_ofScene_80 : decode cX3_ofScene 80 = .ok (.iload 7, 2) := by decide +kernel
theorem dX3_ofScene_82 : decode cX3_ofScene 82 = .ok (.aload_n 0, 1) := by decide +kernel
theorem dX3_ofScene_83 : decode cX3_ofScene 83 = .ok (.iload 8, 2) := by decide +kernel
theorem dX3_ofScene_85 : decode cX3_ofScene 85 = .ok (.bipush 14, 2) := by decide +kernel
theorem dX3_ofScene_87 : decode cX3_ofScene 87 = .ok (.invokevirtual 40, 3) := by decide +kernel
theorem dX3_ofScene_90 : decode cX3_ofScene 90 = .ok (.aload_n 0, 1) := by decide +kernel
theorem dX3_ofScene_91 : decode cX3_ofScene 91 = .ok (.iload 8, 2) := by decide +kernel
theorem dX3_ofScene_93 : decode cX3_ofScene 93 = .ok (.iconst 1, 1) := by decide +kernel
theorem dX3_ofScene_94 : decode cX3_ofScene 94 = .ok (.invokevirtual 40, 3) := by decide +kernel
theorem dX3_ofScene_97 : decode cX3_ofScene 97 = .ok (.ishl, 1) := by decide +kernel
theorem dX3_ofScene_98 : decode cX3_ofScene 98 = .ok (.ior, 1) := by decide +kernel
theorem dX3_ofScene_99 : decode cX3_ofScene 99 = .ok (.istore 7, 2) := by decide +kernel
theorem dX3_ofScene_101 : decode cX3_ofScene 101 = .ok (.iinc 8 1, 3) := by decide +kernel
theorem dX3_ofScene_104 : decode cX3_ofScene 104 = .ok (.goto (-87), 3) := by decide +kernel
theorem dX3_ofScene_107 : decode cX3_ofScene 107 = .ok (.iload_n 2, 1) := by decide +kernel
theorem dX3_ofScene_108 : decode cX3_ofScene 108 = .ok (.tableswitch 46 0 3 #[32, 34, 37, 43], 32) := by decide +kernel
theorem dX3_ofScene_140 : decode cX3_ofScene 140 = .ok (.iload_n 3, 1) := by decide +kernel
theorem dX3_ofScene_141 : decode cX3_ofScene 141 = .ok (.ireturn, 1) := by decide +kernel
theorem dX3_ofScene_142 : decode cX3_ofScene 142 = .ok (.iload 4, 2) := by decide +kernel
theorem dX3_ofScene_144 : decode cX3_ofScene 144 = .ok (.ireturn, 1) := by decide +kernel
theorem dX3_ofScene_145 : decode cX3_ofScene 145 = .ok (.iload 6, 2) := by decide +kernel
theorem dX3_ofScene_147 : decode cX3_ofScene 147 = .ok (.invokestatic 66, 3) := by decide +kernel
theorem dX3_ofScene_150 : decode cX3_ofScene 150 = .ok (.ireturn, 1) := by decide +kernel
theorem dX3_ofScene_151 : decode cX3_ofScene 151 = .ok (.iload 5, 2) := by decide +kernel
theorem dX3_ofScene_153 : decode cX3_ofScene 153 = .ok (.ireturn, 1) := by decide +kernel
theorem dX3_ofScene_154 : decode cX3_ofScene 154 = .ok (.iload 6, 2) := by decide +kernel
theorem dX3_ofScene_156 : decode cX3_ofScene 156 = .ok (.iload 7, 2) := by decide +kernel
theorem dX3_ofScene_158 : decode cX3_ofScene 158 = .ok (.iconst (-1), 1) := by decide +kernel
theorem dX3_ofScene_159 : decode cX3_ofScene 159 = .ok (.ixor, 1) := by decide +kernel
theorem dX3_ofScene_160 : decode cX3_ofScene 160 = .ok (.iand, 1) := by decide +kernel
theorem dX3_ofScene_161 : decode cX3_ofScene 161 = .ok (.invokestatic 66, 3) := by decide +kernel
theorem dX3_ofScene_164 : decode cX3_ofScene 164 = .ok (.ireturn, 1) := by decide +kernel
set_option maxRecDepth 20000 in
theorem ggX3_numberBehind_X3_of : GoodIn wsX3_numberBehind wsX3_of := goodIn_r _ [5, 6, 7] (by decide +kernel) (by decide +kernel)
set_option maxRecDepth 20000 in
theorem gX3_numberBehind_X3_of : GoodIn wsX3_numberBehind (wsV RX3 40 RX3 yX3_of wsX3_of) := goodIn_app (goodIn_of _ (by decide +kernel)) ggX3_numberBehind_X3_of
theorem dX3_numberBehind_0 : decode cX3_numberBehind 0 = .ok (.iconst 1, 1) := by decide +kernel
theorem dX3_numberBehind_1 : decode cX3_numberBehind 1 = .ok (.istore 4, 2) := by decide +kernel
theorem dX3_numberBehind_3 : decode cX3_numberBehind 3 = .ok (.iconst 0, 1) := by decide +kernel
theorem dX3_numberBehind_4 : decode cX3_numberBehind 4 = .ok (.istore 5, 2) := by decide +kernel
theorem dX3_numberBehind_6 : decode cX3_numberBehind 6 = .ok (.iload 5, 2) := by decide +kernel
theorem dX3_numberBehind_8 : decode cX3_numberBehind 8 = .ok (.iload_n 1, 1) := by decide +kernel
theorem dX3_numberBehind_9 : decode cX3_numberBehind 9 = .ok (.if_icmp .ge 45, 3) := by decide +kernel
theorem dX3_numberBehind_12 : decode cX3_numberBehind 12 = .ok (.aload_n 0, 1) := by decide +kernel
theorem dX3_numberBehind_13 : decode cX3_numberBehind 13 = .ok (.iload 5, 2) := by decide +kernel
theorem dX3_numberBehind_15 : decode cX3_numberBehind 15 = .ok (.iconst 0, 1) := by decide +kernel
theorem dX3_numberBehind_16 : decode cX3_numberBehind 16 = .ok (.invokevirtual 40, 3) := by decide +kernel
theorem dX3_numberBehind_19 : decode cX3_numberBehind 19 = .ok (.iload_n 2, 1) := by decide +kernel
theorem dX3_numberBehind_20 : decode cX3_numberBehind 20 = .ok (.if_icmp .ne 28, 3) := by decide +kernel
theorem dX3_numberBehind_23 : decode cX3_numberBehind 23 = .ok (.aload_n 0, 1) := by decide +kernel
theorem dX3_numberBehind_24 : decode cX3_numberBehind 24 = .ok (.iload 5, 2) := by decide +kernel
theorem dX3_numberBehind_26 : decode cX3_numberBehind 26 = .ok (.iconst 1, 1) := by decide +kernel
theorem dX3_numberBehind_27 : decode cX3_numberBehind 27 = .ok (.invokevirtual 40, 3) := by decide +kernel
theorem dX3_numberBehind_30 : decode cX3_numberBehind 30 = .ok (.iload_n 3, 1) := by decide +kernel
theorem dX3_numberBehind_31 : decode cX3_numberBehind 31 = .ok (.if_icmp .ne 17, 3) := by decide +kernel
theorem dX3_numberBehind_34 : decode cX3_numberBehind 34 = .ok (.aload_n 0, 1) := by decide +kernel
theorem dX3_numberBehind_35 : decode cX3_numberBehind 35 = .ok (.iload 5, 2) := by decide +kernel
theorem dX3_numberBehind_37 : decode cX3_numberBehind 37 = .ok (.bipush 15, 2) := by decide +kernel
theorem dX3_numberBehind_39 : decode cX3_numberBehind 39 = .ok (.invokevirtual 40, 3) := by decide +kernel
theorem dX3_numberBehind_42 : decode cX3_numberBehind 42 = .ok (.ifCond .ne 6, 3) := by decide +kernel
theorem dX3_numberBehind_45 : decode cX3_numberBehind 45 = .ok (.iinc 4 1, 3) := by decide +kernel
theorem dX3_numberBehind_48 : decode cX3_numberBehind 48 = .ok (.iinc 5 1, 3) := by decide +kernel
theorem dX3_numberBehind_51 : decode cX3_numberBehind 51 = .ok (.goto (-45), 3) := by decide +kernel
theorem dX3_numberBehind_54 : decode cX3_numberBehind 54 = .ok (.iload 4, 2) := by decide +kernel
theorem dX3_numberBehind_56 : decode cX3_numberBehind 56 = .ok (.ireturn, 1) := by decide +kernel
set_option maxRecDepth 20000 in
theorem ggX3_rightNumber_X3_of : GoodIn wsX3_rightNumber wsX3_of := goodIn_r _ [5, 6, 11] (by decide +kernel) (by decide +kernel)
set_option maxRecDepth 20000 in
theorem gX3_rightNumber_X3_of : GoodIn wsX3_rightNumber (wsV RX3 40 RX3 yX3_of wsX3_of) := goodIn_app (goodIn_of _ (by decide +kernel)) ggX3_rightNumber_X3_of
set_option maxRecDepth 20000 in
theorem ggX3_rightNumber_X3_numberBehind : GoodIn wsX3_rightNumber wsX3_numberBehind := goodIn_r _ [10, 1, 2, 3, 4, 5, 6, 11] (by decide +kernel) (by decide +kernel)
set_option maxRecDepth 20000 in
theorem gX3_rightNumber_X3_numberBehind : GoodIn wsX3_rightNumber (wsV RX3 71 RX3 yX3_numberBehind wsX3_numberBehind) := goodIn_app (goodIn_of _ (by decide +kernel)) ggX3_rightNumber_X3_numberBehind
theorem dX3_rightNumber_0 : decode cX3_rightNumber 0 = .ok (.aload_n 0, 1) := by decide +kernel
theorem dX3_rightNumber_1 : decode cX3_rightNumber 1 = .ok (.iload_n 1, 1) := by decide +kernel
theorem dX3_rightNumber_2 : decode cX3_rightNumber 2 = .ok (.aload_n 0, 1) := by decide +kernel
theorem dX3_rightNumber_3 : decode cX3_rightNumber 3 = .ok (.iload_n 1, 1) := by decide +kernel
theorem dX3_rightNumber_4 : decode cX3_rightNumber 4 = .ok (.iconst 0, 1) := by decide +kernel
theorem dX3_rightNumber_5 : decode cX3_rightNumber 5 = .ok (.invokevirtual 40, 3) := by decide +kernel
theorem dX3_rightNumber_8 : decode cX3_rightNumber 8 = .ok (.aload_n 0, 1) := by decide +kernel
theorem dX3_rightNumber_9 : decode cX3_rightNumber 9 = .ok (.iload_n 1, 1) := by decide +kernel
theorem dX3_rightNumber_10 : decode cX3_rightNumber 10 = .ok (.iconst 1, 1) := by decide +kernel
theorem dX3_rightNumber_11 : decode cX3_rightNumber 11 = .ok (.invokevirtual 40, 3) := by decide +kernel
theorem dX3_rightNumber_14 : decode cX3_rightNumber 14 = .ok (.invokevirtual 71, 3) := by decide +kernel
theorem dX3_rightNumber_17 : decode cX3_rightNumber 17 = .ok (.ireturn, 1) := by decide +kernel
set_option maxRecDepth 20000 in
theorem ggX3_nextNumber_X3_takes : GoodIn wsX3_nextNumber wsX3_takes := goodIn_r _ [6, 1, 15] (by decide +kernel) (by decide +kernel)
set_option maxRecDepth 20000 in
theorem gX3_nextNumber_X3_takes : GoodIn wsX3_nextNumber (wsV RX3 63 RX3 yX3_takes wsX3_takes) := goodIn_app (goodIn_of _ (by decide +kernel)) ggX3_nextNumber_X3_takes
set_option maxRecDepth 20000 in
theorem ggX3_nextNumber_X3_numberBehind : GoodIn wsX3_nextNumber wsX3_numberBehind := goodIn_r _ [10, 11, 12, 13, 5, 14, 1, 15] (by decide +kernel) (by decide +kernel)
set_option maxRecDepth 20000 in
theorem gX3_nextNumber_X3_numberBehind : GoodIn wsX3_nextNumber (wsV RX3 71 RX3 yX3_numberBehind wsX3_numberBehind) := goodIn_app (goodIn_of _ (by decide +kernel)) ggX3_nextNumber_X3_numberBehind
theorem dX3_nextNumber_0 : decode cX3_nextNumber 0 = .ok (.aload_n 0, 1) := by decide +kernel
theorem dX3_nextNumber_1 : decode cX3_nextNumber 1 = .ok (.aload_n 0, 1) := by decide +kernel
theorem dX3_nextNumber_2 : decode cX3_nextNumber 2 = .ok (.invokevirtual 63, 3) := by decide +kernel
theorem dX3_nextNumber_5 : decode cX3_nextNumber 5 = .ok (.aload_n 0, 1) := by decide +kernel
theorem dX3_nextNumber_6 : decode cX3_nextNumber 6 = .ok (.getfield 9, 3) := by decide +kernel
theorem dX3_nextNumber_9 : decode cX3_nextNumber 9 = .ok (.iconst 1, 1) := by decide +kernel
theorem dX3_nextNumber_10 : decode cX3_nextNumber 10 = .ok (.iaload, 1) := by decide +kernel
theorem dX3_nextNumber_11 : decode cX3_nextNumber 11 = .ok (.aload_n 0, 1) := by decide +kernel
theorem dX3_nextNumber_12 : decode cX3_nextNumber 12 = .ok (.getfield 9, 3) := by decide +kernel
theorem dX3_nextNumber_15 : decode cX3_nextNumber 15 = .ok (.iconst 2, 1) := by decide +kernel
theorem dX3_nextNumber_16 : decode cX3_nextNumber 16 = .ok (.iaload, 1) := by decide +kernel
theorem dX3_nextNumber_17 : decode cX3_nextNumber 17 = .ok (.invokevirtual 71, 3) := by decide +kernel
theorem dX3_nextNumber_20 : decode cX3_nextNumber 20 = .ok (.ireturn, 1) := by decide +kernel
set_option maxRecDepth 20000 in
theorem ggX3_boardIsRight_X3_nextNumber : GoodIn wsX3_boardIsRight wsX3_nextNumber := goodIn_r _ [6, 1, 7, 8, 9, 5, 10, 11, 12, 13, 14, 15, 16, 17, 18, 19] (by decide +kernel) (by decide +kernel)
set_option maxRecDepth 20000 in
theorem gX3_boardIsRight_X3_nextNumber : GoodIn wsX3_boardIsRight (wsV RX3 75 RX3 yX3_nextNumber wsX3_nextNumber) := goodIn_app (goodIn_of _ (by decide +kernel)) ggX3_boardIsRight_X3_nextNumber
theorem dX3_boardIsRight_0 : decode cX3_boardIsRight 0 = .ok (.aload_n 0, 1) := by decide +kernel
theorem dX3_boardIsRight_1 : decode cX3_boardIsRight 1 = .ok (.getfield 9, 3) := by decide +kernel
theorem dX3_boardIsRight_4 : decode cX3_boardIsRight 4 = .ok (.iconst 3, 1) := by decide +kernel
theorem dX3_boardIsRight_5 : decode cX3_boardIsRight 5 = .ok (.iaload, 1) := by decide +kernel
theorem dX3_boardIsRight_6 : decode cX3_boardIsRight 6 = .ok (.aload_n 0, 1) := by decide +kernel
theorem dX3_boardIsRight_7 : decode cX3_boardIsRight 7 = .ok (.getfield 9, 3) := by decide +kernel
theorem dX3_boardIsRight_10 : decode cX3_boardIsRight 10 = .ok (.iconst 1, 1) := by decide +kernel
theorem dX3_boardIsRight_11 : decode cX3_boardIsRight 11 = .ok (.iaload, 1) := by decide +kernel
theorem dX3_boardIsRight_12 : decode cX3_boardIsRight 12 = .ok (.if_icmp .ne 35, 3) := by decide +kernel
theorem dX3_boardIsRight_15 : decode cX3_boardIsRight 15 = .ok (.aload_n 0, 1) := by decide +kernel
theorem dX3_boardIsRight_16 : decode cX3_boardIsRight 16 = .ok (.getfield 9, 3) := by decide +kernel
theorem dX3_boardIsRight_19 : decode cX3_boardIsRight 19 = .ok (.iconst 4, 1) := by decide +kernel
theorem dX3_boardIsRight_20 : decode cX3_boardIsRight 20 = .ok (.iaload, 1) := by decide +kernel
theorem dX3_boardIsRight_21 : decode cX3_boardIsRight 21 = .ok (.aload_n 0, 1) := by decide +kernel
theorem dX3_boardIsRight_22 : decode cX3_boardIsRight 22 = .ok (.getfield 9, 3) := by decide +kernel
theorem dX3_boardIsRight_25 : decode cX3_boardIsRight 25 = .ok (.iconst 2, 1) := by decide +kernel
theorem dX3_boardIsRight_26 : decode cX3_boardIsRight 26 = .ok (.iaload, 1) := by decide +kernel
theorem dX3_boardIsRight_27 : decode cX3_boardIsRight 27 = .ok (.if_icmp .ne 20, 3) := by decide +kernel
theorem dX3_boardIsRight_30 : decode cX3_boardIsRight 30 = .ok (.aload_n 0, 1) := by decide +kernel
theorem dX3_boardIsRight_31 : decode cX3_boardIsRight 31 = .ok (.getfield 9, 3) := by decide +kernel
theorem dX3_boardIsRight_34 : decode cX3_boardIsRight 34 = .ok (.iconst 5, 1) := by decide +kernel
theorem dX3_boardIsRight_35 : decode cX3_boardIsRight 35 = .ok (.iaload, 1) := by decide +kernel
theorem dX3_boardIsRight_36 : decode cX3_boardIsRight 36 = .ok (.aload_n 0, 1) := by decide +kernel
theorem dX3_boardIsRight_37 : decode cX3_boardIsRight 37 = .ok (.invokevirtual 75, 3) := by decide +kernel
theorem dX3_boardIsRight_40 : decode cX3_boardIsRight 40 = .ok (.if_icmp .ne 7, 3) := by decide +kernel
theorem dX3_boardIsRight_43 : decode cX3_boardIsRight 43 = .ok (.iconst 1, 1) := by decide +kernel
theorem dX3_boardIsRight_44 : decode cX3_boardIsRight 44 = .ok (.goto 4, 3) := by decide +kernel
theorem dX3_boardIsRight_47 : decode cX3_boardIsRight 47 = .ok (.iconst 0, 1) := by decide +kernel
theorem dX3_boardIsRight_48 : decode cX3_boardIsRight 48 = .ok (.ireturn, 1) := by decide +kernel
set_option maxRecDepth 20000 in
theorem ggX3_said_X3_of : GoodIn wsX3_said wsX3_of := goodIn_r _ [5, 6, 7] (by decide +kernel) (by decide +kernel)
set_option maxRecDepth 20000 in
theorem gX3_said_X3_of : GoodIn wsX3_said (wsV RX3 40 RX3 yX3_of wsX3_of) := goodIn_app (goodIn_of _ (by decide +kernel)) ggX3_said_X3_of
theorem dX3_said_0 : decode cX3_said 0 = .ok (.aload_n 0, 1) := by decide +kernel
theorem dX3_said_1 : decode cX3_said 1 = .ok (.iload_n 1, 1) := by decide +kernel
theorem dX3_said_2 : decode cX3_said 2 = .ok (.iconst 3, 1) := by decide +kernel
theorem dX3_said_3 : decode cX3_said 3 = .ok (.invokevirtual 40, 3) := by decide +kernel
theorem dX3_said_6 : decode cX3_said 6 = .ok (.iload_n 2, 1) := by decide +kernel
theorem dX3_said_7 : decode cX3_said 7 = .ok (.if_icmp .ne 28, 3) := by decide +kernel
theorem dX3_said_10 : decode cX3_said 10 = .ok (.aload_n 0, 1) := by decide +kernel
theorem dX3_said_11 : decode cX3_said 11 = .ok (.iload_n 1, 1) := by decide +kernel
theorem dX3_said_12 : decode cX3_said 12 = .ok (.iconst 4, 1) := by decide +kernel
theorem dX3_said_13 : decode cX3_said 13 = .ok (.invokevirtual 40, 3) := by decide +kernel
theorem dX3_said_16 : decode cX3_said 16 = .ok (.iload_n 3, 1) := by decide +kernel
theorem dX3_said_17 : decode cX3_said 17 = .ok (.if_icmp .ne 18, 3) := by decide +kernel
theorem dX3_said_20 : decode cX3_said 20 = .ok (.aload_n 0, 1) := by decide +kernel
theorem dX3_said_21 : decode cX3_said 21 = .ok (.iload_n 1, 1) := by decide +kernel
theorem dX3_said_22 : decode cX3_said 22 = .ok (.iconst 5, 1) := by decide +kernel
theorem dX3_said_23 : decode cX3_said 23 = .ok (.invokevirtual 40, 3) := by decide +kernel
theorem dX3_said_26 : decode cX3_said 26 = .ok (.iload 4, 2) := by decide +kernel
theorem dX3_said_28 : decode cX3_said 28 = .ok (.if_icmp .ne 7, 3) := by decide +kernel
theorem dX3_said_31 : decode cX3_said 31 = .ok (.iconst 1, 1) := by decide +kernel
theorem dX3_said_32 : decode cX3_said 32 = .ok (.goto 4, 3) := by decide +kernel
theorem dX3_said_35 : decode cX3_said 35 = .ok (.iconst 0, 1) := by decide +kernel
theorem dX3_said_36 : decode cX3_said 36 = .ok (.ireturn, 1) := by decide +kernel
set_option maxRecDepth 20000 in
theorem ggX3_isRight_X3_of : GoodIn wsX3_isRight wsX3_of := goodIn_r _ [5, 6, 19] (by decide +kernel) (by decide +kernel)
set_option maxRecDepth 20000 in
theorem gX3_isRight_X3_of : GoodIn wsX3_isRight (wsV RX3 40 RX3 yX3_of wsX3_of) := goodIn_app (goodIn_of _ (by decide +kernel)) ggX3_isRight_X3_of
set_option maxRecDepth 20000 in
theorem ggX3_isRight_X3_rightNumber : GoodIn wsX3_isRight wsX3_rightNumber := goodIn_r _ [10, 1, 2, 3, 4, 5, 6, 11, 12, 13, 14, 19] (by decide +kernel) (by decide +kernel)
set_option maxRecDepth 20000 in
theorem gX3_isRight_X3_rightNumber : GoodIn wsX3_isRight (wsV RX3 43 RX3 yX3_rightNumber wsX3_rightNumber) := goodIn_app (goodIn_of _ (by decide +kernel)) ggX3_isRight_X3_rightNumber
set_option maxRecDepth 20000 in
theorem ggX3_isRight_X3_said : GoodIn wsX3_isRight wsX3_said := goodIn_r _ [18, 1, 2, 3, 4, 5, 6, 19] (by decide +kernel) (by decide +kernel)
set_option maxRecDepth 20000 in
theorem gX3_isRight_X3_said : GoodIn wsX3_isRight (wsV RX3 78 RX3 yX3_said wsX3_said) := goodIn_app (goodIn_of _ (by decide +kernel)) ggX3_isRight_X3_said
theorem dX3_isRight_0 : decode cX3_isRight 0 = .ok (.aload_n 0, 1) := by decide +kernel
theorem dX3_isRight_1 : decode cX3_isRight 1 = .ok (.iload_n 1, 1) := by decide +kernel
theorem dX3_isRight_2 : decode cX3_isRight 2 = .ok (.aload_n 0, 1) := by decide +kernel
theorem dX3_isRight_3 : decode cX3_isRight 3 = .ok (.iload_n 1, 1) := by decide +kernel
theorem dX3_isRight_4 : decode cX3_isRight 4 = .ok (.iconst 0, 1) := by decide +kernel
theorem dX3_isRight_5 : decode cX3_isRight 5 = .ok (.invokevirtual 40, 3) := by decide +kernel
theorem dX3_isRight_8 : decode cX3_isRight 8 = .ok (.aload_n 0, 1) := by decide +kernel
theorem dX3_isRight_9 : decode cX3_isRight 9 = .ok (.iload_n 1, 1) := by decide +kernel
theorem dX3_isRight_10 : decode cX3_isRight 10 = .ok (.iconst 1, 1) := by decide +kernel
theorem dX3_isRight_11 : decode cX3_isRight 11 = .ok (.invokevirtual 40, 3) := by decide +kernel
theorem dX3_isRight_14 : decode cX3_isRight 14 = .ok (.aload_n 0, 1) := by decide +kernel
theorem dX3_isRight_15 : decode cX3_isRight 15 = .ok (.iload_n 1, 1) := by decide +kernel
theorem dX3_isRight_16 : decode cX3_isRight 16 = .ok (.invokevirtual 43, 3) := by decide +kernel
theorem dX3_isRight_19 : decode cX3_isRight 19 = .ok (.invokevirtual 78, 3) := by decide +kernel
theorem dX3_isRight_22 : decode cX3_isRight 22 = .ok (.ireturn, 1) := by decide +kernel
set_option maxRecDepth 20000 in
theorem ggX3_wrongSet_X3_takes : GoodIn wsX3_wrongSet wsX3_takes := goodIn_r _ [5, 6, 27] (by decide +kernel) (by decide +kernel)
set_option maxRecDepth 20000 in
theorem gX3_wrongSet_X3_takes : GoodIn wsX3_wrongSet (wsV RX3 63 RX3 yX3_takes wsX3_takes) := goodIn_app (goodIn_of _ (by decide +kernel)) ggX3_wrongSet_X3_takes
set_option maxRecDepth 20000 in
theorem ggX3_wrongSet_X3_isRight : GoodIn wsX3_wrongSet wsX3_isRight := goodIn_r _ [10, 11, 12, 13, 4, 14, 6, 15, 16, 17, 18, 19, 20, 21, 22, 23, 24, 25, 26, 27] (by decide +kernel) (by decide +kernel)
set_option maxRecDepth 20000 in
theorem gX3_wrongSet_X3_isRight : GoodIn wsX3_wrongSet (wsV RX3 46 RX3 yX3_isRight wsX3_isRight) := goodIn_app (goodIn_of _ (by decide +kernel)) ggX3_wrongSet_X3_isRight
theorem dX3_wrongSet_0 : decode cX3_wrongSet 0 = .ok (.iconst 0, 1) := by decide +kernel
theorem dX3_wrongSet_1 : decode cX3_wrongSet 1 = .ok (.istore_n 1, 1) := by decide +kernel
theorem dX3_wrongSet_2 : decode cX3_wrongSet 2 = .ok (.iconst 0, 1) := by decide +kernel
theorem dX3_wrongSet_3 : decode cX3_wrongSet 3 = .ok (.istore_n 2, 1) := by decide +kernel
theorem dX3_wrongSet_4 : decode cX3_wrongSet 4 = .ok (.iload_n 2, 1) := by decide +kernel
theorem dX3_wrongSet_5 : decode cX3_wrongSet 5 = .ok (.aload_n 0, 1) := by decide +kernel
theorem dX3_wrongSet_6 : decode cX3_wrongSet 6 = .ok (.invokevirtual 63, 3) := by decide +kernel
theorem dX3_wrongSet_9 : decode cX3_wrongSet 9 = .ok (.if_icmp .ge 23, 3) := by decide +kernel
theorem dX3_wrongSet_12 : decode cX3_wrongSet 12 = .ok (.aload_n 0, 1) := by decide +kernel
theorem dX3_wrongSet_13 : decode cX3_wrongSet 13 = .ok (.iload_n 2, 1) := by decide +kernel
theorem dX3_wrongSet_14 : decode cX3_wrongSet 14 = .ok (.invokevirtual 46, 3) := by decide +kernel
theorem dX3_wrongSet_17 : decode cX3_wrongSet 17 = .ok (.ifCond .ne 9, 3) := by decide +kernel
theorem dX3_wrongSet_20 : decode cX3_wrongSet 20 = .ok (.iload_n 1, 1) := by decide +kernel
theorem dX3_wrongSet_21 : decode cX3_wrongSet 21 = .ok (.iconst 1, 1) := by decide +kernel
theorem dX3_wrongSet_22 : decode cX3_wrongSet 22 = .ok (.iload_n 2, 1) := by decide +kernel
theorem dX3_wrongSet_23 : decode cX3_wrongSet 23 = .ok (.ishl, 1) := by decide +kernel
theorem dX3_wrongSet_24 : decode cX3_wrongSet 24 = .ok (.ior, 1) := by decide +kernel
theorem dX3_wrongSet_25 : decode cX3_wrongSet 25 = .ok (.istore_n 1, 1) := by decide +kernel
theorem dX3_wrongSet_26 : decode cX3_wrongSet 26 = .ok (.iinc 2 1, 3) := by decide +kernel
theorem dX3_wrongSet_29 : decode cX3_wrongSet 29 = .ok (.goto (-25), 3) := by decide +kernel
theorem dX3_wrongSet_32 : decode cX3_wrongSet 32 = .ok (.iload_n 1, 1) := by decide +kernel
theorem dX3_wrongSet_33 : decode cX3_wrongSet 33 = .ok (.ireturn, 1) := by decide +kernel
set_option maxRecDepth 20000 in
theorem ggX3_wrongSlates_X3_wrongSet : GoodIn wsX3_wrongSlates wsX3_wrongSet := goodIn_r _ [5, 6, 7, 8, 4, 9, 10, 11, 12, 13, 14, 15, 16, 17, 18, 19, 20, 21, 22, 23, 24, 25, 26, 27, 28, 29, 30, 38] (by decide +kernel) (by decide +kernel)
set_option maxRecDepth 20000 in
theorem gX3_wrongSlates_X3_wrongSet : GoodIn wsX3_wrongSlates (wsV RX3 82 RX3 yX3_wrongSet wsX3_wrongSet) := goodIn_app (goodIn_of _ (by decide +kernel)) ggX3_wrongSlates_X3_wrongSet
set_option maxRecDepth 20000 in
theorem ggX3_wrongSlates_J6_bitCount_0f7a4 : GoodIn wsX3_wrongSlates wsJ6_bitCount_0f7a4 := goodIn_r _ [34, 35, 36, 37] (by decide +kernel) (by decide +kernel)
set_option maxRecDepth 20000 in
theorem gX3_wrongSlates_J6_bitCount_0f7a4 : GoodIn wsX3_wrongSlates (va_wsS RX3 66 yJ6_bitCount_0f7a4 wsJ6_bitCount_0f7a4) := goodIn_app (goodIn_of _ (by decide +kernel)) ggX3_wrongSlates_J6_bitCount_0f7a4
theorem dX3_wrongSlates_0 : decode cX3_wrongSlates 0 = .ok (.aload_n 0, 1) := by decide +kernel
theorem dX3_wrongSlates_1 : decode cX3_wrongSlates 1 = .ok (.invokevirtual 82, 3) := by decide +kernel
theorem dX3_wrongSlates_4 : decode cX3_wrongSlates 4 = .ok (.invokestatic 66, 3) := by decide +kernel
theorem dX3_wrongSlates_7 : decode cX3_wrongSlates 7 = .ok (.ireturn, 1) := by decide +kernel
set_option maxRecDepth 20000 in
theorem ggX3_saidSo_X3_takes : GoodIn wsX3_saidSo wsX3_takes := goodIn_r _ [5, 6, 15] (by decide +kernel) (by decide +kernel)
set_option maxRecDepth 20000 in
theorem gX3_saidSo_X3_takes : GoodIn wsX3_saidSo (wsV RX3 63 RX3 yX3_takes wsX3_takes) := goodIn_app (goodIn_of _ (by decide +kernel)) ggX3_saidSo_X3_takes
set_option maxRecDepth 20000 in
theorem ggX3_saidSo_X3_said : GoodIn wsX3_saidSo wsX3_said := goodIn_r _ [10, 11, 12, 13, 4, 14, 6, 15] (by decide +kernel) (by decide +kernel)
set_option maxRecDepth 20000 in
theorem gX3_saidSo_X3_said : GoodIn wsX3_saidSo (wsV RX3 78 RX3 yX3_said wsX3_said) := goodIn_app (goodIn_of _ (by decide +kernel)) ggX3_saidSo_X3_said
theorem dX3_saidSo_0 : decode cX3_saidSo 0 = .ok (.iconst 0, 1) := by decide +kernel
theorem dX3_saidSo_1 : decode cX3_saidSo 1 = .ok (.istore 4, 2) := by decide +kernel
theorem dX3_saidSo_3 : decode cX3_saidSo 3 = .ok (.iload 4, 2) := by decide +kernel
theorem dX3_saidSo_5 : decode cX3_saidSo 5 = .ok (.aload_n 0, 1) := by decide +kernel
theorem dX3_saidSo_6 : decode cX3_saidSo 6 = .ok (.invokevirtual 63, 3) := by decide +kernel
theorem dX3_saidSo_9 : decode cX3_saidSo 9 = .ok (.if_icmp .ge 24, 3) := by decide +kernel
theorem dX3_saidSo_12 : decode cX3_saidSo 12 = .ok (.aload_n 0, 1) := by decide +kernel
theorem dX3_saidSo_13 : decode cX3_saidSo 13 = .ok (.iload 4, 2) := by decide +kernel
theorem dX3_saidSo_15 : decode cX3_saidSo 15 = .ok (.iload_n 1, 1) := by decide +kernel
theorem dX3_saidSo_16 : decode cX3_saidSo 16 = .ok (.iload_n 2, 1) := by decide +kernel
theorem dX3_saidSo_17 : decode cX3_saidSo 17 = .ok (.iload_n 3, 1) := by decide +kernel
theorem dX3_saidSo_18 : decode cX3_saidSo 18 = .ok (.invokevirtual 78, 3) := by decide +kernel
theorem dX3_saidSo_21 : decode cX3_saidSo 21 = .ok (.ifCond .eq 6, 3) := by decide +kernel
theorem dX3_saidSo_24 : decode cX3_saidSo 24 = .ok (.iload 4, 2) := by decide +kernel
theorem dX3_saidSo_26 : decode cX3_saidSo 26 = .ok (.ireturn, 1) := by decide +kernel
theorem dX3_saidSo_27 : decode cX3_saidSo 27 = .ok (.iinc 4 1, 3) := by decide +kernel
theorem dX3_saidSo_30 : decode cX3_saidSo 30 = .ok (.goto (-27), 3) := by decide +kernel
theorem dX3_saidSo_33 : decode cX3_saidSo 33 = .ok (.iconst (-1), 1) := by decide +kernel
theorem dX3_saidSo_34 : decode cX3_saidSo 34 = .ok (.ireturn, 1) := by decide +kernel
set_option maxRecDepth 20000 in
theorem ggX3_meantSo_X3_takes : GoodIn wsX3_meantSo wsX3_takes := goodIn_r _ [5, 6, 19] (by decide +kernel) (by decide +kernel)
set_option maxRecDepth 20000 in
theorem gX3_meantSo_X3_takes : GoodIn wsX3_meantSo (wsV RX3 63 RX3 yX3_takes wsX3_takes) := goodIn_app (goodIn_of _ (by decide +kernel)) ggX3_meantSo_X3_takes
set_option maxRecDepth 20000 in
theorem ggX3_meantSo_X3_of : GoodIn wsX3_meantSo wsX3_of := goodIn_r _ [10, 6, 19] (by decide +kernel) (by decide +kernel)
set_option maxRecDepth 20000 in
theorem gX3_meantSo_X3_of : GoodIn wsX3_meantSo (wsV RX3 40 RX3 yX3_of wsX3_of) := goodIn_app (goodIn_of _ (by decide +kernel)) ggX3_meantSo_X3_of
set_option maxRecDepth 20000 in
theorem ggX3_meantSo_X3_rightNumber : GoodIn wsX3_meantSo wsX3_rightNumber := goodIn_r _ [14, 7, 8, 9, 4, 10, 6, 15, 16, 17, 18, 19] (by decide +kernel) (by decide +kernel)
set_option maxRecDepth 20000 in
theorem gX3_meantSo_X3_rightNumber : GoodIn wsX3_meantSo (wsV RX3 43 RX3 yX3_rightNumber wsX3_rightNumber) := goodIn_app (goodIn_of _ (by decide +kernel)) ggX3_meantSo_X3_rightNumber
theorem dX3_meantSo_0 : decode cX3_meantSo 0 = .ok (.iconst 0, 1) := by decide +kernel
theorem dX3_meantSo_1 : decode cX3_meantSo 1 = .ok (.istore 4, 2) := by decide +kernel
theorem dX3_meantSo_3 : decode cX3_meantSo 3 = .ok (.iload 4, 2) := by decide +kernel
theorem dX3_meantSo_5 : decode cX3_meantSo 5 = .ok (.aload_n 0, 1) := by decide +kernel
theorem dX3_meantSo_6 : decode cX3_meantSo 6 = .ok (.invokevirtual 63, 3) := by decide +kernel
theorem dX3_meantSo_9 : decode cX3_meantSo 9 = .ok (.if_icmp .ge 55, 3) := by decide +kernel
theorem dX3_meantSo_12 : decode cX3_meantSo 12 = .ok (.aload_n 0, 1) := by decide +kernel
theorem dX3_meantSo_13 : decode cX3_meantSo 13 = .ok (.iload 4, 2) := by decide +kernel
theorem dX3_meantSo_15 : decode cX3_meantSo 15 = .ok (.iconst 0, 1) := by decide +kernel
theorem dX3_meantSo_16 : decode cX3_meantSo 16 = .ok (.invokevirtual 40, 3) := by decide +kernel
theorem dX3_meantSo_19 : decode cX3_meantSo 19 = .ok (.iload_n 1, 1) := by decide +kernel
theorem dX3_meantSo_20 : decode cX3_meantSo 20 = .ok (.if_icmp .ne 38, 3) := by decide +kernel
theorem dX3_meantSo_23 : decode cX3_meantSo 23 = .ok (.aload_n 0, 1) := by decide +kernel
theorem dX3_meantSo_24 : decode cX3_meantSo 24 = .ok (.iload 4, 2) := by decide +kernel
theorem dX3_meantSo_26 : decode cX3_meantSo 26 = .ok (.iconst 1, 1) := by decide +kernel
theorem dX3_meantSo_27 : decode cX3_meantSo 27 = .ok (.invokevirtual 40, 3) := by decide +kernel
theorem dX3_meantSo_30 : decode cX3_meantSo 30 = .ok (.iload_n 2, 1) := by decide +kernel
theorem dX3_meantSo_31 : decode cX3_meantSo 31 = .ok (.if_icmp .ne 27, 3) := by decide +kernel
theorem dX3_meantSo_34 : decode cX3_meantSo 34 = .ok (.aload_n 0, 1) := by decide +kernel
theorem dX3_meantSo_35 : decode cX3_meantSo 35 = .ok (.iload 4, 2) := by decide +kernel
theorem dX3_meantSo_37 : decode cX3_meantSo 37 = .ok (.bipush 15, 2) := by decide +kernel
theorem dX3_meantSo_39 : decode cX3_meantSo 39 = .ok (.invokevirtual 40, 3) := by decide +kernel
theorem dX3_meantSo_42 : decode cX3_meantSo 42 = .ok (.ifCond .ne 16, 3) := by decide +kernel
theorem dX3_meantSo_45 : decode cX3_meantSo 45 = .ok (.aload_n 0, 1) := by decide +kernel
theorem dX3_meantSo_46 : decode cX3_meantSo 46 = .ok (.iload 4, 2) := by decide +kernel
theorem dX3_meantSo_48 : decode cX3_meantSo 48 = .ok (.invokevirtual 43, 3) := by decide +kernel
theorem dX3_meantSo_51 : decode cX3_meantSo 51 = .ok (.iload_n 3, 1) := by decide +kernel
theorem dX3_meantSo_52 : decode cX3_meantSo 52 = .ok (.if_icmp .ne 6, 3) := by decide +kernel
theorem dX3_meantSo_55 : decode cX3_meantSo 55 = .ok (.iload 4, 2) := by decide +kernel
theorem dX3_meantSo_57 : decode cX3_meantSo 57 = .ok (.ireturn, 1) := by decide +kernel
theorem dX3_meantSo_58 : decode cX3_meantSo 58 = .ok (.iinc 4 1, 3) := by decide +kernel
theorem dX3_meantSo_61 : decode cX3_meantSo 61 = .ok (.goto (-58), 3) := by decide +kernel
theorem dX3_meantSo_64 : decode cX3_meantSo 64 = .ok (.iconst (-1), 1) := by decide +kernel
theorem dX3_meantSo_65 : decode cX3_meantSo 65 = .ok (.ireturn, 1) := by decide +kernel
set_option maxRecDepth 20000 in
theorem ggX3_holds_X3_of : GoodIn wsX3_holds wsX3_of := goodIn_r _ [5, 6, 7] (by decide +kernel) (by decide +kernel)
set_option maxRecDepth 20000 in
theorem gX3_holds_X3_of : GoodIn wsX3_holds (wsV RX3 40 RX3 yX3_of wsX3_of) := goodIn_app (goodIn_of _ (by decide +kernel)) ggX3_holds_X3_of
theorem dX3_holds_0 : decode cX3_holds 0 = .ok (.iload_n 3, 1) := by decide +kernel
theorem dX3_holds_1 : decode cX3_holds 1 = .ok (.aload_n 0, 1) := by decide +kernel
theorem dX3_holds_2 : decode cX3_holds 2 = .ok (.iload_n 1, 1) := by decide +kernel
theorem dX3_holds_3 : decode cX3_holds 3 = .ok (.iload_n 2, 1) := by decide +kernel
theorem dX3_holds_4 : decode cX3_holds 4 = .ok (.invokevirtual 40, 3) := by decide +kernel
theorem dX3_holds_7 : decode cX3_holds 7 = .ok (.if_icmp .lt 25, 3) := by decide +kernel
theorem dX3_holds_10 : decode cX3_holds 10 = .ok (.iload_n 3, 1) := by decide +kernel
theorem dX3_holds_11 : decode cX3_holds 11 = .ok (.aload_n 0, 1) := by decide +kernel
theorem dX3_holds_12 : decode cX3_holds 12 = .ok (.iload_n 1, 1) := by decide +kernel
theorem dX3_holds_13 : decode cX3_holds 13 = .ok (.iload_n 2, 1) := by decide +kernel
theorem dX3_holds_14 : decode cX3_holds 14 = .ok (.invokevirtual 40, 3) := by decide +kernel
theorem dX3_holds_17 : decode cX3_holds 17 = .ok (.aload_n 0, 1) := by decide +kernel
theorem dX3_holds_18 : decode cX3_holds 18 = .ok (.iload_n 1, 1) := by decide +kernel
theorem dX3_holds_19 : decode cX3_holds 19 = .ok (.bipush 8, 2) := by decide +kernel
theorem dX3_holds_21 : decode cX3_holds 21 = .ok (.invokevirtual 40, 3) := by decide +kernel
theorem dX3_holds_24 : decode cX3_holds 24 = .ok (.iadd, 1) := by decide +kernel
theorem dX3_holds_25 : decode cX3_holds 25 = .ok (.if_icmp .ge 7, 3) := by decide +kernel
theorem dX3_holds_28 : decode cX3_holds 28 = .ok (.iconst 1, 1) := by decide +kernel
theorem dX3_holds_29 : decode cX3_holds 29 = .ok (.goto 4, 3) := by decide +kernel
theorem dX3_holds_32 : decode cX3_holds 32 = .ok (.iconst 0, 1) := by decide +kernel
theorem dX3_holds_33 : decode cX3_holds 33 = .ok (.ireturn, 1) := by decide +kernel
set_option maxRecDepth 20000 in
theorem ggX3_overlap_X3_of : GoodIn wsX3_overlap wsX3_of := goodIn_r _ [5, 6, 7] (by decide +kernel) (by decide +kernel)
set_option maxRecDepth 20000 in
theorem gX3_overlap_X3_of : GoodIn wsX3_overlap (wsV RX3 40 RX3 yX3_of wsX3_of) := goodIn_app (goodIn_of _ (by decide +kernel)) ggX3_overlap_X3_of
theorem dX3_overlap_0 : decode cX3_overlap 0 = .ok (.aload_n 0, 1) := by decide +kernel
theorem dX3_overlap_1 : decode cX3_overlap 1 = .ok (.iload_n 3, 1) := by decide +kernel
theorem dX3_overlap_2 : decode cX3_overlap 2 = .ok (.bipush 13, 2) := by decide +kernel
theorem dX3_overlap_4 : decode cX3_overlap 4 = .ok (.invokevirtual 40, 3) := by decide +kernel
theorem dX3_overlap_7 : decode cX3_overlap 7 = .ok (.iload 4, 2) := by decide +kernel
theorem dX3_overlap_9 : decode cX3_overlap 9 = .ok (.iadd, 1) := by decide +kernel
theorem dX3_overlap_10 : decode cX3_overlap 10 = .ok (.istore 5, 2) := by decide +kernel
theorem dX3_overlap_12 : decode cX3_overlap 12 = .ok (.iload 5, 2) := by decide +kernel
theorem dX3_overlap_14 : decode cX3_overlap 14 = .ok (.aload_n 0, 1) := by decide +kernel
theorem dX3_overlap_15 : decode cX3_overlap 15 = .ok (.iload_n 3, 1) := by decide +kernel
theorem dX3_overlap_16 : decode cX3_overlap 16 = .ok (.bipush 8, 2) := by decide +kernel
theorem dX3_overlap_18 : decode cX3_overlap 18 = .ok (.invokevirtual 40, 3) := by decide +kernel
theorem dX3_overlap_21 : decode cX3_overlap 21 = .ok (.iadd, 1) := by decide +kernel
theorem dX3_overlap_22 : decode cX3_overlap 22 = .ok (.istore 6, 2) := by decide +kernel
theorem dX3_overlap_24 : decode cX3_overlap 24 = .ok (.iload 6, 2) := by decide +kernel
theorem dX3_overlap_26 : decode cX3_overlap 26 = .ok (.iload_n 2, 1) := by decide +kernel
theorem dX3_overlap_27 : decode cX3_overlap 27 = .ok (.if_icmp .ge 8, 3) := by decide +kernel
theorem dX3_overlap_30 : decode cX3_overlap 30 = .ok (.iload 6, 2) := by decide +kernel
theorem dX3_overlap_32 : decode cX3_overlap 32 = .ok (.goto 4, 3) := by decide +kernel
theorem dX3_overlap_35 : decode cX3_overlap 35 = .ok (.iload_n 2, 1) := by decide +kernel
theorem dX3_overlap_36 : decode cX3_overlap 36 = .ok (.iload 5, 2) := by decide +kernel
theorem dX3_overlap_38 : decode cX3_overlap 38 = .ok (.iload_n 1, 1) := by decide +kernel
theorem dX3_overlap_39 : decode cX3_overlap 39 = .ok (.if_icmp .le 8, 3) := by decide +kernel
theorem dX3_overlap_42 : decode cX3_overlap 42 = .ok (.iload 5, 2) := by decide +kernel
theorem dX3_overlap_44 : decode cX3_overlap 44 = .ok (.goto 4, 3) := by decide +kernel
theorem dX3_overlap_47 : decode cX3_overlap 47 = .ok (.iload_n 1, 1) := by decide +kernel
theorem dX3_overlap_48 : decode cX3_overlap 48 = .ok (.isub, 1) := by decide +kernel
theorem dX3_overlap_49 : decode cX3_overlap 49 = .ok (.istore 7, 2) := by decide +kernel
theorem dX3_overlap_51 : decode cX3_overlap 51 = .ok (.iload 7, 2) := by decide +kernel
theorem dX3_overlap_53 : decode cX3_overlap 53 = .ok (.ifCond .le 8, 3) := by decide +kernel
theorem dX3_overlap_56 : decode cX3_overlap 56 = .ok (.iload 7, 2) := by decide +kernel
theorem dX3_overlap_58 : decode cX3_overlap 58 = .ok (.goto 4, 3) := by decide +kernel
theorem dX3_overlap_61 : decode cX3_overlap 61 = .ok (.iconst 0, 1) := by decide +kernel
theorem dX3_overlap_62 : decode cX3_overlap 62 = .ok (.ireturn, 1) := by decide +kernel
set_option maxRecDepth 20000 in
theorem ggX3_soundFor_X3_of : GoodIn wsX3_soundFor wsX3_of := goodIn_r _ [5, 6, 19] (by decide +kernel) (by decide +kernel)
set_option maxRecDepth 20000 in
theorem gX3_soundFor_X3_of : GoodIn wsX3_soundFor (wsV RX3 40 RX3 yX3_of wsX3_of) := goodIn_app (goodIn_of _ (by decide +kernel)) ggX3_soundFor_X3_of
set_option maxRecDepth 20000 in
theorem ggX3_soundFor_X3_takes : GoodIn wsX3_soundFor wsX3_takes := goodIn_r _ [10, 6, 19] (by decide +kernel) (by decide +kernel)
set_option maxRecDepth 20000 in
theorem gX3_soundFor_X3_takes : GoodIn wsX3_soundFor (wsV RX3 63 RX3 yX3_takes wsX3_takes) := goodIn_app (goodIn_of _ (by decide +kernel)) ggX3_soundFor_X3_takes
set_option maxRecDepth 20000 in
theorem ggX3_soundFor_X3_hasSound : GoodIn wsX3_soundFor wsX3_hasSound := goodIn_r _ [14, 1, 2, 3, 4, 5, 6, 19] (by decide +kernel) (by decide +kernel)
set_option maxRecDepth 20000 in
theorem gX3_soundFor_X3_hasSound : GoodIn wsX3_soundFor (wsV RX3 85 RX3 yX3_hasSound wsX3_hasSound) := goodIn_app (goodIn_of _ (by decide +kernel)) ggX3_soundFor_X3_hasSound
set_option maxRecDepth 20000 in
theorem ggX3_soundFor_X3_overlap : GoodIn wsX3_soundFor wsX3_overlap := goodIn_r _ [18, 1, 2, 3, 4, 5, 6, 19] (by decide +kernel) (by decide +kernel)
set_option maxRecDepth 20000 in
theorem gX3_soundFor_X3_overlap : GoodIn wsX3_soundFor (wsV RX3 88 RX3 yX3_overlap wsX3_overlap) := goodIn_app (goodIn_of _ (by decide +kernel)) ggX3_soundFor_X3_overlap
theorem dX3_soundFor_0 : decode cX3_soundFor 0 = .ok (.aload_n 0, 1) := by decide +kernel
theorem dX3_soundFor_1 : decode cX3_soundFor 1 = .ok (.iload_n 1, 1) := by decide +kernel
theorem dX3_soundFor_2 : decode cX3_soundFor 2 = .ok (.bipush 12, 2) := by decide +kernel
theorem dX3_soundFor_4 : decode cX3_soundFor 4 = .ok (.invokevirtual 40, 3) := by decide +kernel
theorem dX3_soundFor_7 : decode cX3_soundFor 7 = .ok (.istore_n 3, 1) := by decide +kernel
theorem dX3_soundFor_8 : decode cX3_soundFor 8 = .ok (.iload_n 3, 1) := by decide +kernel
theorem dX3_soundFor_9 : decode cX3_soundFor 9 = .ok (.aload_n 0, 1) := by decide +kernel
theorem dX3_soundFor_10 : decode cX3_soundFor 10 = .ok (.iload_n 1, 1) := by decide +kernel
theorem dX3_soundFor_11 : decode cX3_soundFor 11 = .ok (.bipush 8, 2) := by decide +kernel
theorem dX3_soundFor_13 : decode cX3_soundFor 13 = .ok (.invokevirtual 40, 3) := by decide +kernel
theorem dX3_soundFor_16 : decode cX3_soundFor 16 = .ok (.iadd, 1) := by decide +kernel
theorem dX3_soundFor_17 : decode cX3_soundFor 17 = .ok (.istore 4, 2) := by decide +kernel
theorem dX3_soundFor_19 : decode cX3_soundFor 19 = .ok (.iconst (-1), 1) := by decide +kernel
theorem dX3_soundFor_20 : decode cX3_soundFor 20 = .ok (.istore 5, 2) := by decide +kernel
theorem dX3_soundFor_22 : decode cX3_soundFor 22 = .ok (.iconst 0, 1) := by decide +kernel
theorem dX3_soundFor_23 : decode cX3_soundFor 23 = .ok (.istore 6, 2) := by decide +kernel
theorem dX3_soundFor_25 : decode cX3_soundFor 25 = .ok (.iconst 0, 1) := by decide +kernel
theorem dX3_soundFor_26 : decode cX3_soundFor 26 = .ok (.istore 7, 2) := by decide +kernel
theorem dX3_soundFor_28 : decode cX3_soundFor 28 = .ok (.iload 7, 2) := by decide +kernel
theorem dX3_soundFor_30 : decode cX3_soundFor 30 = .ok (.aload_n 0, 1) := by decide +kernel
theorem dX3_soundFor_31 : decode cX3_soundFor 31 = .ok (.invokevirtual 63, 3) := by decide +kernel
theorem dX3_soundFor_34 : decode cX3_soundFor 34 = .ok (.if_icmp .ge 49, 3) := by decide +kernel
theorem dX3_soundFor_37 : decode cX3_soundFor 37 = .ok (.aload_n 0, 1) := by decide +kernel
theorem dX3_soundFor_38 : decode cX3_soundFor 38 = .ok (.iload 7, 2) := by decide +kernel
theorem dX3_soundFor_40 : decode cX3_soundFor 40 = .ok (.invokevirtual 85, 3) := by decide +kernel
theorem dX3_soundFor_43 : decode cX3_soundFor 43 = .ok (.ifCond .eq 16, 3) := by decide +kernel
theorem dX3_soundFor_46 : decode cX3_soundFor 46 = .ok (.aload_n 0, 1) := by decide +kernel
theorem dX3_soundFor_47 : decode cX3_soundFor 47 = .ok (.iload_n 3, 1) := by decide +kernel
theorem dX3_soundFor_48 : decode cX3_soundFor 48 = .ok (.iload 4, 2) := by decide +kernel
theorem dX3_soundFor_50 : decode cX3_soundFor 50 = .ok (.iload 7, 2) := by decide +kernel
theorem dX3_soundFor_52 : decode cX3_soundFor 52 = .ok (.iload_n 2, 1) := by decide +kernel
theorem dX3_soundFor_53 : decode cX3_soundFor 53 = .ok (.invokevirtual 88, 3) := by decide +kernel
theorem dX3_soundFor_56 : decode cX3_soundFor 56 = .ok (.goto 4, 3) := by decide +kernel
theorem dX3_soundFor_59 : decode cX3_soundFor 59 = .ok (.iconst 0, 1) := by decide +kernel
theorem dX3_soundFor_60 : decode cX3_soundFor 60 = .ok (.istore 8, 2) := by decide +kernel
theorem dX3_soundFor_62 : decode cX3_soundFor 62 = .ok (.iload 8, 2) := by decide +kernel
theorem dX3_soundFor_64 : decode cX3_soundFor 64 = .ok (.iload 6, 2) := by decide +kernel
theorem dX3_soundFor_66 : decode cX3_soundFor 66 = .ok (.if_icmp .le 11, 3) := by decide +kernel
theorem dX3_soundFor_69 : decode cX3_soundFor 69 = .ok (.iload 8, 2) := by decide +kernel
theorem dX3_soundFor_71 : decode cX3_soundFor 71 = .ok (.istore 6, 2) := by decide +kernel
theorem dX3_soundFor_73 : decode cX3_soundFor 73 = .ok (.iload 7, 2) := by decide +kernel
theorem dX3_soundFor_75 : decode cX3_soundFor 75 = .ok (.istore 5, 2) := by decide +kernel
theorem dX3_soundFor_77 : decode cX3_soundFor 77 = .ok (.iinc 7 1, 3) := by decide +kernel
theorem dX3_soundFor_80 : decode cX3_soundFor 80 = .ok (.goto (-52), 3) := by decide +kernel
theorem dX3_soundFor_83 : decode cX3_soundFor 83 = .ok (.iload 5, 2) := by decide +kernel
theorem dX3_soundFor_85 : decode cX3_soundFor 85 = .ok (.ireturn, 1) := by decide +kernel
set_option maxRecDepth 20000 in
theorem ggX3_meetsOwn_X3_of : GoodIn wsX3_meetsOwn wsX3_of := goodIn_r _ [9, 10, 11] (by decide +kernel) (by decide +kernel)
set_option maxRecDepth 20000 in
theorem gX3_meetsOwn_X3_of : GoodIn wsX3_meetsOwn (wsV RX3 40 RX3 yX3_of wsX3_of) := goodIn_app (goodIn_of _ (by decide +kernel)) ggX3_meetsOwn_X3_of
theorem dX3_meetsOwn_0 : decode cX3_meetsOwn 0 = .ok (.aload_n 0, 1) := by decide +kernel
theorem dX3_meetsOwn_1 : decode cX3_meetsOwn 1 = .ok (.iload_n 1, 1) := by decide +kernel
theorem dX3_meetsOwn_2 : decode cX3_meetsOwn 2 = .ok (.bipush 13, 2) := by decide +kernel
theorem dX3_meetsOwn_4 : decode cX3_meetsOwn 4 = .ok (.invokevirtual 40, 3) := by decide +kernel
theorem dX3_meetsOwn_7 : decode cX3_meetsOwn 7 = .ok (.aload_n 0, 1) := by decide +kernel
theorem dX3_meetsOwn_8 : decode cX3_meetsOwn 8 = .ok (.iload_n 1, 1) := by decide +kernel
theorem dX3_meetsOwn_9 : decode cX3_meetsOwn 9 = .ok (.bipush 12, 2) := by decide +kernel
theorem dX3_meetsOwn_11 : decode cX3_meetsOwn 11 = .ok (.invokevirtual 40, 3) := by decide +kernel
theorem dX3_meetsOwn_14 : decode cX3_meetsOwn 14 = .ok (.isub, 1) := by decide +kernel
theorem dX3_meetsOwn_15 : decode cX3_meetsOwn 15 = .ok (.iload_n 2, 1) := by decide +kernel
theorem dX3_meetsOwn_16 : decode cX3_meetsOwn 16 = .ok (.iadd, 1) := by decide +kernel
theorem dX3_meetsOwn_17 : decode cX3_meetsOwn 17 = .ok (.istore_n 3, 1) := by decide +kernel
theorem dX3_meetsOwn_18 : decode cX3_meetsOwn 18 = .ok (.iload_n 3, 1) := by decide +kernel
theorem dX3_meetsOwn_19 : decode cX3_meetsOwn 19 = .ok (.invokestatic 92, 3) := by decide +kernel
theorem dX3_meetsOwn_22 : decode cX3_meetsOwn 22 = .ok (.aload_n 0, 1) := by decide +kernel
theorem dX3_meetsOwn_23 : decode cX3_meetsOwn 23 = .ok (.iload_n 1, 1) := by decide +kernel
theorem dX3_meetsOwn_24 : decode cX3_meetsOwn 24 = .ok (.bipush 8, 2) := by decide +kernel
theorem dX3_meetsOwn_26 : decode cX3_meetsOwn 26 = .ok (.invokevirtual 40, 3) := by decide +kernel
theorem dX3_meetsOwn_29 : decode cX3_meetsOwn 29 = .ok (.if_icmp .ge 7, 3) := by decide +kernel
theorem dX3_meetsOwn_32 : decode cX3_meetsOwn 32 = .ok (.iconst 1, 1) := by decide +kernel
theorem dX3_meetsOwn_33 : decode cX3_meetsOwn 33 = .ok (.goto 4, 3) := by decide +kernel
theorem dX3_meetsOwn_36 : decode cX3_meetsOwn 36 = .ok (.iconst 0, 1) := by decide +kernel
theorem dX3_meetsOwn_37 : decode cX3_meetsOwn 37 = .ok (.ireturn, 1) := by decide +kernel
set_option maxRecDepth 20000 in
theorem ggX3_sounds_X3_takes : GoodIn wsX3_sounds wsX3_takes := goodIn_r _ [5, 6, 15] (by decide +kernel) (by decide +kernel)
set_option maxRecDepth 20000 in
theorem gX3_sounds_X3_takes : GoodIn wsX3_sounds (wsV RX3 63 RX3 yX3_takes wsX3_takes) := goodIn_app (goodIn_of _ (by decide +kernel)) ggX3_sounds_X3_takes
set_option maxRecDepth 20000 in
theorem ggX3_sounds_X3_hasSound : GoodIn wsX3_sounds wsX3_hasSound := goodIn_r _ [10, 11, 12, 13, 4, 14, 6, 15] (by decide +kernel) (by decide +kernel)
set_option maxRecDepth 20000 in
theorem gX3_sounds_X3_hasSound : GoodIn wsX3_sounds (wsV RX3 85 RX3 yX3_hasSound wsX3_hasSound) := goodIn_app (goodIn_of _ (by decide +kernel)) ggX3_sounds_X3_hasSound
theorem dX3_sounds_0 : decode cX3_sounds 0 = .ok (.iconst 0, 1) := by decide +kernel
theorem dX3_sounds_1 : decode cX3_sounds 1 = .ok (.istore_n 1, 1) := by decide +kernel
theorem dX3_sounds_2 : decode cX3_sounds 2 = .ok (.iconst 0, 1) := by decide +kernel
theorem dX3_sounds_3 : decode cX3_sounds 3 = .ok (.istore_n 2, 1) := by decide +kernel
theorem dX3_sounds_4 : decode cX3_sounds 4 = .ok (.iload_n 2, 1) := by decide +kernel
theorem dX3_sounds_5 : decode cX3_sounds 5 = .ok (.aload_n 0, 1) := by decide +kernel
theorem dX3_sounds_6 : decode cX3_sounds 6 = .ok (.invokevirtual 63, 3) := by decide +kernel
theorem dX3_sounds_9 : decode cX3_sounds 9 = .ok (.if_icmp .ge 20, 3) := by decide +kernel
theorem dX3_sounds_12 : decode cX3_sounds 12 = .ok (.aload_n 0, 1) := by decide +kernel
theorem dX3_sounds_13 : decode cX3_sounds 13 = .ok (.iload_n 2, 1) := by decide +kernel
theorem dX3_sounds_14 : decode cX3_sounds 14 = .ok (.invokevirtual 85, 3) := by decide +kernel
theorem dX3_sounds_17 : decode cX3_sounds 17 = .ok (.ifCond .eq 6, 3) := by decide +kernel
theorem dX3_sounds_20 : decode cX3_sounds 20 = .ok (.iinc 1 1, 3) := by decide +kernel
theorem dX3_sounds_23 : decode cX3_sounds 23 = .ok (.iinc 2 1, 3) := by decide +kernel
theorem dX3_sounds_26 : decode cX3_sounds 26 = .ok (.goto (-22), 3) := by decide +kernel
theorem dX3_sounds_29 : decode cX3_sounds 29 = .ok (.iload_n 1, 1) := by decide +kernel
theorem dX3_sounds_30 : decode cX3_sounds 30 = .ok (.ireturn, 1) := by decide +kernel
set_option maxRecDepth 20000 in
theorem ggX3_keptSounds_X3_takes : GoodIn wsX3_keptSounds wsX3_takes := goodIn_r _ [5, 6, 31] (by decide +kernel) (by decide +kernel)
set_option maxRecDepth 20000 in
theorem gX3_keptSounds_X3_takes : GoodIn wsX3_keptSounds (wsV RX3 63 RX3 yX3_takes wsX3_takes) := goodIn_app (goodIn_of _ (by decide +kernel)) ggX3_keptSounds_X3_takes
set_option maxRecDepth 20000 in
theorem ggX3_keptSounds_X3_hasSound : GoodIn wsX3_keptSounds wsX3_hasSound := goodIn_r _ [10, 11, 12, 13, 4, 14, 6, 31] (by decide +kernel) (by decide +kernel)
set_option maxRecDepth 20000 in
theorem gX3_keptSounds_X3_hasSound : GoodIn wsX3_keptSounds (wsV RX3 85 RX3 yX3_hasSound wsX3_hasSound) := goodIn_app (goodIn_of _ (by decide +kernel)) ggX3_keptSounds_X3_hasSound
set_option maxRecDepth 20000 in
theorem ggX3_keptSounds_X3_meetsOwn : GoodIn wsX3_keptSounds wsX3_meetsOwn := goodIn_r _ [18, 19, 20, 21, 22, 11, 12, 13, 4, 14, 6, 31] (by decide +kernel) (by decide +kernel)
set_option maxRecDepth 20000 in
theorem gX3_keptSounds_X3_meetsOwn : GoodIn wsX3_keptSounds (wsV RX3 95 RX3 yX3_meetsOwn wsX3_meetsOwn) := goodIn_app (goodIn_of _ (by decide +kernel)) ggX3_keptSounds_X3_meetsOwn
set_option maxRecDepth 20000 in
theorem ggX3_keptSounds_X3_soundFor : GoodIn wsX3_keptSounds wsX3_soundFor := goodIn_r _ [26, 11, 12, 13, 4, 14, 6, 1, 2, 3, 5, 7, 8, 9, 10, 27, 28, 29, 30, 31] (by decide +kernel) (by decide +kernel)
set_option maxRecDepth 20000 in
theorem gX3_keptSounds_X3_soundFor : GoodIn wsX3_keptSounds (wsV RX3 99 RX3 yX3_soundFor wsX3_soundFor) := goodIn_app (goodIn_of _ (by decide +kernel)) ggX3_keptSounds_X3_soundFor
theorem dX3_keptSounds_0 : decode cX3_keptSounds 0 = .ok (.iconst 0, 1) := by decide +kernel
theorem dX3_keptSounds_1 : decode cX3_keptSounds 1 = .ok (.istore_n 2, 1) := by decide +kernel
theorem dX3_keptSounds_2 : decode cX3_keptSounds 2 = .ok (.iconst 0, 1) := by decide +kernel
theorem dX3_keptSounds_3 : decode cX3_keptSounds 3 = .ok (.istore_n 3, 1) := by decide +kernel
theorem dX3_keptSounds_4 : decode cX3_keptSounds 4 = .ok (.iload_n 3, 1) := by decide +kernel
theorem dX3_keptSounds_5 : decode cX3_keptSounds 5 = .ok (.aload_n 0, 1) := by decide +kernel
theorem dX3_keptSounds_6 : decode cX3_keptSounds 6 = .ok (.invokevirtual 63, 3) := by decide +kernel
theorem dX3_keptSounds_9 : decode cX3_keptSounds 9 = .ok (.if_icmp .ge 39, 3) := by decide +kernel
theorem dX3_keptSounds_12 : decode cX3_keptSounds 12 = .ok (.aload_n 0, 1) := by decide +kernel
theorem dX3_keptSounds_13 : decode cX3_keptSounds 13 = .ok (.iload_n 3, 1) := by decide +kernel
theorem dX3_keptSounds_14 : decode cX3_keptSounds 14 = .ok (.invokevirtual 85, 3) := by decide +kernel
theorem dX3_keptSounds_17 : decode cX3_keptSounds 17 = .ok (.ifCond .eq 25, 3) := by decide +kernel
theorem dX3_keptSounds_20 : decode cX3_keptSounds 20 = .ok (.aload_n 0, 1) := by decide +kernel
theorem dX3_keptSounds_21 : decode cX3_keptSounds 21 = .ok (.iload_n 3, 1) := by decide +kernel
theorem dX3_keptSounds_22 : decode cX3_keptSounds 22 = .ok (.iload_n 1, 1) := by decide +kernel
theorem dX3_keptSounds_23 : decode cX3_keptSounds 23 = .ok (.invokevirtual 95, 3) := by decide +kernel
theorem dX3_keptSounds_26 : decode cX3_keptSounds 26 = .ok (.ifCond .eq 16, 3) := by decide +kernel
theorem dX3_keptSounds_29 : decode cX3_keptSounds 29 = .ok (.aload_n 0, 1) := by decide +kernel
theorem dX3_keptSounds_30 : decode cX3_keptSounds 30 = .ok (.iload_n 3, 1) := by decide +kernel
theorem dX3_keptSounds_31 : decode cX3_keptSounds 31 = .ok (.iload_n 1, 1) := by decide +kernel
theorem dX3_keptSounds_32 : decode cX3_keptSounds 32 = .ok (.invokevirtual 99, 3) := by decide +kernel
theorem dX3_keptSounds_35 : decode cX3_keptSounds 35 = .ok (.iload_n 3, 1) := by decide +kernel
theorem dX3_keptSounds_36 : decode cX3_keptSounds 36 = .ok (.if_icmp .ne 6, 3) := by decide +kernel
theorem dX3_keptSounds_39 : decode cX3_keptSounds 39 = .ok (.iinc 2 1, 3) := by decide +kernel
theorem dX3_keptSounds_42 : decode cX3_keptSounds 42 = .ok (.iinc 3 1, 3) := by decide +kernel
theorem dX3_keptSounds_45 : decode cX3_keptSounds 45 = .ok (.goto (-41), 3) := by decide +kernel
theorem dX3_keptSounds_48 : decode cX3_keptSounds 48 = .ok (.iload_n 2, 1) := by decide +kernel
theorem dX3_keptSounds_49 : decode cX3_keptSounds 49 = .ok (.ireturn, 1) := by decide +kernel
set_option maxRecDepth 20000 in
theorem ggX3_unlikeSounds_X3_takes : GoodIn wsX3_unlikeSounds wsX3_takes := goodIn_r _ [5, 6, 23] (by decide +kernel) (by decide +kernel)
set_option maxRecDepth 20000 in
theorem gX3_unlikeSounds_X3_takes : GoodIn wsX3_unlikeSounds (wsV RX3 63 RX3 yX3_takes wsX3_takes) := goodIn_app (goodIn_of _ (by decide +kernel)) ggX3_unlikeSounds_X3_takes
set_option maxRecDepth 20000 in
theorem ggX3_unlikeSounds_X3_soundFor : GoodIn wsX3_unlikeSounds wsX3_soundFor := goodIn_r _ [10, 11, 12, 13, 4, 14, 6, 1, 2, 3, 5, 15, 16, 17, 18, 19, 20, 21, 22, 23] (by decide +kernel) (by decide +kernel)
set_option maxRecDepth 20000 in
theorem gX3_unlikeSounds_X3_soundFor : GoodIn wsX3_unlikeSounds (wsV RX3 99 RX3 yX3_soundFor wsX3_soundFor) := goodIn_app (goodIn_of _ (by decide +kernel)) ggX3_unlikeSounds_X3_soundFor
set_option maxRecDepth 20000 in
theorem ggX3_unlikeSounds_X3_hasSound : GoodIn wsX3_unlikeSounds wsX3_hasSound := goodIn_r _ [18, 11, 12, 13, 4, 14, 6, 23] (by decide +kernel) (by decide +kernel)
set_option maxRecDepth 20000 in
theorem gX3_unlikeSounds_X3_hasSound : GoodIn wsX3_unlikeSounds (wsV RX3 85 RX3 yX3_hasSound wsX3_hasSound) := goodIn_app (goodIn_of _ (by decide +kernel)) ggX3_unlikeSounds_X3_hasSound
theorem dX3_unlikeSounds_0 : decode cX3_unlikeSounds 0 = .ok (.iconst 0, 1) := by decide +kernel
theorem dX3_unlikeSounds_1 : decode cX3_unlikeSounds 1 = .ok (.istore_n 1, 1) := by decide +kernel
theorem dX3_unlikeSounds_2 : decode cX3_unlikeSounds 2 = .ok (.iconst 0, 1) := by decide +kernel
theorem dX3_unlikeSounds_3 : decode cX3_unlikeSounds 3 = .ok (.istore_n 2, 1) := by decide +kernel
theorem dX3_unlikeSounds_4 : decode cX3_unlikeSounds 4 = .ok (.iload_n 2, 1) := by decide +kernel
theorem dX3_unlikeSounds_5 : decode cX3_unlikeSounds 5 = .ok (.aload_n 0, 1) := by decide +kernel
theorem dX3_unlikeSounds_6 : decode cX3_unlikeSounds 6 = .ok (.invokevirtual 63, 3) := by decide +kernel
theorem dX3_unlikeSounds_9 : decode cX3_unlikeSounds 9 = .ok (.if_icmp .ge 34, 3) := by decide +kernel
theorem dX3_unlikeSounds_12 : decode cX3_unlikeSounds 12 = .ok (.aload_n 0, 1) := by decide +kernel
theorem dX3_unlikeSounds_13 : decode cX3_unlikeSounds 13 = .ok (.iload_n 2, 1) := by decide +kernel
theorem dX3_unlikeSounds_14 : decode cX3_unlikeSounds 14 = .ok (.iconst 0, 1) := by decide +kernel
theorem dX3_unlikeSounds_15 : decode cX3_unlikeSounds 15 = .ok (.invokevirtual 99, 3) := by decide +kernel
theorem dX3_unlikeSounds_18 : decode cX3_unlikeSounds 18 = .ok (.aload_n 0, 1) := by decide +kernel
theorem dX3_unlikeSounds_19 : decode cX3_unlikeSounds 19 = .ok (.iload_n 2, 1) := by decide +kernel
theorem dX3_unlikeSounds_20 : decode cX3_unlikeSounds 20 = .ok (.invokevirtual 85, 3) := by decide +kernel
theorem dX3_unlikeSounds_23 : decode cX3_unlikeSounds 23 = .ok (.ifCond .eq 7, 3) := by decide +kernel
theorem dX3_unlikeSounds_26 : decode cX3_unlikeSounds 26 = .ok (.iload_n 2, 1) := by decide +kernel
theorem dX3_unlikeSounds_27 : decode cX3_unlikeSounds 27 = .ok (.goto 4, 3) := by decide +kernel
theorem dX3_unlikeSounds_30 : decode cX3_unlikeSounds 30 = .ok (.iconst (-1), 1) := by decide +kernel
theorem dX3_unlikeSounds_31 : decode cX3_unlikeSounds 31 = .ok (.if_icmp .eq 6, 3) := by decide +kernel
theorem dX3_unlikeSounds_34 : decode cX3_unlikeSounds 34 = .ok (.iinc 1 1, 3) := by decide +kernel
theorem dX3_unlikeSounds_37 : decode cX3_unlikeSounds 37 = .ok (.iinc 2 1, 3) := by decide +kernel
theorem dX3_unlikeSounds_40 : decode cX3_unlikeSounds 40 = .ok (.goto (-36), 3) := by decide +kernel
theorem dX3_unlikeSounds_43 : decode cX3_unlikeSounds 43 = .ok (.iload_n 1, 1) := by decide +kernel
theorem dX3_unlikeSounds_44 : decode cX3_unlikeSounds 44 = .ok (.ireturn, 1) := by decide +kernel
theorem dX3_mean_0 : decode cX3_mean 0 = .ok (.aload_n 0, 1) := by decide +kernel
theorem dX3_mean_1 : decode cX3_mean 1 = .ok (.getfield 9, 3) := by decide +kernel
theorem dX3_mean_4 : decode cX3_mean 4 = .ok (.iconst 1, 1) := by decide +kernel
theorem dX3_mean_5 : decode cX3_mean 5 = .ok (.iload_n 1, 1) := by decide +kernel
theorem dX3_mean_6 : decode cX3_mean 6 = .ok (.iastore, 1) := by decide +kernel
theorem dX3_mean_7 : decode cX3_mean 7 = .ok (.aload_n 0, 1) := by decide +kernel
theorem dX3_mean_8 : decode cX3_mean 8 = .ok (.getfield 9, 3) := by decide +kernel
theorem dX3_mean_11 : decode cX3_mean 11 = .ok (.iconst 2, 1) := by decide +kernel
theorem dX3_mean_12 : decode cX3_mean 12 = .ok (.iload_n 2, 1) := by decide +kernel
theorem dX3_mean_13 : decode cX3_mean 13 = .ok (.iastore, 1) := by decide +kernel
theorem dX3_mean_14 : decode cX3_mean 14 = .ok (.iconst 1, 1) := by decide +kernel
theorem dX3_mean_15 : decode cX3_mean 15 = .ok (.ireturn, 1) := by decide +kernel
theorem dX3_write_0 : decode cX3_write 0 = .ok (.aload_n 0, 1) := by decide +kernel
theorem dX3_write_1 : decode cX3_write 1 = .ok (.getfield 9, 3) := by decide +kernel
theorem dX3_write_4 : decode cX3_write 4 = .ok (.iconst 3, 1) := by decide +kernel
theorem dX3_write_5 : decode cX3_write 5 = .ok (.iload_n 1, 1) := by decide +kernel
theorem dX3_write_6 : decode cX3_write 6 = .ok (.iastore, 1) := by decide +kernel
theorem dX3_write_7 : decode cX3_write 7 = .ok (.aload_n 0, 1) := by decide +kernel
theorem dX3_write_8 : decode cX3_write 8 = .ok (.getfield 9, 3) := by decide +kernel
theorem dX3_write_11 : decode cX3_write 11 = .ok (.iconst 4, 1) := by decide +kernel
theorem dX3_write_12 : decode cX3_write 12 = .ok (.iload_n 2, 1) := by decide +kernel
theorem dX3_write_13 : decode cX3_write 13 = .ok (.iastore, 1) := by decide +kernel
theorem dX3_write_14 : decode cX3_write 14 = .ok (.aload_n 0, 1) := by decide +kernel
theorem dX3_write_15 : decode cX3_write 15 = .ok (.getfield 9, 3) := by decide +kernel
theorem dX3_write_18 : decode cX3_write 18 = .ok (.iconst 5, 1) := by decide +kernel
theorem dX3_write_19 : decode cX3_write 19 = .ok (.iload_n 3, 1) := by decide +kernel
theorem dX3_write_20 : decode cX3_write 20 = .ok (.iastore, 1) := by decide +kernel
theorem dX3_write_21 : decode cX3_write 21 = .ok (.return_, 1) := by decide +kernel
set_option maxRecDepth 20000 in
theorem ggX3_writeRight_X3_nextNumber : GoodIn wsX3_writeRight wsX3_nextNumber := goodIn_r _ [6, 1, 7, 8, 9, 5, 10, 11, 12, 13, 14, 15, 16, 17, 18, 23] (by decide +kernel) (by decide +kernel)
set_option maxRecDepth 20000 in
theorem gX3_writeRight_X3_nextNumber : GoodIn wsX3_writeRight (wsV RX3 75 RX3 yX3_nextNumber wsX3_nextNumber) := goodIn_app (goodIn_of _ (by decide +kernel)) ggX3_writeRight_X3_nextNumber
set_option maxRecDepth 20000 in
theorem ggX3_writeRight_X3_write : GoodIn wsX3_writeRight wsX3_write := goodIn_r _ [22, 1, 23] (by decide +kernel) (by decide +kernel)
set_option maxRecDepth 20000 in
theorem gX3_writeRight_X3_write : GoodIn wsX3_writeRight (wsV RX3 102 RX3 yX3_write wsX3_write) := goodIn_app (goodIn_of _ (by decide +kernel)) ggX3_writeRight_X3_write
theorem dX3_writeRight_0 : decode cX3_writeRight 0 = .ok (.aload_n 0, 1) := by decide +kernel
theorem dX3_writeRight_1 : decode cX3_writeRight 1 = .ok (.aload_n 0, 1) := by decide +kernel
theorem dX3_writeRight_2 : decode cX3_writeRight 2 = .ok (.getfield 9, 3) := by decide +kernel
theorem dX3_writeRight_5 : decode cX3_writeRight 5 = .ok (.iconst 1, 1) := by decide +kernel
theorem dX3_writeRight_6 : decode cX3_writeRight 6 = .ok (.iaload, 1) := by decide +kernel
theorem dX3_writeRight_7 : decode cX3_writeRight 7 = .ok (.aload_n 0, 1) := by decide +kernel
theorem dX3_writeRight_8 : decode cX3_writeRight 8 = .ok (.getfield 9, 3) := by decide +kernel
theorem dX3_writeRight_11 : decode cX3_writeRight 11 = .ok (.iconst 2, 1) := by decide +kernel
theorem dX3_writeRight_12 : decode cX3_writeRight 12 = .ok (.iaload, 1) := by decide +kernel
theorem dX3_writeRight_13 : decode cX3_writeRight 13 = .ok (.aload_n 0, 1) := by decide +kernel
theorem dX3_writeRight_14 : decode cX3_writeRight 14 = .ok (.invokevirtual 75, 3) := by decide +kernel
theorem dX3_writeRight_17 : decode cX3_writeRight 17 = .ok (.invokevirtual 102, 3) := by decide +kernel
theorem dX3_writeRight_20 : decode cX3_writeRight 20 = .ok (.iconst 1, 1) := by decide +kernel
theorem dX3_writeRight_21 : decode cX3_writeRight 21 = .ok (.ireturn, 1) := by decide +kernel
set_option maxRecDepth 20000 in
theorem ggX3_canFilm_X3_takes : GoodIn wsX3_canFilm wsX3_takes := goodIn_r _ [5, 6, 19] (by decide +kernel) (by decide +kernel)
set_option maxRecDepth 20000 in
theorem gX3_canFilm_X3_takes : GoodIn wsX3_canFilm (wsV RX3 63 RX3 yX3_takes wsX3_takes) := goodIn_app (goodIn_of _ (by decide +kernel)) ggX3_canFilm_X3_takes
set_option maxRecDepth 20000 in
theorem ggX3_canFilm_X3_cameraLeft : GoodIn wsX3_canFilm wsX3_cameraLeft := goodIn_r _ [10, 6, 11, 12, 13, 14, 15, 16, 17, 4, 18, 19] (by decide +kernel) (by decide +kernel)
set_option maxRecDepth 20000 in
theorem gX3_canFilm_X3_cameraLeft : GoodIn wsX3_canFilm (wsV RX3 106 RX3 yX3_cameraLeft wsX3_cameraLeft) := goodIn_app (goodIn_of _ (by decide +kernel)) ggX3_canFilm_X3_cameraLeft
theorem dX3_canFilm_0 : decode cX3_canFilm 0 = .ok (.aload_n 0, 1) := by decide +kernel
theorem dX3_canFilm_1 : decode cX3_canFilm 1 = .ok (.invokevirtual 63, 3) := by decide +kernel
theorem dX3_canFilm_4 : decode cX3_canFilm 4 = .ok (.bipush 24, 2) := by decide +kernel
theorem dX3_canFilm_6 : decode cX3_canFilm 6 = .ok (.if_icmp .ge 14, 3) := by decide +kernel
theorem dX3_canFilm_9 : decode cX3_canFilm 9 = .ok (.aload_n 0, 1) := by decide +kernel
theorem dX3_canFilm_10 : decode cX3_canFilm 10 = .ok (.invokevirtual 106, 3) := by decide +kernel
theorem dX3_canFilm_13 : decode cX3_canFilm 13 = .ok (.ifCond .le 7, 3) := by decide +kernel
theorem dX3_canFilm_16 : decode cX3_canFilm 16 = .ok (.iconst 1, 1) := by decide +kernel
theorem dX3_canFilm_17 : decode cX3_canFilm 17 = .ok (.goto 4, 3) := by decide +kernel
theorem dX3_canFilm_20 : decode cX3_canFilm 20 = .ok (.iconst 0, 1) := by decide +kernel
theorem dX3_canFilm_21 : decode cX3_canFilm 21 = .ok (.ireturn, 1) := by decide +kernel
set_option maxRecDepth 20000 in
theorem ggX3_tryToFilm_X4_isLength : GoodIn wsX3_tryToFilm wsX4_isLength := goodIn_r _ [3] (by decide +kernel) (by decide +kernel)
set_option maxRecDepth 20000 in
theorem gX3_tryToFilm_X4_isLength_n109 : GoodIn wsX3_tryToFilm (wsX4_isLength) := ggX3_tryToFilm_X4_isLength
set_option maxRecDepth 20000 in
theorem ggX3_tryToFilm_X3_canFilm : GoodIn wsX3_tryToFilm wsX3_canFilm := goodIn_r _ [8, 9, 10, 11, 7, 12, 13, 14, 15, 16, 17, 18, 19, 20, 21, 22, 23, 24, 25, 49] (by decide +kernel) (by decide +kernel)
set_option maxRecDepth 20000 in
theorem gX3_tryToFilm_X3_canFilm : GoodIn wsX3_tryToFilm (wsV RX3 112 RX3 yX3_canFilm wsX3_canFilm) := goodIn_app (goodIn_of _ (by decide +kernel)) ggX3_tryToFilm_X3_canFilm
set_option maxRecDepth 20000 in
theorem ggX3_tryToFilm_X3_film : GoodIn wsX3_tryToFilm wsX3_film := goodIn_r _ [29, 30, 31, 20, 32, 13, 9, 10, 11, 7, 12, 14, 15, 16, 17, 18, 19, 21, 22, 23, 24, 25, 33, 34, 35, 36, 37, 38, 39, 40, 41, 42, 43, 44, 45, 46, 47, 48, 49] (by decide +kernel) (by decide +kernel)
set_option maxRecDepth 20000 in
theorem gX3_tryToFilm_X3_film : GoodIn wsX3_tryToFilm (wsV RX3 116 RX3 yX3_film wsX3_film) := goodIn_app (goodIn_of _ (by decide +kernel)) ggX3_tryToFilm_X3_film
theorem dX3_tryToFilm_0 : decode cX3_tryToFilm 0 = .ok (.iload_n 1, 1) := by decide +kernel
theorem dX3_tryToFilm_1 : decode cX3_tryToFilm 1 = .ok (.invokestatic 109, 3) := by decide +kernel
theorem dX3_tryToFilm_4 : decode cX3_tryToFilm 4 = .ok (.ifCond .eq 10, 3) := by decide +kernel
theorem dX3_tryToFilm_7 : decode cX3_tryToFilm 7 = .ok (.aload_n 0, 1) := by decide +kernel
theorem dX3_tryToFilm_8 : decode cX3_tryToFilm 8 = .ok (.invokevirtual 112, 3) := by decide +kernel
theorem dX3_tryToFilm_11 : decode cX3_tryToFilm 11 = .ok (.ifCond .ne 5, 3) := by decide +kernel
theorem dX3_tryToFilm_14 : decode cX3_tryToFilm 14 = .ok (.iconst 0, 1) := by decide +kernel
theorem dX3_tryToFilm_15 : decode cX3_tryToFilm 15 = .ok (.ireturn, 1) := by decide +kernel
theorem dX3_tryToFilm_16 : decode cX3_tryToFilm 16 = .ok (.aload_n 0, 1) := by decide +kernel
theorem dX3_tryToFilm_17 : decode cX3_tryToFilm 17 = .ok (.iload_n 1, 1) := by decide +kernel
theorem dX3_tryToFilm_18 : decode cX3_tryToFilm 18 = .ok (.iload_n 2, 1) := by decide +kernel
theorem dX3_tryToFilm_19 : decode cX3_tryToFilm 19 = .ok (.invokevirtual 116, 3) := by decide +kernel
theorem dX3_tryToFilm_22 : decode cX3_tryToFilm 22 = .ok (.pop, 1) := by decide +kernel
theorem dX3_tryToFilm_23 : decode cX3_tryToFilm 23 = .ok (.iconst 1, 1) := by decide +kernel
theorem dX3_tryToFilm_24 : decode cX3_tryToFilm 24 = .ok (.ireturn, 1) := by decide +kernel
set_option maxRecDepth 20000 in
theorem ggX3_film_X3_takes : GoodIn wsX3_film wsX3_takes := goodIn_r _ [10, 5, 38] (by decide +kernel) (by decide +kernel)
set_option maxRecDepth 20000 in
theorem gX3_film_X3_takes : GoodIn wsX3_film (wsV RX3 63 RX3 yX3_takes wsX3_takes) := goodIn_app (goodIn_of _ (by decide +kernel)) ggX3_film_X3_takes
set_option maxRecDepth 20000 in
theorem ggX3_film_X3_cameraLeft : GoodIn wsX3_film wsX3_cameraLeft := goodIn_r _ [14, 5, 15, 16, 3, 17, 18, 19, 20, 9, 21, 38] (by decide +kernel) (by decide +kernel)
set_option maxRecDepth 20000 in
theorem gX3_film_X3_cameraLeft : GoodIn wsX3_film (wsV RX3 106 RX3 yX3_cameraLeft wsX3_cameraLeft) := goodIn_app (goodIn_of _ (by decide +kernel)) ggX3_film_X3_cameraLeft
set_option maxRecDepth 20000 in
theorem ggX3_film_X3_put : GoodIn wsX3_film wsX3_put := goodIn_r _ [25, 5, 38] (by decide +kernel) (by decide +kernel)
set_option maxRecDepth 20000 in
theorem gX3_film_X3_put : GoodIn wsX3_film (wsV RX3 123 RX3 yX3_put wsX3_put) := goodIn_app (goodIn_of _ (by decide +kernel)) ggX3_film_X3_put
set_option maxRecDepth 20000 in
theorem ggX3_film_X3_chosen : GoodIn wsX3_film wsX3_chosen := goodIn_r _ [21, 5, 38] (by decide +kernel) (by decide +kernel)
set_option maxRecDepth 20000 in
theorem gX3_film_X3_chosen : GoodIn wsX3_film (wsV RX3 30 RX3 yX3_chosen wsX3_chosen) := goodIn_app (goodIn_of _ (by decide +kernel)) ggX3_film_X3_chosen
set_option maxRecDepth 20000 in
theorem ggX3_film_X3_record : GoodIn wsX3_film wsX3_record := goodIn_r _ [29, 5, 30, 31, 32, 9, 33, 6, 7, 8, 10, 34, 35, 36, 37, 22, 23, 24, 25, 38] (by decide +kernel) (by decide +kernel)
set_option maxRecDepth 20000 in
theorem gX3_film_X3_record : GoodIn wsX3_film (wsV RX3 126 RX3 yX3_record wsX3_record) := goodIn_app (goodIn_of _ (by decide +kernel)) ggX3_film_X3_record
theorem dX3_film_0 : decode cX3_film 0 = .ok (.aload_n 0, 1) := by decide +kernel
theorem dX3_film_1 : decode cX3_film 1 = .ok (.invokevirtual 63, 3) := by decide +kernel
theorem dX3_film_4 : decode cX3_film 4 = .ok (.istore_n 3, 1) := by decide +kernel
theorem dX3_film_5 : decode cX3_film 5 = .ok (.iload_n 1, 1) := by decide +kernel
theorem dX3_film_6 : decode cX3_film 6 = .ok (.aload_n 0, 1) := by decide +kernel
theorem dX3_film_7 : decode cX3_film 7 = .ok (.invokevirtual 106, 3) := by decide +kernel
theorem dX3_film_10 : decode cX3_film 10 = .ok (.invokestatic 120, 3) := by decide +kernel
theorem dX3_film_13 : decode cX3_film 13 = .ok (.istore 4, 2) := by decide +kernel
theorem dX3_film_15 : decode cX3_film 15 = .ok (.aload_n 0, 1) := by decide +kernel
theorem dX3_film_16 : decode cX3_film 16 = .ok (.iload_n 3, 1) := by decide +kernel
theorem dX3_film_17 : decode cX3_film 17 = .ok (.iconst 0, 1) := by decide +kernel
theorem dX3_film_18 : decode cX3_film 18 = .ok (.aload_n 0, 1) := by decide +kernel
theorem dX3_film_19 : decode cX3_film 19 = .ok (.getfield 9, 3) := by decide +kernel
theorem dX3_film_22 : decode cX3_film 22 = .ok (.iconst 1, 1) := by decide +kernel
theorem dX3_film_23 : decode cX3_film 23 = .ok (.iaload, 1) := by decide +kernel
theorem dX3_film_24 : decode cX3_film 24 = .ok (.invokevirtual 123, 3) := by decide +kernel
theorem dX3_film_27 : decode cX3_film 27 = .ok (.aload_n 0, 1) := by decide +kernel
theorem dX3_film_28 : decode cX3_film 28 = .ok (.iload_n 3, 1) := by decide +kernel
theorem dX3_film_29 : decode cX3_film 29 = .ok (.iconst 1, 1) := by decide +kernel
theorem dX3_film_30 : decode cX3_film 30 = .ok (.aload_n 0, 1) := by decide +kernel
theorem dX3_film_31 : decode cX3_film 31 = .ok (.getfield 9, 3) := by decide +kernel
theorem dX3_film_34 : decode cX3_film 34 = .ok (.iconst 2, 1) := by decide +kernel
theorem dX3_film_35 : decode cX3_film 35 = .ok (.iaload, 1) := by decide +kernel
theorem dX3_film_36 : decode cX3_film 36 = .ok (.invokevirtual 123, 3) := by decide +kernel
theorem dX3_film_39 : decode cX3_film 39 = .ok (.aload_n 0, 1) := by decide +kernel
theorem dX3_film_40 : decode cX3_film 40 = .ok (.iload_n 3, 1) := by decide +kernel
theorem dX3_film_41 : decode cX3_film 41 = .ok (.iconst 3, 1) := by decide +kernel
theorem dX3_film_42 : decode cX3_film 42 = .ok (.aload_n 0, 1) := by decide +kernel
theorem dX3_film_43 : decode cX3_film 43 = .ok (.getfield 9, 3) := by decide +kernel
theorem dX3_film_46 : decode cX3_film 46 = .ok (.iconst 3, 1) := by decide +kernel
theorem dX3_film_47 : decode cX3_film 47 = .ok (.iaload, 1) := by decide +kernel
theorem dX3_film_48 : decode cX3_film 48 = .ok (.invokevirtual 123, 3) := by decide +kernel
theorem dX3_film_51 : decode cX3_film 51 = .ok (.aload_n 0, 1) := by decide +kernel
theorem dX3_film_52 : decode cX3_film 52 = .ok (.iload_n 3, 1) := by decide +kernel
theorem dX3_film_53 : decode cX3_film 53 = .ok (.iconst 4, 1) := by decide +kernel
theorem dX3_film_54 : decode cX3_film 54 = .ok (.aload_n 0, 1) := by decide +kernel
theorem dX3_film_55 : decode cX3_film 55 = .ok (.getfield 9, 3) := by decide +kernel
theorem dX3_film_58 : decode cX3_film 58 = .ok (.iconst 4, 1) := by decide +kernel
theorem dX3_film_59 : decode cX3_film 59 = .ok (.iaload, 1) := by decide +kernel
theorem dX3_film_60 : decode cX3_film 60 = .ok (.invokevirtual 123, 3) := by decide +kernel
theorem dX3_film_63 : decode cX3_film 63 = .ok (.aload_n 0, 1) := by decide +kernel
theorem dX3_film_64 : decode cX3_film 64 = .ok (.iload_n 3, 1) := by decide +kernel
theorem dX3_film_65 : decode cX3_film 65 = .ok (.iconst 5, 1) := by decide +kernel
theorem dX3_film_66 : decode cX3_film 66 = .ok (.aload_n 0, 1) := by decide +kernel
theorem dX3_film_67 : decode cX3_film 67 = .ok (.getfield 9, 3) := by decide +kernel
theorem dX3_film_70 : decode cX3_film 70 = .ok (.iconst 5, 1) := by decide +kernel
theorem dX3_film_71 : decode cX3_film 71 = .ok (.iaload, 1) := by decide +kernel
theorem dX3_film_72 : decode cX3_film 72 = .ok (.invokevirtual 123, 3) := by decide +kernel
theorem dX3_film_75 : decode cX3_film 75 = .ok (.aload_n 0, 1) := by decide +kernel
theorem dX3_film_76 : decode cX3_film 76 = .ok (.iload_n 3, 1) := by decide +kernel
theorem dX3_film_77 : decode cX3_film 77 = .ok (.bipush 6, 2) := by decide +kernel
theorem dX3_film_79 : decode cX3_film 79 = .ok (.aload_n 0, 1) := by decide +kernel
theorem dX3_film_80 : decode cX3_film 80 = .ok (.getfield 9, 3) := by decide +kernel
theorem dX3_film_83 : decode cX3_film 83 = .ok (.bipush 6, 2) := by decide +kernel
theorem dX3_film_85 : decode cX3_film 85 = .ok (.iaload, 1) := by decide +kernel
theorem dX3_film_86 : decode cX3_film 86 = .ok (.invokevirtual 123, 3) := by decide +kernel
theorem dX3_film_89 : decode cX3_film 89 = .ok (.aload_n 0, 1) := by decide +kernel
theorem dX3_film_90 : decode cX3_film 90 = .ok (.iload_n 3, 1) := by decide +kernel
theorem dX3_film_91 : decode cX3_film 91 = .ok (.bipush 7, 2) := by decide +kernel
theorem dX3_film_93 : decode cX3_film 93 = .ok (.aload_n 0, 1) := by decide +kernel
theorem dX3_film_94 : decode cX3_film 94 = .ok (.getfield 9, 3) := by decide +kernel
theorem dX3_film_97 : decode cX3_film 97 = .ok (.bipush 7, 2) := by decide +kernel
theorem dX3_film_99 : decode cX3_film 99 = .ok (.iaload, 1) := by decide +kernel
theorem dX3_film_100 : decode cX3_film 100 = .ok (.invokevirtual 123, 3) := by decide +kernel
theorem dX3_film_103 : decode cX3_film 103 = .ok (.aload_n 0, 1) := by decide +kernel
theorem dX3_film_104 : decode cX3_film 104 = .ok (.iload_n 3, 1) := by decide +kernel
theorem dX3_film_105 : decode cX3_film 105 = .ok (.bipush 8, 2) := by decide +kernel
theorem dX3_film_107 : decode cX3_film 107 = .ok (.iload 4, 2) := by decide +kernel
theorem dX3_film_109 : decode cX3_film 109 = .ok (.invokevirtual 123, 3) := by decide +kernel
theorem dX3_film_112 : decode cX3_film 112 = .ok (.aload_n 0, 1) := by decide +kernel
theorem dX3_film_113 : decode cX3_film 113 = .ok (.iload_n 3, 1) := by decide +kernel
theorem dX3_film_114 : decode cX3_film 114 = .ok (.bipush 12, 2) := by decide +kernel
theorem dX3_film_116 : decode cX3_film 116 = .ok (.aload_n 0, 1) := by decide +kernel
theorem dX3_film_117 : decode cX3_film 117 = .ok (.getfield 9, 3) := by decide +kernel
theorem dX3_film_120 : decode cX3_film 120 = .ok (.bipush 10, 2) := by decide +kernel
theorem dX3_film_122 : decode cX3_film 122 = .ok (.iaload, 1) := by decide +kernel
theorem dX3_film_123 : decode cX3_film 123 = .ok (.invokevirtual 123, 3) := by decide +kernel
theorem dX3_film_126 : decode cX3_film 126 = .ok (.aload_n 0, 1) := by decide +kernel
theorem dX3_film_127 : decode cX3_film 127 = .ok (.iload_n 3, 1) := by decide +kernel
theorem dX3_film_128 : decode cX3_film 128 = .ok (.bipush 13, 2) := by decide +kernel
theorem dX3_film_130 : decode cX3_film 130 = .ok (.aload_n 0, 1) := by decide +kernel
theorem dX3_film_131 : decode cX3_film 131 = .ok (.getfield 9, 3) := by decide +kernel
theorem dX3_film_134 : decode cX3_film 134 = .ok (.bipush 10, 2) := by decide +kernel
theorem dX3_film_136 : decode cX3_film 136 = .ok (.iaload, 1) := by decide +kernel
theorem dX3_film_137 : decode cX3_film 137 = .ok (.aload_n 0, 1) := by decide +kernel
theorem dX3_film_138 : decode cX3_film 138 = .ok (.getfield 9, 3) := by decide +kernel
theorem dX3_film_141 : decode cX3_film 141 = .ok (.bipush 11, 2) := by decide +kernel
theorem dX3_film_143 : decode cX3_film 143 = .ok (.iaload, 1) := by decide +kernel
theorem dX3_film_144 : decode cX3_film 144 = .ok (.iadd, 1) := by decide +kernel
theorem dX3_film_145 : decode cX3_film 145 = .ok (.invokevirtual 123, 3) := by decide +kernel
theorem dX3_film_148 : decode cX3_film 148 = .ok (.aload_n 0, 1) := by decide +kernel
theorem dX3_film_149 : decode cX3_film 149 = .ok (.iload_n 3, 1) := by decide +kernel
theorem dX3_film_150 : decode cX3_film 150 = .ok (.bipush 14, 2) := by decide +kernel
theorem dX3_film_152 : decode cX3_film 152 = .ok (.iconst 0, 1) := by decide +kernel
theorem dX3_film_153 : decode cX3_film 153 = .ok (.invokevirtual 123, 3) := by decide +kernel
theorem dX3_film_156 : decode cX3_film 156 = .ok (.aload_n 0, 1) := by decide +kernel
theorem dX3_film_157 : decode cX3_film 157 = .ok (.iload_n 3, 1) := by decide +kernel
theorem dX3_film_158 : decode cX3_film 158 = .ok (.bipush 15, 2) := by decide +kernel
theorem dX3_film_160 : decode cX3_film 160 = .ok (.iconst 0, 1) := by decide +kernel
theorem dX3_film_161 : decode cX3_film 161 = .ok (.invokevirtual 123, 3) := by decide +kernel
theorem dX3_film_164 : decode cX3_film 164 = .ok (.aload_n 0, 1) := by decide +kernel
theorem dX3_film_165 : decode cX3_film 165 = .ok (.iload_n 3, 1) := by decide +kernel
theorem dX3_film_166 : decode cX3_film 166 = .ok (.iload_n 2, 1) := by decide +kernel
theorem dX3_film_167 : decode cX3_film 167 = .ok (.ifCond .eq 25, 3) := by decide +kernel
theorem dX3_film_170 : decode cX3_film 170 = .ok (.aload_n 0, 1) := by decide +kernel
theorem dX3_film_171 : decode cX3_film 171 = .ok (.iconst 1, 1) := by decide +kernel
theorem dX3_film_172 : decode cX3_film 172 = .ok (.invokevirtual 30, 3) := by decide +kernel
theorem dX3_film_175 : decode cX3_film 175 = .ok (.aload_n 0, 1) := by decide +kernel
theorem dX3_film_176 : decode cX3_film 176 = .ok (.getfield 9, 3) := by decide +kernel
theorem dX3_film_179 : decode cX3_film 179 = .ok (.bipush 9, 2) := by decide +kernel
theorem dX3_film_181 : decode cX3_film 181 = .ok (.iaload, 1) := by decide +kernel
theorem dX3_film_182 : decode cX3_film 182 = .ok (.isub, 1) := by decide +kernel
theorem dX3_film_183 : decode cX3_film 183 = .ok (.iload 4, 2) := by decide +kernel
theorem dX3_film_185 : decode cX3_film 185 = .ok (.if_icmp .lt 7, 3) := by decide +kernel
theorem dX3_film_188 : decode cX3_film 188 = .ok (.iconst 1, 1) := by decide +kernel
theorem dX3_film_189 : decode cX3_film 189 = .ok (.goto 4, 3) := by decide +kernel
theorem dX3_film_192 : decode cX3_film 192 = .ok (.iconst 0, 1) := by decide +kernel
theorem dX3_film_193 : decode cX3_film 193 = .ok (.invokevirtual 126, 3) := by decide +kernel
theorem dX3_film_196 : decode cX3_film 196 = .ok (.aload_n 0, 1) := by decide +kernel
theorem dX3_film_197 : decode cX3_film 197 = .ok (.getfield 9, 3) := by decide +kernel
theorem dX3_film_200 : decode cX3_film 200 = .ok (.bipush 7, 2) := by decide +kernel
theorem dX3_film_202 : decode cX3_film 202 = .ok (.dup2, 1) := by decide +kernel
theorem dX3_film_203 : decode cX3_film 203 = .ok (.iaload, 1) := by decide +kernel
theorem dX3_film_204 : decode cX3_film 204 = .ok (.iload 4, 2) := by decide +kernel
theorem dX3_film_206 : decode cX3_film 206 = .ok (.iadd, 1) := by decide +kernel
theorem dX3_film_207 : decode cX3_film 207 = .ok (.iastore, 1) := by decide +kernel
theorem dX3_film_208 : decode cX3_film 208 = .ok (.aload_n 0, 1) := by decide +kernel
theorem dX3_film_209 : decode cX3_film 209 = .ok (.getfield 9, 3) := by decide +kernel
theorem dX3_film_212 : decode cX3_film 212 = .ok (.bipush 10, 2) := by decide +kernel
theorem dX3_film_214 : decode cX3_film 214 = .ok (.dup2, 1) := by decide +kernel
theorem dX3_film_215 : decode cX3_film 215 = .ok (.iaload, 1) := by decide +kernel
theorem dX3_film_216 : decode cX3_film 216 = .ok (.iload 4, 2) := by decide +kernel
theorem dX3_film_218 : decode cX3_film 218 = .ok (.aload_n 0, 1) := by decide +kernel
theorem dX3_film_219 : decode cX3_film 219 = .ok (.iconst 2, 1) := by decide +kernel
theorem dX3_film_220 : decode cX3_film 220 = .ok (.invokevirtual 30, 3) := by decide +kernel
theorem dX3_film_223 : decode cX3_film 223 = .ok (.iadd, 1) := by decide +kernel
theorem dX3_film_224 : decode cX3_film 224 = .ok (.iadd, 1) := by decide +kernel
theorem dX3_film_225 : decode cX3_film 225 = .ok (.iastore, 1) := by decide +kernel
theorem dX3_film_226 : decode cX3_film 226 = .ok (.aload_n 0, 1) := by decide +kernel
theorem dX3_film_227 : decode cX3_film 227 = .ok (.getfield 9, 3) := by decide +kernel
theorem dX3_film_230 : decode cX3_film 230 = .ok (.iconst 0, 1) := by decide +kernel
theorem dX3_film_231 : decode cX3_film 231 = .ok (.iload_n 3, 1) := by decide +kernel
theorem dX3_film_232 : decode cX3_film 232 = .ok (.iconst 1, 1) := by decide +kernel
theorem dX3_film_233 : decode cX3_film 233 = .ok (.iadd, 1) := by decide +kernel
theorem dX3_film_234 : decode cX3_film 234 = .ok (.iastore, 1) := by decide +kernel
theorem dX3_film_235 : decode cX3_film 235 = .ok (.aload_n 0, 1) := by decide +kernel
theorem dX3_film_236 : decode cX3_film 236 = .ok (.iconst 3, 1) := by decide +kernel
theorem dX3_film_237 : decode cX3_film 237 = .ok (.invokevirtual 30, 3) := by decide +kernel
theorem dX3_film_240 : decode cX3_film 240 = .ok (.iconst 1, 1) := by decide +kernel
theorem dX3_film_241 : decode cX3_film 241 = .ok (.if_icmp .ne 22, 3) := by decide +kernel
theorem dX3_film_244 : decode cX3_film 244 = .ok (.aload_n 0, 1) := by decide +kernel
theorem dX3_film_245 : decode cX3_film 245 = .ok (.getfield 9, 3) := by decide +kernel
theorem dX3_film_248 : decode cX3_film 248 = .ok (.iconst 5, 1) := by decide +kernel
theorem dX3_film_249 : decode cX3_film 249 = .ok (.bipush 99, 2) := by decide +kernel
theorem dX3_film_251 : decode cX3_film 251 = .ok (.aload_n 0, 1) := by decide +kernel
theorem dX3_film_252 : decode cX3_film 252 = .ok (.getfield 9, 3) := by decide +kernel
theorem dX3_film_255 : decode cX3_film 255 = .ok (.iconst 5, 1) := by decide +kernel
theorem dX3_film_256 : decode cX3_film 256 = .ok (.iaload, 1) := by decide +kernel
theorem dX3_film_257 : decode cX3_film 257 = .ok (.iconst 1, 1) := by decide +kernel
theorem dX3_film_258 : decode cX3_film 258 = .ok (.iadd, 1) := by decide +kernel
theorem dX3_film_259 : decode cX3_film 259 = .ok (.invokestatic 120, 3) := by decide +kernel
theorem dX3_film_262 : decode cX3_film 262 = .ok (.iastore, 1) := by decide +kernel
theorem dX3_film_263 : decode cX3_film 263 = .ok (.iload 4, 2) := by decide +kernel
theorem dX3_film_265 : decode cX3_film 265 = .ok (.ireturn, 1) := by decide +kernel
set_option maxRecDepth 20000 in
theorem ggX3_record_X3_latestFile : GoodIn wsX3_record wsX3_latestFile := goodIn_r _ [6, 1, 7, 8, 9, 5, 10, 11, 12, 13, 14, 19] (by decide +kernel) (by decide +kernel)
set_option maxRecDepth 20000 in
theorem gX3_record_X3_latestFile : GoodIn wsX3_record (wsV RX3 130 RX3 yX3_latestFile wsX3_latestFile) := goodIn_app (goodIn_of _ (by decide +kernel)) ggX3_record_X3_latestFile
set_option maxRecDepth 20000 in
theorem ggX3_record_X3_put : GoodIn wsX3_record wsX3_put := goodIn_r _ [18, 1, 19] (by decide +kernel) (by decide +kernel)
set_option maxRecDepth 20000 in
theorem gX3_record_X3_put : GoodIn wsX3_record (wsV RX3 123 RX3 yX3_put wsX3_put) := goodIn_app (goodIn_of _ (by decide +kernel)) ggX3_record_X3_put
set_option maxRecDepth 20000 in
theorem ggX3_record_X3_of : GoodIn wsX3_record wsX3_of := goodIn_r _ [14, 1, 19] (by decide +kernel) (by decide +kernel)
set_option maxRecDepth 20000 in
theorem gX3_record_X3_of : GoodIn wsX3_record (wsV RX3 40 RX3 yX3_of wsX3_of) := goodIn_app (goodIn_of _ (by decide +kernel)) ggX3_record_X3_of
theorem dX3_record_0 : decode cX3_record 0 = .ok (.aload_n 0, 1) := by decide +kernel
theorem dX3_record_1 : decode cX3_record 1 = .ok (.iload_n 1, 1) := by decide +kernel
theorem dX3_record_2 : decode cX3_record 2 = .ok (.bipush 11, 2) := by decide +kernel
theorem dX3_record_4 : decode cX3_record 4 = .ok (.iload_n 2, 1) := by decide +kernel
theorem dX3_record_5 : decode cX3_record 5 = .ok (.ifCond .eq 12, 3) := by decide +kernel
theorem dX3_record_8 : decode cX3_record 8 = .ok (.aload_n 0, 1) := by decide +kernel
theorem dX3_record_9 : decode cX3_record 9 = .ok (.invokevirtual 130, 3) := by decide +kernel
theorem dX3_record_12 : decode cX3_record 12 = .ok (.iconst 1, 1) := by decide +kernel
theorem dX3_record_13 : decode cX3_record 13 = .ok (.iadd, 1) := by decide +kernel
theorem dX3_record_14 : decode cX3_record 14 = .ok (.goto 4, 3) := by decide +kernel
theorem dX3_record_17 : decode cX3_record 17 = .ok (.iconst (-1), 1) := by decide +kernel
theorem dX3_record_18 : decode cX3_record 18 = .ok (.invokevirtual 123, 3) := by decide +kernel
theorem dX3_record_21 : decode cX3_record 21 = .ok (.aload_n 0, 1) := by decide +kernel
theorem dX3_record_22 : decode cX3_record 22 = .ok (.iload_n 1, 1) := by decide +kernel
theorem dX3_record_23 : decode cX3_record 23 = .ok (.bipush 9, 2) := by decide +kernel
theorem dX3_record_25 : decode cX3_record 25 = .ok (.iload_n 2, 1) := by decide +kernel
theorem dX3_record_26 : decode cX3_record 26 = .ok (.ifCond .eq 13, 3) := by decide +kernel
theorem dX3_record_29 : decode cX3_record 29 = .ok (.aload_n 0, 1) := by decide +kernel
theorem dX3_record_30 : decode cX3_record 30 = .ok (.getfield 9, 3) := by decide +kernel
theorem dX3_record_33 : decode cX3_record 33 = .ok (.bipush 8, 2) := by decide +kernel
theorem dX3_record_35 : decode cX3_record 35 = .ok (.iaload, 1) := by decide +kernel
theorem dX3_record_36 : decode cX3_record 36 = .ok (.goto 4, 3) := by decide +kernel
theorem dX3_record_39 : decode cX3_record 39 = .ok (.iconst (-1), 1) := by decide +kernel
theorem dX3_record_40 : decode cX3_record 40 = .ok (.invokevirtual 123, 3) := by decide +kernel
theorem dX3_record_43 : decode cX3_record 43 = .ok (.aload_n 0, 1) := by decide +kernel
theorem dX3_record_44 : decode cX3_record 44 = .ok (.iload_n 1, 1) := by decide +kernel
theorem dX3_record_45 : decode cX3_record 45 = .ok (.bipush 10, 2) := by decide +kernel
theorem dX3_record_47 : decode cX3_record 47 = .ok (.iload_n 2, 1) := by decide +kernel
theorem dX3_record_48 : decode cX3_record 48 = .ok (.ifCond .eq 13, 3) := by decide +kernel
theorem dX3_record_51 : decode cX3_record 51 = .ok (.aload_n 0, 1) := by decide +kernel
theorem dX3_record_52 : decode cX3_record 52 = .ok (.getfield 9, 3) := by decide +kernel
theorem dX3_record_55 : decode cX3_record 55 = .ok (.bipush 9, 2) := by decide +kernel
theorem dX3_record_57 : decode cX3_record 57 = .ok (.iaload, 1) := by decide +kernel
theorem dX3_record_58 : decode cX3_record 58 = .ok (.goto 4, 3) := by decide +kernel
theorem dX3_record_61 : decode cX3_record 61 = .ok (.iconst (-1), 1) := by decide +kernel
theorem dX3_record_62 : decode cX3_record 62 = .ok (.invokevirtual 123, 3) := by decide +kernel
theorem dX3_record_65 : decode cX3_record 65 = .ok (.iload_n 2, 1) := by decide +kernel
theorem dX3_record_66 : decode cX3_record 66 = .ok (.ifCond .eq 20, 3) := by decide +kernel
theorem dX3_record_69 : decode cX3_record 69 = .ok (.aload_n 0, 1) := by decide +kernel
theorem dX3_record_70 : decode cX3_record 70 = .ok (.getfield 9, 3) := by decide +kernel
theorem dX3_record_73 : decode cX3_record 73 = .ok (.bipush 9, 2) := by decide +kernel
theorem dX3_record_75 : decode cX3_record 75 = .ok (.dup2, 1) := by decide +kernel
theorem dX3_record_76 : decode cX3_record 76 = .ok (.iaload, 1) := by decide +kernel
theorem dX3_record_77 : decode cX3_record 77 = .ok (.aload_n 0, 1) := by decide +kernel
theorem dX3_record_78 : decode cX3_record 78 = .ok (.iload_n 1, 1) := by decide +kernel
theorem dX3_record_79 : decode cX3_record 79 = .ok (.bipush 8, 2) := by decide +kernel
theorem dX3_record_81 : decode cX3_record 81 = .ok (.invokevirtual 40, 3) := by decide +kernel
theorem dX3_record_84 : decode cX3_record 84 = .ok (.iadd, 1) := by decide +kernel
theorem dX3_record_85 : decode cX3_record 85 = .ok (.iastore, 1) := by decide +kernel
theorem dX3_record_86 : decode cX3_record 86 = .ok (.return_, 1) := by decide +kernel
set_option maxRecDepth 20000 in
theorem ggX3_latestFile_X3_takes : GoodIn wsX3_latestFile wsX3_takes := goodIn_r _ [6, 1, 11] (by decide +kernel) (by decide +kernel)
set_option maxRecDepth 20000 in
theorem gX3_latestFile_X3_takes : GoodIn wsX3_latestFile (wsV RX3 63 RX3 yX3_takes wsX3_takes) := goodIn_app (goodIn_of _ (by decide +kernel)) ggX3_latestFile_X3_takes
set_option maxRecDepth 20000 in
theorem ggX3_latestFile_X3_of : GoodIn wsX3_latestFile wsX3_of := goodIn_r _ [10, 1, 11] (by decide +kernel) (by decide +kernel)
set_option maxRecDepth 20000 in
theorem gX3_latestFile_X3_of : GoodIn wsX3_latestFile (wsV RX3 40 RX3 yX3_of wsX3_of) := goodIn_app (goodIn_of _ (by decide +kernel)) ggX3_latestFile_X3_of
theorem dX3_latestFile_0 : decode cX3_latestFile 0 = .ok (.iconst 0, 1) := by decide +kernel
theorem dX3_latestFile_1 : decode cX3_latestFile 1 = .ok (.istore_n 1, 1) := by decide +kernel
theorem dX3_latestFile_2 : decode cX3_latestFile 2 = .ok (.iconst 0, 1) := by decide +kernel
theorem dX3_latestFile_3 : decode cX3_latestFile 3 = .ok (.istore_n 2, 1) := by decide +kernel
theorem dX3_latestFile_4 : decode cX3_latestFile 4 = .ok (.iload_n 2, 1) := by decide +kernel
theorem dX3_latestFile_5 : decode cX3_latestFile 5 = .ok (.aload_n 0, 1) := by decide +kernel
theorem dX3_latestFile_6 : decode cX3_latestFile 6 = .ok (.invokevirtual 63, 3) := by decide +kernel
theorem dX3_latestFile_9 : decode cX3_latestFile 9 = .ok (.if_icmp .ge 34, 3) := by decide +kernel
theorem dX3_latestFile_12 : decode cX3_latestFile 12 = .ok (.aload_n 0, 1) := by decide +kernel
theorem dX3_latestFile_13 : decode cX3_latestFile 13 = .ok (.iload_n 2, 1) := by decide +kernel
theorem dX3_latestFile_14 : decode cX3_latestFile 14 = .ok (.bipush 9, 2) := by decide +kernel
theorem dX3_latestFile_16 : decode cX3_latestFile 16 = .ok (.invokevirtual 40, 3) := by decide +kernel
theorem dX3_latestFile_19 : decode cX3_latestFile 19 = .ok (.aload_n 0, 1) := by decide +kernel
theorem dX3_latestFile_20 : decode cX3_latestFile 20 = .ok (.getfield 9, 3) := by decide +kernel
theorem dX3_latestFile_23 : decode cX3_latestFile 23 = .ok (.bipush 8, 2) := by decide +kernel
theorem dX3_latestFile_25 : decode cX3_latestFile 25 = .ok (.iaload, 1) := by decide +kernel
theorem dX3_latestFile_26 : decode cX3_latestFile 26 = .ok (.if_icmp .ne 11, 3) := by decide +kernel
theorem dX3_latestFile_29 : decode cX3_latestFile 29 = .ok (.aload_n 0, 1) := by decide +kernel
theorem dX3_latestFile_30 : decode cX3_latestFile 30 = .ok (.iload_n 2, 1) := by decide +kernel
theorem dX3_latestFile_31 : decode cX3_latestFile 31 = .ok (.bipush 11, 2) := by decide +kernel
theorem dX3_latestFile_33 : decode cX3_latestFile 33 = .ok (.invokevirtual 40, 3) := by decide +kernel
theorem dX3_latestFile_36 : decode cX3_latestFile 36 = .ok (.istore_n 1, 1) := by decide +kernel
theorem dX3_latestFile_37 : decode cX3_latestFile 37 = .ok (.iinc 2 1, 3) := by decide +kernel
theorem dX3_latestFile_40 : decode cX3_latestFile 40 = .ok (.goto (-36), 3) := by decide +kernel
theorem dX3_latestFile_43 : decode cX3_latestFile 43 = .ok (.iload_n 1, 1) := by decide +kernel
theorem dX3_latestFile_44 : decode cX3_latestFile 44 = .ok (.ireturn, 1) := by decide +kernel
theorem dX3_loadCamera_0 : decode cX3_loadCamera 0 = .ok (.aload_n 0, 1) := by decide +kernel
theorem dX3_loadCamera_1 : decode cX3_loadCamera 1 = .ok (.getfield 9, 3) := by decide +kernel
theorem dX3_loadCamera_4 : decode cX3_loadCamera 4 = .ok (.bipush 6, 2) := by decide +kernel
theorem dX3_loadCamera_6 : decode cX3_loadCamera 6 = .ok (.dup2, 1) := by decide +kernel
theorem dX3_loadCamera_7 : decode cX3_loadCamera 7 = .ok (.iaload, 1) := by decide +kernel
theorem dX3_loadCamera_8 : decode cX3_loadCamera 8 = .ok (.iconst 1, 1) := by decide +kernel
theorem dX3_loadCamera_9 : decode cX3_loadCamera 9 = .ok (.iadd, 1) := by decide +kernel
theorem dX3_loadCamera_10 : decode cX3_loadCamera 10 = .ok (.iastore, 1) := by decide +kernel
theorem dX3_loadCamera_11 : decode cX3_loadCamera 11 = .ok (.aload_n 0, 1) := by decide +kernel
theorem dX3_loadCamera_12 : decode cX3_loadCamera 12 = .ok (.getfield 9, 3) := by decide +kernel
theorem dX3_loadCamera_15 : decode cX3_loadCamera 15 = .ok (.bipush 7, 2) := by decide +kernel
theorem dX3_loadCamera_17 : decode cX3_loadCamera 17 = .ok (.iconst 0, 1) := by decide +kernel
theorem dX3_loadCamera_18 : decode cX3_loadCamera 18 = .ok (.iastore, 1) := by decide +kernel
theorem dX3_loadCamera_19 : decode cX3_loadCamera 19 = .ok (.aload_n 0, 1) := by decide +kernel
theorem dX3_loadCamera_20 : decode cX3_loadCamera 20 = .ok (.getfield 9, 3) := by decide +kernel
theorem dX3_loadCamera_23 : decode cX3_loadCamera 23 = .ok (.bipush 6, 2) := by decide +kernel
theorem dX3_loadCamera_25 : decode cX3_loadCamera 25 = .ok (.iaload, 1) := by decide +kernel
theorem dX3_loadCamera_26 : decode cX3_loadCamera 26 = .ok (.ireturn, 1) := by decide +kernel
theorem dX3_loadSound_0 : decode cX3_loadSound 0 = .ok (.aload_n 0, 1) := by decide +kernel
theorem dX3_loadSound_1 : decode cX3_loadSound 1 = .ok (.getfield 9, 3) := by decide +kernel
theorem dX3_loadSound_4 : decode cX3_loadSound 4 = .ok (.bipush 8, 2) := by decide +kernel
theorem dX3_loadSound_6 : decode cX3_loadSound 6 = .ok (.dup2, 1) := by decide +kernel
theorem dX3_loadSound_7 : decode cX3_loadSound 7 = .ok (.iaload, 1) := by decide +kernel
theorem dX3_loadSound_8 : decode cX3_loadSound 8 = .ok (.iconst 1, 1) := by decide +kernel
theorem dX3_loadSound_9 : decode cX3_loadSound 9 = .ok (.iadd, 1) := by decide +kernel
theorem dX3_loadSound_10 : decode cX3_loadSound 10 = .ok (.iastore, 1) := by decide +kernel
theorem dX3_loadSound_11 : decode cX3_loadSound 11 = .ok (.aload_n 0, 1) := by decide +kernel
theorem dX3_loadSound_12 : decode cX3_loadSound 12 = .ok (.getfield 9, 3) := by decide +kernel
theorem dX3_loadSound_15 : decode cX3_loadSound 15 = .ok (.bipush 9, 2) := by decide +kernel
theorem dX3_loadSound_17 : decode cX3_loadSound 17 = .ok (.iconst 0, 1) := by decide +kernel
theorem dX3_loadSound_18 : decode cX3_loadSound 18 = .ok (.iastore, 1) := by decide +kernel
theorem dX3_loadSound_19 : decode cX3_loadSound 19 = .ok (.aload_n 0, 1) := by decide +kernel
theorem dX3_loadSound_20 : decode cX3_loadSound 20 = .ok (.getfield 9, 3) := by decide +kernel
theorem dX3_loadSound_23 : decode cX3_loadSound 23 = .ok (.bipush 8, 2) := by decide +kernel
theorem dX3_loadSound_25 : decode cX3_loadSound 25 = .ok (.iaload, 1) := by decide +kernel
theorem dX3_loadSound_26 : decode cX3_loadSound 26 = .ok (.ireturn, 1) := by decide +kernel
set_option maxRecDepth 20000 in
theorem ggX3_mark_X3_hasTake : GoodIn wsX3_mark wsX3_hasTake := goodIn_r _ [5, 6, 11] (by decide +kernel) (by decide +kernel)
set_option maxRecDepth 20000 in
theorem gX3_mark_X3_hasTake : GoodIn wsX3_mark (wsV RX3 133 RX3 yX3_hasTake wsX3_hasTake) := goodIn_app (goodIn_of _ (by decide +kernel)) ggX3_mark_X3_hasTake
set_option maxRecDepth 20000 in
theorem ggX3_mark_X3_put : GoodIn wsX3_mark wsX3_put := goodIn_r _ [10, 6, 11] (by decide +kernel) (by decide +kernel)
set_option maxRecDepth 20000 in
theorem gX3_mark_X3_put : GoodIn wsX3_mark (wsV RX3 123 RX3 yX3_put wsX3_put) := goodIn_app (goodIn_of _ (by decide +kernel)) ggX3_mark_X3_put
theorem dX3_mark_0 : decode cX3_mark 0 = .ok (.aload_n 0, 1) := by decide +kernel
theorem dX3_mark_1 : decode cX3_mark 1 = .ok (.iload_n 1, 1) := by decide +kernel
theorem dX3_mark_2 : decode cX3_mark 2 = .ok (.invokevirtual 133, 3) := by decide +kernel
theorem dX3_mark_5 : decode cX3_mark 5 = .ok (.ifCond .ne 5, 3) := by decide +kernel
theorem dX3_mark_8 : decode cX3_mark 8 = .ok (.iconst 0, 1) := by decide +kernel
theorem dX3_mark_9 : decode cX3_mark 9 = .ok (.ireturn, 1) := by decide +kernel
theorem dX3_mark_10 : decode cX3_mark 10 = .ok (.aload_n 0, 1) := by decide +kernel
theorem dX3_mark_11 : decode cX3_mark 11 = .ok (.iload_n 1, 1) := by decide +kernel
theorem dX3_mark_12 : decode cX3_mark 12 = .ok (.iload_n 2, 1) := by decide +kernel
theorem dX3_mark_13 : decode cX3_mark 13 = .ok (.iload_n 3, 1) := by decide +kernel
theorem dX3_mark_14 : decode cX3_mark 14 = .ok (.ifCond .eq 7, 3) := by decide +kernel
theorem dX3_mark_17 : decode cX3_mark 17 = .ok (.iconst 1, 1) := by decide +kernel
theorem dX3_mark_18 : decode cX3_mark 18 = .ok (.goto 4, 3) := by decide +kernel
theorem dX3_mark_21 : decode cX3_mark 21 = .ok (.iconst 0, 1) := by decide +kernel
theorem dX3_mark_22 : decode cX3_mark 22 = .ok (.invokevirtual 123, 3) := by decide +kernel
theorem dX3_mark_25 : decode cX3_mark 25 = .ok (.iconst 1, 1) := by decide +kernel
theorem dX3_mark_26 : decode cX3_mark 26 = .ok (.ireturn, 1) := by decide +kernel
set_option maxRecDepth 20000 in
theorem ggX3_putRight_X3_hasTake : GoodIn wsX3_putRight wsX3_hasTake := goodIn_r _ [5, 6, 31] (by decide +kernel) (by decide +kernel)
set_option maxRecDepth 20000 in
theorem gX3_putRight_X3_hasTake : GoodIn wsX3_putRight (wsV RX3 133 RX3 yX3_hasTake wsX3_hasTake) := goodIn_app (goodIn_of _ (by decide +kernel)) ggX3_putRight_X3_hasTake
set_option maxRecDepth 20000 in
theorem ggX3_putRight_X3_isRight : GoodIn wsX3_putRight wsX3_isRight := goodIn_r _ [10, 11, 12, 13, 4, 14, 6, 15, 16, 17, 18, 19, 20, 21, 22, 23, 24, 25, 26, 31] (by decide +kernel) (by decide +kernel)
set_option maxRecDepth 20000 in
theorem gX3_putRight_X3_isRight : GoodIn wsX3_putRight (wsV RX3 46 RX3 yX3_isRight wsX3_isRight) := goodIn_app (goodIn_of _ (by decide +kernel)) ggX3_putRight_X3_isRight
set_option maxRecDepth 20000 in
theorem ggX3_putRight_X3_of : GoodIn wsX3_putRight wsX3_of := goodIn_r _ [14, 6, 31] (by decide +kernel) (by decide +kernel)
set_option maxRecDepth 20000 in
theorem gX3_putRight_X3_of : GoodIn wsX3_putRight (wsV RX3 40 RX3 yX3_of wsX3_of) := goodIn_app (goodIn_of _ (by decide +kernel)) ggX3_putRight_X3_of
set_option maxRecDepth 20000 in
theorem ggX3_putRight_X3_put : GoodIn wsX3_putRight wsX3_put := goodIn_r _ [30, 6, 31] (by decide +kernel) (by decide +kernel)
set_option maxRecDepth 20000 in
theorem gX3_putRight_X3_put : GoodIn wsX3_putRight (wsV RX3 123 RX3 yX3_put wsX3_put) := goodIn_app (goodIn_of _ (by decide +kernel)) ggX3_putRight_X3_put
set_option maxRecDepth 20000 in
theorem ggX3_putRight_X3_rightNumber : GoodIn wsX3_putRight wsX3_rightNumber := goodIn_r _ [18, 11, 12, 13, 4, 14, 6, 19, 20, 21, 22, 31] (by decide +kernel) (by decide +kernel)
set_option maxRecDepth 20000 in
theorem gX3_putRight_X3_rightNumber : GoodIn wsX3_putRight (wsV RX3 43 RX3 yX3_rightNumber wsX3_rightNumber) := goodIn_app (goodIn_of _ (by decide +kernel)) ggX3_putRight_X3_rightNumber
theorem dX3_putRight_0 : decode cX3_putRight 0 = .ok (.aload_n 0, 1) := by decide +kernel
theorem dX3_putRight_1 : decode cX3_putRight 1 = .ok (.iload_n 1, 1) := by decide +kernel
theorem dX3_putRight_2 : decode cX3_putRight 2 = .ok (.invokevirtual 133, 3) := by decide +kernel
theorem dX3_putRight_5 : decode cX3_putRight 5 = .ok (.ifCond .eq 11, 3) := by decide +kernel
theorem dX3_putRight_8 : decode cX3_putRight 8 = .ok (.aload_n 0, 1) := by decide +kernel
theorem dX3_putRight_9 : decode cX3_putRight 9 = .ok (.iload_n 1, 1) := by decide +kernel
theorem dX3_putRight_10 : decode cX3_putRight 10 = .ok (.invokevirtual 46, 3) := by decide +kernel
theorem dX3_putRight_13 : decode cX3_putRight 13 = .ok (.ifCond .eq 5, 3) := by decide +kernel
theorem dX3_putRight_16 : decode cX3_putRight 16 = .ok (.iconst 0, 1) := by decide +kernel
theorem dX3_putRight_17 : decode cX3_putRight 17 = .ok (.ireturn, 1) := by decide +kernel
theorem dX3_putRight_18 : decode cX3_putRight 18 = .ok (.aload_n 0, 1) := by decide +kernel
theorem dX3_putRight_19 : decode cX3_putRight 19 = .ok (.iload_n 1, 1) := by decide +kernel
theorem dX3_putRight_20 : decode cX3_putRight 20 = .ok (.iconst 3, 1) := by decide +kernel
theorem dX3_putRight_21 : decode cX3_putRight 21 = .ok (.aload_n 0, 1) := by decide +kernel
theorem dX3_putRight_22 : decode cX3_putRight 22 = .ok (.iload_n 1, 1) := by decide +kernel
theorem dX3_putRight_23 : decode cX3_putRight 23 = .ok (.iconst 0, 1) := by decide +kernel
theorem dX3_putRight_24 : decode cX3_putRight 24 = .ok (.invokevirtual 40, 3) := by decide +kernel
theorem dX3_putRight_27 : decode cX3_putRight 27 = .ok (.invokevirtual 123, 3) := by decide +kernel
theorem dX3_putRight_30 : decode cX3_putRight 30 = .ok (.aload_n 0, 1) := by decide +kernel
theorem dX3_putRight_31 : decode cX3_putRight 31 = .ok (.iload_n 1, 1) := by decide +kernel
theorem dX3_putRight_32 : decode cX3_putRight 32 = .ok (.iconst 4, 1) := by decide +kernel
theorem dX3_putRight_33 : decode cX3_putRight 33 = .ok (.aload_n 0, 1) := by decide +kernel
theorem dX3_putRight_34 : decode cX3_putRight 34 = .ok (.iload_n 1, 1) := by decide +kernel
theorem dX3_putRight_35 : decode cX3_putRight 35 = .ok (.iconst 1, 1) := by decide +kernel
theorem dX3_putRight_36 : decode cX3_putRight 36 = .ok (.invokevirtual 40, 3) := by decide +kernel
theorem dX3_putRight_39 : decode cX3_putRight 39 = .ok (.invokevirtual 123, 3) := by decide +kernel
theorem dX3_putRight_42 : decode cX3_putRight 42 = .ok (.aload_n 0, 1) := by decide +kernel
theorem dX3_putRight_43 : decode cX3_putRight 43 = .ok (.iload_n 1, 1) := by decide +kernel
theorem dX3_putRight_44 : decode cX3_putRight 44 = .ok (.iconst 5, 1) := by decide +kernel
theorem dX3_putRight_45 : decode cX3_putRight 45 = .ok (.aload_n 0, 1) := by decide +kernel
theorem dX3_putRight_46 : decode cX3_putRight 46 = .ok (.iload_n 1, 1) := by decide +kernel
theorem dX3_putRight_47 : decode cX3_putRight 47 = .ok (.invokevirtual 43, 3) := by decide +kernel
theorem dX3_putRight_50 : decode cX3_putRight 50 = .ok (.invokevirtual 123, 3) := by decide +kernel
theorem dX3_putRight_53 : decode cX3_putRight 53 = .ok (.iconst 1, 1) := by decide +kernel
theorem dX3_putRight_54 : decode cX3_putRight 54 = .ok (.ireturn, 1) := by decide +kernel
theorem dX3_setOff_0 : decode cX3_setOff 0 = .ok (.aload_n 0, 1) := by decide +kernel
theorem dX3_setOff_1 : decode cX3_setOff 1 = .ok (.getfield 9, 3) := by decide +kernel
theorem dX3_setOff_4 : decode cX3_setOff 4 = .ok (.bipush 11, 2) := by decide +kernel
theorem dX3_setOff_6 : decode cX3_setOff 6 = .ok (.iaload, 1) := by decide +kernel
theorem dX3_setOff_7 : decode cX3_setOff 7 = .ok (.istore_n 2, 1) := by decide +kernel
theorem dX3_setOff_8 : decode cX3_setOff 8 = .ok (.aload_n 0, 1) := by decide +kernel
theorem dX3_setOff_9 : decode cX3_setOff 9 = .ok (.getfield 9, 3) := by decide +kernel
theorem dX3_setOff_12 : decode cX3_setOff 12 = .ok (.bipush 11, 2) := by decide +kernel
theorem dX3_setOff_14 : decode cX3_setOff 14 = .ok (.iload_n 1, 1) := by decide +kernel
theorem dX3_setOff_15 : decode cX3_setOff 15 = .ok (.iastore, 1) := by decide +kernel
theorem dX3_setOff_16 : decode cX3_setOff 16 = .ok (.iload_n 2, 1) := by decide +kernel
theorem dX3_setOff_17 : decode cX3_setOff 17 = .ok (.ireturn, 1) := by decide +kernel
set_option maxRecDepth 20000 in
theorem ggX3_choose_X3_chosen : GoodIn wsX3_choose wsX3_chosen := goodIn_r _ [6, 1, 7] (by decide +kernel) (by decide +kernel)
set_option maxRecDepth 20000 in
theorem gX3_choose_X3_chosen : GoodIn wsX3_choose (wsV RX3 30 RX3 yX3_chosen wsX3_chosen) := goodIn_app (goodIn_of _ (by decide +kernel)) ggX3_choose_X3_chosen
theorem dX3_choose_0 : decode cX3_choose 0 = .ok (.aload_n 0, 1) := by decide +kernel
theorem dX3_choose_1 : decode cX3_choose 1 = .ok (.iload_n 1, 1) := by decide +kernel
theorem dX3_choose_2 : decode cX3_choose 2 = .ok (.invokevirtual 30, 3) := by decide +kernel
theorem dX3_choose_5 : decode cX3_choose 5 = .ok (.istore_n 3, 1) := by decide +kernel
theorem dX3_choose_6 : decode cX3_choose 6 = .ok (.bipush 12, 2) := by decide +kernel
theorem dX3_choose_8 : decode cX3_choose 8 = .ok (.iload_n 1, 1) := by decide +kernel
theorem dX3_choose_9 : decode cX3_choose 9 = .ok (.iadd, 1) := by decide +kernel
theorem dX3_choose_10 : decode cX3_choose 10 = .ok (.istore 4, 2) := by decide +kernel
theorem dX3_choose_12 : decode cX3_choose 12 = .ok (.iload 4, 2) := by decide +kernel
theorem dX3_choose_14 : decode cX3_choose 14 = .ok (.bipush 12, 2) := by decide +kernel
theorem dX3_choose_16 : decode cX3_choose 16 = .ok (.if_icmp .lt 18, 3) := by decide +kernel
theorem dX3_choose_19 : decode cX3_choose 19 = .ok (.iload 4, 2) := by decide +kernel
theorem dX3_choose_21 : decode cX3_choose 21 = .ok (.bipush 15, 2) := by decide +kernel
theorem dX3_choose_23 : decode cX3_choose 23 = .ok (.if_icmp .gt 11, 3) := by decide +kernel
theorem dX3_choose_26 : decode cX3_choose 26 = .ok (.aload_n 0, 1) := by decide +kernel
theorem dX3_choose_27 : decode cX3_choose 27 = .ok (.getfield 9, 3) := by decide +kernel
theorem dX3_choose_30 : decode cX3_choose 30 = .ok (.iload 4, 2) := by decide +kernel
theorem dX3_choose_32 : decode cX3_choose 32 = .ok (.iload_n 2, 1) := by decide +kernel
theorem dX3_choose_33 : decode cX3_choose 33 = .ok (.iastore, 1) := by decide +kernel
theorem dX3_choose_34 : decode cX3_choose 34 = .ok (.iload_n 3, 1) := by decide +kernel
theorem dX3_choose_35 : decode cX3_choose 35 = .ok (.ireturn, 1) := by decide +kernel
