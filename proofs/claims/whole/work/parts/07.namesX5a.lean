set_option maxRecDepth 20000 in
theorem ggX5_init_X5_begin : GoodIn wsX5_init wsX5_begin := goodIn_r _ [16] (by decide +kernel) (by decide +kernel)
set_option maxRecDepth 20000 in
theorem gX5_init_X5_begin : GoodIn wsX5_init (va_wsS RX5 32 yX5_begin wsX5_begin) := goodIn_app (goodIn_of _ (by decide +kernel)) ggX5_init_X5_begin
theorem dX5_init_0 : decode cX5_init 0 = .ok (.aload_n 0, 1) := by decide +kernel
theorem dX5_init_1 : decode cX5_init 1 = .ok (.invokespecial 1, 3) := by decide +kernel
theorem dX5_init_4 : decode cX5_init 4 = .ok (.aload_n 0, 1) := by decide +kernel
theorem dX5_init_5 : decode cX5_init 5 = .ok (.bipush 120, 2) := by decide +kernel
theorem dX5_init_7 : decode cX5_init 7 = .ok (.newarray .int, 2) := by decide +kernel
theorem dX5_init_9 : decode cX5_init 9 = .ok (.putfield 7, 3) := by decide +kernel
theorem dX5_init_12 : decode cX5_init 12 = .ok (.aload_n 0, 1) := by decide +kernel
theorem dX5_init_13 : decode cX5_init 13 = .ok (.sipush 377, 3) := by decide +kernel
theorem dX5_init_16 : decode cX5_init 16 = .ok (.newarray .int, 2) := by decide +kernel
theorem dX5_init_18 : decode cX5_init 18 = .ok (.putfield 13, 3) := by decide +kernel
theorem dX5_init_21 : decode cX5_init 21 = .ok (.aload_n 0, 1) := by decide +kernel
theorem dX5_init_22 : decode cX5_init 22 = .ok (.sipush 377, 3) := by decide +kernel
theorem dX5_init_25 : decode cX5_init 25 = .ok (.newarray .int, 2) := by decide +kernel
theorem dX5_init_27 : decode cX5_init 27 = .ok (.putfield 16, 3) := by decide +kernel
theorem dX5_init_30 : decode cX5_init 30 = .ok (.aload_n 0, 1) := by decide +kernel
theorem dX5_init_31 : decode cX5_init 31 = .ok (.sipush 5278, 3) := by decide +kernel
theorem dX5_init_34 : decode cX5_init 34 = .ok (.newarray .int, 2) := by decide +kernel
theorem dX5_init_36 : decode cX5_init 36 = .ok (.putfield 19, 3) := by decide +kernel
theorem dX5_init_39 : decode cX5_init 39 = .ok (.aload_n 0, 1) := by decide +kernel
theorem dX5_init_40 : decode cX5_init 40 = .ok (.sipush 754, 3) := by decide +kernel
theorem dX5_init_43 : decode cX5_init 43 = .ok (.newarray .int, 2) := by decide +kernel
theorem dX5_init_45 : decode cX5_init 45 = .ok (.putfield 22, 3) := by decide +kernel
theorem dX5_init_48 : decode cX5_init 48 = .ok (.aload_n 0, 1) := by decide +kernel
theorem dX5_init_49 : decode cX5_init 49 = .ok (.iconst 2, 1) := by decide +kernel
theorem dX5_init_50 : decode cX5_init 50 = .ok (.newarray .boolean, 2) := by decide +kernel
theorem dX5_init_52 : decode cX5_init 52 = .ok (.putfield 25, 3) := by decide +kernel
theorem dX5_init_55 : decode cX5_init 55 = .ok (.aload_n 0, 1) := by decide +kernel
theorem dX5_init_56 : decode cX5_init 56 = .ok (.bipush 60, 2) := by decide +kernel
theorem dX5_init_58 : decode cX5_init 58 = .ok (.newarray .int, 2) := by decide +kernel
theorem dX5_init_60 : decode cX5_init 60 = .ok (.putfield 29, 3) := by decide +kernel
theorem dX5_init_63 : decode cX5_init 63 = .ok (.aload_n 0, 1) := by decide +kernel
theorem dX5_init_64 : decode cX5_init 64 = .ok (.getfield 13, 3) := by decide +kernel
theorem dX5_init_67 : decode cX5_init 67 = .ok (.invokestatic 32, 3) := by decide +kernel
theorem dX5_init_70 : decode cX5_init 70 = .ok (.return_, 1) := by decide +kernel
theorem dX5_thrown_0 : decode cX5_thrown 0 = .ok (.aload_n 0, 1) := by decide +kernel
theorem dX5_thrown_1 : decode cX5_thrown 1 = .ok (.getfield 36, 3) := by decide +kernel
theorem dX5_thrown_4 : decode cX5_thrown 4 = .ok (.ireturn, 1) := by decide +kernel
theorem dX5_refused_0 : decode cX5_refused 0 = .ok (.aload_n 0, 1) := by decide +kernel
theorem dX5_refused_1 : decode cX5_refused 1 = .ok (.iload_n 1, 1) := by decide +kernel
theorem dX5_refused_2 : decode cX5_refused 2 = .ok (.putfield 36, 3) := by decide +kernel
theorem dX5_refused_5 : decode cX5_refused 5 = .ok (.iload_n 1, 1) := by decide +kernel
theorem dX5_refused_6 : decode cX5_refused 6 = .ok (.ifCond .le 7, 3) := by decide +kernel
theorem dX5_refused_9 : decode cX5_refused 9 = .ok (.iconst 1, 1) := by decide +kernel
theorem dX5_refused_10 : decode cX5_refused 10 = .ok (.goto 4, 3) := by decide +kernel
theorem dX5_refused_13 : decode cX5_refused 13 = .ok (.iconst 0, 1) := by decide +kernel
theorem dX5_refused_14 : decode cX5_refused 14 = .ok (.ireturn, 1) := by decide +kernel
theorem dX5_in_0 : decode cX5_in 0 = .ok (.lload_n 0, 1) := by decide +kernel
theorem dX5_in_1 : decode cX5_in 1 = .ok (.lload_n 2, 1) := by decide +kernel
theorem dX5_in_2 : decode cX5_in 2 = .ok (.lcmp, 1) := by decide +kernel
theorem dX5_in_3 : decode cX5_in 3 = .ok (.ifCond .lt 14, 3) := by decide +kernel
theorem dX5_in_6 : decode cX5_in 6 = .ok (.lload_n 0, 1) := by decide +kernel
theorem dX5_in_7 : decode cX5_in 7 = .ok (.lload 4, 2) := by decide +kernel
theorem dX5_in_9 : decode cX5_in 9 = .ok (.lcmp, 1) := by decide +kernel
theorem dX5_in_10 : decode cX5_in 10 = .ok (.ifCond .gt 7, 3) := by decide +kernel
theorem dX5_in_13 : decode cX5_in 13 = .ok (.iconst 1, 1) := by decide +kernel
theorem dX5_in_14 : decode cX5_in 14 = .ok (.goto 4, 3) := by decide +kernel
theorem dX5_in_17 : decode cX5_in 17 = .ok (.iconst 0, 1) := by decide +kernel
theorem dX5_in_18 : decode cX5_in 18 = .ok (.ireturn, 1) := by decide +kernel
theorem dX5_copyState_0 : decode cX5_copyState 0 = .ok (.iconst 0, 1) := by decide +kernel
theorem dX5_copyState_1 : decode cX5_copyState 1 = .ok (.istore 4, 2) := by decide +kernel
theorem dX5_copyState_3 : decode cX5_copyState 3 = .ok (.iload 4, 2) := by decide +kernel
theorem dX5_copyState_5 : decode cX5_copyState 5 = .ok (.sipush 377, 3) := by decide +kernel
theorem dX5_copyState_8 : decode cX5_copyState 8 = .ok (.if_icmp .ge 21, 3) := by decide +kernel
theorem dX5_copyState_11 : decode cX5_copyState 11 = .ok (.aload_n 2, 1) := by decide +kernel
theorem dX5_copyState_12 : decode cX5_copyState 12 = .ok (.iload_n 3, 1) := by decide +kernel
theorem dX5_copyState_13 : decode cX5_copyState 13 = .ok (.iload 4, 2) := by decide +kernel
theorem dX5_copyState_15 : decode cX5_copyState 15 = .ok (.iadd, 1) := by decide +kernel
theorem dX5_copyState_16 : decode cX5_copyState 16 = .ok (.aload_n 0, 1) := by decide +kernel
theorem dX5_copyState_17 : decode cX5_copyState 17 = .ok (.iload_n 1, 1) := by decide +kernel
theorem dX5_copyState_18 : decode cX5_copyState 18 = .ok (.iload 4, 2) := by decide +kernel
theorem dX5_copyState_20 : decode cX5_copyState 20 = .ok (.iadd, 1) := by decide +kernel
theorem dX5_copyState_21 : decode cX5_copyState 21 = .ok (.iaload, 1) := by decide +kernel
theorem dX5_copyState_22 : decode cX5_copyState 22 = .ok (.iastore, 1) := by decide +kernel
theorem dX5_copyState_23 : decode cX5_copyState 23 = .ok (.iinc 4 1, 3) := by decide +kernel
theorem dX5_copyState_26 : decode cX5_copyState 26 = .ok (.goto (-23), 3) := by decide +kernel
theorem dX5_copyState_29 : decode cX5_copyState 29 = .ok (.return_, 1) := by decide +kernel
theorem dX5_begin_0 : decode cX5_begin 0 = .ok (.iconst 0, 1) := by decide +kernel
theorem dX5_begin_1 : decode cX5_begin 1 = .ok (.istore_n 1, 1) := by decide +kernel
theorem dX5_begin_2 : decode cX5_begin 2 = .ok (.iload_n 1, 1) := by decide +kernel
theorem dX5_begin_3 : decode cX5_begin 3 = .ok (.sipush 377, 3) := by decide +kernel
theorem dX5_begin_6 : decode cX5_begin 6 = .ok (.if_icmp .ge 13, 3) := by decide +kernel
theorem dX5_begin_9 : decode cX5_begin 9 = .ok (.aload_n 0, 1) := by decide +kernel
theorem dX5_begin_10 : decode cX5_begin 10 = .ok (.iload_n 1, 1) := by decide +kernel
theorem dX5_begin_11 : decode cX5_begin 11 = .ok (.iconst 0, 1) := by decide +kernel
theorem dX5_begin_12 : decode cX5_begin 12 = .ok (.iastore, 1) := by decide +kernel
theorem dX5_begin_13 : decode cX5_begin 13 = .ok (.iinc 1 1, 3) := by decide +kernel
theorem dX5_begin_16 : decode cX5_begin 16 = .ok (.goto (-14), 3) := by decide +kernel
theorem dX5_begin_19 : decode cX5_begin 19 = .ok (.aload_n 0, 1) := by decide +kernel
theorem dX5_begin_20 : decode cX5_begin 20 = .ok (.iconst 1, 1) := by decide +kernel
theorem dX5_begin_21 : decode cX5_begin 21 = .ok (.iconst 1, 1) := by decide +kernel
theorem dX5_begin_22 : decode cX5_begin 22 = .ok (.iastore, 1) := by decide +kernel
theorem dX5_begin_23 : decode cX5_begin 23 = .ok (.aload_n 0, 1) := by decide +kernel
theorem dX5_begin_24 : decode cX5_begin 24 = .ok (.iconst 3, 1) := by decide +kernel
theorem dX5_begin_25 : decode cX5_begin 25 = .ok (.iconst 1, 1) := by decide +kernel
theorem dX5_begin_26 : decode cX5_begin 26 = .ok (.iastore, 1) := by decide +kernel
theorem dX5_begin_27 : decode cX5_begin 27 = .ok (.aload_n 0, 1) := by decide +kernel
theorem dX5_begin_28 : decode cX5_begin 28 = .ok (.iconst 5, 1) := by decide +kernel
theorem dX5_begin_29 : decode cX5_begin 29 = .ok (.iconst 1, 1) := by decide +kernel
theorem dX5_begin_30 : decode cX5_begin 30 = .ok (.iastore, 1) := by decide +kernel
theorem dX5_begin_31 : decode cX5_begin 31 = .ok (.aload_n 0, 1) := by decide +kernel
theorem dX5_begin_32 : decode cX5_begin 32 = .ok (.bipush 6, 2) := by decide +kernel
theorem dX5_begin_34 : decode cX5_begin 34 = .ok (.iconst 1, 1) := by decide +kernel
theorem dX5_begin_35 : decode cX5_begin 35 = .ok (.iastore, 1) := by decide +kernel
theorem dX5_begin_36 : decode cX5_begin 36 = .ok (.aload_n 0, 1) := by decide +kernel
theorem dX5_begin_37 : decode cX5_begin 37 = .ok (.bipush 8, 2) := by decide +kernel
theorem dX5_begin_39 : decode cX5_begin 39 = .ok (.iconst 1, 1) := by decide +kernel
theorem dX5_begin_40 : decode cX5_begin 40 = .ok (.iastore, 1) := by decide +kernel
theorem dX5_begin_41 : decode cX5_begin 41 = .ok (.aload_n 0, 1) := by decide +kernel
theorem dX5_begin_42 : decode cX5_begin 42 = .ok (.bipush 13, 2) := by decide +kernel
theorem dX5_begin_44 : decode cX5_begin 44 = .ok (.sipush 300, 3) := by decide +kernel
theorem dX5_begin_47 : decode cX5_begin 47 = .ok (.iastore, 1) := by decide +kernel
theorem dX5_begin_48 : decode cX5_begin 48 = .ok (.aload_n 0, 1) := by decide +kernel
theorem dX5_begin_49 : decode cX5_begin 49 = .ok (.bipush 14, 2) := by decide +kernel
theorem dX5_begin_51 : decode cX5_begin 51 = .ok (.sipush 900, 3) := by decide +kernel
theorem dX5_begin_54 : decode cX5_begin 54 = .ok (.iastore, 1) := by decide +kernel
theorem dX5_begin_55 : decode cX5_begin 55 = .ok (.aload_n 0, 1) := by decide +kernel
theorem dX5_begin_56 : decode cX5_begin 56 = .ok (.bipush 15, 2) := by decide +kernel
theorem dX5_begin_58 : decode cX5_begin 58 = .ok (.bipush 10, 2) := by decide +kernel
theorem dX5_begin_60 : decode cX5_begin 60 = .ok (.iastore, 1) := by decide +kernel
theorem dX5_begin_61 : decode cX5_begin 61 = .ok (.aload_n 0, 1) := by decide +kernel
theorem dX5_begin_62 : decode cX5_begin 62 = .ok (.bipush 16, 2) := by decide +kernel
theorem dX5_begin_64 : decode cX5_begin 64 = .ok (.iconst 1, 1) := by decide +kernel
theorem dX5_begin_65 : decode cX5_begin 65 = .ok (.iastore, 1) := by decide +kernel
theorem dX5_begin_66 : decode cX5_begin 66 = .ok (.return_, 1) := by decide +kernel
set_option maxRecDepth 20000 in
theorem ggX5_isTake_X5_in : GoodIn wsX5_isTake wsX5_in := goodIn_r _ [4] (by decide +kernel) (by decide +kernel)
set_option maxRecDepth 20000 in
theorem gX5_isTake_X5_in : GoodIn wsX5_isTake (va_wsS RX5 40 yX5_in wsX5_in) := goodIn_app (goodIn_of _ (by decide +kernel)) ggX5_isTake_X5_in
theorem dX5_isTake_0 : decode cX5_isTake 0 = .ok (.iload_n 1, 1) := by decide +kernel
theorem dX5_isTake_1 : decode cX5_isTake 1 = .ok (.i2l, 1) := by decide +kernel
theorem dX5_isTake_2 : decode cX5_isTake 2 = .ok (.lconst 0, 1) := by decide +kernel
theorem dX5_isTake_3 : decode cX5_isTake 3 = .ok (.aload_n 0, 1) := by decide +kernel
theorem dX5_isTake_4 : decode cX5_isTake 4 = .ok (.iconst 0, 1) := by decide +kernel
theorem dX5_isTake_5 : decode cX5_isTake 5 = .ok (.iaload, 1) := by decide +kernel
theorem dX5_isTake_6 : decode cX5_isTake 6 = .ok (.iconst 1, 1) := by decide +kernel
theorem dX5_isTake_7 : decode cX5_isTake 7 = .ok (.isub, 1) := by decide +kernel
theorem dX5_isTake_8 : decode cX5_isTake 8 = .ok (.i2l, 1) := by decide +kernel
theorem dX5_isTake_9 : decode cX5_isTake 9 = .ok (.invokestatic 40, 3) := by decide +kernel
theorem dX5_isTake_12 : decode cX5_isTake 12 = .ok (.ireturn, 1) := by decide +kernel
set_option maxRecDepth 20000 in
theorem ggX5_isSetup_X5_in : GoodIn wsX5_isSetup wsX5_in := goodIn_r _ [6] (by decide +kernel) (by decide +kernel)
set_option maxRecDepth 20000 in
theorem gX5_isSetup_X5_in : GoodIn wsX5_isSetup (va_wsS RX5 40 yX5_in wsX5_in) := goodIn_app (goodIn_of _ (by decide +kernel)) ggX5_isSetup_X5_in
theorem dX5_isSetup_0 : decode cX5_isSetup 0 = .ok (.iload_n 0, 1) := by decide +kernel
theorem dX5_isSetup_1 : decode cX5_isSetup 1 = .ok (.i2l, 1) := by decide +kernel
theorem dX5_isSetup_2 : decode cX5_isSetup 2 = .ok (.lconst 1, 1) := by decide +kernel
theorem dX5_isSetup_3 : decode cX5_isSetup 3 = .ok (.ldc2_w 44, 3) := by decide +kernel
theorem dX5_isSetup_6 : decode cX5_isSetup 6 = .ok (.invokestatic 40, 3) := by decide +kernel
theorem dX5_isSetup_9 : decode cX5_isSetup 9 = .ok (.ifCond .eq 19, 3) := by decide +kernel
theorem dX5_isSetup_12 : decode cX5_isSetup 12 = .ok (.iload_n 1, 1) := by decide +kernel
theorem dX5_isSetup_13 : decode cX5_isSetup 13 = .ok (.i2l, 1) := by decide +kernel
theorem dX5_isSetup_14 : decode cX5_isSetup 14 = .ok (.lconst 0, 1) := by decide +kernel
theorem dX5_isSetup_15 : decode cX5_isSetup 15 = .ok (.ldc2_w 46, 3) := by decide +kernel
theorem dX5_isSetup_18 : decode cX5_isSetup 18 = .ok (.invokestatic 40, 3) := by decide +kernel
theorem dX5_isSetup_21 : decode cX5_isSetup 21 = .ok (.ifCond .eq 7, 3) := by decide +kernel
theorem dX5_isSetup_24 : decode cX5_isSetup 24 = .ok (.iconst 1, 1) := by decide +kernel
theorem dX5_isSetup_25 : decode cX5_isSetup 25 = .ok (.goto 4, 3) := by decide +kernel
theorem dX5_isSetup_28 : decode cX5_isSetup 28 = .ok (.iconst 0, 1) := by decide +kernel
theorem dX5_isSetup_29 : decode cX5_isSetup 29 = .ok (.ireturn, 1) := by decide +kernel
theorem dX5_of_0 : decode cX5_of 0 = .ok (.aload_n 0, 1) := by decide +kernel
theorem dX5_of_1 : decode cX5_of 1 = .ok (.bipush 17, 2) := by decide +kernel
theorem dX5_of_3 : decode cX5_of 3 = .ok (.bipush 15, 2) := by decide +kernel
theorem dX5_of_5 : decode cX5_of 5 = .ok (.iload_n 1, 1) := by decide +kernel
theorem dX5_of_6 : decode cX5_of 6 = .ok (.imul, 1) := by decide +kernel
theorem dX5_of_7 : decode cX5_of 7 = .ok (.iadd, 1) := by decide +kernel
theorem dX5_of_8 : decode cX5_of 8 = .ok (.iload_n 2, 1) := by decide +kernel
theorem dX5_of_9 : decode cX5_of 9 = .ok (.iadd, 1) := by decide +kernel
theorem dX5_of_10 : decode cX5_of 10 = .ok (.iaload, 1) := by decide +kernel
theorem dX5_of_11 : decode cX5_of 11 = .ok (.ireturn, 1) := by decide +kernel
theorem dX5_lay_0 : decode cX5_lay 0 = .ok (.aload_n 0, 1) := by decide +kernel
theorem dX5_lay_1 : decode cX5_lay 1 = .ok (.bipush 17, 2) := by decide +kernel
theorem dX5_lay_3 : decode cX5_lay 3 = .ok (.bipush 15, 2) := by decide +kernel
theorem dX5_lay_5 : decode cX5_lay 5 = .ok (.iload_n 1, 1) := by decide +kernel
theorem dX5_lay_6 : decode cX5_lay 6 = .ok (.imul, 1) := by decide +kernel
theorem dX5_lay_7 : decode cX5_lay 7 = .ok (.iadd, 1) := by decide +kernel
theorem dX5_lay_8 : decode cX5_lay 8 = .ok (.iload_n 2, 1) := by decide +kernel
theorem dX5_lay_9 : decode cX5_lay 9 = .ok (.iadd, 1) := by decide +kernel
theorem dX5_lay_10 : decode cX5_lay 10 = .ok (.iload_n 3, 1) := by decide +kernel
theorem dX5_lay_11 : decode cX5_lay 11 = .ok (.iastore, 1) := by decide +kernel
theorem dX5_lay_12 : decode cX5_lay 12 = .ok (.return_, 1) := by decide +kernel
set_option maxRecDepth 20000 in
theorem ggX5_number_X5_of : GoodIn wsX5_number wsX5_of := goodIn_r _ [4] (by decide +kernel) (by decide +kernel)
set_option maxRecDepth 20000 in
theorem gX5_number_X5_of : GoodIn wsX5_number (va_wsS RX5 48 yX5_of wsX5_of) := goodIn_app (goodIn_of _ (by decide +kernel)) ggX5_number_X5_of
theorem dX5_number_0 : decode cX5_number 0 = .ok (.iconst 1, 1) := by decide +kernel
theorem dX5_number_1 : decode cX5_number 1 = .ok (.istore 4, 2) := by decide +kernel
theorem dX5_number_3 : decode cX5_number 3 = .ok (.iconst 0, 1) := by decide +kernel
theorem dX5_number_4 : decode cX5_number 4 = .ok (.istore 5, 2) := by decide +kernel
theorem dX5_number_6 : decode cX5_number 6 = .ok (.iload 5, 2) := by decide +kernel
theorem dX5_number_8 : decode cX5_number 8 = .ok (.iload_n 1, 1) := by decide +kernel
theorem dX5_number_9 : decode cX5_number 9 = .ok (.if_icmp .ge 52, 3) := by decide +kernel
theorem dX5_number_12 : decode cX5_number 12 = .ok (.iload 4, 2) := by decide +kernel
theorem dX5_number_14 : decode cX5_number 14 = .ok (.aload_n 0, 1) := by decide +kernel
theorem dX5_number_15 : decode cX5_number 15 = .ok (.iload 5, 2) := by decide +kernel
theorem dX5_number_17 : decode cX5_number 17 = .ok (.iconst 0, 1) := by decide +kernel
theorem dX5_number_18 : decode cX5_number 18 = .ok (.invokestatic 48, 3) := by decide +kernel
theorem dX5_number_21 : decode cX5_number 21 = .ok (.iload_n 2, 1) := by decide +kernel
theorem dX5_number_22 : decode cX5_number 22 = .ok (.if_icmp .ne 29, 3) := by decide +kernel
theorem dX5_number_25 : decode cX5_number 25 = .ok (.aload_n 0, 1) := by decide +kernel
theorem dX5_number_26 : decode cX5_number 26 = .ok (.iload 5, 2) := by decide +kernel
theorem dX5_number_28 : decode cX5_number 28 = .ok (.iconst 1, 1) := by decide +kernel
theorem dX5_number_29 : decode cX5_number 29 = .ok (.invokestatic 48, 3) := by decide +kernel
theorem dX5_number_32 : decode cX5_number 32 = .ok (.iload_n 3, 1) := by decide +kernel
theorem dX5_number_33 : decode cX5_number 33 = .ok (.if_icmp .ne 18, 3) := by decide +kernel
theorem dX5_number_36 : decode cX5_number 36 = .ok (.aload_n 0, 1) := by decide +kernel
theorem dX5_number_37 : decode cX5_number 37 = .ok (.iload 5, 2) := by decide +kernel
theorem dX5_number_39 : decode cX5_number 39 = .ok (.bipush 14, 2) := by decide +kernel
theorem dX5_number_41 : decode cX5_number 41 = .ok (.invokestatic 48, 3) := by decide +kernel
theorem dX5_number_44 : decode cX5_number 44 = .ok (.ifCond .ne 7, 3) := by decide +kernel
theorem dX5_number_47 : decode cX5_number 47 = .ok (.iconst 1, 1) := by decide +kernel
theorem dX5_number_48 : decode cX5_number 48 = .ok (.goto 4, 3) := by decide +kernel
theorem dX5_number_51 : decode cX5_number 51 = .ok (.iconst 0, 1) := by decide +kernel
theorem dX5_number_52 : decode cX5_number 52 = .ok (.iadd, 1) := by decide +kernel
theorem dX5_number_53 : decode cX5_number 53 = .ok (.istore 4, 2) := by decide +kernel
theorem dX5_number_55 : decode cX5_number 55 = .ok (.iinc 5 1, 3) := by decide +kernel
theorem dX5_number_58 : decode cX5_number 58 = .ok (.goto (-52), 3) := by decide +kernel
theorem dX5_number_61 : decode cX5_number 61 = .ok (.iload 4, 2) := by decide +kernel
theorem dX5_number_63 : decode cX5_number 63 = .ok (.ireturn, 1) := by decide +kernel
set_option maxRecDepth 20000 in
theorem ggX5_numberOf_X5_of : GoodIn wsX5_numberOf wsX5_of := goodIn_r _ [4] (by decide +kernel) (by decide +kernel)
set_option maxRecDepth 20000 in
theorem gX5_numberOf_X5_of : GoodIn wsX5_numberOf (va_wsS RX5 48 yX5_of wsX5_of) := goodIn_app (goodIn_of _ (by decide +kernel)) ggX5_numberOf_X5_of
set_option maxRecDepth 20000 in
theorem ggX5_numberOf_X5_number : GoodIn wsX5_numberOf wsX5_number := goodIn_r _ [7, 1, 2, 3, 4] (by decide +kernel) (by decide +kernel)
set_option maxRecDepth 20000 in
theorem gX5_numberOf_X5_number : GoodIn wsX5_numberOf (va_wsS RX5 52 yX5_number wsX5_number) := goodIn_app (goodIn_of _ (by decide +kernel)) ggX5_numberOf_X5_number
theorem dX5_numberOf_0 : decode cX5_numberOf 0 = .ok (.aload_n 0, 1) := by decide +kernel
theorem dX5_numberOf_1 : decode cX5_numberOf 1 = .ok (.iload_n 1, 1) := by decide +kernel
theorem dX5_numberOf_2 : decode cX5_numberOf 2 = .ok (.aload_n 0, 1) := by decide +kernel
theorem dX5_numberOf_3 : decode cX5_numberOf 3 = .ok (.iload_n 1, 1) := by decide +kernel
theorem dX5_numberOf_4 : decode cX5_numberOf 4 = .ok (.iconst 0, 1) := by decide +kernel
theorem dX5_numberOf_5 : decode cX5_numberOf 5 = .ok (.invokestatic 48, 3) := by decide +kernel
theorem dX5_numberOf_8 : decode cX5_numberOf 8 = .ok (.aload_n 0, 1) := by decide +kernel
theorem dX5_numberOf_9 : decode cX5_numberOf 9 = .ok (.iload_n 1, 1) := by decide +kernel
theorem dX5_numberOf_10 : decode cX5_numberOf 10 = .ok (.iconst 1, 1) := by decide +kernel
theorem dX5_numberOf_11 : decode cX5_numberOf 11 = .ok (.invokestatic 48, 3) := by decide +kernel
theorem dX5_numberOf_14 : decode cX5_numberOf 14 = .ok (.invokestatic 52, 3) := by decide +kernel
theorem dX5_numberOf_17 : decode cX5_numberOf 17 = .ok (.ireturn, 1) := by decide +kernel
set_option maxRecDepth 20000 in
theorem ggX5_next_X5_number : GoodIn wsX5_next wsX5_number := goodIn_r _ [4, 5, 6, 3, 7] (by decide +kernel) (by decide +kernel)
set_option maxRecDepth 20000 in
theorem gX5_next_X5_number : GoodIn wsX5_next (va_wsS RX5 52 yX5_number wsX5_number) := goodIn_app (goodIn_of _ (by decide +kernel)) ggX5_next_X5_number
theorem dX5_next_0 : decode cX5_next 0 = .ok (.aload_n 0, 1) := by decide +kernel
theorem dX5_next_1 : decode cX5_next 1 = .ok (.aload_n 0, 1) := by decide +kernel
theorem dX5_next_2 : decode cX5_next 2 = .ok (.iconst 0, 1) := by decide +kernel
theorem dX5_next_3 : decode cX5_next 3 = .ok (.iaload, 1) := by decide +kernel
theorem dX5_next_4 : decode cX5_next 4 = .ok (.aload_n 0, 1) := by decide +kernel
theorem dX5_next_5 : decode cX5_next 5 = .ok (.iconst 1, 1) := by decide +kernel
theorem dX5_next_6 : decode cX5_next 6 = .ok (.iaload, 1) := by decide +kernel
theorem dX5_next_7 : decode cX5_next 7 = .ok (.aload_n 0, 1) := by decide +kernel
theorem dX5_next_8 : decode cX5_next 8 = .ok (.iconst 2, 1) := by decide +kernel
theorem dX5_next_9 : decode cX5_next 9 = .ok (.iaload, 1) := by decide +kernel
theorem dX5_next_10 : decode cX5_next 10 = .ok (.invokestatic 52, 3) := by decide +kernel
theorem dX5_next_13 : decode cX5_next 13 = .ok (.ireturn, 1) := by decide +kernel
set_option maxRecDepth 20000 in
theorem ggX5_isRight_X5_of : GoodIn wsX5_isRight wsX5_of := goodIn_r _ [4] (by decide +kernel) (by decide +kernel)
set_option maxRecDepth 20000 in
theorem gX5_isRight_X5_of : GoodIn wsX5_isRight (va_wsS RX5 48 yX5_of wsX5_of) := goodIn_app (goodIn_of _ (by decide +kernel)) ggX5_isRight_X5_of
set_option maxRecDepth 20000 in
theorem ggX5_isRight_X5_numberOf : GoodIn wsX5_isRight wsX5_numberOf := goodIn_r _ [7, 1, 2, 3, 4, 8, 9, 10] (by decide +kernel) (by decide +kernel)
set_option maxRecDepth 20000 in
theorem gX5_isRight_X5_numberOf : GoodIn wsX5_isRight (va_wsS RX5 56 yX5_numberOf wsX5_numberOf) := goodIn_app (goodIn_of _ (by decide +kernel)) ggX5_isRight_X5_numberOf
theorem dX5_isRight_0 : decode cX5_isRight 0 = .ok (.aload_n 0, 1) := by decide +kernel
theorem dX5_isRight_1 : decode cX5_isRight 1 = .ok (.iload_n 1, 1) := by decide +kernel
theorem dX5_isRight_2 : decode cX5_isRight 2 = .ok (.iconst 2, 1) := by decide +kernel
theorem dX5_isRight_3 : decode cX5_isRight 3 = .ok (.invokestatic 48, 3) := by decide +kernel
theorem dX5_isRight_6 : decode cX5_isRight 6 = .ok (.aload_n 0, 1) := by decide +kernel
theorem dX5_isRight_7 : decode cX5_isRight 7 = .ok (.iload_n 1, 1) := by decide +kernel
theorem dX5_isRight_8 : decode cX5_isRight 8 = .ok (.iconst 0, 1) := by decide +kernel
theorem dX5_isRight_9 : decode cX5_isRight 9 = .ok (.invokestatic 48, 3) := by decide +kernel
theorem dX5_isRight_12 : decode cX5_isRight 12 = .ok (.if_icmp .ne 36, 3) := by decide +kernel
theorem dX5_isRight_15 : decode cX5_isRight 15 = .ok (.aload_n 0, 1) := by decide +kernel
theorem dX5_isRight_16 : decode cX5_isRight 16 = .ok (.iload_n 1, 1) := by decide +kernel
theorem dX5_isRight_17 : decode cX5_isRight 17 = .ok (.iconst 3, 1) := by decide +kernel
theorem dX5_isRight_18 : decode cX5_isRight 18 = .ok (.invokestatic 48, 3) := by decide +kernel
theorem dX5_isRight_21 : decode cX5_isRight 21 = .ok (.aload_n 0, 1) := by decide +kernel
theorem dX5_isRight_22 : decode cX5_isRight 22 = .ok (.iload_n 1, 1) := by decide +kernel
theorem dX5_isRight_23 : decode cX5_isRight 23 = .ok (.iconst 1, 1) := by decide +kernel
theorem dX5_isRight_24 : decode cX5_isRight 24 = .ok (.invokestatic 48, 3) := by decide +kernel
theorem dX5_isRight_27 : decode cX5_isRight 27 = .ok (.if_icmp .ne 21, 3) := by decide +kernel
theorem dX5_isRight_30 : decode cX5_isRight 30 = .ok (.aload_n 0, 1) := by decide +kernel
theorem dX5_isRight_31 : decode cX5_isRight 31 = .ok (.iload_n 1, 1) := by decide +kernel
theorem dX5_isRight_32 : decode cX5_isRight 32 = .ok (.iconst 4, 1) := by decide +kernel
theorem dX5_isRight_33 : decode cX5_isRight 33 = .ok (.invokestatic 48, 3) := by decide +kernel
theorem dX5_isRight_36 : decode cX5_isRight 36 = .ok (.aload_n 0, 1) := by decide +kernel
theorem dX5_isRight_37 : decode cX5_isRight 37 = .ok (.iload_n 1, 1) := by decide +kernel
theorem dX5_isRight_38 : decode cX5_isRight 38 = .ok (.invokestatic 56, 3) := by decide +kernel
theorem dX5_isRight_41 : decode cX5_isRight 41 = .ok (.if_icmp .ne 7, 3) := by decide +kernel
theorem dX5_isRight_44 : decode cX5_isRight 44 = .ok (.iconst 1, 1) := by decide +kernel
theorem dX5_isRight_45 : decode cX5_isRight 45 = .ok (.goto 4, 3) := by decide +kernel
theorem dX5_isRight_48 : decode cX5_isRight 48 = .ok (.iconst 0, 1) := by decide +kernel
theorem dX5_isRight_49 : decode cX5_isRight 49 = .ok (.ireturn, 1) := by decide +kernel
set_option maxRecDepth 20000 in
theorem ggX5_wrong_X5_isRight : GoodIn wsX5_wrong wsX5_isRight := goodIn_r _ [4, 5, 6, 3, 7, 8, 9, 10, 11, 12, 13] (by decide +kernel) (by decide +kernel)
set_option maxRecDepth 20000 in
theorem gX5_wrong_X5_isRight : GoodIn wsX5_wrong (va_wsS RX5 60 yX5_isRight wsX5_isRight) := goodIn_app (goodIn_of _ (by decide +kernel)) ggX5_wrong_X5_isRight
theorem dX5_wrong_0 : decode cX5_wrong 0 = .ok (.iconst 0, 1) := by decide +kernel
theorem dX5_wrong_1 : decode cX5_wrong 1 = .ok (.istore_n 1, 1) := by decide +kernel
theorem dX5_wrong_2 : decode cX5_wrong 2 = .ok (.iconst 0, 1) := by decide +kernel
theorem dX5_wrong_3 : decode cX5_wrong 3 = .ok (.istore_n 2, 1) := by decide +kernel
theorem dX5_wrong_4 : decode cX5_wrong 4 = .ok (.iload_n 2, 1) := by decide +kernel
theorem dX5_wrong_5 : decode cX5_wrong 5 = .ok (.aload_n 0, 1) := by decide +kernel
theorem dX5_wrong_6 : decode cX5_wrong 6 = .ok (.iconst 0, 1) := by decide +kernel
theorem dX5_wrong_7 : decode cX5_wrong 7 = .ok (.iaload, 1) := by decide +kernel
theorem dX5_wrong_8 : decode cX5_wrong 8 = .ok (.if_icmp .ge 25, 3) := by decide +kernel
theorem dX5_wrong_11 : decode cX5_wrong 11 = .ok (.iload_n 1, 1) := by decide +kernel
theorem dX5_wrong_12 : decode cX5_wrong 12 = .ok (.aload_n 0, 1) := by decide +kernel
theorem dX5_wrong_13 : decode cX5_wrong 13 = .ok (.iload_n 2, 1) := by decide +kernel
theorem dX5_wrong_14 : decode cX5_wrong 14 = .ok (.invokestatic 60, 3) := by decide +kernel
theorem dX5_wrong_17 : decode cX5_wrong 17 = .ok (.ifCond .eq 7, 3) := by decide +kernel
theorem dX5_wrong_20 : decode cX5_wrong 20 = .ok (.iconst 0, 1) := by decide +kernel
theorem dX5_wrong_21 : decode cX5_wrong 21 = .ok (.goto 4, 3) := by decide +kernel
theorem dX5_wrong_24 : decode cX5_wrong 24 = .ok (.iconst 1, 1) := by decide +kernel
theorem dX5_wrong_25 : decode cX5_wrong 25 = .ok (.iadd, 1) := by decide +kernel
theorem dX5_wrong_26 : decode cX5_wrong 26 = .ok (.istore_n 1, 1) := by decide +kernel
theorem dX5_wrong_27 : decode cX5_wrong 27 = .ok (.iinc 2 1, 3) := by decide +kernel
theorem dX5_wrong_30 : decode cX5_wrong 30 = .ok (.goto (-26), 3) := by decide +kernel
theorem dX5_wrong_33 : decode cX5_wrong 33 = .ok (.iload_n 1, 1) := by decide +kernel
theorem dX5_wrong_34 : decode cX5_wrong 34 = .ok (.ireturn, 1) := by decide +kernel
set_option maxRecDepth 20000 in
theorem ggX5_sum_X5_of : GoodIn wsX5_sum wsX5_of := goodIn_r _ [4] (by decide +kernel) (by decide +kernel)
set_option maxRecDepth 20000 in
theorem gX5_sum_X5_of : GoodIn wsX5_sum (va_wsS RX5 48 yX5_of wsX5_of) := goodIn_app (goodIn_of _ (by decide +kernel)) ggX5_sum_X5_of
theorem dX5_sum_0 : decode cX5_sum 0 = .ok (.iconst 0, 1) := by decide +kernel
theorem dX5_sum_1 : decode cX5_sum 1 = .ok (.istore_n 2, 1) := by decide +kernel
theorem dX5_sum_2 : decode cX5_sum 2 = .ok (.iconst 0, 1) := by decide +kernel
theorem dX5_sum_3 : decode cX5_sum 3 = .ok (.istore_n 3, 1) := by decide +kernel
theorem dX5_sum_4 : decode cX5_sum 4 = .ok (.iload_n 3, 1) := by decide +kernel
theorem dX5_sum_5 : decode cX5_sum 5 = .ok (.aload_n 0, 1) := by decide +kernel
theorem dX5_sum_6 : decode cX5_sum 6 = .ok (.iconst 0, 1) := by decide +kernel
theorem dX5_sum_7 : decode cX5_sum 7 = .ok (.iaload, 1) := by decide +kernel
theorem dX5_sum_8 : decode cX5_sum 8 = .ok (.if_icmp .ge 18, 3) := by decide +kernel
theorem dX5_sum_11 : decode cX5_sum 11 = .ok (.iload_n 2, 1) := by decide +kernel
theorem dX5_sum_12 : decode cX5_sum 12 = .ok (.aload_n 0, 1) := by decide +kernel
theorem dX5_sum_13 : decode cX5_sum 13 = .ok (.iload_n 3, 1) := by decide +kernel
theorem dX5_sum_14 : decode cX5_sum 14 = .ok (.iload_n 1, 1) := by decide +kernel
theorem dX5_sum_15 : decode cX5_sum 15 = .ok (.invokestatic 48, 3) := by decide +kernel
theorem dX5_sum_18 : decode cX5_sum 18 = .ok (.iadd, 1) := by decide +kernel
theorem dX5_sum_19 : decode cX5_sum 19 = .ok (.istore_n 2, 1) := by decide +kernel
theorem dX5_sum_20 : decode cX5_sum 20 = .ok (.iinc 3 1, 3) := by decide +kernel
theorem dX5_sum_23 : decode cX5_sum 23 = .ok (.goto (-19), 3) := by decide +kernel
theorem dX5_sum_26 : decode cX5_sum 26 = .ok (.iload_n 2, 1) := by decide +kernel
theorem dX5_sum_27 : decode cX5_sum 27 = .ok (.ireturn, 1) := by decide +kernel
theorem dX5_left_0 : decode cX5_left 0 = .ok (.aload_n 0, 1) := by decide +kernel
theorem dX5_left_1 : decode cX5_left 1 = .ok (.bipush 13, 2) := by decide +kernel
theorem dX5_left_3 : decode cX5_left 3 = .ok (.iaload, 1) := by decide +kernel
theorem dX5_left_4 : decode cX5_left 4 = .ok (.aload_n 0, 1) := by decide +kernel
theorem dX5_left_5 : decode cX5_left 5 = .ok (.bipush 7, 2) := by decide +kernel
theorem dX5_left_7 : decode cX5_left 7 = .ok (.iaload, 1) := by decide +kernel
theorem dX5_left_8 : decode cX5_left 8 = .ok (.isub, 1) := by decide +kernel
theorem dX5_left_9 : decode cX5_left 9 = .ok (.istore_n 1, 1) := by decide +kernel
theorem dX5_left_10 : decode cX5_left 10 = .ok (.iload_n 1, 1) := by decide +kernel
theorem dX5_left_11 : decode cX5_left 11 = .ok (.ifCond .ge 7, 3) := by decide +kernel
theorem dX5_left_14 : decode cX5_left 14 = .ok (.iconst 0, 1) := by decide +kernel
theorem dX5_left_15 : decode cX5_left 15 = .ok (.goto 4, 3) := by decide +kernel
theorem dX5_left_18 : decode cX5_left 18 = .ok (.iload_n 1, 1) := by decide +kernel
theorem dX5_left_19 : decode cX5_left 19 = .ok (.ireturn, 1) := by decide +kernel
set_option maxRecDepth 20000 in
theorem ggX5_canShoot_X5_left : GoodIn wsX5_canShoot wsX5_left := goodIn_r _ [4] (by decide +kernel) (by decide +kernel)
set_option maxRecDepth 20000 in
theorem gX5_canShoot_X5_left : GoodIn wsX5_canShoot (va_wsS RX5 64 yX5_left wsX5_left) := goodIn_app (goodIn_of _ (by decide +kernel)) ggX5_canShoot_X5_left
theorem dX5_canShoot_0 : decode cX5_canShoot 0 = .ok (.aload_n 0, 1) := by decide +kernel
theorem dX5_canShoot_1 : decode cX5_canShoot 1 = .ok (.iconst 0, 1) := by decide +kernel
theorem dX5_canShoot_2 : decode cX5_canShoot 2 = .ok (.iaload, 1) := by decide +kernel
theorem dX5_canShoot_3 : decode cX5_canShoot 3 = .ok (.bipush 24, 2) := by decide +kernel
theorem dX5_canShoot_5 : decode cX5_canShoot 5 = .ok (.if_icmp .ge 14, 3) := by decide +kernel
theorem dX5_canShoot_8 : decode cX5_canShoot 8 = .ok (.aload_n 0, 1) := by decide +kernel
theorem dX5_canShoot_9 : decode cX5_canShoot 9 = .ok (.invokestatic 64, 3) := by decide +kernel
theorem dX5_canShoot_12 : decode cX5_canShoot 12 = .ok (.ifCond .le 7, 3) := by decide +kernel
theorem dX5_canShoot_15 : decode cX5_canShoot 15 = .ok (.iconst 1, 1) := by decide +kernel
theorem dX5_canShoot_16 : decode cX5_canShoot 16 = .ok (.goto 4, 3) := by decide +kernel
theorem dX5_canShoot_19 : decode cX5_canShoot 19 = .ok (.iconst 0, 1) := by decide +kernel
theorem dX5_canShoot_20 : decode cX5_canShoot 20 = .ok (.ireturn, 1) := by decide +kernel
set_option maxRecDepth 20000 in
theorem ggX5_shootOn_X5_left : GoodIn wsX5_shootOn wsX5_left := goodIn_r _ [4] (by decide +kernel) (by decide +kernel)
set_option maxRecDepth 20000 in
theorem gX5_shootOn_X5_left : GoodIn wsX5_shootOn (va_wsS RX5 64 yX5_left wsX5_left) := goodIn_app (goodIn_of _ (by decide +kernel)) ggX5_shootOn_X5_left
set_option maxRecDepth 20000 in
theorem ggX5_shootOn_X5_lay : GoodIn wsX5_shootOn wsX5_lay := goodIn_r _ [7] (by decide +kernel) (by decide +kernel)
set_option maxRecDepth 20000 in
theorem gX5_shootOn_X5_lay : GoodIn wsX5_shootOn (va_wsS RX5 68 yX5_lay wsX5_lay) := goodIn_app (goodIn_of _ (by decide +kernel)) ggX5_shootOn_X5_lay
theorem dX5_shootOn_0 : decode cX5_shootOn 0 = .ok (.aload_n 0, 1) := by decide +kernel
theorem dX5_shootOn_1 : decode cX5_shootOn 1 = .ok (.iconst 0, 1) := by decide +kernel
theorem dX5_shootOn_2 : decode cX5_shootOn 2 = .ok (.iaload, 1) := by decide +kernel
theorem dX5_shootOn_3 : decode cX5_shootOn 3 = .ok (.istore_n 3, 1) := by decide +kernel
theorem dX5_shootOn_4 : decode cX5_shootOn 4 = .ok (.iload_n 1, 1) := by decide +kernel
theorem dX5_shootOn_5 : decode cX5_shootOn 5 = .ok (.aload_n 0, 1) := by decide +kernel
theorem dX5_shootOn_6 : decode cX5_shootOn 6 = .ok (.invokestatic 64, 3) := by decide +kernel
theorem dX5_shootOn_9 : decode cX5_shootOn 9 = .ok (.if_icmp .ge 7, 3) := by decide +kernel
theorem dX5_shootOn_12 : decode cX5_shootOn 12 = .ok (.iload_n 1, 1) := by decide +kernel
theorem dX5_shootOn_13 : decode cX5_shootOn 13 = .ok (.goto 7, 3) := by decide +kernel
theorem dX5_shootOn_16 : decode cX5_shootOn 16 = .ok (.aload_n 0, 1) := by decide +kernel
theorem dX5_shootOn_17 : decode cX5_shootOn 17 = .ok (.invokestatic 64, 3) := by decide +kernel
theorem dX5_shootOn_20 : decode cX5_shootOn 20 = .ok (.istore 4, 2) := by decide +kernel
theorem dX5_shootOn_22 : decode cX5_shootOn 22 = .ok (.iload_n 2, 1) := by decide +kernel
theorem dX5_shootOn_23 : decode cX5_shootOn 23 = .ok (.ifCond .eq 21, 3) := by decide +kernel
theorem dX5_shootOn_26 : decode cX5_shootOn 26 = .ok (.aload_n 0, 1) := by decide +kernel
theorem dX5_shootOn_27 : decode cX5_shootOn 27 = .ok (.bipush 14, 2) := by decide +kernel
theorem dX5_shootOn_29 : decode cX5_shootOn 29 = .ok (.iaload, 1) := by decide +kernel
theorem dX5_shootOn_30 : decode cX5_shootOn 30 = .ok (.aload_n 0, 1) := by decide +kernel
theorem dX5_shootOn_31 : decode cX5_shootOn 31 = .ok (.bipush 9, 2) := by decide +kernel
theorem dX5_shootOn_33 : decode cX5_shootOn 33 = .ok (.iaload, 1) := by decide +kernel
theorem dX5_shootOn_34 : decode cX5_shootOn 34 = .ok (.isub, 1) := by decide +kernel
theorem dX5_shootOn_35 : decode cX5_shootOn 35 = .ok (.iload 4, 2) := by decide +kernel
theorem dX5_shootOn_37 : decode cX5_shootOn 37 = .ok (.if_icmp .lt 7, 3) := by decide +kernel
theorem dX5_shootOn_40 : decode cX5_shootOn 40 = .ok (.iconst 1, 1) := by decide +kernel
theorem dX5_shootOn_41 : decode cX5_shootOn 41 = .ok (.goto 4, 3) := by decide +kernel
theorem dX5_shootOn_44 : decode cX5_shootOn 44 = .ok (.iconst 0, 1) := by decide +kernel
theorem dX5_shootOn_45 : decode cX5_shootOn 45 = .ok (.istore 5, 2) := by decide +kernel
theorem dX5_shootOn_47 : decode cX5_shootOn 47 = .ok (.aload_n 0, 1) := by decide +kernel
theorem dX5_shootOn_48 : decode cX5_shootOn 48 = .ok (.iload_n 3, 1) := by decide +kernel
theorem dX5_shootOn_49 : decode cX5_shootOn 49 = .ok (.iconst 0, 1) := by decide +kernel
theorem dX5_shootOn_50 : decode cX5_shootOn 50 = .ok (.aload_n 0, 1) := by decide +kernel
theorem dX5_shootOn_51 : decode cX5_shootOn 51 = .ok (.iconst 1, 1) := by decide +kernel
theorem dX5_shootOn_52 : decode cX5_shootOn 52 = .ok (.iaload, 1) := by decide +kernel
theorem dX5_shootOn_53 : decode cX5_shootOn 53 = .ok (.invokestatic 68, 3) := by decide +kernel
theorem dX5_shootOn_56 : decode cX5_shootOn 56 = .ok (.aload_n 0, 1) := by decide +kernel
theorem dX5_shootOn_57 : decode cX5_shootOn 57 = .ok (.iload_n 3, 1) := by decide +kernel
theorem dX5_shootOn_58 : decode cX5_shootOn 58 = .ok (.iconst 1, 1) := by decide +kernel
theorem dX5_shootOn_59 : decode cX5_shootOn 59 = .ok (.aload_n 0, 1) := by decide +kernel
theorem dX5_shootOn_60 : decode cX5_shootOn 60 = .ok (.iconst 2, 1) := by decide +kernel
theorem dX5_shootOn_61 : decode cX5_shootOn 61 = .ok (.iaload, 1) := by decide +kernel
theorem dX5_shootOn_62 : decode cX5_shootOn 62 = .ok (.invokestatic 68, 3) := by decide +kernel
theorem dX5_shootOn_65 : decode cX5_shootOn 65 = .ok (.iconst 0, 1) := by decide +kernel
theorem dX5_shootOn_66 : decode cX5_shootOn 66 = .ok (.istore 6, 2) := by decide +kernel
theorem dX5_shootOn_68 : decode cX5_shootOn 68 = .ok (.iload 6, 2) := by decide +kernel
theorem dX5_shootOn_70 : decode cX5_shootOn 70 = .ok (.iconst 3, 1) := by decide +kernel
theorem dX5_shootOn_71 : decode cX5_shootOn 71 = .ok (.if_icmp .ge 24, 3) := by decide +kernel
theorem dX5_shootOn_74 : decode cX5_shootOn 74 = .ok (.aload_n 0, 1) := by decide +kernel
theorem dX5_shootOn_75 : decode cX5_shootOn 75 = .ok (.iload_n 3, 1) := by decide +kernel
theorem dX5_shootOn_76 : decode cX5_shootOn 76 = .ok (.iconst 2, 1) := by decide +kernel
theorem dX5_shootOn_77 : decode cX5_shootOn 77 = .ok (.iload 6, 2) := by decide +kernel
theorem dX5_shootOn_79 : decode cX5_shootOn 79 = .ok (.iadd, 1) := by decide +kernel
theorem dX5_shootOn_80 : decode cX5_shootOn 80 = .ok (.aload_n 0, 1) := by decide +kernel
theorem dX5_shootOn_81 : decode cX5_shootOn 81 = .ok (.iconst 3, 1) := by decide +kernel
theorem dX5_shootOn_82 : decode cX5_shootOn 82 = .ok (.iload 6, 2) := by decide +kernel
theorem dX5_shootOn_84 : decode cX5_shootOn 84 = .ok (.iadd, 1) := by decide +kernel
theorem dX5_shootOn_85 : decode cX5_shootOn 85 = .ok (.iaload, 1) := by decide +kernel
theorem dX5_shootOn_86 : decode cX5_shootOn 86 = .ok (.invokestatic 68, 3) := by decide +kernel
theorem dX5_shootOn_89 : decode cX5_shootOn 89 = .ok (.iinc 6 1, 3) := by decide +kernel
theorem dX5_shootOn_92 : decode cX5_shootOn 92 = .ok (.goto (-24), 3) := by decide +kernel
theorem dX5_shootOn_95 : decode cX5_shootOn 95 = .ok (.aload_n 0, 1) := by decide +kernel
theorem dX5_shootOn_96 : decode cX5_shootOn 96 = .ok (.iload_n 3, 1) := by decide +kernel
theorem dX5_shootOn_97 : decode cX5_shootOn 97 = .ok (.iconst 5, 1) := by decide +kernel
theorem dX5_shootOn_98 : decode cX5_shootOn 98 = .ok (.aload_n 0, 1) := by decide +kernel
theorem dX5_shootOn_99 : decode cX5_shootOn 99 = .ok (.bipush 6, 2) := by decide +kernel
theorem dX5_shootOn_101 : decode cX5_shootOn 101 = .ok (.iaload, 1) := by decide +kernel
theorem dX5_shootOn_102 : decode cX5_shootOn 102 = .ok (.invokestatic 68, 3) := by decide +kernel
theorem dX5_shootOn_105 : decode cX5_shootOn 105 = .ok (.aload_n 0, 1) := by decide +kernel
theorem dX5_shootOn_106 : decode cX5_shootOn 106 = .ok (.iload_n 3, 1) := by decide +kernel
theorem dX5_shootOn_107 : decode cX5_shootOn 107 = .ok (.bipush 6, 2) := by decide +kernel
theorem dX5_shootOn_109 : decode cX5_shootOn 109 = .ok (.aload_n 0, 1) := by decide +kernel
theorem dX5_shootOn_110 : decode cX5_shootOn 110 = .ok (.bipush 7, 2) := by decide +kernel
theorem dX5_shootOn_112 : decode cX5_shootOn 112 = .ok (.iaload, 1) := by decide +kernel
theorem dX5_shootOn_113 : decode cX5_shootOn 113 = .ok (.invokestatic 68, 3) := by decide +kernel
theorem dX5_shootOn_116 : decode cX5_shootOn 116 = .ok (.aload_n 0, 1) := by decide +kernel
theorem dX5_shootOn_117 : decode cX5_shootOn 117 = .ok (.iload_n 3, 1) := by decide +kernel
theorem dX5_shootOn_118 : decode cX5_shootOn 118 = .ok (.bipush 7, 2) := by decide +kernel
theorem dX5_shootOn_120 : decode cX5_shootOn 120 = .ok (.iload 4, 2) := by decide +kernel
theorem dX5_shootOn_122 : decode cX5_shootOn 122 = .ok (.invokestatic 68, 3) := by decide +kernel
theorem dX5_shootOn_125 : decode cX5_shootOn 125 = .ok (.aload_n 0, 1) := by decide +kernel
theorem dX5_shootOn_126 : decode cX5_shootOn 126 = .ok (.iload_n 3, 1) := by decide +kernel
theorem dX5_shootOn_127 : decode cX5_shootOn 127 = .ok (.bipush 8, 2) := by decide +kernel
theorem dX5_shootOn_129 : decode cX5_shootOn 129 = .ok (.iload 5, 2) := by decide +kernel
theorem dX5_shootOn_131 : decode cX5_shootOn 131 = .ok (.ifCond .eq 10, 3) := by decide +kernel
theorem dX5_shootOn_134 : decode cX5_shootOn 134 = .ok (.aload_n 0, 1) := by decide +kernel
theorem dX5_shootOn_135 : decode cX5_shootOn 135 = .ok (.bipush 8, 2) := by decide +kernel
theorem dX5_shootOn_137 : decode cX5_shootOn 137 = .ok (.iaload, 1) := by decide +kernel
theorem dX5_shootOn_138 : decode cX5_shootOn 138 = .ok (.goto 4, 3) := by decide +kernel
theorem dX5_shootOn_141 : decode cX5_shootOn 141 = .ok (.iconst (-1), 1) := by decide +kernel
theorem dX5_shootOn_142 : decode cX5_shootOn 142 = .ok (.invokestatic 68, 3) := by decide +kernel
theorem dX5_shootOn_145 : decode cX5_shootOn 145 = .ok (.aload_n 0, 1) := by decide +kernel
theorem dX5_shootOn_146 : decode cX5_shootOn 146 = .ok (.iload_n 3, 1) := by decide +kernel
theorem dX5_shootOn_147 : decode cX5_shootOn 147 = .ok (.bipush 9, 2) := by decide +kernel
theorem dX5_shootOn_149 : decode cX5_shootOn 149 = .ok (.iload 5, 2) := by decide +kernel
theorem dX5_shootOn_151 : decode cX5_shootOn 151 = .ok (.ifCond .eq 10, 3) := by decide +kernel
theorem dX5_shootOn_154 : decode cX5_shootOn 154 = .ok (.aload_n 0, 1) := by decide +kernel
theorem dX5_shootOn_155 : decode cX5_shootOn 155 = .ok (.bipush 9, 2) := by decide +kernel
theorem dX5_shootOn_157 : decode cX5_shootOn 157 = .ok (.iaload, 1) := by decide +kernel
theorem dX5_shootOn_158 : decode cX5_shootOn 158 = .ok (.goto 4, 3) := by decide +kernel
theorem dX5_shootOn_161 : decode cX5_shootOn 161 = .ok (.iconst (-1), 1) := by decide +kernel
theorem dX5_shootOn_162 : decode cX5_shootOn 162 = .ok (.invokestatic 68, 3) := by decide +kernel
theorem dX5_shootOn_165 : decode cX5_shootOn 165 = .ok (.aload_n 0, 1) := by decide +kernel
theorem dX5_shootOn_166 : decode cX5_shootOn 166 = .ok (.iload_n 3, 1) := by decide +kernel
theorem dX5_shootOn_167 : decode cX5_shootOn 167 = .ok (.bipush 10, 2) := by decide +kernel
theorem dX5_shootOn_169 : decode cX5_shootOn 169 = .ok (.iload 5, 2) := by decide +kernel
theorem dX5_shootOn_171 : decode cX5_shootOn 171 = .ok (.ifCond .eq 12, 3) := by decide +kernel
theorem dX5_shootOn_174 : decode cX5_shootOn 174 = .ok (.aload_n 0, 1) := by decide +kernel
theorem dX5_shootOn_175 : decode cX5_shootOn 175 = .ok (.bipush 12, 2) := by decide +kernel
theorem dX5_shootOn_177 : decode cX5_shootOn 177 = .ok (.iaload, 1) := by decide +kernel
theorem dX5_shootOn_178 : decode cX5_shootOn 178 = .ok (.iconst 1, 1) := by decide +kernel
theorem dX5_shootOn_179 : decode cX5_shootOn 179 = .ok (.iadd, 1) := by decide +kernel
theorem dX5_shootOn_180 : decode cX5_shootOn 180 = .ok (.goto 4, 3) := by decide +kernel
theorem dX5_shootOn_183 : decode cX5_shootOn 183 = .ok (.iconst (-1), 1) := by decide +kernel
theorem dX5_shootOn_184 : decode cX5_shootOn 184 = .ok (.invokestatic 68, 3) := by decide +kernel
theorem dX5_shootOn_187 : decode cX5_shootOn 187 = .ok (.aload_n 0, 1) := by decide +kernel
theorem dX5_shootOn_188 : decode cX5_shootOn 188 = .ok (.iload_n 3, 1) := by decide +kernel
theorem dX5_shootOn_189 : decode cX5_shootOn 189 = .ok (.bipush 11, 2) := by decide +kernel
theorem dX5_shootOn_191 : decode cX5_shootOn 191 = .ok (.aload_n 0, 1) := by decide +kernel
theorem dX5_shootOn_192 : decode cX5_shootOn 192 = .ok (.bipush 10, 2) := by decide +kernel
theorem dX5_shootOn_194 : decode cX5_shootOn 194 = .ok (.iaload, 1) := by decide +kernel
theorem dX5_shootOn_195 : decode cX5_shootOn 195 = .ok (.invokestatic 68, 3) := by decide +kernel
theorem dX5_shootOn_198 : decode cX5_shootOn 198 = .ok (.aload_n 0, 1) := by decide +kernel
theorem dX5_shootOn_199 : decode cX5_shootOn 199 = .ok (.iload_n 3, 1) := by decide +kernel
theorem dX5_shootOn_200 : decode cX5_shootOn 200 = .ok (.bipush 12, 2) := by decide +kernel
theorem dX5_shootOn_202 : decode cX5_shootOn 202 = .ok (.aload_n 0, 1) := by decide +kernel
theorem dX5_shootOn_203 : decode cX5_shootOn 203 = .ok (.bipush 10, 2) := by decide +kernel
theorem dX5_shootOn_205 : decode cX5_shootOn 205 = .ok (.iaload, 1) := by decide +kernel
theorem dX5_shootOn_206 : decode cX5_shootOn 206 = .ok (.aload_n 0, 1) := by decide +kernel
theorem dX5_shootOn_207 : decode cX5_shootOn 207 = .ok (.bipush 11, 2) := by decide +kernel
theorem dX5_shootOn_209 : decode cX5_shootOn 209 = .ok (.iaload, 1) := by decide +kernel
theorem dX5_shootOn_210 : decode cX5_shootOn 210 = .ok (.iadd, 1) := by decide +kernel
theorem dX5_shootOn_211 : decode cX5_shootOn 211 = .ok (.invokestatic 68, 3) := by decide +kernel
theorem dX5_shootOn_214 : decode cX5_shootOn 214 = .ok (.aload_n 0, 1) := by decide +kernel
theorem dX5_shootOn_215 : decode cX5_shootOn 215 = .ok (.iload_n 3, 1) := by decide +kernel
theorem dX5_shootOn_216 : decode cX5_shootOn 216 = .ok (.bipush 13, 2) := by decide +kernel
theorem dX5_shootOn_218 : decode cX5_shootOn 218 = .ok (.iconst 0, 1) := by decide +kernel
theorem dX5_shootOn_219 : decode cX5_shootOn 219 = .ok (.invokestatic 68, 3) := by decide +kernel
theorem dX5_shootOn_222 : decode cX5_shootOn 222 = .ok (.aload_n 0, 1) := by decide +kernel
theorem dX5_shootOn_223 : decode cX5_shootOn 223 = .ok (.iload_n 3, 1) := by decide +kernel
theorem dX5_shootOn_224 : decode cX5_shootOn 224 = .ok (.bipush 14, 2) := by decide +kernel
theorem dX5_shootOn_226 : decode cX5_shootOn 226 = .ok (.iconst 0, 1) := by decide +kernel
theorem dX5_shootOn_227 : decode cX5_shootOn 227 = .ok (.invokestatic 68, 3) := by decide +kernel
theorem dX5_shootOn_230 : decode cX5_shootOn 230 = .ok (.aload_n 0, 1) := by decide +kernel
theorem dX5_shootOn_231 : decode cX5_shootOn 231 = .ok (.bipush 7, 2) := by decide +kernel
theorem dX5_shootOn_233 : decode cX5_shootOn 233 = .ok (.dup2, 1) := by decide +kernel
theorem dX5_shootOn_234 : decode cX5_shootOn 234 = .ok (.iaload, 1) := by decide +kernel
theorem dX5_shootOn_235 : decode cX5_shootOn 235 = .ok (.iload 4, 2) := by decide +kernel
theorem dX5_shootOn_237 : decode cX5_shootOn 237 = .ok (.iadd, 1) := by decide +kernel
theorem dX5_shootOn_238 : decode cX5_shootOn 238 = .ok (.iastore, 1) := by decide +kernel
theorem dX5_shootOn_239 : decode cX5_shootOn 239 = .ok (.aload_n 0, 1) := by decide +kernel
theorem dX5_shootOn_240 : decode cX5_shootOn 240 = .ok (.bipush 9, 2) := by decide +kernel
theorem dX5_shootOn_242 : decode cX5_shootOn 242 = .ok (.dup2, 1) := by decide +kernel
theorem dX5_shootOn_243 : decode cX5_shootOn 243 = .ok (.iaload, 1) := by decide +kernel
theorem dX5_shootOn_244 : decode cX5_shootOn 244 = .ok (.iload 5, 2) := by decide +kernel
theorem dX5_shootOn_246 : decode cX5_shootOn 246 = .ok (.ifCond .eq 8, 3) := by decide +kernel
theorem dX5_shootOn_249 : decode cX5_shootOn 249 = .ok (.iload 4, 2) := by decide +kernel
theorem dX5_shootOn_251 : decode cX5_shootOn 251 = .ok (.goto 4, 3) := by decide +kernel
theorem dX5_shootOn_254 : decode cX5_shootOn 254 = .ok (.iconst 0, 1) := by decide +kernel
theorem dX5_shootOn_255 : decode cX5_shootOn 255 = .ok (.iadd, 1) := by decide +kernel
theorem dX5_shootOn_256 : decode cX5_shootOn 256 = .ok (.iastore, 1) := by decide +kernel
theorem dX5_shootOn_257 : decode cX5_shootOn 257 = .ok (.aload_n 0, 1) := by decide +kernel
theorem dX5_shootOn_258 : decode cX5_shootOn 258 = .ok (.bipush 12, 2) := by decide +kernel
theorem dX5_shootOn_260 : decode cX5_shootOn 260 = .ok (.dup2, 1) := by decide +kernel
theorem dX5_shootOn_261 : decode cX5_shootOn 261 = .ok (.iaload, 1) := by decide +kernel
theorem dX5_shootOn_262 : decode cX5_shootOn 262 = .ok (.iload 5, 2) := by decide +kernel
theorem dX5_shootOn_264 : decode cX5_shootOn 264 = .ok (.ifCond .eq 7, 3) := by decide +kernel
theorem dX5_shootOn_267 : decode cX5_shootOn 267 = .ok (.iconst 1, 1) := by decide +kernel
theorem dX5_shootOn_268 : decode cX5_shootOn 268 = .ok (.goto 4, 3) := by decide +kernel
theorem dX5_shootOn_271 : decode cX5_shootOn 271 = .ok (.iconst 0, 1) := by decide +kernel
theorem dX5_shootOn_272 : decode cX5_shootOn 272 = .ok (.iadd, 1) := by decide +kernel
theorem dX5_shootOn_273 : decode cX5_shootOn 273 = .ok (.iastore, 1) := by decide +kernel
theorem dX5_shootOn_274 : decode cX5_shootOn 274 = .ok (.aload_n 0, 1) := by decide +kernel
theorem dX5_shootOn_275 : decode cX5_shootOn 275 = .ok (.bipush 10, 2) := by decide +kernel
theorem dX5_shootOn_277 : decode cX5_shootOn 277 = .ok (.dup2, 1) := by decide +kernel
theorem dX5_shootOn_278 : decode cX5_shootOn 278 = .ok (.iaload, 1) := by decide +kernel
theorem dX5_shootOn_279 : decode cX5_shootOn 279 = .ok (.iload 4, 2) := by decide +kernel
theorem dX5_shootOn_281 : decode cX5_shootOn 281 = .ok (.aload_n 0, 1) := by decide +kernel
theorem dX5_shootOn_282 : decode cX5_shootOn 282 = .ok (.bipush 15, 2) := by decide +kernel
theorem dX5_shootOn_284 : decode cX5_shootOn 284 = .ok (.iaload, 1) := by decide +kernel
theorem dX5_shootOn_285 : decode cX5_shootOn 285 = .ok (.iadd, 1) := by decide +kernel
theorem dX5_shootOn_286 : decode cX5_shootOn 286 = .ok (.iadd, 1) := by decide +kernel
theorem dX5_shootOn_287 : decode cX5_shootOn 287 = .ok (.iastore, 1) := by decide +kernel
theorem dX5_shootOn_288 : decode cX5_shootOn 288 = .ok (.aload_n 0, 1) := by decide +kernel
theorem dX5_shootOn_289 : decode cX5_shootOn 289 = .ok (.iconst 5, 1) := by decide +kernel
theorem dX5_shootOn_290 : decode cX5_shootOn 290 = .ok (.dup2, 1) := by decide +kernel
theorem dX5_shootOn_291 : decode cX5_shootOn 291 = .ok (.iaload, 1) := by decide +kernel
theorem dX5_shootOn_292 : decode cX5_shootOn 292 = .ok (.aload_n 0, 1) := by decide +kernel
theorem dX5_shootOn_293 : decode cX5_shootOn 293 = .ok (.bipush 16, 2) := by decide +kernel
theorem dX5_shootOn_295 : decode cX5_shootOn 295 = .ok (.iaload, 1) := by decide +kernel
theorem dX5_shootOn_296 : decode cX5_shootOn 296 = .ok (.iconst 1, 1) := by decide +kernel
theorem dX5_shootOn_297 : decode cX5_shootOn 297 = .ok (.if_icmp .ne 15, 3) := by decide +kernel
theorem dX5_shootOn_300 : decode cX5_shootOn 300 = .ok (.aload_n 0, 1) := by decide +kernel
theorem dX5_shootOn_301 : decode cX5_shootOn 301 = .ok (.iconst 5, 1) := by decide +kernel
theorem dX5_shootOn_302 : decode cX5_shootOn 302 = .ok (.iaload, 1) := by decide +kernel
theorem dX5_shootOn_303 : decode cX5_shootOn 303 = .ok (.bipush 99, 2) := by decide +kernel
theorem dX5_shootOn_305 : decode cX5_shootOn 305 = .ok (.if_icmp .ge 7, 3) := by decide +kernel
theorem dX5_shootOn_308 : decode cX5_shootOn 308 = .ok (.iconst 1, 1) := by decide +kernel
theorem dX5_shootOn_309 : decode cX5_shootOn 309 = .ok (.goto 4, 3) := by decide +kernel
theorem dX5_shootOn_312 : decode cX5_shootOn 312 = .ok (.iconst 0, 1) := by decide +kernel
theorem dX5_shootOn_313 : decode cX5_shootOn 313 = .ok (.iadd, 1) := by decide +kernel
theorem dX5_shootOn_314 : decode cX5_shootOn 314 = .ok (.iastore, 1) := by decide +kernel
theorem dX5_shootOn_315 : decode cX5_shootOn 315 = .ok (.aload_n 0, 1) := by decide +kernel
theorem dX5_shootOn_316 : decode cX5_shootOn 316 = .ok (.iconst 0, 1) := by decide +kernel
theorem dX5_shootOn_317 : decode cX5_shootOn 317 = .ok (.dup2, 1) := by decide +kernel
theorem dX5_shootOn_318 : decode cX5_shootOn 318 = .ok (.iaload, 1) := by decide +kernel
theorem dX5_shootOn_319 : decode cX5_shootOn 319 = .ok (.iconst 1, 1) := by decide +kernel
theorem dX5_shootOn_320 : decode cX5_shootOn 320 = .ok (.iadd, 1) := by decide +kernel
theorem dX5_shootOn_321 : decode cX5_shootOn 321 = .ok (.iastore, 1) := by decide +kernel
theorem dX5_shootOn_322 : decode cX5_shootOn 322 = .ok (.iload 4, 2) := by decide +kernel
theorem dX5_shootOn_324 : decode cX5_shootOn 324 = .ok (.ireturn, 1) := by decide +kernel
theorem dX5_newCameraOn_0 : decode cX5_newCameraOn 0 = .ok (.aload_n 0, 1) := by decide +kernel
theorem dX5_newCameraOn_1 : decode cX5_newCameraOn 1 = .ok (.bipush 6, 2) := by decide +kernel
theorem dX5_newCameraOn_3 : decode cX5_newCameraOn 3 = .ok (.dup2, 1) := by decide +kernel
theorem dX5_newCameraOn_4 : decode cX5_newCameraOn 4 = .ok (.iaload, 1) := by decide +kernel
theorem dX5_newCameraOn_5 : decode cX5_newCameraOn 5 = .ok (.iconst 1, 1) := by decide +kernel
theorem dX5_newCameraOn_6 : decode cX5_newCameraOn 6 = .ok (.iadd, 1) := by decide +kernel
theorem dX5_newCameraOn_7 : decode cX5_newCameraOn 7 = .ok (.iastore, 1) := by decide +kernel
theorem dX5_newCameraOn_8 : decode cX5_newCameraOn 8 = .ok (.aload_n 0, 1) := by decide +kernel
theorem dX5_newCameraOn_9 : decode cX5_newCameraOn 9 = .ok (.bipush 7, 2) := by decide +kernel
theorem dX5_newCameraOn_11 : decode cX5_newCameraOn 11 = .ok (.iconst 0, 1) := by decide +kernel
theorem dX5_newCameraOn_12 : decode cX5_newCameraOn 12 = .ok (.iastore, 1) := by decide +kernel
theorem dX5_newCameraOn_13 : decode cX5_newCameraOn 13 = .ok (.aload_n 0, 1) := by decide +kernel
theorem dX5_newCameraOn_14 : decode cX5_newCameraOn 14 = .ok (.bipush 6, 2) := by decide +kernel
theorem dX5_newCameraOn_16 : decode cX5_newCameraOn 16 = .ok (.iaload, 1) := by decide +kernel
theorem dX5_newCameraOn_17 : decode cX5_newCameraOn 17 = .ok (.ireturn, 1) := by decide +kernel
theorem dX5_newSoundOn_0 : decode cX5_newSoundOn 0 = .ok (.aload_n 0, 1) := by decide +kernel
theorem dX5_newSoundOn_1 : decode cX5_newSoundOn 1 = .ok (.bipush 8, 2) := by decide +kernel
theorem dX5_newSoundOn_3 : decode cX5_newSoundOn 3 = .ok (.dup2, 1) := by decide +kernel
theorem dX5_newSoundOn_4 : decode cX5_newSoundOn 4 = .ok (.iaload, 1) := by decide +kernel
theorem dX5_newSoundOn_5 : decode cX5_newSoundOn 5 = .ok (.iconst 1, 1) := by decide +kernel
theorem dX5_newSoundOn_6 : decode cX5_newSoundOn 6 = .ok (.iadd, 1) := by decide +kernel
theorem dX5_newSoundOn_7 : decode cX5_newSoundOn 7 = .ok (.iastore, 1) := by decide +kernel
theorem dX5_newSoundOn_8 : decode cX5_newSoundOn 8 = .ok (.aload_n 0, 1) := by decide +kernel
theorem dX5_newSoundOn_9 : decode cX5_newSoundOn 9 = .ok (.bipush 9, 2) := by decide +kernel
theorem dX5_newSoundOn_11 : decode cX5_newSoundOn 11 = .ok (.iconst 0, 1) := by decide +kernel
theorem dX5_newSoundOn_12 : decode cX5_newSoundOn 12 = .ok (.iastore, 1) := by decide +kernel
theorem dX5_newSoundOn_13 : decode cX5_newSoundOn 13 = .ok (.aload_n 0, 1) := by decide +kernel
theorem dX5_newSoundOn_14 : decode cX5_newSoundOn 14 = .ok (.bipush 12, 2) := by decide +kernel
theorem dX5_newSoundOn_16 : decode cX5_newSoundOn 16 = .ok (.iconst 0, 1) := by decide +kernel
theorem dX5_newSoundOn_17 : decode cX5_newSoundOn 17 = .ok (.iastore, 1) := by decide +kernel
theorem dX5_newSoundOn_18 : decode cX5_newSoundOn 18 = .ok (.aload_n 0, 1) := by decide +kernel
theorem dX5_newSoundOn_19 : decode cX5_newSoundOn 19 = .ok (.bipush 8, 2) := by decide +kernel
theorem dX5_newSoundOn_21 : decode cX5_newSoundOn 21 = .ok (.iaload, 1) := by decide +kernel
theorem dX5_newSoundOn_22 : decode cX5_newSoundOn 22 = .ok (.ireturn, 1) := by decide +kernel
set_option maxRecDepth 20000 in
theorem ggX5_callOn_X5_next : GoodIn wsX5_callOn wsX5_next := goodIn_r _ [4, 5, 6, 3, 7, 8, 9, 10] (by decide +kernel) (by decide +kernel)
set_option maxRecDepth 20000 in
theorem gX5_callOn_X5_next : GoodIn wsX5_callOn (va_wsS RX5 72 yX5_next wsX5_next) := goodIn_app (goodIn_of _ (by decide +kernel)) ggX5_callOn_X5_next
theorem dX5_callOn_0 : decode cX5_callOn 0 = .ok (.aload_n 0, 1) := by decide +kernel
theorem dX5_callOn_1 : decode cX5_callOn 1 = .ok (.iconst 1, 1) := by decide +kernel
theorem dX5_callOn_2 : decode cX5_callOn 2 = .ok (.iload_n 1, 1) := by decide +kernel
theorem dX5_callOn_3 : decode cX5_callOn 3 = .ok (.iastore, 1) := by decide +kernel
theorem dX5_callOn_4 : decode cX5_callOn 4 = .ok (.aload_n 0, 1) := by decide +kernel
theorem dX5_callOn_5 : decode cX5_callOn 5 = .ok (.iconst 2, 1) := by decide +kernel
theorem dX5_callOn_6 : decode cX5_callOn 6 = .ok (.iload_n 2, 1) := by decide +kernel
theorem dX5_callOn_7 : decode cX5_callOn 7 = .ok (.iastore, 1) := by decide +kernel
theorem dX5_callOn_8 : decode cX5_callOn 8 = .ok (.aload_n 0, 1) := by decide +kernel
theorem dX5_callOn_9 : decode cX5_callOn 9 = .ok (.invokestatic 72, 3) := by decide +kernel
theorem dX5_callOn_12 : decode cX5_callOn 12 = .ok (.ireturn, 1) := by decide +kernel
set_option maxRecDepth 20000 in
theorem ggX5_boardOn_X5_next : GoodIn wsX5_boardOn wsX5_next := goodIn_r _ [4, 5, 6, 3, 7, 8, 9, 10] (by decide +kernel) (by decide +kernel)
set_option maxRecDepth 20000 in
theorem gX5_boardOn_X5_next : GoodIn wsX5_boardOn (va_wsS RX5 72 yX5_next wsX5_next) := goodIn_app (goodIn_of _ (by decide +kernel)) ggX5_boardOn_X5_next
theorem dX5_boardOn_0 : decode cX5_boardOn 0 = .ok (.aload_n 0, 1) := by decide +kernel
theorem dX5_boardOn_1 : decode cX5_boardOn 1 = .ok (.iconst 3, 1) := by decide +kernel
theorem dX5_boardOn_2 : decode cX5_boardOn 2 = .ok (.iload_n 1, 1) := by decide +kernel
theorem dX5_boardOn_3 : decode cX5_boardOn 3 = .ok (.iastore, 1) := by decide +kernel
theorem dX5_boardOn_4 : decode cX5_boardOn 4 = .ok (.aload_n 0, 1) := by decide +kernel
theorem dX5_boardOn_5 : decode cX5_boardOn 5 = .ok (.iconst 4, 1) := by decide +kernel
theorem dX5_boardOn_6 : decode cX5_boardOn 6 = .ok (.iload_n 2, 1) := by decide +kernel
theorem dX5_boardOn_7 : decode cX5_boardOn 7 = .ok (.iastore, 1) := by decide +kernel
theorem dX5_boardOn_8 : decode cX5_boardOn 8 = .ok (.aload_n 0, 1) := by decide +kernel
theorem dX5_boardOn_9 : decode cX5_boardOn 9 = .ok (.iconst 5, 1) := by decide +kernel
theorem dX5_boardOn_10 : decode cX5_boardOn 10 = .ok (.iload_n 3, 1) := by decide +kernel
theorem dX5_boardOn_11 : decode cX5_boardOn 11 = .ok (.iastore, 1) := by decide +kernel
theorem dX5_boardOn_12 : decode cX5_boardOn 12 = .ok (.iload_n 1, 1) := by decide +kernel
theorem dX5_boardOn_13 : decode cX5_boardOn 13 = .ok (.aload_n 0, 1) := by decide +kernel
theorem dX5_boardOn_14 : decode cX5_boardOn 14 = .ok (.iconst 1, 1) := by decide +kernel
theorem dX5_boardOn_15 : decode cX5_boardOn 15 = .ok (.iaload, 1) := by decide +kernel
theorem dX5_boardOn_16 : decode cX5_boardOn 16 = .ok (.if_icmp .ne 22, 3) := by decide +kernel
theorem dX5_boardOn_19 : decode cX5_boardOn 19 = .ok (.iload_n 2, 1) := by decide +kernel
theorem dX5_boardOn_20 : decode cX5_boardOn 20 = .ok (.aload_n 0, 1) := by decide +kernel
theorem dX5_boardOn_21 : decode cX5_boardOn 21 = .ok (.iconst 2, 1) := by decide +kernel
theorem dX5_boardOn_22 : decode cX5_boardOn 22 = .ok (.iaload, 1) := by decide +kernel
theorem dX5_boardOn_23 : decode cX5_boardOn 23 = .ok (.if_icmp .ne 15, 3) := by decide +kernel
theorem dX5_boardOn_26 : decode cX5_boardOn 26 = .ok (.iload_n 3, 1) := by decide +kernel
theorem dX5_boardOn_27 : decode cX5_boardOn 27 = .ok (.aload_n 0, 1) := by decide +kernel
theorem dX5_boardOn_28 : decode cX5_boardOn 28 = .ok (.invokestatic 72, 3) := by decide +kernel
theorem dX5_boardOn_31 : decode cX5_boardOn 31 = .ok (.if_icmp .ne 7, 3) := by decide +kernel
theorem dX5_boardOn_34 : decode cX5_boardOn 34 = .ok (.iconst 1, 1) := by decide +kernel
theorem dX5_boardOn_35 : decode cX5_boardOn 35 = .ok (.goto 4, 3) := by decide +kernel
theorem dX5_boardOn_38 : decode cX5_boardOn 38 = .ok (.iconst 0, 1) := by decide +kernel
theorem dX5_boardOn_39 : decode cX5_boardOn 39 = .ok (.ireturn, 1) := by decide +kernel
set_option maxRecDepth 20000 in
theorem ggX5_rightOn_X5_next : GoodIn wsX5_rightOn wsX5_next := goodIn_r _ [4, 5, 6, 3, 7, 8, 9, 10] (by decide +kernel) (by decide +kernel)
set_option maxRecDepth 20000 in
theorem gX5_rightOn_X5_next : GoodIn wsX5_rightOn (va_wsS RX5 72 yX5_next wsX5_next) := goodIn_app (goodIn_of _ (by decide +kernel)) ggX5_rightOn_X5_next
set_option maxRecDepth 20000 in
theorem ggX5_rightOn_X5_boardOn : GoodIn wsX5_rightOn wsX5_boardOn := goodIn_r _ [13, 1, 2, 3, 4, 5, 6, 7, 8, 9, 10] (by decide +kernel) (by decide +kernel)
set_option maxRecDepth 20000 in
theorem gX5_rightOn_X5_boardOn : GoodIn wsX5_rightOn (va_wsS RX5 75 yX5_boardOn wsX5_boardOn) := goodIn_app (goodIn_of _ (by decide +kernel)) ggX5_rightOn_X5_boardOn
theorem dX5_rightOn_0 : decode cX5_rightOn 0 = .ok (.aload_n 0, 1) := by decide +kernel
theorem dX5_rightOn_1 : decode cX5_rightOn 1 = .ok (.aload_n 0, 1) := by decide +kernel
theorem dX5_rightOn_2 : decode cX5_rightOn 2 = .ok (.iconst 1, 1) := by decide +kernel
theorem dX5_rightOn_3 : decode cX5_rightOn 3 = .ok (.iaload, 1) := by decide +kernel
theorem dX5_rightOn_4 : decode cX5_rightOn 4 = .ok (.aload_n 0, 1) := by decide +kernel
theorem dX5_rightOn_5 : decode cX5_rightOn 5 = .ok (.iconst 2, 1) := by decide +kernel
theorem dX5_rightOn_6 : decode cX5_rightOn 6 = .ok (.iaload, 1) := by decide +kernel
theorem dX5_rightOn_7 : decode cX5_rightOn 7 = .ok (.aload_n 0, 1) := by decide +kernel
theorem dX5_rightOn_8 : decode cX5_rightOn 8 = .ok (.invokestatic 72, 3) := by decide +kernel
theorem dX5_rightOn_11 : decode cX5_rightOn 11 = .ok (.invokestatic 75, 3) := by decide +kernel
theorem dX5_rightOn_14 : decode cX5_rightOn 14 = .ok (.pop, 1) := by decide +kernel
theorem dX5_rightOn_15 : decode cX5_rightOn 15 = .ok (.aload_n 0, 1) := by decide +kernel
theorem dX5_rightOn_16 : decode cX5_rightOn 16 = .ok (.iconst 5, 1) := by decide +kernel
theorem dX5_rightOn_17 : decode cX5_rightOn 17 = .ok (.iaload, 1) := by decide +kernel
theorem dX5_rightOn_18 : decode cX5_rightOn 18 = .ok (.ireturn, 1) := by decide +kernel
set_option maxRecDepth 20000 in
theorem ggX5_markOn_X5_lay : GoodIn wsX5_markOn wsX5_lay := goodIn_r _ [4] (by decide +kernel) (by decide +kernel)
set_option maxRecDepth 20000 in
theorem gX5_markOn_X5_lay : GoodIn wsX5_markOn (va_wsS RX5 68 yX5_lay wsX5_lay) := goodIn_app (goodIn_of _ (by decide +kernel)) ggX5_markOn_X5_lay
set_option maxRecDepth 20000 in
theorem ggX5_markOn_X5_sum : GoodIn wsX5_markOn wsX5_sum := goodIn_r _ [7, 8, 9, 3, 10] (by decide +kernel) (by decide +kernel)
set_option maxRecDepth 20000 in
theorem gX5_markOn_X5_sum : GoodIn wsX5_markOn (va_wsS RX5 78 yX5_sum wsX5_sum) := goodIn_app (goodIn_of _ (by decide +kernel)) ggX5_markOn_X5_sum
set_option maxRecDepth 20000 in
theorem ggX5_markOn_X5_wrong : GoodIn wsX5_markOn wsX5_wrong := goodIn_r _ [13, 14, 15, 3, 16, 8, 9, 10, 17, 18, 19, 20, 21, 22] (by decide +kernel) (by decide +kernel)
set_option maxRecDepth 20000 in
theorem gX5_markOn_X5_wrong : GoodIn wsX5_markOn (va_wsS RX5 81 yX5_wrong wsX5_wrong) := goodIn_app (goodIn_of _ (by decide +kernel)) ggX5_markOn_X5_wrong
theorem dX5_markOn_0 : decode cX5_markOn 0 = .ok (.aload_n 0, 1) := by decide +kernel
theorem dX5_markOn_1 : decode cX5_markOn 1 = .ok (.iload_n 1, 1) := by decide +kernel
theorem dX5_markOn_2 : decode cX5_markOn 2 = .ok (.iload_n 2, 1) := by decide +kernel
theorem dX5_markOn_3 : decode cX5_markOn 3 = .ok (.iload_n 3, 1) := by decide +kernel
theorem dX5_markOn_4 : decode cX5_markOn 4 = .ok (.ifCond .eq 7, 3) := by decide +kernel
theorem dX5_markOn_7 : decode cX5_markOn 7 = .ok (.iconst 1, 1) := by decide +kernel
theorem dX5_markOn_8 : decode cX5_markOn 8 = .ok (.goto 4, 3) := by decide +kernel
theorem dX5_markOn_11 : decode cX5_markOn 11 = .ok (.iconst 0, 1) := by decide +kernel
theorem dX5_markOn_12 : decode cX5_markOn 12 = .ok (.invokestatic 68, 3) := by decide +kernel
theorem dX5_markOn_15 : decode cX5_markOn 15 = .ok (.iload_n 2, 1) := by decide +kernel
theorem dX5_markOn_16 : decode cX5_markOn 16 = .ok (.bipush 13, 2) := by decide +kernel
theorem dX5_markOn_18 : decode cX5_markOn 18 = .ok (.if_icmp .ne 12, 3) := by decide +kernel
theorem dX5_markOn_21 : decode cX5_markOn 21 = .ok (.aload_n 0, 1) := by decide +kernel
theorem dX5_markOn_22 : decode cX5_markOn 22 = .ok (.bipush 13, 2) := by decide +kernel
theorem dX5_markOn_24 : decode cX5_markOn 24 = .ok (.invokestatic 78, 3) := by decide +kernel
theorem dX5_markOn_27 : decode cX5_markOn 27 = .ok (.goto 7, 3) := by decide +kernel
theorem dX5_markOn_30 : decode cX5_markOn 30 = .ok (.aload_n 0, 1) := by decide +kernel
theorem dX5_markOn_31 : decode cX5_markOn 31 = .ok (.invokestatic 81, 3) := by decide +kernel
theorem dX5_markOn_34 : decode cX5_markOn 34 = .ok (.ireturn, 1) := by decide +kernel
set_option maxRecDepth 20000 in
theorem ggX5_fixOn_X5_isRight : GoodIn wsX5_fixOn wsX5_isRight := goodIn_r _ [4, 5, 6, 3, 7, 8, 9, 10, 11, 12, 13] (by decide +kernel) (by decide +kernel)
set_option maxRecDepth 20000 in
theorem gX5_fixOn_X5_isRight : GoodIn wsX5_fixOn (va_wsS RX5 60 yX5_isRight wsX5_isRight) := goodIn_app (goodIn_of _ (by decide +kernel)) ggX5_fixOn_X5_isRight
set_option maxRecDepth 20000 in
theorem ggX5_fixOn_X5_of : GoodIn wsX5_fixOn wsX5_of := goodIn_r _ [7] (by decide +kernel) (by decide +kernel)
set_option maxRecDepth 20000 in
theorem gX5_fixOn_X5_of : GoodIn wsX5_fixOn (va_wsS RX5 48 yX5_of wsX5_of) := goodIn_app (goodIn_of _ (by decide +kernel)) ggX5_fixOn_X5_of
set_option maxRecDepth 20000 in
theorem ggX5_fixOn_X5_lay : GoodIn wsX5_fixOn wsX5_lay := goodIn_r _ [16] (by decide +kernel) (by decide +kernel)
set_option maxRecDepth 20000 in
theorem gX5_fixOn_X5_lay : GoodIn wsX5_fixOn (va_wsS RX5 68 yX5_lay wsX5_lay) := goodIn_app (goodIn_of _ (by decide +kernel)) ggX5_fixOn_X5_lay
set_option maxRecDepth 20000 in
theorem ggX5_fixOn_X5_numberOf : GoodIn wsX5_fixOn wsX5_numberOf := goodIn_r _ [10, 5, 6, 3, 7, 11, 12, 13] (by decide +kernel) (by decide +kernel)
set_option maxRecDepth 20000 in
theorem gX5_fixOn_X5_numberOf : GoodIn wsX5_fixOn (va_wsS RX5 56 yX5_numberOf wsX5_numberOf) := goodIn_app (goodIn_of _ (by decide +kernel)) ggX5_fixOn_X5_numberOf
theorem dX5_fixOn_0 : decode cX5_fixOn 0 = .ok (.aload_n 0, 1) := by decide +kernel
theorem dX5_fixOn_1 : decode cX5_fixOn 1 = .ok (.iload_n 1, 1) := by decide +kernel
theorem dX5_fixOn_2 : decode cX5_fixOn 2 = .ok (.invokestatic 60, 3) := by decide +kernel
theorem dX5_fixOn_5 : decode cX5_fixOn 5 = .ok (.ifCond .eq 7, 3) := by decide +kernel
theorem dX5_fixOn_8 : decode cX5_fixOn 8 = .ok (.iconst 0, 1) := by decide +kernel
theorem dX5_fixOn_9 : decode cX5_fixOn 9 = .ok (.goto 4, 3) := by decide +kernel
theorem dX5_fixOn_12 : decode cX5_fixOn 12 = .ok (.iconst 1, 1) := by decide +kernel
theorem dX5_fixOn_13 : decode cX5_fixOn 13 = .ok (.istore_n 2, 1) := by decide +kernel
theorem dX5_fixOn_14 : decode cX5_fixOn 14 = .ok (.aload_n 0, 1) := by decide +kernel
theorem dX5_fixOn_15 : decode cX5_fixOn 15 = .ok (.iload_n 1, 1) := by decide +kernel
theorem dX5_fixOn_16 : decode cX5_fixOn 16 = .ok (.iconst 2, 1) := by decide +kernel
theorem dX5_fixOn_17 : decode cX5_fixOn 17 = .ok (.aload_n 0, 1) := by decide +kernel
theorem dX5_fixOn_18 : decode cX5_fixOn 18 = .ok (.iload_n 1, 1) := by decide +kernel
theorem dX5_fixOn_19 : decode cX5_fixOn 19 = .ok (.iconst 0, 1) := by decide +kernel
theorem dX5_fixOn_20 : decode cX5_fixOn 20 = .ok (.invokestatic 48, 3) := by decide +kernel
theorem dX5_fixOn_23 : decode cX5_fixOn 23 = .ok (.invokestatic 68, 3) := by decide +kernel
theorem dX5_fixOn_26 : decode cX5_fixOn 26 = .ok (.aload_n 0, 1) := by decide +kernel
theorem dX5_fixOn_27 : decode cX5_fixOn 27 = .ok (.iload_n 1, 1) := by decide +kernel
theorem dX5_fixOn_28 : decode cX5_fixOn 28 = .ok (.iconst 3, 1) := by decide +kernel
theorem dX5_fixOn_29 : decode cX5_fixOn 29 = .ok (.aload_n 0, 1) := by decide +kernel
theorem dX5_fixOn_30 : decode cX5_fixOn 30 = .ok (.iload_n 1, 1) := by decide +kernel
theorem dX5_fixOn_31 : decode cX5_fixOn 31 = .ok (.iconst 1, 1) := by decide +kernel
theorem dX5_fixOn_32 : decode cX5_fixOn 32 = .ok (.invokestatic 48, 3) := by decide +kernel
theorem dX5_fixOn_35 : decode cX5_fixOn 35 = .ok (.invokestatic 68, 3) := by decide +kernel
theorem dX5_fixOn_38 : decode cX5_fixOn 38 = .ok (.aload_n 0, 1) := by decide +kernel
theorem dX5_fixOn_39 : decode cX5_fixOn 39 = .ok (.iload_n 1, 1) := by decide +kernel
theorem dX5_fixOn_40 : decode cX5_fixOn 40 = .ok (.iconst 4, 1) := by decide +kernel
theorem dX5_fixOn_41 : decode cX5_fixOn 41 = .ok (.aload_n 0, 1) := by decide +kernel
theorem dX5_fixOn_42 : decode cX5_fixOn 42 = .ok (.iload_n 1, 1) := by decide +kernel
theorem dX5_fixOn_43 : decode cX5_fixOn 43 = .ok (.invokestatic 56, 3) := by decide +kernel
theorem dX5_fixOn_46 : decode cX5_fixOn 46 = .ok (.invokestatic 68, 3) := by decide +kernel
theorem dX5_fixOn_49 : decode cX5_fixOn 49 = .ok (.iload_n 2, 1) := by decide +kernel
theorem dX5_fixOn_50 : decode cX5_fixOn 50 = .ok (.ireturn, 1) := by decide +kernel
set_option maxRecDepth 20000 in
theorem ggX5_isSetting_X5_in : GoodIn wsX5_isSetting wsX5_in := goodIn_r _ [8] (by decide +kernel) (by decide +kernel)
set_option maxRecDepth 20000 in
theorem gX5_isSetting_X5_in : GoodIn wsX5_isSetting (va_wsS RX5 40 yX5_in wsX5_in) := goodIn_app (goodIn_of _ (by decide +kernel)) ggX5_isSetting_X5_in
theorem dX5_isSetting_0 : decode cX5_isSetting 0 = .ok (.iload_n 0, 1) := by decide +kernel
theorem dX5_isSetting_1 : decode cX5_isSetting 1 = .ok (.i2l, 1) := by decide +kernel
theorem dX5_isSetting_2 : decode cX5_isSetting 2 = .ok (.lconst 0, 1) := by decide +kernel
theorem dX5_isSetting_3 : decode cX5_isSetting 3 = .ok (.ldc2_w 84, 3) := by decide +kernel
theorem dX5_isSetting_6 : decode cX5_isSetting 6 = .ok (.invokestatic 40, 3) := by decide +kernel
theorem dX5_isSetting_9 : decode cX5_isSetting 9 = .ok (.ifCond .eq 60, 3) := by decide +kernel
theorem dX5_isSetting_12 : decode cX5_isSetting 12 = .ok (.iload_n 1, 1) := by decide +kernel
theorem dX5_isSetting_13 : decode cX5_isSetting 13 = .ok (.i2l, 1) := by decide +kernel
theorem dX5_isSetting_14 : decode cX5_isSetting 14 = .ok (.iload_n 0, 1) := by decide +kernel
theorem dX5_isSetting_15 : decode cX5_isSetting 15 = .ok (.iconst 2, 1) := by decide +kernel
theorem dX5_isSetting_16 : decode cX5_isSetting 16 = .ok (.if_icmp .ge 9, 3) := by decide +kernel
theorem dX5_isSetting_19 : decode cX5_isSetting 19 = .ok (.ldc2_w 86, 3) := by decide +kernel
theorem dX5_isSetting_22 : decode cX5_isSetting 22 = .ok (.goto 4, 3) := by decide +kernel
theorem dX5_isSetting_25 : decode cX5_isSetting 25 = .ok (.lconst 0, 1) := by decide +kernel
theorem dX5_isSetting_26 : decode cX5_isSetting 26 = .ok (.iload_n 0, 1) := by decide +kernel
theorem dX5_isSetting_27 : decode cX5_isSetting 27 = .ok (.ifCond .ne 9, 3) := by decide +kernel
theorem dX5_isSetting_30 : decode cX5_isSetting 30 = .ok (.ldc2_w 88, 3) := by decide +kernel
theorem dX5_isSetting_33 : decode cX5_isSetting 33 = .ok (.goto 26, 3) := by decide +kernel
theorem dX5_isSetting_36 : decode cX5_isSetting 36 = .ok (.iload_n 0, 1) := by decide +kernel
theorem dX5_isSetting_37 : decode cX5_isSetting 37 = .ok (.iconst 1, 1) := by decide +kernel
theorem dX5_isSetting_38 : decode cX5_isSetting 38 = .ok (.if_icmp .ne 9, 3) := by decide +kernel
theorem dX5_isSetting_41 : decode cX5_isSetting 41 = .ok (.ldc2_w 90, 3) := by decide +kernel
theorem dX5_isSetting_44 : decode cX5_isSetting 44 = .ok (.goto 15, 3) := by decide +kernel
theorem dX5_isSetting_47 : decode cX5_isSetting 47 = .ok (.iload_n 0, 1) := by decide +kernel
theorem dX5_isSetting_48 : decode cX5_isSetting 48 = .ok (.iconst 2, 1) := by decide +kernel
theorem dX5_isSetting_49 : decode cX5_isSetting 49 = .ok (.if_icmp .ne 9, 3) := by decide +kernel
theorem dX5_isSetting_52 : decode cX5_isSetting 52 = .ok (.ldc2_w 86, 3) := by decide +kernel
theorem dX5_isSetting_55 : decode cX5_isSetting 55 = .ok (.goto 4, 3) := by decide +kernel
theorem dX5_isSetting_58 : decode cX5_isSetting 58 = .ok (.lconst 1, 1) := by decide +kernel
theorem dX5_isSetting_59 : decode cX5_isSetting 59 = .ok (.invokestatic 40, 3) := by decide +kernel
theorem dX5_isSetting_62 : decode cX5_isSetting 62 = .ok (.ifCond .eq 7, 3) := by decide +kernel
theorem dX5_isSetting_65 : decode cX5_isSetting 65 = .ok (.iconst 1, 1) := by decide +kernel
theorem dX5_isSetting_66 : decode cX5_isSetting 66 = .ok (.goto 4, 3) := by decide +kernel
theorem dX5_isSetting_69 : decode cX5_isSetting 69 = .ok (.iconst 0, 1) := by decide +kernel
theorem dX5_isSetting_70 : decode cX5_isSetting 70 = .ok (.ireturn, 1) := by decide +kernel
set_option maxRecDepth 20000 in
theorem ggX5_overlap_X5_of : GoodIn wsX5_overlap wsX5_of := goodIn_r _ [4] (by decide +kernel) (by decide +kernel)
set_option maxRecDepth 20000 in
theorem gX5_overlap_X5_of : GoodIn wsX5_overlap (va_wsS RX5 48 yX5_of wsX5_of) := goodIn_app (goodIn_of _ (by decide +kernel)) ggX5_overlap_X5_of
theorem dX5_overlap_0 : decode cX5_overlap 0 = .ok (.aload_n 0, 1) := by decide +kernel
theorem dX5_overlap_1 : decode cX5_overlap 1 = .ok (.iload_n 1, 1) := by decide +kernel
theorem dX5_overlap_2 : decode cX5_overlap 2 = .ok (.bipush 11, 2) := by decide +kernel
theorem dX5_overlap_4 : decode cX5_overlap 4 = .ok (.invokestatic 48, 3) := by decide +kernel
theorem dX5_overlap_7 : decode cX5_overlap 7 = .ok (.istore 4, 2) := by decide +kernel
theorem dX5_overlap_9 : decode cX5_overlap 9 = .ok (.iload 4, 2) := by decide +kernel
theorem dX5_overlap_11 : decode cX5_overlap 11 = .ok (.aload_n 0, 1) := by decide +kernel
theorem dX5_overlap_12 : decode cX5_overlap 12 = .ok (.iload_n 1, 1) := by decide +kernel
theorem dX5_overlap_13 : decode cX5_overlap 13 = .ok (.bipush 7, 2) := by decide +kernel
theorem dX5_overlap_15 : decode cX5_overlap 15 = .ok (.invokestatic 48, 3) := by decide +kernel
theorem dX5_overlap_18 : decode cX5_overlap 18 = .ok (.iadd, 1) := by decide +kernel
theorem dX5_overlap_19 : decode cX5_overlap 19 = .ok (.istore 5, 2) := by decide +kernel
theorem dX5_overlap_21 : decode cX5_overlap 21 = .ok (.aload_n 0, 1) := by decide +kernel
theorem dX5_overlap_22 : decode cX5_overlap 22 = .ok (.iload_n 2, 1) := by decide +kernel
theorem dX5_overlap_23 : decode cX5_overlap 23 = .ok (.bipush 12, 2) := by decide +kernel
theorem dX5_overlap_25 : decode cX5_overlap 25 = .ok (.invokestatic 48, 3) := by decide +kernel
theorem dX5_overlap_28 : decode cX5_overlap 28 = .ok (.iload_n 3, 1) := by decide +kernel
theorem dX5_overlap_29 : decode cX5_overlap 29 = .ok (.iadd, 1) := by decide +kernel
theorem dX5_overlap_30 : decode cX5_overlap 30 = .ok (.istore 6, 2) := by decide +kernel
theorem dX5_overlap_32 : decode cX5_overlap 32 = .ok (.iload 6, 2) := by decide +kernel
theorem dX5_overlap_34 : decode cX5_overlap 34 = .ok (.aload_n 0, 1) := by decide +kernel
theorem dX5_overlap_35 : decode cX5_overlap 35 = .ok (.iload_n 2, 1) := by decide +kernel
theorem dX5_overlap_36 : decode cX5_overlap 36 = .ok (.bipush 7, 2) := by decide +kernel
theorem dX5_overlap_38 : decode cX5_overlap 38 = .ok (.invokestatic 48, 3) := by decide +kernel
theorem dX5_overlap_41 : decode cX5_overlap 41 = .ok (.iadd, 1) := by decide +kernel
theorem dX5_overlap_42 : decode cX5_overlap 42 = .ok (.istore 7, 2) := by decide +kernel
theorem dX5_overlap_44 : decode cX5_overlap 44 = .ok (.iload 4, 2) := by decide +kernel
theorem dX5_overlap_46 : decode cX5_overlap 46 = .ok (.iload 6, 2) := by decide +kernel
theorem dX5_overlap_48 : decode cX5_overlap 48 = .ok (.if_icmp .le 8, 3) := by decide +kernel
theorem dX5_overlap_51 : decode cX5_overlap 51 = .ok (.iload 4, 2) := by decide +kernel
theorem dX5_overlap_53 : decode cX5_overlap 53 = .ok (.goto 5, 3) := by decide +kernel
theorem dX5_overlap_56 : decode cX5_overlap 56 = .ok (.iload 6, 2) := by decide +kernel
theorem dX5_overlap_58 : decode cX5_overlap 58 = .ok (.istore 8, 2) := by decide +kernel
theorem dX5_overlap_60 : decode cX5_overlap 60 = .ok (.iload 5, 2) := by decide +kernel
theorem dX5_overlap_62 : decode cX5_overlap 62 = .ok (.iload 7, 2) := by decide +kernel
theorem dX5_overlap_64 : decode cX5_overlap 64 = .ok (.if_icmp .ge 8, 3) := by decide +kernel
theorem dX5_overlap_67 : decode cX5_overlap 67 = .ok (.iload 5, 2) := by decide +kernel
theorem dX5_overlap_69 : decode cX5_overlap 69 = .ok (.goto 5, 3) := by decide +kernel
theorem dX5_overlap_72 : decode cX5_overlap 72 = .ok (.iload 7, 2) := by decide +kernel
theorem dX5_overlap_74 : decode cX5_overlap 74 = .ok (.istore 9, 2) := by decide +kernel
theorem dX5_overlap_76 : decode cX5_overlap 76 = .ok (.iload 9, 2) := by decide +kernel
theorem dX5_overlap_78 : decode cX5_overlap 78 = .ok (.iload 8, 2) := by decide +kernel
theorem dX5_overlap_80 : decode cX5_overlap 80 = .ok (.if_icmp .le 11, 3) := by decide +kernel
theorem dX5_overlap_83 : decode cX5_overlap 83 = .ok (.iload 9, 2) := by decide +kernel
theorem dX5_overlap_85 : decode cX5_overlap 85 = .ok (.iload 8, 2) := by decide +kernel
theorem dX5_overlap_87 : decode cX5_overlap 87 = .ok (.isub, 1) := by decide +kernel
theorem dX5_overlap_88 : decode cX5_overlap 88 = .ok (.goto 4, 3) := by decide +kernel
theorem dX5_overlap_91 : decode cX5_overlap 91 = .ok (.iconst 0, 1) := by decide +kernel
theorem dX5_overlap_92 : decode cX5_overlap 92 = .ok (.ireturn, 1) := by decide +kernel
set_option maxRecDepth 20000 in
theorem ggX5_syncedBy_X5_of : GoodIn wsX5_syncedBy wsX5_of := goodIn_r _ [4] (by decide +kernel) (by decide +kernel)
set_option maxRecDepth 20000 in
theorem gX5_syncedBy_X5_of : GoodIn wsX5_syncedBy (va_wsS RX5 48 yX5_of wsX5_of) := goodIn_app (goodIn_of _ (by decide +kernel)) ggX5_syncedBy_X5_of
set_option maxRecDepth 20000 in
theorem ggX5_syncedBy_X5_overlap : GoodIn wsX5_syncedBy wsX5_overlap := goodIn_r _ [7, 1, 2, 3, 4] (by decide +kernel) (by decide +kernel)
set_option maxRecDepth 20000 in
theorem gX5_syncedBy_X5_overlap : GoodIn wsX5_syncedBy (va_wsS RX5 92 yX5_overlap wsX5_overlap) := goodIn_app (goodIn_of _ (by decide +kernel)) ggX5_syncedBy_X5_overlap
theorem dX5_syncedBy_0 : decode cX5_syncedBy 0 = .ok (.iconst (-1), 1) := by decide +kernel
theorem dX5_syncedBy_1 : decode cX5_syncedBy 1 = .ok (.istore_n 3, 1) := by decide +kernel
theorem dX5_syncedBy_2 : decode cX5_syncedBy 2 = .ok (.iconst 0, 1) := by decide +kernel
theorem dX5_syncedBy_3 : decode cX5_syncedBy 3 = .ok (.istore 4, 2) := by decide +kernel
theorem dX5_syncedBy_5 : decode cX5_syncedBy 5 = .ok (.iconst 0, 1) := by decide +kernel
theorem dX5_syncedBy_6 : decode cX5_syncedBy 6 = .ok (.istore 5, 2) := by decide +kernel
theorem dX5_syncedBy_8 : decode cX5_syncedBy 8 = .ok (.iload 5, 2) := by decide +kernel
theorem dX5_syncedBy_10 : decode cX5_syncedBy 10 = .ok (.aload_n 0, 1) := by decide +kernel
theorem dX5_syncedBy_11 : decode cX5_syncedBy 11 = .ok (.iconst 0, 1) := by decide +kernel
theorem dX5_syncedBy_12 : decode cX5_syncedBy 12 = .ok (.iaload, 1) := by decide +kernel
theorem dX5_syncedBy_13 : decode cX5_syncedBy 13 = .ok (.if_icmp .ge 65, 3) := by decide +kernel
theorem dX5_syncedBy_16 : decode cX5_syncedBy 16 = .ok (.aload_n 0, 1) := by decide +kernel
theorem dX5_syncedBy_17 : decode cX5_syncedBy 17 = .ok (.iload 5, 2) := by decide +kernel
theorem dX5_syncedBy_19 : decode cX5_syncedBy 19 = .ok (.bipush 8, 2) := by decide +kernel
theorem dX5_syncedBy_21 : decode cX5_syncedBy 21 = .ok (.invokestatic 48, 3) := by decide +kernel
theorem dX5_syncedBy_24 : decode cX5_syncedBy 24 = .ok (.iconst (-1), 1) := by decide +kernel
theorem dX5_syncedBy_25 : decode cX5_syncedBy 25 = .ok (.if_icmp .ne 7, 3) := by decide +kernel
theorem dX5_syncedBy_28 : decode cX5_syncedBy 28 = .ok (.iconst 0, 1) := by decide +kernel
theorem dX5_syncedBy_29 : decode cX5_syncedBy 29 = .ok (.goto 11, 3) := by decide +kernel
theorem dX5_syncedBy_32 : decode cX5_syncedBy 32 = .ok (.aload_n 0, 1) := by decide +kernel
theorem dX5_syncedBy_33 : decode cX5_syncedBy 33 = .ok (.iload_n 1, 1) := by decide +kernel
theorem dX5_syncedBy_34 : decode cX5_syncedBy 34 = .ok (.iload 5, 2) := by decide +kernel
theorem dX5_syncedBy_36 : decode cX5_syncedBy 36 = .ok (.iload_n 2, 1) := by decide +kernel
theorem dX5_syncedBy_37 : decode cX5_syncedBy 37 = .ok (.invokestatic 92, 3) := by decide +kernel
theorem dX5_syncedBy_40 : decode cX5_syncedBy 40 = .ok (.istore 6, 2) := by decide +kernel
theorem dX5_syncedBy_42 : decode cX5_syncedBy 42 = .ok (.iload 6, 2) := by decide +kernel
theorem dX5_syncedBy_44 : decode cX5_syncedBy 44 = .ok (.iload 4, 2) := by decide +kernel
theorem dX5_syncedBy_46 : decode cX5_syncedBy 46 = .ok (.if_icmp .le 8, 3) := by decide +kernel
theorem dX5_syncedBy_49 : decode cX5_syncedBy 49 = .ok (.iload 5, 2) := by decide +kernel
theorem dX5_syncedBy_51 : decode cX5_syncedBy 51 = .ok (.goto 4, 3) := by decide +kernel
theorem dX5_syncedBy_54 : decode cX5_syncedBy 54 = .ok (.iload_n 3, 1) := by decide +kernel
theorem dX5_syncedBy_55 : decode cX5_syncedBy 55 = .ok (.istore_n 3, 1) := by decide +kernel
theorem dX5_syncedBy_56 : decode cX5_syncedBy 56 = .ok (.iload 6, 2) := by decide +kernel
theorem dX5_syncedBy_58 : decode cX5_syncedBy 58 = .ok (.iload 4, 2) := by decide +kernel
theorem dX5_syncedBy_60 : decode cX5_syncedBy 60 = .ok (.if_icmp .le 8, 3) := by decide +kernel
theorem dX5_syncedBy_63 : decode cX5_syncedBy 63 = .ok (.iload 6, 2) := by decide +kernel
theorem dX5_syncedBy_65 : decode cX5_syncedBy 65 = .ok (.goto 5, 3) := by decide +kernel
theorem dX5_syncedBy_68 : decode cX5_syncedBy 68 = .ok (.iload 4, 2) := by decide +kernel
theorem dX5_syncedBy_70 : decode cX5_syncedBy 70 = .ok (.istore 4, 2) := by decide +kernel
theorem dX5_syncedBy_72 : decode cX5_syncedBy 72 = .ok (.iinc 5 1, 3) := by decide +kernel
theorem dX5_syncedBy_75 : decode cX5_syncedBy 75 = .ok (.goto (-67), 3) := by decide +kernel
theorem dX5_syncedBy_78 : decode cX5_syncedBy 78 = .ok (.iload_n 3, 1) := by decide +kernel
theorem dX5_syncedBy_79 : decode cX5_syncedBy 79 = .ok (.ireturn, 1) := by decide +kernel
set_option maxRecDepth 20000 in
theorem ggX5_astray_X5_syncedBy : GoodIn wsX5_astray wsX5_syncedBy := goodIn_r _ [4, 5, 6, 3, 7, 8, 9, 10] (by decide +kernel) (by decide +kernel)
set_option maxRecDepth 20000 in
theorem gX5_astray_X5_syncedBy : GoodIn wsX5_astray (va_wsS RX5 95 yX5_syncedBy wsX5_syncedBy) := goodIn_app (goodIn_of _ (by decide +kernel)) ggX5_astray_X5_syncedBy
set_option maxRecDepth 20000 in
theorem ggX5_astray_X5_of : GoodIn wsX5_astray wsX5_of := goodIn_r _ [7] (by decide +kernel) (by decide +kernel)
set_option maxRecDepth 20000 in
theorem gX5_astray_X5_of : GoodIn wsX5_astray (va_wsS RX5 48 yX5_of wsX5_of) := goodIn_app (goodIn_of _ (by decide +kernel)) ggX5_astray_X5_of
theorem dX5_astray_0 : decode cX5_astray 0 = .ok (.iconst 0, 1) := by decide +kernel
theorem dX5_astray_1 : decode cX5_astray 1 = .ok (.istore_n 1, 1) := by decide +kernel
theorem dX5_astray_2 : decode cX5_astray 2 = .ok (.iconst 0, 1) := by decide +kernel
theorem dX5_astray_3 : decode cX5_astray 3 = .ok (.istore_n 2, 1) := by decide +kernel
theorem dX5_astray_4 : decode cX5_astray 4 = .ok (.iload_n 2, 1) := by decide +kernel
theorem dX5_astray_5 : decode cX5_astray 5 = .ok (.aload_n 0, 1) := by decide +kernel
theorem dX5_astray_6 : decode cX5_astray 6 = .ok (.iconst 0, 1) := by decide +kernel
theorem dX5_astray_7 : decode cX5_astray 7 = .ok (.iaload, 1) := by decide +kernel
theorem dX5_astray_8 : decode cX5_astray 8 = .ok (.if_icmp .ge 42, 3) := by decide +kernel
theorem dX5_astray_11 : decode cX5_astray 11 = .ok (.iload_n 1, 1) := by decide +kernel
theorem dX5_astray_12 : decode cX5_astray 12 = .ok (.aload_n 0, 1) := by decide +kernel
theorem dX5_astray_13 : decode cX5_astray 13 = .ok (.iload_n 2, 1) := by decide +kernel
theorem dX5_astray_14 : decode cX5_astray 14 = .ok (.iconst 0, 1) := by decide +kernel
theorem dX5_astray_15 : decode cX5_astray 15 = .ok (.invokestatic 95, 3) := by decide +kernel
theorem dX5_astray_18 : decode cX5_astray 18 = .ok (.aload_n 0, 1) := by decide +kernel
theorem dX5_astray_19 : decode cX5_astray 19 = .ok (.iload_n 2, 1) := by decide +kernel
theorem dX5_astray_20 : decode cX5_astray 20 = .ok (.bipush 8, 2) := by decide +kernel
theorem dX5_astray_22 : decode cX5_astray 22 = .ok (.invokestatic 48, 3) := by decide +kernel
theorem dX5_astray_25 : decode cX5_astray 25 = .ok (.iconst (-1), 1) := by decide +kernel
theorem dX5_astray_26 : decode cX5_astray 26 = .ok (.if_icmp .ne 7, 3) := by decide +kernel
theorem dX5_astray_29 : decode cX5_astray 29 = .ok (.iconst (-1), 1) := by decide +kernel
theorem dX5_astray_30 : decode cX5_astray 30 = .ok (.goto 4, 3) := by decide +kernel
theorem dX5_astray_33 : decode cX5_astray 33 = .ok (.iload_n 2, 1) := by decide +kernel
theorem dX5_astray_34 : decode cX5_astray 34 = .ok (.if_icmp .ne 7, 3) := by decide +kernel
theorem dX5_astray_37 : decode cX5_astray 37 = .ok (.iconst 0, 1) := by decide +kernel
theorem dX5_astray_38 : decode cX5_astray 38 = .ok (.goto 4, 3) := by decide +kernel
theorem dX5_astray_41 : decode cX5_astray 41 = .ok (.iconst 1, 1) := by decide +kernel
theorem dX5_astray_42 : decode cX5_astray 42 = .ok (.iadd, 1) := by decide +kernel
theorem dX5_astray_43 : decode cX5_astray 43 = .ok (.istore_n 1, 1) := by decide +kernel
theorem dX5_astray_44 : decode cX5_astray 44 = .ok (.iinc 2 1, 3) := by decide +kernel
theorem dX5_astray_47 : decode cX5_astray 47 = .ok (.goto (-43), 3) := by decide +kernel
theorem dX5_astray_50 : decode cX5_astray 50 = .ok (.iload_n 1, 1) := by decide +kernel
theorem dX5_astray_51 : decode cX5_astray 51 = .ok (.ireturn, 1) := by decide +kernel
set_option maxRecDepth 20000 in
theorem ggX5_append_X5_in : GoodIn wsX5_append wsX5_in := goodIn_r _ [7] (by decide +kernel) (by decide +kernel)
set_option maxRecDepth 20000 in
theorem gX5_append_X5_in : GoodIn wsX5_append (va_wsS RX5 40 yX5_in wsX5_in) := goodIn_app (goodIn_of _ (by decide +kernel)) ggX5_append_X5_in
set_option maxRecDepth 20000 in
theorem ggX5_append_X5_refused : GoodIn wsX5_append wsX5_refused := goodIn_r _ [11, 12, 13, 14, 15, 16, 17, 18, 19, 20, 21, 22, 23, 24, 25] (by decide +kernel) (by decide +kernel)
set_option maxRecDepth 20000 in
theorem gX5_append_X5_refused : GoodIn wsX5_append (wsV RX5 103 RX5 yX5_refused wsX5_refused) := goodIn_app (goodIn_of _ (by decide +kernel)) ggX5_append_X5_refused
theorem dX5_append_0 : decode cX5_append 0 = .ok (.aload_n 0, 1) := by decide +kernel
theorem dX5_append_1 : decode cX5_append 1 = .ok (.iload_n 1, 1) := by decide +kernel
theorem dX5_append_2 : decode cX5_append 2 = .ok (.i2l, 1) := by decide +kernel
theorem dX5_append_3 : decode cX5_append 3 = .ok (.lconst 0, 1) := by decide +kernel
theorem dX5_append_4 : decode cX5_append 4 = .ok (.ldc2_w 98, 3) := by decide +kernel
theorem dX5_append_7 : decode cX5_append 7 = .ok (.invokestatic 40, 3) := by decide +kernel
theorem dX5_append_10 : decode cX5_append 10 = .ok (.ifCond .ne 7, 3) := by decide +kernel
theorem dX5_append_13 : decode cX5_append 13 = .ok (.iconst 1, 1) := by decide +kernel
theorem dX5_append_14 : decode cX5_append 14 = .ok (.goto 17, 3) := by decide +kernel
theorem dX5_append_17 : decode cX5_append 17 = .ok (.aload_n 0, 1) := by decide +kernel
theorem dX5_append_18 : decode cX5_append 18 = .ok (.getfield 100, 3) := by decide +kernel
theorem dX5_append_21 : decode cX5_append 21 = .ok (.bipush 120, 2) := by decide +kernel
theorem dX5_append_23 : decode cX5_append 23 = .ok (.if_icmp .ne 7, 3) := by decide +kernel
theorem dX5_append_26 : decode cX5_append 26 = .ok (.iconst 2, 1) := by decide +kernel
theorem dX5_append_27 : decode cX5_append 27 = .ok (.goto 4, 3) := by decide +kernel
theorem dX5_append_30 : decode cX5_append 30 = .ok (.iconst 0, 1) := by decide +kernel
theorem dX5_append_31 : decode cX5_append 31 = .ok (.invokevirtual 103, 3) := by decide +kernel
theorem dX5_append_34 : decode cX5_append 34 = .ok (.ifCond .eq 5, 3) := by decide +kernel
theorem dX5_append_37 : decode cX5_append 37 = .ok (.iconst 0, 1) := by decide +kernel
theorem dX5_append_38 : decode cX5_append 38 = .ok (.ireturn, 1) := by decide +kernel
theorem dX5_append_39 : decode cX5_append 39 = .ok (.aload_n 0, 1) := by decide +kernel
theorem dX5_append_40 : decode cX5_append 40 = .ok (.getfield 7, 3) := by decide +kernel
theorem dX5_append_43 : decode cX5_append 43 = .ok (.aload_n 0, 1) := by decide +kernel
theorem dX5_append_44 : decode cX5_append 44 = .ok (.getfield 100, 3) := by decide +kernel
theorem dX5_append_47 : decode cX5_append 47 = .ok (.iload_n 1, 1) := by decide +kernel
theorem dX5_append_48 : decode cX5_append 48 = .ok (.iastore, 1) := by decide +kernel
theorem dX5_append_49 : decode cX5_append 49 = .ok (.aload_n 0, 1) := by decide +kernel
theorem dX5_append_50 : decode cX5_append 50 = .ok (.dup, 1) := by decide +kernel
theorem dX5_append_51 : decode cX5_append 51 = .ok (.getfield 100, 3) := by decide +kernel
theorem dX5_append_54 : decode cX5_append 54 = .ok (.iconst 1, 1) := by decide +kernel
theorem dX5_append_55 : decode cX5_append 55 = .ok (.iadd, 1) := by decide +kernel
theorem dX5_append_56 : decode cX5_append 56 = .ok (.putfield 100, 3) := by decide +kernel
theorem dX5_append_59 : decode cX5_append 59 = .ok (.aload_n 0, 1) := by decide +kernel
theorem dX5_append_60 : decode cX5_append 60 = .ok (.getfield 100, 3) := by decide +kernel
theorem dX5_append_63 : decode cX5_append 63 = .ok (.ireturn, 1) := by decide +kernel
theorem dX5_clearText_0 : decode cX5_clearText 0 = .ok (.aload_n 0, 1) := by decide +kernel
theorem dX5_clearText_1 : decode cX5_clearText 1 = .ok (.iconst 0, 1) := by decide +kernel
theorem dX5_clearText_2 : decode cX5_clearText 2 = .ok (.putfield 36, 3) := by decide +kernel
theorem dX5_clearText_5 : decode cX5_clearText 5 = .ok (.aload_n 0, 1) := by decide +kernel
theorem dX5_clearText_6 : decode cX5_clearText 6 = .ok (.getfield 100, 3) := by decide +kernel
theorem dX5_clearText_9 : decode cX5_clearText 9 = .ok (.istore_n 1, 1) := by decide +kernel
theorem dX5_clearText_10 : decode cX5_clearText 10 = .ok (.aload_n 0, 1) := by decide +kernel
theorem dX5_clearText_11 : decode cX5_clearText 11 = .ok (.iconst 0, 1) := by decide +kernel
theorem dX5_clearText_12 : decode cX5_clearText 12 = .ok (.putfield 100, 3) := by decide +kernel
theorem dX5_clearText_15 : decode cX5_clearText 15 = .ok (.iload_n 1, 1) := by decide +kernel
theorem dX5_clearText_16 : decode cX5_clearText 16 = .ok (.ireturn, 1) := by decide +kernel
set_option maxRecDepth 20000 in
theorem ggX5_figures_X5_in : GoodIn wsX5_figures wsX5_in := goodIn_r _ [8] (by decide +kernel) (by decide +kernel)
set_option maxRecDepth 20000 in
theorem gX5_figures_X5_in : GoodIn wsX5_figures (va_wsS RX5 40 yX5_in wsX5_in) := goodIn_app (goodIn_of _ (by decide +kernel)) ggX5_figures_X5_in
theorem dX5_figures_0 : decode cX5_figures 0 = .ok (.iconst 0, 1) := by decide +kernel
theorem dX5_figures_1 : decode cX5_figures 1 = .ok (.istore 5, 2) := by decide +kernel
theorem dX5_figures_3 : decode cX5_figures 3 = .ok (.iload_n 2, 1) := by decide +kernel
theorem dX5_figures_4 : decode cX5_figures 4 = .ok (.iconst 3, 1) := by decide +kernel
theorem dX5_figures_5 : decode cX5_figures 5 = .ok (.if_icmp .ne 8, 3) := by decide +kernel
theorem dX5_figures_8 : decode cX5_figures 8 = .ok (.bipush 100, 2) := by decide +kernel
theorem dX5_figures_10 : decode cX5_figures 10 = .ok (.goto 5, 3) := by decide +kernel
theorem dX5_figures_13 : decode cX5_figures 13 = .ok (.bipush 10, 2) := by decide +kernel
theorem dX5_figures_15 : decode cX5_figures 15 = .ok (.istore 6, 2) := by decide +kernel
theorem dX5_figures_17 : decode cX5_figures 17 = .ok (.iload 6, 2) := by decide +kernel
theorem dX5_figures_19 : decode cX5_figures 19 = .ok (.ifCond .le 104, 3) := by decide +kernel
theorem dX5_figures_22 : decode cX5_figures 22 = .ok (.iload_n 1, 1) := by decide +kernel
theorem dX5_figures_23 : decode cX5_figures 23 = .ok (.iconst (-1), 1) := by decide +kernel
theorem dX5_figures_24 : decode cX5_figures 24 = .ok (.if_icmp .eq 99, 3) := by decide +kernel
theorem dX5_figures_27 : decode cX5_figures 27 = .ok (.aload_n 0, 1) := by decide +kernel
theorem dX5_figures_28 : decode cX5_figures 28 = .ok (.getfield 107, 3) := by decide +kernel
theorem dX5_figures_31 : decode cX5_figures 31 = .ok (.aload_n 0, 1) := by decide +kernel
theorem dX5_figures_32 : decode cX5_figures 32 = .ok (.getfield 100, 3) := by decide +kernel
theorem dX5_figures_35 : decode cX5_figures 35 = .ok (.if_icmp .ge 18, 3) := by decide +kernel
theorem dX5_figures_38 : decode cX5_figures 38 = .ok (.aload_n 0, 1) := by decide +kernel
theorem dX5_figures_39 : decode cX5_figures 39 = .ok (.getfield 7, 3) := by decide +kernel
theorem dX5_figures_42 : decode cX5_figures 42 = .ok (.aload_n 0, 1) := by decide +kernel
theorem dX5_figures_43 : decode cX5_figures 43 = .ok (.getfield 107, 3) := by decide +kernel
theorem dX5_figures_46 : decode cX5_figures 46 = .ok (.iaload, 1) := by decide +kernel
theorem dX5_figures_47 : decode cX5_figures 47 = .ok (.bipush 48, 2) := by decide +kernel
theorem dX5_figures_49 : decode cX5_figures 49 = .ok (.isub, 1) := by decide +kernel
theorem dX5_figures_50 : decode cX5_figures 50 = .ok (.goto 4, 3) := by decide +kernel
theorem dX5_figures_53 : decode cX5_figures 53 = .ok (.iconst (-1), 1) := by decide +kernel
theorem dX5_figures_54 : decode cX5_figures 54 = .ok (.istore 7, 2) := by decide +kernel
theorem dX5_figures_56 : decode cX5_figures 56 = .ok (.iload 5, 2) := by decide +kernel
theorem dX5_figures_58 : decode cX5_figures 58 = .ok (.iload 7, 2) := by decide +kernel
theorem dX5_figures_60 : decode cX5_figures 60 = .ok (.iload 6, 2) := by decide +kernel
theorem dX5_figures_62 : decode cX5_figures 62 = .ok (.imul, 1) := by decide +kernel
theorem dX5_figures_63 : decode cX5_figures 63 = .ok (.iadd, 1) := by decide +kernel
theorem dX5_figures_64 : decode cX5_figures 64 = .ok (.istore 8, 2) := by decide +kernel
theorem dX5_figures_66 : decode cX5_figures 66 = .ok (.iload 7, 2) := by decide +kernel
theorem dX5_figures_68 : decode cX5_figures 68 = .ok (.i2l, 1) := by decide +kernel
theorem dX5_figures_69 : decode cX5_figures 69 = .ok (.lconst 0, 1) := by decide +kernel
theorem dX5_figures_70 : decode cX5_figures 70 = .ok (.ldc2_w 110, 3) := by decide +kernel
theorem dX5_figures_73 : decode cX5_figures 73 = .ok (.invokestatic 40, 3) := by decide +kernel
theorem dX5_figures_76 : decode cX5_figures 76 = .ok (.ifCond .eq 21, 3) := by decide +kernel
theorem dX5_figures_79 : decode cX5_figures 79 = .ok (.iload 8, 2) := by decide +kernel
theorem dX5_figures_81 : decode cX5_figures 81 = .ok (.iload 4, 2) := by decide +kernel
theorem dX5_figures_83 : decode cX5_figures 83 = .ok (.if_icmp .gt 14, 3) := by decide +kernel
theorem dX5_figures_86 : decode cX5_figures 86 = .ok (.iload 8, 2) := by decide +kernel
theorem dX5_figures_88 : decode cX5_figures 88 = .ok (.iload 6, 2) := by decide +kernel
theorem dX5_figures_90 : decode cX5_figures 90 = .ok (.iadd, 1) := by decide +kernel
theorem dX5_figures_91 : decode cX5_figures 91 = .ok (.iconst 1, 1) := by decide +kernel
theorem dX5_figures_92 : decode cX5_figures 92 = .ok (.isub, 1) := by decide +kernel
theorem dX5_figures_93 : decode cX5_figures 93 = .ok (.iload_n 3, 1) := by decide +kernel
theorem dX5_figures_94 : decode cX5_figures 94 = .ok (.if_icmp .ge 5, 3) := by decide +kernel
theorem dX5_figures_97 : decode cX5_figures 97 = .ok (.iconst (-1), 1) := by decide +kernel
theorem dX5_figures_98 : decode cX5_figures 98 = .ok (.ireturn, 1) := by decide +kernel
theorem dX5_figures_99 : decode cX5_figures 99 = .ok (.iload 8, 2) := by decide +kernel
theorem dX5_figures_101 : decode cX5_figures 101 = .ok (.istore 5, 2) := by decide +kernel
theorem dX5_figures_103 : decode cX5_figures 103 = .ok (.aload_n 0, 1) := by decide +kernel
theorem dX5_figures_104 : decode cX5_figures 104 = .ok (.dup, 1) := by decide +kernel
theorem dX5_figures_105 : decode cX5_figures 105 = .ok (.getfield 107, 3) := by decide +kernel
theorem dX5_figures_108 : decode cX5_figures 108 = .ok (.iconst 1, 1) := by decide +kernel
theorem dX5_figures_109 : decode cX5_figures 109 = .ok (.iadd, 1) := by decide +kernel
theorem dX5_figures_110 : decode cX5_figures 110 = .ok (.putfield 107, 3) := by decide +kernel
theorem dX5_figures_113 : decode cX5_figures 113 = .ok (.iload 6, 2) := by decide +kernel
theorem dX5_figures_115 : decode cX5_figures 115 = .ok (.bipush 10, 2) := by decide +kernel
theorem dX5_figures_117 : decode cX5_figures 117 = .ok (.idiv, 1) := by decide +kernel
theorem dX5_figures_118 : decode cX5_figures 118 = .ok (.istore 6, 2) := by decide +kernel
theorem dX5_figures_120 : decode cX5_figures 120 = .ok (.goto (-103), 3) := by decide +kernel
theorem dX5_figures_123 : decode cX5_figures 123 = .ok (.iload_n 1, 1) := by decide +kernel
theorem dX5_figures_124 : decode cX5_figures 124 = .ok (.iconst (-1), 1) := by decide +kernel
theorem dX5_figures_125 : decode cX5_figures 125 = .ok (.if_icmp .ne 7, 3) := by decide +kernel
theorem dX5_figures_128 : decode cX5_figures 128 = .ok (.iconst (-1), 1) := by decide +kernel
theorem dX5_figures_129 : decode cX5_figures 129 = .ok (.goto 5, 3) := by decide +kernel
theorem dX5_figures_132 : decode cX5_figures 132 = .ok (.iload 5, 2) := by decide +kernel
theorem dX5_figures_134 : decode cX5_figures 134 = .ok (.ireturn, 1) := by decide +kernel
set_option maxRecDepth 20000 in
theorem ggX5_letter_X5_in : GoodIn wsX5_letter wsX5_in := goodIn_r _ [8] (by decide +kernel) (by decide +kernel)
set_option maxRecDepth 20000 in
theorem gX5_letter_X5_in : GoodIn wsX5_letter (va_wsS RX5 40 yX5_in wsX5_in) := goodIn_app (goodIn_of _ (by decide +kernel)) ggX5_letter_X5_in
theorem dX5_letter_0 : decode cX5_letter 0 = .ok (.aload_n 0, 1) := by decide +kernel
theorem dX5_letter_1 : decode cX5_letter 1 = .ok (.getfield 107, 3) := by decide +kernel
theorem dX5_letter_4 : decode cX5_letter 4 = .ok (.aload_n 0, 1) := by decide +kernel
theorem dX5_letter_5 : decode cX5_letter 5 = .ok (.getfield 100, 3) := by decide +kernel
theorem dX5_letter_8 : decode cX5_letter 8 = .ok (.if_icmp .ge 18, 3) := by decide +kernel
theorem dX5_letter_11 : decode cX5_letter 11 = .ok (.aload_n 0, 1) := by decide +kernel
theorem dX5_letter_12 : decode cX5_letter 12 = .ok (.getfield 7, 3) := by decide +kernel
theorem dX5_letter_15 : decode cX5_letter 15 = .ok (.aload_n 0, 1) := by decide +kernel
theorem dX5_letter_16 : decode cX5_letter 16 = .ok (.getfield 107, 3) := by decide +kernel
theorem dX5_letter_19 : decode cX5_letter 19 = .ok (.iaload, 1) := by decide +kernel
theorem dX5_letter_20 : decode cX5_letter 20 = .ok (.bipush 65, 2) := by decide +kernel
theorem dX5_letter_22 : decode cX5_letter 22 = .ok (.isub, 1) := by decide +kernel
theorem dX5_letter_23 : decode cX5_letter 23 = .ok (.goto 4, 3) := by decide +kernel
theorem dX5_letter_26 : decode cX5_letter 26 = .ok (.iconst (-1), 1) := by decide +kernel
theorem dX5_letter_27 : decode cX5_letter 27 = .ok (.istore_n 2, 1) := by decide +kernel
theorem dX5_letter_28 : decode cX5_letter 28 = .ok (.iload_n 1, 1) := by decide +kernel
theorem dX5_letter_29 : decode cX5_letter 29 = .ok (.iconst (-1), 1) := by decide +kernel
theorem dX5_letter_30 : decode cX5_letter 30 = .ok (.if_icmp .eq 15, 3) := by decide +kernel
theorem dX5_letter_33 : decode cX5_letter 33 = .ok (.iload_n 2, 1) := by decide +kernel
theorem dX5_letter_34 : decode cX5_letter 34 = .ok (.i2l, 1) := by decide +kernel
theorem dX5_letter_35 : decode cX5_letter 35 = .ok (.lconst 0, 1) := by decide +kernel
theorem dX5_letter_36 : decode cX5_letter 36 = .ok (.ldc2_w 46, 3) := by decide +kernel
theorem dX5_letter_39 : decode cX5_letter 39 = .ok (.invokestatic 40, 3) := by decide +kernel
theorem dX5_letter_42 : decode cX5_letter 42 = .ok (.ifCond .ne 5, 3) := by decide +kernel
theorem dX5_letter_45 : decode cX5_letter 45 = .ok (.iconst (-1), 1) := by decide +kernel
theorem dX5_letter_46 : decode cX5_letter 46 = .ok (.ireturn, 1) := by decide +kernel
theorem dX5_letter_47 : decode cX5_letter 47 = .ok (.aload_n 0, 1) := by decide +kernel
theorem dX5_letter_48 : decode cX5_letter 48 = .ok (.dup, 1) := by decide +kernel
theorem dX5_letter_49 : decode cX5_letter 49 = .ok (.getfield 107, 3) := by decide +kernel
theorem dX5_letter_52 : decode cX5_letter 52 = .ok (.iconst 1, 1) := by decide +kernel
theorem dX5_letter_53 : decode cX5_letter 53 = .ok (.iadd, 1) := by decide +kernel
theorem dX5_letter_54 : decode cX5_letter 54 = .ok (.putfield 107, 3) := by decide +kernel
theorem dX5_letter_57 : decode cX5_letter 57 = .ok (.iload_n 2, 1) := by decide +kernel
theorem dX5_letter_58 : decode cX5_letter 58 = .ok (.ireturn, 1) := by decide +kernel
theorem dX5_done_0 : decode cX5_done 0 = .ok (.aload_n 0, 1) := by decide +kernel
theorem dX5_done_1 : decode cX5_done 1 = .ok (.dup, 1) := by decide +kernel
theorem dX5_done_2 : decode cX5_done 2 = .ok (.getfield 112, 3) := by decide +kernel
theorem dX5_done_5 : decode cX5_done 5 = .ok (.iload_n 1, 1) := by decide +kernel
theorem dX5_done_6 : decode cX5_done 6 = .ok (.ifCond .eq 7, 3) := by decide +kernel
theorem dX5_done_9 : decode cX5_done 9 = .ok (.iconst 0, 1) := by decide +kernel
theorem dX5_done_10 : decode cX5_done 10 = .ok (.goto 4, 3) := by decide +kernel
theorem dX5_done_13 : decode cX5_done 13 = .ok (.iconst 1, 1) := by decide +kernel
theorem dX5_done_14 : decode cX5_done 14 = .ok (.iadd, 1) := by decide +kernel
theorem dX5_done_15 : decode cX5_done 15 = .ok (.putfield 112, 3) := by decide +kernel
theorem dX5_done_18 : decode cX5_done 18 = .ok (.iconst 1, 1) := by decide +kernel
theorem dX5_done_19 : decode cX5_done 19 = .ok (.ireturn, 1) := by decide +kernel
set_option maxRecDepth 20000 in
theorem ggX5_readCommand_X5_figures : GoodIn wsX5_readCommand wsX5_figures := goodIn_r _ [7, 2, 8, 1, 9, 10, 11, 6, 12, 77, 78, 79, 80, 81, 82, 83, 84, 85, 86, 87, 88, 89] (by decide +kernel) (by decide +kernel)
set_option maxRecDepth 20000 in
theorem gX5_readCommand_X5_figures : GoodIn wsX5_readCommand (wsV RX5 115 RX5 yX5_figures wsX5_figures) := goodIn_app (goodIn_of _ (by decide +kernel)) ggX5_readCommand_X5_figures
set_option maxRecDepth 20000 in
theorem ggX5_readCommand_X5_letter : GoodIn wsX5_readCommand wsX5_letter := goodIn_r _ [16, 2, 8, 1, 17, 10, 11, 6, 12, 77, 78, 79, 80, 81, 82, 83, 84, 85, 86, 87, 88, 89] (by decide +kernel) (by decide +kernel)
set_option maxRecDepth 20000 in
theorem gX5_readCommand_X5_letter : GoodIn wsX5_readCommand (wsV RX5 119 RX5 yX5_letter wsX5_letter) := goodIn_app (goodIn_of _ (by decide +kernel)) ggX5_readCommand_X5_letter
set_option maxRecDepth 20000 in
theorem ggX5_readCommand_X5_callOn : GoodIn wsX5_readCommand wsX5_callOn := goodIn_r _ [20, 21, 22, 6, 23, 24, 25, 26, 27, 28, 29] (by decide +kernel) (by decide +kernel)
set_option maxRecDepth 20000 in
theorem gX5_readCommand_X5_callOn : GoodIn wsX5_readCommand (va_wsS RX5 123 yX5_callOn wsX5_callOn) := goodIn_app (goodIn_of _ (by decide +kernel)) ggX5_readCommand_X5_callOn
set_option maxRecDepth 20000 in
theorem ggX5_readCommand_X5_done : GoodIn wsX5_readCommand wsX5_done := goodIn_r _ [33, 34, 77, 78, 79, 80, 81, 82, 83, 84, 85, 86, 87, 88, 89] (by decide +kernel) (by decide +kernel)
set_option maxRecDepth 20000 in
theorem gX5_readCommand_X5_done : GoodIn wsX5_readCommand (wsV RX5 126 RX5 yX5_done wsX5_done) := goodIn_app (goodIn_of _ (by decide +kernel)) ggX5_readCommand_X5_done
set_option maxRecDepth 20000 in
theorem ggX5_readCommand_X5_boardOn : GoodIn wsX5_readCommand wsX5_boardOn := goodIn_r _ [37, 21, 22, 6, 23, 24, 25, 26, 27, 28, 29] (by decide +kernel) (by decide +kernel)
set_option maxRecDepth 20000 in
theorem gX5_readCommand_X5_boardOn : GoodIn wsX5_readCommand (va_wsS RX5 75 yX5_boardOn wsX5_boardOn) := goodIn_app (goodIn_of _ (by decide +kernel)) ggX5_readCommand_X5_boardOn
set_option maxRecDepth 20000 in
theorem ggX5_readCommand_X5_rightOn : GoodIn wsX5_readCommand wsX5_rightOn := goodIn_r _ [40, 21, 22, 6, 23, 24, 25, 26, 27, 28, 29, 35, 36, 37] (by decide +kernel) (by decide +kernel)
set_option maxRecDepth 20000 in
theorem gX5_readCommand_X5_rightOn : GoodIn wsX5_readCommand (va_wsS RX5 130 yX5_rightOn wsX5_rightOn) := goodIn_app (goodIn_of _ (by decide +kernel)) ggX5_readCommand_X5_rightOn
set_option maxRecDepth 20000 in
theorem ggX5_readCommand_X5_canShoot : GoodIn wsX5_readCommand wsX5_canShoot := goodIn_r _ [43, 44, 45, 6, 46] (by decide +kernel) (by decide +kernel)
set_option maxRecDepth 20000 in
theorem gX5_readCommand_X5_canShoot : GoodIn wsX5_readCommand (va_wsS RX5 133 yX5_canShoot wsX5_canShoot) := goodIn_app (goodIn_of _ (by decide +kernel)) ggX5_readCommand_X5_canShoot
set_option maxRecDepth 20000 in
theorem ggX5_readCommand_X5_shootOn : GoodIn wsX5_readCommand wsX5_shootOn := goodIn_r _ [49, 44, 45, 6, 46, 50, 51, 52] (by decide +kernel) (by decide +kernel)
set_option maxRecDepth 20000 in
theorem gX5_readCommand_X5_shootOn : GoodIn wsX5_readCommand (va_wsS RX5 137 yX5_shootOn wsX5_shootOn) := goodIn_app (goodIn_of _ (by decide +kernel)) ggX5_readCommand_X5_shootOn
set_option maxRecDepth 20000 in
theorem ggX5_readCommand_X5_newCameraOn : GoodIn wsX5_readCommand wsX5_newCameraOn := goodIn_r _ [55] (by decide +kernel) (by decide +kernel)
set_option maxRecDepth 20000 in
theorem gX5_readCommand_X5_newCameraOn : GoodIn wsX5_readCommand (va_wsS RX5 141 yX5_newCameraOn wsX5_newCameraOn) := goodIn_app (goodIn_of _ (by decide +kernel)) ggX5_readCommand_X5_newCameraOn
set_option maxRecDepth 20000 in
theorem ggX5_readCommand_X5_newSoundOn : GoodIn wsX5_readCommand wsX5_newSoundOn := goodIn_r _ [58] (by decide +kernel) (by decide +kernel)
set_option maxRecDepth 20000 in
theorem gX5_readCommand_X5_newSoundOn : GoodIn wsX5_readCommand (va_wsS RX5 144 yX5_newSoundOn wsX5_newSoundOn) := goodIn_app (goodIn_of _ (by decide +kernel)) ggX5_readCommand_X5_newSoundOn
set_option maxRecDepth 20000 in
theorem ggX5_readCommand_X5_isTake : GoodIn wsX5_readCommand wsX5_isTake := goodIn_r _ [61, 10, 11, 6, 12] (by decide +kernel) (by decide +kernel)
set_option maxRecDepth 20000 in
theorem gX5_readCommand_X5_isTake : GoodIn wsX5_readCommand (va_wsS RX5 147 yX5_isTake wsX5_isTake) := goodIn_app (goodIn_of _ (by decide +kernel)) ggX5_readCommand_X5_isTake
set_option maxRecDepth 20000 in
theorem ggX5_readCommand_X5_markOn : GoodIn wsX5_readCommand wsX5_markOn := goodIn_r _ [64, 50, 51, 6, 52, 65, 66, 67, 27, 28, 29, 68, 69, 70, 71, 72, 73, 74, 75, 76, 24, 25, 26] (by decide +kernel) (by decide +kernel)
set_option maxRecDepth 20000 in
theorem gX5_readCommand_X5_markOn : GoodIn wsX5_readCommand (va_wsS RX5 150 yX5_markOn wsX5_markOn) := goodIn_app (goodIn_of _ (by decide +kernel)) ggX5_readCommand_X5_markOn
theorem dX5_readCommand_0 : decode cX5_readCommand 0 = .ok (.aload_n 0, 1) := by decide +kernel
theorem dX5_readCommand_1 : decode cX5_readCommand 1 = .ok (.getfield 7, 3) := by decide +kernel
theorem dX5_readCommand_4 : decode cX5_readCommand 4 = .ok (.aload_n 0, 1) := by decide +kernel
theorem dX5_readCommand_5 : decode cX5_readCommand 5 = .ok (.getfield 107, 3) := by decide +kernel
theorem dX5_readCommand_8 : decode cX5_readCommand 8 = .ok (.iaload, 1) := by decide +kernel
theorem dX5_readCommand_9 : decode cX5_readCommand 9 = .ok (.istore_n 2, 1) := by decide +kernel
theorem dX5_readCommand_10 : decode cX5_readCommand 10 = .ok (.aload_n 0, 1) := by decide +kernel
theorem dX5_readCommand_11 : decode cX5_readCommand 11 = .ok (.dup, 1) := by decide +kernel
theorem dX5_readCommand_12 : decode cX5_readCommand 12 = .ok (.getfield 107, 3) := by decide +kernel
theorem dX5_readCommand_15 : decode cX5_readCommand 15 = .ok (.iconst 1, 1) := by decide +kernel
theorem dX5_readCommand_16 : decode cX5_readCommand 16 = .ok (.iadd, 1) := by decide +kernel
theorem dX5_readCommand_17 : decode cX5_readCommand 17 = .ok (.putfield 107, 3) := by decide +kernel
theorem dX5_readCommand_20 : decode cX5_readCommand 20 = .ok (.iload_n 2, 1) := by decide +kernel
theorem dX5_readCommand_21 : decode cX5_readCommand 21 = .ok (.tableswitch 422 98 118 #[150, 99, 422, 422, 325, 422, 422, 422, 422, 422, 422, 232, 291, 325, 422, 422, 215, 308, 232, 422, 388], 99) := by decide +kernel
theorem dX5_readCommand_120 : decode cX5_readCommand 120 = .ok (.aload_n 0, 1) := by decide +kernel
theorem dX5_readCommand_121 : decode cX5_readCommand 121 = .ok (.iconst 0, 1) := by decide +kernel
theorem dX5_readCommand_122 : decode cX5_readCommand 122 = .ok (.iconst 2, 1) := by decide +kernel
theorem dX5_readCommand_123 : decode cX5_readCommand 123 = .ok (.iconst 1, 1) := by decide +kernel
theorem dX5_readCommand_124 : decode cX5_readCommand 124 = .ok (.bipush 99, 2) := by decide +kernel
theorem dX5_readCommand_126 : decode cX5_readCommand 126 = .ok (.invokevirtual 115, 3) := by decide +kernel
theorem dX5_readCommand_129 : decode cX5_readCommand 129 = .ok (.istore_n 3, 1) := by decide +kernel
theorem dX5_readCommand_130 : decode cX5_readCommand 130 = .ok (.aload_n 0, 1) := by decide +kernel
theorem dX5_readCommand_131 : decode cX5_readCommand 131 = .ok (.iload_n 3, 1) := by decide +kernel
theorem dX5_readCommand_132 : decode cX5_readCommand 132 = .ok (.invokevirtual 119, 3) := by decide +kernel
theorem dX5_readCommand_135 : decode cX5_readCommand 135 = .ok (.istore 4, 2) := by decide +kernel
theorem dX5_readCommand_137 : decode cX5_readCommand 137 = .ok (.iload 4, 2) := by decide +kernel
theorem dX5_readCommand_139 : decode cX5_readCommand 139 = .ok (.iconst (-1), 1) := by decide +kernel
theorem dX5_readCommand_140 : decode cX5_readCommand 140 = .ok (.if_icmp .eq 29, 3) := by decide +kernel
theorem dX5_readCommand_143 : decode cX5_readCommand 143 = .ok (.aload_n 0, 1) := by decide +kernel
theorem dX5_readCommand_144 : decode cX5_readCommand 144 = .ok (.aload_n 1, 1) := by decide +kernel
theorem dX5_readCommand_145 : decode cX5_readCommand 145 = .ok (.iload_n 3, 1) := by decide +kernel
theorem dX5_readCommand_146 : decode cX5_readCommand 146 = .ok (.iload 4, 2) := by decide +kernel
theorem dX5_readCommand_148 : decode cX5_readCommand 148 = .ok (.invokestatic 123, 3) := by decide +kernel
theorem dX5_readCommand_151 : decode cX5_readCommand 151 = .ok (.ifCond .le 7, 3) := by decide +kernel
theorem dX5_readCommand_154 : decode cX5_readCommand 154 = .ok (.iconst 1, 1) := by decide +kernel
theorem dX5_readCommand_155 : decode cX5_readCommand 155 = .ok (.goto 4, 3) := by decide +kernel
theorem dX5_readCommand_158 : decode cX5_readCommand 158 = .ok (.iconst 0, 1) := by decide +kernel
theorem dX5_readCommand_159 : decode cX5_readCommand 159 = .ok (.invokevirtual 126, 3) := by decide +kernel
theorem dX5_readCommand_162 : decode cX5_readCommand 162 = .ok (.ifCond .eq 7, 3) := by decide +kernel
theorem dX5_readCommand_165 : decode cX5_readCommand 165 = .ok (.iconst 1, 1) := by decide +kernel
theorem dX5_readCommand_166 : decode cX5_readCommand 166 = .ok (.goto 4, 3) := by decide +kernel
theorem dX5_readCommand_169 : decode cX5_readCommand 169 = .ok (.iconst 0, 1) := by decide +kernel
theorem dX5_readCommand_170 : decode cX5_readCommand 170 = .ok (.ireturn, 1) := by decide +kernel
theorem dX5_readCommand_171 : decode cX5_readCommand 171 = .ok (.aload_n 0, 1) := by decide +kernel
theorem dX5_readCommand_172 : decode cX5_readCommand 172 = .ok (.iconst 0, 1) := by decide +kernel
theorem dX5_readCommand_173 : decode cX5_readCommand 173 = .ok (.iconst 2, 1) := by decide +kernel
theorem dX5_readCommand_174 : decode cX5_readCommand 174 = .ok (.iconst 1, 1) := by decide +kernel
theorem dX5_readCommand_175 : decode cX5_readCommand 175 = .ok (.bipush 99, 2) := by decide +kernel
theorem dX5_readCommand_177 : decode cX5_readCommand 177 = .ok (.invokevirtual 115, 3) := by decide +kernel
theorem dX5_readCommand_180 : decode cX5_readCommand 180 = .ok (.istore_n 3, 1) := by decide +kernel
theorem dX5_readCommand_181 : decode cX5_readCommand 181 = .ok (.aload_n 0, 1) := by decide +kernel
theorem dX5_readCommand_182 : decode cX5_readCommand 182 = .ok (.iload_n 3, 1) := by decide +kernel
theorem dX5_readCommand_183 : decode cX5_readCommand 183 = .ok (.invokevirtual 119, 3) := by decide +kernel
theorem dX5_readCommand_186 : decode cX5_readCommand 186 = .ok (.istore 4, 2) := by decide +kernel
theorem dX5_readCommand_188 : decode cX5_readCommand 188 = .ok (.aload_n 0, 1) := by decide +kernel
theorem dX5_readCommand_189 : decode cX5_readCommand 189 = .ok (.iload 4, 2) := by decide +kernel
theorem dX5_readCommand_191 : decode cX5_readCommand 191 = .ok (.iconst 2, 1) := by decide +kernel
theorem dX5_readCommand_192 : decode cX5_readCommand 192 = .ok (.iconst 1, 1) := by decide +kernel
theorem dX5_readCommand_193 : decode cX5_readCommand 193 = .ok (.bipush 99, 2) := by decide +kernel
theorem dX5_readCommand_195 : decode cX5_readCommand 195 = .ok (.invokevirtual 115, 3) := by decide +kernel
theorem dX5_readCommand_198 : decode cX5_readCommand 198 = .ok (.istore 5, 2) := by decide +kernel
theorem dX5_readCommand_200 : decode cX5_readCommand 200 = .ok (.iload 5, 2) := by decide +kernel
theorem dX5_readCommand_202 : decode cX5_readCommand 202 = .ok (.iconst (-1), 1) := by decide +kernel
theorem dX5_readCommand_203 : decode cX5_readCommand 203 = .ok (.if_icmp .eq 31, 3) := by decide +kernel
theorem dX5_readCommand_206 : decode cX5_readCommand 206 = .ok (.aload_n 0, 1) := by decide +kernel
theorem dX5_readCommand_207 : decode cX5_readCommand 207 = .ok (.aload_n 1, 1) := by decide +kernel
theorem dX5_readCommand_208 : decode cX5_readCommand 208 = .ok (.iload_n 3, 1) := by decide +kernel
theorem dX5_readCommand_209 : decode cX5_readCommand 209 = .ok (.iload 4, 2) := by decide +kernel
theorem dX5_readCommand_211 : decode cX5_readCommand 211 = .ok (.iload 5, 2) := by decide +kernel
theorem dX5_readCommand_213 : decode cX5_readCommand 213 = .ok (.invokestatic 75, 3) := by decide +kernel
theorem dX5_readCommand_216 : decode cX5_readCommand 216 = .ok (.ifCond .lt 7, 3) := by decide +kernel
theorem dX5_readCommand_219 : decode cX5_readCommand 219 = .ok (.iconst 1, 1) := by decide +kernel
theorem dX5_readCommand_220 : decode cX5_readCommand 220 = .ok (.goto 4, 3) := by decide +kernel
theorem dX5_readCommand_223 : decode cX5_readCommand 223 = .ok (.iconst 0, 1) := by decide +kernel
theorem dX5_readCommand_224 : decode cX5_readCommand 224 = .ok (.invokevirtual 126, 3) := by decide +kernel
theorem dX5_readCommand_227 : decode cX5_readCommand 227 = .ok (.ifCond .eq 7, 3) := by decide +kernel
theorem dX5_readCommand_230 : decode cX5_readCommand 230 = .ok (.iconst 1, 1) := by decide +kernel
theorem dX5_readCommand_231 : decode cX5_readCommand 231 = .ok (.goto 4, 3) := by decide +kernel
theorem dX5_readCommand_234 : decode cX5_readCommand 234 = .ok (.iconst 0, 1) := by decide +kernel
theorem dX5_readCommand_235 : decode cX5_readCommand 235 = .ok (.ireturn, 1) := by decide +kernel
theorem dX5_readCommand_236 : decode cX5_readCommand 236 = .ok (.aload_n 0, 1) := by decide +kernel
theorem dX5_readCommand_237 : decode cX5_readCommand 237 = .ok (.aload_n 1, 1) := by decide +kernel
theorem dX5_readCommand_238 : decode cX5_readCommand 238 = .ok (.invokestatic 130, 3) := by decide +kernel
theorem dX5_readCommand_241 : decode cX5_readCommand 241 = .ok (.ifCond .le 7, 3) := by decide +kernel
theorem dX5_readCommand_244 : decode cX5_readCommand 244 = .ok (.iconst 1, 1) := by decide +kernel
theorem dX5_readCommand_245 : decode cX5_readCommand 245 = .ok (.goto 4, 3) := by decide +kernel
theorem dX5_readCommand_248 : decode cX5_readCommand 248 = .ok (.iconst 0, 1) := by decide +kernel
theorem dX5_readCommand_249 : decode cX5_readCommand 249 = .ok (.invokevirtual 126, 3) := by decide +kernel
theorem dX5_readCommand_252 : decode cX5_readCommand 252 = .ok (.ireturn, 1) := by decide +kernel
theorem dX5_readCommand_253 : decode cX5_readCommand 253 = .ok (.aload_n 0, 1) := by decide +kernel
theorem dX5_readCommand_254 : decode cX5_readCommand 254 = .ok (.iconst 0, 1) := by decide +kernel
theorem dX5_readCommand_255 : decode cX5_readCommand 255 = .ok (.iconst 3, 1) := by decide +kernel
theorem dX5_readCommand_256 : decode cX5_readCommand 256 = .ok (.iconst 1, 1) := by decide +kernel
theorem dX5_readCommand_257 : decode cX5_readCommand 257 = .ok (.bipush 120, 2) := by decide +kernel
theorem dX5_readCommand_259 : decode cX5_readCommand 259 = .ok (.invokevirtual 115, 3) := by decide +kernel
theorem dX5_readCommand_262 : decode cX5_readCommand 262 = .ok (.istore_n 3, 1) := by decide +kernel
theorem dX5_readCommand_263 : decode cX5_readCommand 263 = .ok (.iload_n 3, 1) := by decide +kernel
theorem dX5_readCommand_264 : decode cX5_readCommand 264 = .ok (.iconst (-1), 1) := by decide +kernel
theorem dX5_readCommand_265 : decode cX5_readCommand 265 = .ok (.if_icmp .eq 45, 3) := by decide +kernel
theorem dX5_readCommand_268 : decode cX5_readCommand 268 = .ok (.aload_n 0, 1) := by decide +kernel
theorem dX5_readCommand_269 : decode cX5_readCommand 269 = .ok (.aload_n 1, 1) := by decide +kernel
theorem dX5_readCommand_270 : decode cX5_readCommand 270 = .ok (.invokestatic 133, 3) := by decide +kernel
theorem dX5_readCommand_273 : decode cX5_readCommand 273 = .ok (.ifCond .eq 26, 3) := by decide +kernel
theorem dX5_readCommand_276 : decode cX5_readCommand 276 = .ok (.aload_n 1, 1) := by decide +kernel
theorem dX5_readCommand_277 : decode cX5_readCommand 277 = .ok (.iload_n 3, 1) := by decide +kernel
theorem dX5_readCommand_278 : decode cX5_readCommand 278 = .ok (.iload_n 2, 1) := by decide +kernel
theorem dX5_readCommand_279 : decode cX5_readCommand 279 = .ok (.bipush 116, 2) := by decide +kernel
theorem dX5_readCommand_281 : decode cX5_readCommand 281 = .ok (.if_icmp .ne 7, 3) := by decide +kernel
theorem dX5_readCommand_284 : decode cX5_readCommand 284 = .ok (.iconst 1, 1) := by decide +kernel
theorem dX5_readCommand_285 : decode cX5_readCommand 285 = .ok (.goto 4, 3) := by decide +kernel
theorem dX5_readCommand_288 : decode cX5_readCommand 288 = .ok (.iconst 0, 1) := by decide +kernel
theorem dX5_readCommand_289 : decode cX5_readCommand 289 = .ok (.invokestatic 137, 3) := by decide +kernel
theorem dX5_readCommand_292 : decode cX5_readCommand 292 = .ok (.ifCond .le 7, 3) := by decide +kernel
theorem dX5_readCommand_295 : decode cX5_readCommand 295 = .ok (.iconst 1, 1) := by decide +kernel
theorem dX5_readCommand_296 : decode cX5_readCommand 296 = .ok (.goto 4, 3) := by decide +kernel
theorem dX5_readCommand_299 : decode cX5_readCommand 299 = .ok (.iconst 0, 1) := by decide +kernel
theorem dX5_readCommand_300 : decode cX5_readCommand 300 = .ok (.invokevirtual 126, 3) := by decide +kernel
theorem dX5_readCommand_303 : decode cX5_readCommand 303 = .ok (.ifCond .eq 7, 3) := by decide +kernel
theorem dX5_readCommand_306 : decode cX5_readCommand 306 = .ok (.iconst 1, 1) := by decide +kernel
theorem dX5_readCommand_307 : decode cX5_readCommand 307 = .ok (.goto 4, 3) := by decide +kernel
theorem dX5_readCommand_310 : decode cX5_readCommand 310 = .ok (.iconst 0, 1) := by decide +kernel
theorem dX5_readCommand_311 : decode cX5_readCommand 311 = .ok (.ireturn, 1) := by decide +kernel
theorem dX5_readCommand_312 : decode cX5_readCommand 312 = .ok (.aload_n 0, 1) := by decide +kernel
theorem dX5_readCommand_313 : decode cX5_readCommand 313 = .ok (.aload_n 1, 1) := by decide +kernel
theorem dX5_readCommand_314 : decode cX5_readCommand 314 = .ok (.invokestatic 141, 3) := by decide +kernel
theorem dX5_readCommand_317 : decode cX5_readCommand 317 = .ok (.ifCond .le 7, 3) := by decide +kernel
theorem dX5_readCommand_320 : decode cX5_readCommand 320 = .ok (.iconst 1, 1) := by decide +kernel
theorem dX5_readCommand_321 : decode cX5_readCommand 321 = .ok (.goto 4, 3) := by decide +kernel
theorem dX5_readCommand_324 : decode cX5_readCommand 324 = .ok (.iconst 0, 1) := by decide +kernel
theorem dX5_readCommand_325 : decode cX5_readCommand 325 = .ok (.invokevirtual 126, 3) := by decide +kernel
theorem dX5_readCommand_328 : decode cX5_readCommand 328 = .ok (.ireturn, 1) := by decide +kernel
theorem dX5_readCommand_329 : decode cX5_readCommand 329 = .ok (.aload_n 0, 1) := by decide +kernel
theorem dX5_readCommand_330 : decode cX5_readCommand 330 = .ok (.aload_n 1, 1) := by decide +kernel
theorem dX5_readCommand_331 : decode cX5_readCommand 331 = .ok (.invokestatic 144, 3) := by decide +kernel
theorem dX5_readCommand_334 : decode cX5_readCommand 334 = .ok (.ifCond .le 7, 3) := by decide +kernel
theorem dX5_readCommand_337 : decode cX5_readCommand 337 = .ok (.iconst 1, 1) := by decide +kernel
theorem dX5_readCommand_338 : decode cX5_readCommand 338 = .ok (.goto 4, 3) := by decide +kernel
theorem dX5_readCommand_341 : decode cX5_readCommand 341 = .ok (.iconst 0, 1) := by decide +kernel
theorem dX5_readCommand_342 : decode cX5_readCommand 342 = .ok (.invokevirtual 126, 3) := by decide +kernel
theorem dX5_readCommand_345 : decode cX5_readCommand 345 = .ok (.ireturn, 1) := by decide +kernel
theorem dX5_readCommand_346 : decode cX5_readCommand 346 = .ok (.aload_n 0, 1) := by decide +kernel
theorem dX5_readCommand_347 : decode cX5_readCommand 347 = .ok (.iconst 0, 1) := by decide +kernel
theorem dX5_readCommand_348 : decode cX5_readCommand 348 = .ok (.iconst 2, 1) := by decide +kernel
theorem dX5_readCommand_349 : decode cX5_readCommand 349 = .ok (.iconst 0, 1) := by decide +kernel
theorem dX5_readCommand_350 : decode cX5_readCommand 350 = .ok (.bipush 23, 2) := by decide +kernel
theorem dX5_readCommand_352 : decode cX5_readCommand 352 = .ok (.invokevirtual 115, 3) := by decide +kernel
theorem dX5_readCommand_355 : decode cX5_readCommand 355 = .ok (.istore_n 3, 1) := by decide +kernel
theorem dX5_readCommand_356 : decode cX5_readCommand 356 = .ok (.iload_n 3, 1) := by decide +kernel
theorem dX5_readCommand_357 : decode cX5_readCommand 357 = .ok (.iconst (-1), 1) := by decide +kernel
theorem dX5_readCommand_358 : decode cX5_readCommand 358 = .ok (.if_icmp .eq 49, 3) := by decide +kernel
theorem dX5_readCommand_361 : decode cX5_readCommand 361 = .ok (.aload_n 0, 1) := by decide +kernel
theorem dX5_readCommand_362 : decode cX5_readCommand 362 = .ok (.aload_n 1, 1) := by decide +kernel
theorem dX5_readCommand_363 : decode cX5_readCommand 363 = .ok (.iload_n 3, 1) := by decide +kernel
theorem dX5_readCommand_364 : decode cX5_readCommand 364 = .ok (.invokestatic 147, 3) := by decide +kernel
theorem dX5_readCommand_367 : decode cX5_readCommand 367 = .ok (.ifCond .eq 29, 3) := by decide +kernel
theorem dX5_readCommand_370 : decode cX5_readCommand 370 = .ok (.aload_n 1, 1) := by decide +kernel
theorem dX5_readCommand_371 : decode cX5_readCommand 371 = .ok (.iload_n 3, 1) := by decide +kernel
theorem dX5_readCommand_372 : decode cX5_readCommand 372 = .ok (.iload_n 2, 1) := by decide +kernel
theorem dX5_readCommand_373 : decode cX5_readCommand 373 = .ok (.bipush 102, 2) := by decide +kernel
theorem dX5_readCommand_375 : decode cX5_readCommand 375 = .ok (.if_icmp .ne 8, 3) := by decide +kernel
theorem dX5_readCommand_378 : decode cX5_readCommand 378 = .ok (.bipush 14, 2) := by decide +kernel
theorem dX5_readCommand_380 : decode cX5_readCommand 380 = .ok (.goto 5, 3) := by decide +kernel
theorem dX5_readCommand_383 : decode cX5_readCommand 383 = .ok (.bipush 13, 2) := by decide +kernel
theorem dX5_readCommand_385 : decode cX5_readCommand 385 = .ok (.iconst 1, 1) := by decide +kernel
theorem dX5_readCommand_386 : decode cX5_readCommand 386 = .ok (.invokestatic 150, 3) := by decide +kernel
theorem dX5_readCommand_389 : decode cX5_readCommand 389 = .ok (.ifCond .lt 7, 3) := by decide +kernel
theorem dX5_readCommand_392 : decode cX5_readCommand 392 = .ok (.iconst 1, 1) := by decide +kernel
theorem dX5_readCommand_393 : decode cX5_readCommand 393 = .ok (.goto 4, 3) := by decide +kernel
theorem dX5_readCommand_396 : decode cX5_readCommand 396 = .ok (.iconst 0, 1) := by decide +kernel
theorem dX5_readCommand_397 : decode cX5_readCommand 397 = .ok (.invokevirtual 126, 3) := by decide +kernel
theorem dX5_readCommand_400 : decode cX5_readCommand 400 = .ok (.ifCond .eq 7, 3) := by decide +kernel
theorem dX5_readCommand_403 : decode cX5_readCommand 403 = .ok (.iconst 1, 1) := by decide +kernel
theorem dX5_readCommand_404 : decode cX5_readCommand 404 = .ok (.goto 4, 3) := by decide +kernel
theorem dX5_readCommand_407 : decode cX5_readCommand 407 = .ok (.iconst 0, 1) := by decide +kernel
theorem dX5_readCommand_408 : decode cX5_readCommand 408 = .ok (.ireturn, 1) := by decide +kernel
theorem dX5_readCommand_409 : decode cX5_readCommand 409 = .ok (.aload_n 0, 1) := by decide +kernel
theorem dX5_readCommand_410 : decode cX5_readCommand 410 = .ok (.iconst 0, 1) := by decide +kernel
theorem dX5_readCommand_411 : decode cX5_readCommand 411 = .ok (.iconst 2, 1) := by decide +kernel
theorem dX5_readCommand_412 : decode cX5_readCommand 412 = .ok (.iconst 0, 1) := by decide +kernel
theorem dX5_readCommand_413 : decode cX5_readCommand 413 = .ok (.bipush 99, 2) := by decide +kernel
theorem dX5_readCommand_415 : decode cX5_readCommand 415 = .ok (.invokevirtual 115, 3) := by decide +kernel
theorem dX5_readCommand_418 : decode cX5_readCommand 418 = .ok (.istore_n 3, 1) := by decide +kernel
theorem dX5_readCommand_419 : decode cX5_readCommand 419 = .ok (.iload_n 3, 1) := by decide +kernel
theorem dX5_readCommand_420 : decode cX5_readCommand 420 = .ok (.iconst (-1), 1) := by decide +kernel
theorem dX5_readCommand_421 : decode cX5_readCommand 421 = .ok (.if_icmp .eq 11, 3) := by decide +kernel
theorem dX5_readCommand_424 : decode cX5_readCommand 424 = .ok (.aload_n 1, 1) := by decide +kernel
theorem dX5_readCommand_425 : decode cX5_readCommand 425 = .ok (.bipush 11, 2) := by decide +kernel
theorem dX5_readCommand_427 : decode cX5_readCommand 427 = .ok (.iload_n 3, 1) := by decide +kernel
theorem dX5_readCommand_428 : decode cX5_readCommand 428 = .ok (.bipush 50, 2) := by decide +kernel
theorem dX5_readCommand_430 : decode cX5_readCommand 430 = .ok (.isub, 1) := by decide +kernel
theorem dX5_readCommand_431 : decode cX5_readCommand 431 = .ok (.iastore, 1) := by decide +kernel
theorem dX5_readCommand_432 : decode cX5_readCommand 432 = .ok (.iload_n 3, 1) := by decide +kernel
theorem dX5_readCommand_433 : decode cX5_readCommand 433 = .ok (.iconst (-1), 1) := by decide +kernel
theorem dX5_readCommand_434 : decode cX5_readCommand 434 = .ok (.if_icmp .eq 7, 3) := by decide +kernel
theorem dX5_readCommand_437 : decode cX5_readCommand 437 = .ok (.iconst 1, 1) := by decide +kernel
theorem dX5_readCommand_438 : decode cX5_readCommand 438 = .ok (.goto 4, 3) := by decide +kernel
theorem dX5_readCommand_441 : decode cX5_readCommand 441 = .ok (.iconst 0, 1) := by decide +kernel
theorem dX5_readCommand_442 : decode cX5_readCommand 442 = .ok (.ireturn, 1) := by decide +kernel
theorem dX5_readCommand_443 : decode cX5_readCommand 443 = .ok (.aload_n 0, 1) := by decide +kernel
theorem dX5_readCommand_444 : decode cX5_readCommand 444 = .ok (.dup, 1) := by decide +kernel
theorem dX5_readCommand_445 : decode cX5_readCommand 445 = .ok (.getfield 107, 3) := by decide +kernel
theorem dX5_readCommand_448 : decode cX5_readCommand 448 = .ok (.iconst 1, 1) := by decide +kernel
theorem dX5_readCommand_449 : decode cX5_readCommand 449 = .ok (.isub, 1) := by decide +kernel
theorem dX5_readCommand_450 : decode cX5_readCommand 450 = .ok (.putfield 107, 3) := by decide +kernel
theorem dX5_readCommand_453 : decode cX5_readCommand 453 = .ok (.iconst 0, 1) := by decide +kernel
theorem dX5_readCommand_454 : decode cX5_readCommand 454 = .ok (.ireturn, 1) := by decide +kernel
set_option maxRecDepth 20000 in
theorem ggX5_readText_X5_begin : GoodIn wsX5_readText wsX5_begin := goodIn_r _ [8] (by decide +kernel) (by decide +kernel)
set_option maxRecDepth 20000 in
theorem gX5_readText_X5_begin : GoodIn wsX5_readText (va_wsS RX5 32 yX5_begin wsX5_begin) := goodIn_app (goodIn_of _ (by decide +kernel)) ggX5_readText_X5_begin
set_option maxRecDepth 20000 in
theorem ggX5_readText_X5_readCommand : GoodIn wsX5_readText wsX5_readCommand := goodIn_r _ [12, 4, 2, 13, 14, 15, 7, 16, 3, 17, 18, 19, 20, 21, 22, 23, 24, 25, 26, 27, 28, 29, 30, 31, 32, 33, 34, 35, 36, 37, 38, 39, 40, 41, 1, 42, 43, 44, 45, 46, 47, 48, 49, 50, 51, 52, 53, 54, 55, 56, 57, 58, 59, 60, 61, 62, 63, 64, 65, 66, 67, 68, 69, 70, 71, 72, 73, 74, 75, 76, 77, 78, 79, 80, 81, 82, 83, 84, 85, 86, 87, 88, 89, 90, 91, 92, 93, 94, 95, 96] (by decide +kernel) (by decide +kernel)
set_option maxRecDepth 20000 in
theorem gX5_readText_X5_readCommand : GoodIn wsX5_readText (wsV RX5 154 RX5 yX5_readCommand wsX5_readCommand) := goodIn_app (goodIn_of _ (by decide +kernel)) ggX5_readText_X5_readCommand
theorem dX5_readText_0 : decode cX5_readText 0 = .ok (.aload_n 1, 1) := by decide +kernel
theorem dX5_readText_1 : decode cX5_readText 1 = .ok (.invokestatic 32, 3) := by decide +kernel
theorem dX5_readText_4 : decode cX5_readText 4 = .ok (.aload_n 0, 1) := by decide +kernel
theorem dX5_readText_5 : decode cX5_readText 5 = .ok (.iconst 0, 1) := by decide +kernel
theorem dX5_readText_6 : decode cX5_readText 6 = .ok (.putfield 112, 3) := by decide +kernel
theorem dX5_readText_9 : decode cX5_readText 9 = .ok (.aload_n 0, 1) := by decide +kernel
theorem dX5_readText_10 : decode cX5_readText 10 = .ok (.iconst 0, 1) := by decide +kernel
theorem dX5_readText_11 : decode cX5_readText 11 = .ok (.putfield 107, 3) := by decide +kernel
theorem dX5_readText_14 : decode cX5_readText 14 = .ok (.aload_n 0, 1) := by decide +kernel
theorem dX5_readText_15 : decode cX5_readText 15 = .ok (.getfield 100, 3) := by decide +kernel
theorem dX5_readText_18 : decode cX5_readText 18 = .ok (.ifCond .eq 14, 3) := by decide +kernel
theorem dX5_readText_21 : decode cX5_readText 21 = .ok (.aload_n 0, 1) := by decide +kernel
theorem dX5_readText_22 : decode cX5_readText 22 = .ok (.getfield 7, 3) := by decide +kernel
theorem dX5_readText_25 : decode cX5_readText 25 = .ok (.iconst 0, 1) := by decide +kernel
theorem dX5_readText_26 : decode cX5_readText 26 = .ok (.iaload, 1) := by decide +kernel
theorem dX5_readText_27 : decode cX5_readText 27 = .ok (.bipush 84, 2) := by decide +kernel
theorem dX5_readText_29 : decode cX5_readText 29 = .ok (.if_icmp .eq 5, 3) := by decide +kernel
theorem dX5_readText_32 : decode cX5_readText 32 = .ok (.iconst 0, 1) := by decide +kernel
theorem dX5_readText_33 : decode cX5_readText 33 = .ok (.ireturn, 1) := by decide +kernel
theorem dX5_readText_34 : decode cX5_readText 34 = .ok (.aload_n 0, 1) := by decide +kernel
theorem dX5_readText_35 : decode cX5_readText 35 = .ok (.iconst 1, 1) := by decide +kernel
theorem dX5_readText_36 : decode cX5_readText 36 = .ok (.putfield 107, 3) := by decide +kernel
theorem dX5_readText_39 : decode cX5_readText 39 = .ok (.aload_n 0, 1) := by decide +kernel
theorem dX5_readText_40 : decode cX5_readText 40 = .ok (.getfield 107, 3) := by decide +kernel
theorem dX5_readText_43 : decode cX5_readText 43 = .ok (.aload_n 0, 1) := by decide +kernel
theorem dX5_readText_44 : decode cX5_readText 44 = .ok (.getfield 100, 3) := by decide +kernel
theorem dX5_readText_47 : decode cX5_readText 47 = .ok (.if_icmp .ge 16, 3) := by decide +kernel
theorem dX5_readText_50 : decode cX5_readText 50 = .ok (.aload_n 0, 1) := by decide +kernel
theorem dX5_readText_51 : decode cX5_readText 51 = .ok (.aload_n 1, 1) := by decide +kernel
theorem dX5_readText_52 : decode cX5_readText 52 = .ok (.invokevirtual 154, 3) := by decide +kernel
theorem dX5_readText_55 : decode cX5_readText 55 = .ok (.ifCond .ne (-16), 3) := by decide +kernel
theorem dX5_readText_58 : decode cX5_readText 58 = .ok (.aload_n 0, 1) := by decide +kernel
theorem dX5_readText_59 : decode cX5_readText 59 = .ok (.getfield 107, 3) := by decide +kernel
theorem dX5_readText_62 : decode cX5_readText 62 = .ok (.ireturn, 1) := by decide +kernel
theorem dX5_readText_63 : decode cX5_readText 63 = .ok (.iconst (-1), 1) := by decide +kernel
theorem dX5_readText_64 : decode cX5_readText 64 = .ok (.ireturn, 1) := by decide +kernel
set_option maxRecDepth 20000 in
theorem ggX5_errorPosition_X5_readText : GoodIn wsX5_errorPosition wsX5_readText := goodIn_r _ [7, 8, 9, 10, 11, 12, 13, 6, 14, 15, 16, 17, 18, 19, 20, 21, 22, 23, 24, 25, 26, 27, 28, 29, 30, 31, 32, 33, 34, 35, 36, 37, 38, 39, 40, 41, 42, 43, 44, 45, 46, 47, 48, 49, 50, 51, 52, 53, 54, 55, 56, 57, 58, 59, 60, 61, 62, 63, 64, 65, 66, 67, 68, 69, 70, 71, 72, 73, 74, 75, 76, 77, 78, 79, 80, 81, 82, 83, 84, 85, 86, 87, 88, 89, 90, 91, 92, 93, 94, 95, 96, 97, 98, 99, 100, 101, 102] (by decide +kernel) (by decide +kernel)
set_option maxRecDepth 20000 in
theorem gX5_errorPosition_X5_readText : GoodIn wsX5_errorPosition (wsV RX5 157 RX5 yX5_readText wsX5_readText) := goodIn_app (goodIn_of _ (by decide +kernel)) ggX5_errorPosition_X5_readText
theorem dX5_errorPosition_0 : decode cX5_errorPosition 0 = .ok (.aload_n 0, 1) := by decide +kernel
theorem dX5_errorPosition_1 : decode cX5_errorPosition 1 = .ok (.iconst 0, 1) := by decide +kernel
theorem dX5_errorPosition_2 : decode cX5_errorPosition 2 = .ok (.putfield 36, 3) := by decide +kernel
theorem dX5_errorPosition_5 : decode cX5_errorPosition 5 = .ok (.aload_n 0, 1) := by decide +kernel
theorem dX5_errorPosition_6 : decode cX5_errorPosition 6 = .ok (.aload_n 0, 1) := by decide +kernel
theorem dX5_errorPosition_7 : decode cX5_errorPosition 7 = .ok (.getfield 16, 3) := by decide +kernel
theorem dX5_errorPosition_10 : decode cX5_errorPosition 10 = .ok (.invokevirtual 157, 3) := by decide +kernel
theorem dX5_errorPosition_13 : decode cX5_errorPosition 13 = .ok (.ireturn, 1) := by decide +kernel
set_option maxRecDepth 20000 in
theorem ggX5_load_X5_readText : GoodIn wsX5_load wsX5_readText := goodIn_r _ [10, 5, 11, 12, 13, 14, 15, 9, 16, 17, 18, 19, 20, 21, 22, 23, 24, 25, 26, 27, 28, 29, 30, 31, 32, 33, 34, 35, 36, 37, 38, 39, 40, 41, 42, 43, 44, 45, 46, 47, 48, 49, 50, 51, 52, 53, 54, 55, 56, 57, 58, 59, 60, 61, 62, 63, 64, 65, 66, 67, 68, 69, 70, 71, 72, 73, 74, 75, 76, 77, 78, 79, 80, 81, 82, 83, 84, 85, 86, 87, 88, 89, 90, 91, 100, 101, 102, 103, 104, 105, 106, 107, 108, 109, 110, 111, 112] (by decide +kernel) (by decide +kernel)
set_option maxRecDepth 20000 in
theorem gX5_load_X5_readText : GoodIn wsX5_load (wsV RX5 157 RX5 yX5_readText wsX5_readText) := goodIn_app (goodIn_of _ (by decide +kernel)) ggX5_load_X5_readText
set_option maxRecDepth 20000 in
theorem ggX5_load_X5_refused : GoodIn wsX5_load wsX5_refused := goodIn_r _ [95, 96, 100, 101, 102, 103, 104, 105, 106, 107, 108, 109, 110, 111, 112] (by decide +kernel) (by decide +kernel)
set_option maxRecDepth 20000 in
theorem gX5_load_X5_refused : GoodIn wsX5_load (wsV RX5 103 RX5 yX5_refused wsX5_refused) := goodIn_app (goodIn_of _ (by decide +kernel)) ggX5_load_X5_refused
set_option maxRecDepth 20000 in
theorem ggX5_load_X5_copyState : GoodIn wsX5_load wsX5_copyState := goodIn_r _ [99] (by decide +kernel) (by decide +kernel)
set_option maxRecDepth 20000 in
theorem gX5_load_X5_copyState : GoodIn wsX5_load (va_wsS RX5 160 yX5_copyState wsX5_copyState) := goodIn_app (goodIn_of _ (by decide +kernel)) ggX5_load_X5_copyState
theorem dX5_load_0 : decode cX5_load 0 = .ok (.aload_n 0, 1) := by decide +kernel
theorem dX5_load_1 : decode cX5_load 1 = .ok (.aload_n 0, 1) := by decide +kernel
theorem dX5_load_2 : decode cX5_load 2 = .ok (.aload_n 0, 1) := by decide +kernel
theorem dX5_load_3 : decode cX5_load 3 = .ok (.getfield 16, 3) := by decide +kernel
theorem dX5_load_6 : decode cX5_load 6 = .ok (.invokevirtual 157, 3) := by decide +kernel
theorem dX5_load_9 : decode cX5_load 9 = .ok (.iconst (-1), 1) := by decide +kernel
theorem dX5_load_10 : decode cX5_load 10 = .ok (.if_icmp .ne 7, 3) := by decide +kernel
theorem dX5_load_13 : decode cX5_load 13 = .ok (.iconst 0, 1) := by decide +kernel
theorem dX5_load_14 : decode cX5_load 14 = .ok (.goto 4, 3) := by decide +kernel
theorem dX5_load_17 : decode cX5_load 17 = .ok (.iconst 1, 1) := by decide +kernel
theorem dX5_load_18 : decode cX5_load 18 = .ok (.invokevirtual 103, 3) := by decide +kernel
theorem dX5_load_21 : decode cX5_load 21 = .ok (.ifCond .eq 5, 3) := by decide +kernel
theorem dX5_load_24 : decode cX5_load 24 = .ok (.iconst 0, 1) := by decide +kernel
theorem dX5_load_25 : decode cX5_load 25 = .ok (.ireturn, 1) := by decide +kernel
theorem dX5_load_26 : decode cX5_load 26 = .ok (.aload_n 0, 1) := by decide +kernel
theorem dX5_load_27 : decode cX5_load 27 = .ok (.getfield 16, 3) := by decide +kernel
theorem dX5_load_30 : decode cX5_load 30 = .ok (.iconst 0, 1) := by decide +kernel
theorem dX5_load_31 : decode cX5_load 31 = .ok (.aload_n 0, 1) := by decide +kernel
theorem dX5_load_32 : decode cX5_load 32 = .ok (.getfield 13, 3) := by decide +kernel
theorem dX5_load_35 : decode cX5_load 35 = .ok (.iconst 0, 1) := by decide +kernel
theorem dX5_load_36 : decode cX5_load 36 = .ok (.invokestatic 160, 3) := by decide +kernel
theorem dX5_load_39 : decode cX5_load 39 = .ok (.aload_n 0, 1) := by decide +kernel
theorem dX5_load_40 : decode cX5_load 40 = .ok (.iconst 0, 1) := by decide +kernel
theorem dX5_load_41 : decode cX5_load 41 = .ok (.putfield 164, 3) := by decide +kernel
theorem dX5_load_44 : decode cX5_load 44 = .ok (.aload_n 0, 1) := by decide +kernel
theorem dX5_load_45 : decode cX5_load 45 = .ok (.getfield 25, 3) := by decide +kernel
theorem dX5_load_48 : decode cX5_load 48 = .ok (.iconst 0, 1) := by decide +kernel
theorem dX5_load_49 : decode cX5_load 49 = .ok (.iconst 0, 1) := by decide +kernel
theorem dX5_load_50 : decode cX5_load 50 = .ok (.bastore, 1) := by decide +kernel
theorem dX5_load_51 : decode cX5_load 51 = .ok (.aload_n 0, 1) := by decide +kernel
theorem dX5_load_52 : decode cX5_load 52 = .ok (.getfield 25, 3) := by decide +kernel
theorem dX5_load_55 : decode cX5_load 55 = .ok (.iconst 1, 1) := by decide +kernel
theorem dX5_load_56 : decode cX5_load 56 = .ok (.iconst 0, 1) := by decide +kernel
theorem dX5_load_57 : decode cX5_load 57 = .ok (.bastore, 1) := by decide +kernel
theorem dX5_load_58 : decode cX5_load 58 = .ok (.aload_n 0, 1) := by decide +kernel
theorem dX5_load_59 : decode cX5_load 59 = .ok (.getfield 112, 3) := by decide +kernel
theorem dX5_load_62 : decode cX5_load 62 = .ok (.ireturn, 1) := by decide +kernel
set_option maxRecDepth 20000 in
theorem ggX5_circledSeconds_X5_of : GoodIn wsX5_circledSeconds wsX5_of := goodIn_r _ [4] (by decide +kernel) (by decide +kernel)
set_option maxRecDepth 20000 in
theorem gX5_circledSeconds_X5_of : GoodIn wsX5_circledSeconds (va_wsS RX5 48 yX5_of wsX5_of) := goodIn_app (goodIn_of _ (by decide +kernel)) ggX5_circledSeconds_X5_of
theorem dX5_circledSeconds_0 : decode cX5_circledSeconds 0 = .ok (.iconst 0, 1) := by decide +kernel
theorem dX5_circledSeconds_1 : decode cX5_circledSeconds 1 = .ok (.istore_n 1, 1) := by decide +kernel
theorem dX5_circledSeconds_2 : decode cX5_circledSeconds 2 = .ok (.iconst 0, 1) := by decide +kernel
theorem dX5_circledSeconds_3 : decode cX5_circledSeconds 3 = .ok (.istore_n 2, 1) := by decide +kernel
theorem dX5_circledSeconds_4 : decode cX5_circledSeconds 4 = .ok (.iload_n 2, 1) := by decide +kernel
theorem dX5_circledSeconds_5 : decode cX5_circledSeconds 5 = .ok (.aload_n 0, 1) := by decide +kernel
theorem dX5_circledSeconds_6 : decode cX5_circledSeconds 6 = .ok (.iconst 0, 1) := by decide +kernel
theorem dX5_circledSeconds_7 : decode cX5_circledSeconds 7 = .ok (.iaload, 1) := by decide +kernel
theorem dX5_circledSeconds_8 : decode cX5_circledSeconds 8 = .ok (.if_icmp .ge 27, 3) := by decide +kernel
theorem dX5_circledSeconds_11 : decode cX5_circledSeconds 11 = .ok (.iload_n 1, 1) := by decide +kernel
theorem dX5_circledSeconds_12 : decode cX5_circledSeconds 12 = .ok (.aload_n 0, 1) := by decide +kernel
theorem dX5_circledSeconds_13 : decode cX5_circledSeconds 13 = .ok (.iload_n 2, 1) := by decide +kernel
theorem dX5_circledSeconds_14 : decode cX5_circledSeconds 14 = .ok (.bipush 13, 2) := by decide +kernel
theorem dX5_circledSeconds_16 : decode cX5_circledSeconds 16 = .ok (.invokestatic 48, 3) := by decide +kernel
theorem dX5_circledSeconds_19 : decode cX5_circledSeconds 19 = .ok (.aload_n 0, 1) := by decide +kernel
theorem dX5_circledSeconds_20 : decode cX5_circledSeconds 20 = .ok (.iload_n 2, 1) := by decide +kernel
theorem dX5_circledSeconds_21 : decode cX5_circledSeconds 21 = .ok (.bipush 7, 2) := by decide +kernel
theorem dX5_circledSeconds_23 : decode cX5_circledSeconds 23 = .ok (.invokestatic 48, 3) := by decide +kernel
theorem dX5_circledSeconds_26 : decode cX5_circledSeconds 26 = .ok (.imul, 1) := by decide +kernel
theorem dX5_circledSeconds_27 : decode cX5_circledSeconds 27 = .ok (.iadd, 1) := by decide +kernel
theorem dX5_circledSeconds_28 : decode cX5_circledSeconds 28 = .ok (.istore_n 1, 1) := by decide +kernel
theorem dX5_circledSeconds_29 : decode cX5_circledSeconds 29 = .ok (.iinc 2 1, 3) := by decide +kernel
theorem dX5_circledSeconds_32 : decode cX5_circledSeconds 32 = .ok (.goto (-28), 3) := by decide +kernel
theorem dX5_circledSeconds_35 : decode cX5_circledSeconds 35 = .ok (.iload_n 1, 1) := by decide +kernel
theorem dX5_circledSeconds_36 : decode cX5_circledSeconds 36 = .ok (.ireturn, 1) := by decide +kernel
set_option maxRecDepth 20000 in
theorem ggX5_about_X5_in : GoodIn wsX5_about wsX5_in := goodIn_r _ [6] (by decide +kernel) (by decide +kernel)
set_option maxRecDepth 20000 in
theorem gX5_about_X5_in : GoodIn wsX5_about (va_wsS RX5 40 yX5_in wsX5_in) := goodIn_app (goodIn_of _ (by decide +kernel)) ggX5_about_X5_in
set_option maxRecDepth 20000 in
theorem ggX5_about_X5_refused : GoodIn wsX5_about wsX5_refused := goodIn_r _ [10, 11, 42, 43, 44, 45, 46, 47, 48, 49, 50, 51, 52, 53, 54] (by decide +kernel) (by decide +kernel)
set_option maxRecDepth 20000 in
theorem gX5_about_X5_refused : GoodIn wsX5_about (wsV RX5 103 RX5 yX5_refused wsX5_refused) := goodIn_app (goodIn_of _ (by decide +kernel)) ggX5_about_X5_refused
set_option maxRecDepth 20000 in
theorem ggX5_about_X5_wrong : GoodIn wsX5_about wsX5_wrong := goodIn_r _ [14, 15, 16, 5, 17, 18, 19, 20, 21, 22, 23, 24, 25, 26] (by decide +kernel) (by decide +kernel)
set_option maxRecDepth 20000 in
theorem gX5_about_X5_wrong : GoodIn wsX5_about (va_wsS RX5 81 yX5_wrong wsX5_wrong) := goodIn_app (goodIn_of _ (by decide +kernel)) ggX5_about_X5_wrong
set_option maxRecDepth 20000 in
theorem ggX5_about_X5_sum : GoodIn wsX5_about wsX5_sum := goodIn_r _ [29, 18, 19, 5, 20] (by decide +kernel) (by decide +kernel)
set_option maxRecDepth 20000 in
theorem gX5_about_X5_sum : GoodIn wsX5_about (va_wsS RX5 78 yX5_sum wsX5_sum) := goodIn_app (goodIn_of _ (by decide +kernel)) ggX5_about_X5_sum
set_option maxRecDepth 20000 in
theorem ggX5_about_X5_circledSeconds : GoodIn wsX5_about wsX5_circledSeconds := goodIn_r _ [32, 18, 19, 5, 20] (by decide +kernel) (by decide +kernel)
set_option maxRecDepth 20000 in
theorem gX5_about_X5_circledSeconds : GoodIn wsX5_about (va_wsS RX5 169 yX5_circledSeconds wsX5_circledSeconds) := goodIn_app (goodIn_of _ (by decide +kernel)) ggX5_about_X5_circledSeconds
set_option maxRecDepth 20000 in
theorem ggX5_about_X5_astray : GoodIn wsX5_about wsX5_astray := goodIn_r _ [35, 36, 37, 5, 38, 18, 19, 20, 39, 40, 41] (by decide +kernel) (by decide +kernel)
set_option maxRecDepth 20000 in
theorem gX5_about_X5_astray : GoodIn wsX5_about (va_wsS RX5 172 yX5_astray wsX5_astray) := goodIn_app (goodIn_of _ (by decide +kernel)) ggX5_about_X5_astray
theorem dX5_about_0 : decode cX5_about 0 = .ok (.aload_n 0, 1) := by decide +kernel
theorem dX5_about_1 : decode cX5_about 1 = .ok (.iload_n 1, 1) := by decide +kernel
theorem dX5_about_2 : decode cX5_about 2 = .ok (.i2l, 1) := by decide +kernel
theorem dX5_about_3 : decode cX5_about 3 = .ok (.lconst 0, 1) := by decide +kernel
theorem dX5_about_4 : decode cX5_about 4 = .ok (.ldc2_w 167, 3) := by decide +kernel
theorem dX5_about_7 : decode cX5_about 7 = .ok (.invokestatic 40, 3) := by decide +kernel
theorem dX5_about_10 : decode cX5_about 10 = .ok (.ifCond .eq 7, 3) := by decide +kernel
theorem dX5_about_13 : decode cX5_about 13 = .ok (.iconst 0, 1) := by decide +kernel
theorem dX5_about_14 : decode cX5_about 14 = .ok (.goto 4, 3) := by decide +kernel
theorem dX5_about_17 : decode cX5_about 17 = .ok (.iconst 1, 1) := by decide +kernel
theorem dX5_about_18 : decode cX5_about 18 = .ok (.invokevirtual 103, 3) := by decide +kernel
theorem dX5_about_21 : decode cX5_about 21 = .ok (.ifCond .eq 5, 3) := by decide +kernel
theorem dX5_about_24 : decode cX5_about 24 = .ok (.iconst 0, 1) := by decide +kernel
theorem dX5_about_25 : decode cX5_about 25 = .ok (.ireturn, 1) := by decide +kernel
theorem dX5_about_26 : decode cX5_about 26 = .ok (.iload_n 1, 1) := by decide +kernel
theorem dX5_about_27 : decode cX5_about 27 = .ok (.tableswitch 77 12 16 #[33, 41, 51, 59, 69], 33) := by decide +kernel
theorem dX5_about_60 : decode cX5_about 60 = .ok (.aload_n 0, 1) := by decide +kernel
theorem dX5_about_61 : decode cX5_about 61 = .ok (.getfield 13, 3) := by decide +kernel
theorem dX5_about_64 : decode cX5_about 64 = .ok (.invokestatic 81, 3) := by decide +kernel
theorem dX5_about_67 : decode cX5_about 67 = .ok (.ireturn, 1) := by decide +kernel
theorem dX5_about_68 : decode cX5_about 68 = .ok (.aload_n 0, 1) := by decide +kernel
theorem dX5_about_69 : decode cX5_about 69 = .ok (.getfield 13, 3) := by decide +kernel
theorem dX5_about_72 : decode cX5_about 72 = .ok (.bipush 13, 2) := by decide +kernel
theorem dX5_about_74 : decode cX5_about 74 = .ok (.invokestatic 78, 3) := by decide +kernel
theorem dX5_about_77 : decode cX5_about 77 = .ok (.ireturn, 1) := by decide +kernel
theorem dX5_about_78 : decode cX5_about 78 = .ok (.aload_n 0, 1) := by decide +kernel
theorem dX5_about_79 : decode cX5_about 79 = .ok (.getfield 13, 3) := by decide +kernel
theorem dX5_about_82 : decode cX5_about 82 = .ok (.invokestatic 169, 3) := by decide +kernel
theorem dX5_about_85 : decode cX5_about 85 = .ok (.ireturn, 1) := by decide +kernel
theorem dX5_about_86 : decode cX5_about 86 = .ok (.aload_n 0, 1) := by decide +kernel
theorem dX5_about_87 : decode cX5_about 87 = .ok (.getfield 13, 3) := by decide +kernel
theorem dX5_about_90 : decode cX5_about 90 = .ok (.bipush 14, 2) := by decide +kernel
theorem dX5_about_92 : decode cX5_about 92 = .ok (.invokestatic 78, 3) := by decide +kernel
theorem dX5_about_95 : decode cX5_about 95 = .ok (.ireturn, 1) := by decide +kernel
theorem dX5_about_96 : decode cX5_about 96 = .ok (.aload_n 0, 1) := by decide +kernel
theorem dX5_about_97 : decode cX5_about 97 = .ok (.getfield 13, 3) := by decide +kernel
theorem dX5_about_100 : decode cX5_about 100 = .ok (.invokestatic 172, 3) := by decide +kernel
theorem dX5_about_103 : decode cX5_about 103 = .ok (.ireturn, 1) := by decide +kernel
theorem dX5_about_104 : decode cX5_about 104 = .ok (.aload_n 0, 1) := by decide +kernel
theorem dX5_about_105 : decode cX5_about 105 = .ok (.getfield 13, 3) := by decide +kernel
theorem dX5_about_108 : decode cX5_about 108 = .ok (.iload_n 1, 1) := by decide +kernel
theorem dX5_about_109 : decode cX5_about 109 = .ok (.iaload, 1) := by decide +kernel
theorem dX5_about_110 : decode cX5_about 110 = .ok (.ireturn, 1) := by decide +kernel
set_option maxRecDepth 20000 in
theorem ggX5_take_X5_isTake : GoodIn wsX5_take wsX5_isTake := goodIn_r _ [6, 7, 8, 5, 9] (by decide +kernel) (by decide +kernel)
set_option maxRecDepth 20000 in
theorem gX5_take_X5_isTake : GoodIn wsX5_take (va_wsS RX5 147 yX5_isTake wsX5_isTake) := goodIn_app (goodIn_of _ (by decide +kernel)) ggX5_take_X5_isTake
set_option maxRecDepth 20000 in
theorem ggX5_take_X5_in : GoodIn wsX5_take wsX5_in := goodIn_r _ [9] (by decide +kernel) (by decide +kernel)
set_option maxRecDepth 20000 in
theorem gX5_take_X5_in : GoodIn wsX5_take (va_wsS RX5 40 yX5_in wsX5_in) := goodIn_app (goodIn_of _ (by decide +kernel)) ggX5_take_X5_in
set_option maxRecDepth 20000 in
theorem ggX5_take_X5_refused : GoodIn wsX5_take wsX5_refused := goodIn_r _ [13, 14, 27, 28, 29, 30, 31, 32, 33, 34, 35, 36, 37, 38, 39] (by decide +kernel) (by decide +kernel)
set_option maxRecDepth 20000 in
theorem gX5_take_X5_refused : GoodIn wsX5_take (wsV RX5 103 RX5 yX5_refused wsX5_refused) := goodIn_app (goodIn_of _ (by decide +kernel)) ggX5_take_X5_refused
set_option maxRecDepth 20000 in
theorem ggX5_take_X5_numberOf : GoodIn wsX5_take wsX5_numberOf := goodIn_r _ [17, 18, 19, 5, 20, 21, 22, 23] (by decide +kernel) (by decide +kernel)
set_option maxRecDepth 20000 in
theorem gX5_take_X5_numberOf : GoodIn wsX5_take (va_wsS RX5 56 yX5_numberOf wsX5_numberOf) := goodIn_app (goodIn_of _ (by decide +kernel)) ggX5_take_X5_numberOf
set_option maxRecDepth 20000 in
theorem ggX5_take_X5_isRight : GoodIn wsX5_take wsX5_isRight := goodIn_r _ [26, 18, 19, 5, 20, 15, 16, 17, 21, 22, 23] (by decide +kernel) (by decide +kernel)
set_option maxRecDepth 20000 in
theorem gX5_take_X5_isRight : GoodIn wsX5_take (va_wsS RX5 60 yX5_isRight wsX5_isRight) := goodIn_app (goodIn_of _ (by decide +kernel)) ggX5_take_X5_isRight
set_option maxRecDepth 20000 in
theorem ggX5_take_X5_of : GoodIn wsX5_take wsX5_of := goodIn_r _ [20] (by decide +kernel) (by decide +kernel)
set_option maxRecDepth 20000 in
theorem gX5_take_X5_of : GoodIn wsX5_take (va_wsS RX5 48 yX5_of wsX5_of) := goodIn_app (goodIn_of _ (by decide +kernel)) ggX5_take_X5_of
theorem dX5_take_0 : decode cX5_take 0 = .ok (.aload_n 0, 1) := by decide +kernel
theorem dX5_take_1 : decode cX5_take 1 = .ok (.aload_n 0, 1) := by decide +kernel
theorem dX5_take_2 : decode cX5_take 2 = .ok (.getfield 13, 3) := by decide +kernel
theorem dX5_take_5 : decode cX5_take 5 = .ok (.iload_n 1, 1) := by decide +kernel
theorem dX5_take_6 : decode cX5_take 6 = .ok (.invokestatic 147, 3) := by decide +kernel
theorem dX5_take_9 : decode cX5_take 9 = .ok (.ifCond .ne 7, 3) := by decide +kernel
theorem dX5_take_12 : decode cX5_take 12 = .ok (.iconst 1, 1) := by decide +kernel
theorem dX5_take_13 : decode cX5_take 13 = .ok (.goto 20, 3) := by decide +kernel
theorem dX5_take_16 : decode cX5_take 16 = .ok (.iload_n 2, 1) := by decide +kernel
theorem dX5_take_17 : decode cX5_take 17 = .ok (.i2l, 1) := by decide +kernel
theorem dX5_take_18 : decode cX5_take 18 = .ok (.lconst 0, 1) := by decide +kernel
theorem dX5_take_19 : decode cX5_take 19 = .ok (.ldc2_w 167, 3) := by decide +kernel
theorem dX5_take_22 : decode cX5_take 22 = .ok (.invokestatic 40, 3) := by decide +kernel
theorem dX5_take_25 : decode cX5_take 25 = .ok (.ifCond .eq 7, 3) := by decide +kernel
theorem dX5_take_28 : decode cX5_take 28 = .ok (.iconst 0, 1) := by decide +kernel
theorem dX5_take_29 : decode cX5_take 29 = .ok (.goto 4, 3) := by decide +kernel
theorem dX5_take_32 : decode cX5_take 32 = .ok (.iconst 2, 1) := by decide +kernel
theorem dX5_take_33 : decode cX5_take 33 = .ok (.invokevirtual 103, 3) := by decide +kernel
theorem dX5_take_36 : decode cX5_take 36 = .ok (.ifCond .eq 5, 3) := by decide +kernel
theorem dX5_take_39 : decode cX5_take 39 = .ok (.iconst 0, 1) := by decide +kernel
theorem dX5_take_40 : decode cX5_take 40 = .ok (.ireturn, 1) := by decide +kernel
theorem dX5_take_41 : decode cX5_take 41 = .ok (.iload_n 2, 1) := by decide +kernel
theorem dX5_take_42 : decode cX5_take 42 = .ok (.iconst 2, 1) := by decide +kernel
theorem dX5_take_43 : decode cX5_take 43 = .ok (.if_icmp .ne 12, 3) := by decide +kernel
theorem dX5_take_46 : decode cX5_take 46 = .ok (.aload_n 0, 1) := by decide +kernel
theorem dX5_take_47 : decode cX5_take 47 = .ok (.getfield 13, 3) := by decide +kernel
theorem dX5_take_50 : decode cX5_take 50 = .ok (.iload_n 1, 1) := by decide +kernel
theorem dX5_take_51 : decode cX5_take 51 = .ok (.invokestatic 56, 3) := by decide +kernel
theorem dX5_take_54 : decode cX5_take 54 = .ok (.ireturn, 1) := by decide +kernel
theorem dX5_take_55 : decode cX5_take 55 = .ok (.iload_n 2, 1) := by decide +kernel
theorem dX5_take_56 : decode cX5_take 56 = .ok (.bipush 16, 2) := by decide +kernel
theorem dX5_take_58 : decode cX5_take 58 = .ok (.if_icmp .ne 20, 3) := by decide +kernel
theorem dX5_take_61 : decode cX5_take 61 = .ok (.aload_n 0, 1) := by decide +kernel
theorem dX5_take_62 : decode cX5_take 62 = .ok (.getfield 13, 3) := by decide +kernel
theorem dX5_take_65 : decode cX5_take 65 = .ok (.iload_n 1, 1) := by decide +kernel
theorem dX5_take_66 : decode cX5_take 66 = .ok (.invokestatic 60, 3) := by decide +kernel
theorem dX5_take_69 : decode cX5_take 69 = .ok (.ifCond .eq 7, 3) := by decide +kernel
theorem dX5_take_72 : decode cX5_take 72 = .ok (.iconst 1, 1) := by decide +kernel
theorem dX5_take_73 : decode cX5_take 73 = .ok (.goto 4, 3) := by decide +kernel
theorem dX5_take_76 : decode cX5_take 76 = .ok (.iconst 0, 1) := by decide +kernel
theorem dX5_take_77 : decode cX5_take 77 = .ok (.ireturn, 1) := by decide +kernel
theorem dX5_take_78 : decode cX5_take 78 = .ok (.aload_n 0, 1) := by decide +kernel
theorem dX5_take_79 : decode cX5_take 79 = .ok (.getfield 13, 3) := by decide +kernel
theorem dX5_take_82 : decode cX5_take 82 = .ok (.iload_n 1, 1) := by decide +kernel
theorem dX5_take_83 : decode cX5_take 83 = .ok (.iload_n 2, 1) := by decide +kernel
theorem dX5_take_84 : decode cX5_take 84 = .ok (.iconst 2, 1) := by decide +kernel
theorem dX5_take_85 : decode cX5_take 85 = .ok (.if_icmp .ge 7, 3) := by decide +kernel
theorem dX5_take_88 : decode cX5_take 88 = .ok (.iload_n 2, 1) := by decide +kernel
theorem dX5_take_89 : decode cX5_take 89 = .ok (.goto 6, 3) := by decide +kernel
theorem dX5_take_92 : decode cX5_take 92 = .ok (.iload_n 2, 1) := by decide +kernel
theorem dX5_take_93 : decode cX5_take 93 = .ok (.iconst 1, 1) := by decide +kernel
theorem dX5_take_94 : decode cX5_take 94 = .ok (.isub, 1) := by decide +kernel
theorem dX5_take_95 : decode cX5_take 95 = .ok (.invokestatic 48, 3) := by decide +kernel
theorem dX5_take_98 : decode cX5_take 98 = .ok (.ireturn, 1) := by decide +kernel
theorem dX5_write_0 : decode cX5_write 0 = .ok (.aload_n 0, 1) := by decide +kernel
theorem dX5_write_1 : decode cX5_write 1 = .ok (.getfield 29, 3) := by decide +kernel
theorem dX5_write_4 : decode cX5_write 4 = .ok (.aload_n 0, 1) := by decide +kernel
theorem dX5_write_5 : decode cX5_write 5 = .ok (.getfield 175, 3) := by decide +kernel
theorem dX5_write_8 : decode cX5_write 8 = .ok (.iload_n 1, 1) := by decide +kernel
theorem dX5_write_9 : decode cX5_write 9 = .ok (.iastore, 1) := by decide +kernel
theorem dX5_write_10 : decode cX5_write 10 = .ok (.aload_n 0, 1) := by decide +kernel
theorem dX5_write_11 : decode cX5_write 11 = .ok (.dup, 1) := by decide +kernel
theorem dX5_write_12 : decode cX5_write 12 = .ok (.getfield 175, 3) := by decide +kernel
theorem dX5_write_15 : decode cX5_write 15 = .ok (.iconst 1, 1) := by decide +kernel
theorem dX5_write_16 : decode cX5_write 16 = .ok (.iadd, 1) := by decide +kernel
theorem dX5_write_17 : decode cX5_write 17 = .ok (.putfield 175, 3) := by decide +kernel
theorem dX5_write_20 : decode cX5_write 20 = .ok (.return_, 1) := by decide +kernel
set_option maxRecDepth 20000 in
theorem ggX5_writeNumber_X5_write : GoodIn wsX5_writeNumber wsX5_write := goodIn_r _ [5, 6, 7, 8, 9, 10, 11, 12, 13, 14, 15, 16, 17, 18, 19, 20] (by decide +kernel) (by decide +kernel)
set_option maxRecDepth 20000 in
theorem gX5_writeNumber_X5_write : GoodIn wsX5_writeNumber (wsV RX5 178 RX5 yX5_write wsX5_write) := goodIn_app (goodIn_of _ (by decide +kernel)) ggX5_writeNumber_X5_write
theorem dX5_writeNumber_0 : decode cX5_writeNumber 0 = .ok (.iconst 1, 1) := by decide +kernel
theorem dX5_writeNumber_1 : decode cX5_writeNumber 1 = .ok (.istore_n 2, 1) := by decide +kernel
theorem dX5_writeNumber_2 : decode cX5_writeNumber 2 = .ok (.iload_n 1, 1) := by decide +kernel
theorem dX5_writeNumber_3 : decode cX5_writeNumber 3 = .ok (.iload_n 2, 1) := by decide +kernel
theorem dX5_writeNumber_4 : decode cX5_writeNumber 4 = .ok (.idiv, 1) := by decide +kernel
theorem dX5_writeNumber_5 : decode cX5_writeNumber 5 = .ok (.bipush 9, 2) := by decide +kernel
theorem dX5_writeNumber_7 : decode cX5_writeNumber 7 = .ok (.if_icmp .le 11, 3) := by decide +kernel
theorem dX5_writeNumber_10 : decode cX5_writeNumber 10 = .ok (.iload_n 2, 1) := by decide +kernel
theorem dX5_writeNumber_11 : decode cX5_writeNumber 11 = .ok (.bipush 10, 2) := by decide +kernel
theorem dX5_writeNumber_13 : decode cX5_writeNumber 13 = .ok (.imul, 1) := by decide +kernel
theorem dX5_writeNumber_14 : decode cX5_writeNumber 14 = .ok (.istore_n 2, 1) := by decide +kernel
theorem dX5_writeNumber_15 : decode cX5_writeNumber 15 = .ok (.goto (-13), 3) := by decide +kernel
theorem dX5_writeNumber_18 : decode cX5_writeNumber 18 = .ok (.iload_n 2, 1) := by decide +kernel
theorem dX5_writeNumber_19 : decode cX5_writeNumber 19 = .ok (.ifCond .le 24, 3) := by decide +kernel
theorem dX5_writeNumber_22 : decode cX5_writeNumber 22 = .ok (.aload_n 0, 1) := by decide +kernel
theorem dX5_writeNumber_23 : decode cX5_writeNumber 23 = .ok (.bipush 48, 2) := by decide +kernel
theorem dX5_writeNumber_25 : decode cX5_writeNumber 25 = .ok (.iload_n 1, 1) := by decide +kernel
theorem dX5_writeNumber_26 : decode cX5_writeNumber 26 = .ok (.iload_n 2, 1) := by decide +kernel
theorem dX5_writeNumber_27 : decode cX5_writeNumber 27 = .ok (.idiv, 1) := by decide +kernel
theorem dX5_writeNumber_28 : decode cX5_writeNumber 28 = .ok (.bipush 10, 2) := by decide +kernel
theorem dX5_writeNumber_30 : decode cX5_writeNumber 30 = .ok (.irem, 1) := by decide +kernel
theorem dX5_writeNumber_31 : decode cX5_writeNumber 31 = .ok (.iadd, 1) := by decide +kernel
theorem dX5_writeNumber_32 : decode cX5_writeNumber 32 = .ok (.invokevirtual 178, 3) := by decide +kernel
theorem dX5_writeNumber_35 : decode cX5_writeNumber 35 = .ok (.iload_n 2, 1) := by decide +kernel
theorem dX5_writeNumber_36 : decode cX5_writeNumber 36 = .ok (.bipush 10, 2) := by decide +kernel
theorem dX5_writeNumber_38 : decode cX5_writeNumber 38 = .ok (.idiv, 1) := by decide +kernel
theorem dX5_writeNumber_39 : decode cX5_writeNumber 39 = .ok (.istore_n 2, 1) := by decide +kernel
theorem dX5_writeNumber_40 : decode cX5_writeNumber 40 = .ok (.goto (-22), 3) := by decide +kernel
theorem dX5_writeNumber_43 : decode cX5_writeNumber 43 = .ok (.return_, 1) := by decide +kernel
set_option maxRecDepth 20000 in
theorem ggX5_writeRoll_X5_write : GoodIn wsX5_writeRoll wsX5_write := goodIn_r _ [5, 6, 7, 12, 13, 14, 15, 16, 17, 18, 19, 20, 21, 22, 23, 24] (by decide +kernel) (by decide +kernel)
set_option maxRecDepth 20000 in
theorem gX5_writeRoll_X5_write : GoodIn wsX5_writeRoll (wsV RX5 178 RX5 yX5_write wsX5_write) := goodIn_app (goodIn_of _ (by decide +kernel)) ggX5_writeRoll_X5_write
set_option maxRecDepth 20000 in
theorem ggX5_writeRoll_X5_writeNumber : GoodIn wsX5_writeRoll wsX5_writeNumber := goodIn_r _ [11, 1, 2, 3, 4, 5, 6, 7, 12, 13, 14, 15, 16, 17, 18, 19, 20, 21, 22, 23, 24] (by decide +kernel) (by decide +kernel)
set_option maxRecDepth 20000 in
theorem gX5_writeRoll_X5_writeNumber : GoodIn wsX5_writeRoll (wsV RX5 182 RX5 yX5_writeNumber wsX5_writeNumber) := goodIn_app (goodIn_of _ (by decide +kernel)) ggX5_writeRoll_X5_writeNumber
theorem dX5_writeRoll_0 : decode cX5_writeRoll 0 = .ok (.aload_n 0, 1) := by decide +kernel
theorem dX5_writeRoll_1 : decode cX5_writeRoll 1 = .ok (.bipush 32, 2) := by decide +kernel
theorem dX5_writeRoll_3 : decode cX5_writeRoll 3 = .ok (.invokevirtual 178, 3) := by decide +kernel
theorem dX5_writeRoll_6 : decode cX5_writeRoll 6 = .ok (.aload_n 0, 1) := by decide +kernel
theorem dX5_writeRoll_7 : decode cX5_writeRoll 7 = .ok (.iload_n 1, 1) := by decide +kernel
theorem dX5_writeRoll_8 : decode cX5_writeRoll 8 = .ok (.invokevirtual 178, 3) := by decide +kernel
theorem dX5_writeRoll_11 : decode cX5_writeRoll 11 = .ok (.aload_n 0, 1) := by decide +kernel
theorem dX5_writeRoll_12 : decode cX5_writeRoll 12 = .ok (.iload_n 2, 1) := by decide +kernel
theorem dX5_writeRoll_13 : decode cX5_writeRoll 13 = .ok (.invokevirtual 182, 3) := by decide +kernel
theorem dX5_writeRoll_16 : decode cX5_writeRoll 16 = .ok (.aload_n 0, 1) := by decide +kernel
theorem dX5_writeRoll_17 : decode cX5_writeRoll 17 = .ok (.bipush 58, 2) := by decide +kernel
theorem dX5_writeRoll_19 : decode cX5_writeRoll 19 = .ok (.invokevirtual 178, 3) := by decide +kernel
theorem dX5_writeRoll_22 : decode cX5_writeRoll 22 = .ok (.aload_n 0, 1) := by decide +kernel
theorem dX5_writeRoll_23 : decode cX5_writeRoll 23 = .ok (.iload_n 3, 1) := by decide +kernel
theorem dX5_writeRoll_24 : decode cX5_writeRoll 24 = .ok (.invokevirtual 182, 3) := by decide +kernel
theorem dX5_writeRoll_27 : decode cX5_writeRoll 27 = .ok (.return_, 1) := by decide +kernel
set_option maxRecDepth 20000 in
theorem ggX5_line_X5_isTake : GoodIn wsX5_line wsX5_isTake := goodIn_r _ [7, 8, 9, 6, 10] (by decide +kernel) (by decide +kernel)
set_option maxRecDepth 20000 in
theorem gX5_line_X5_isTake : GoodIn wsX5_line (va_wsS RX5 147 yX5_isTake wsX5_isTake) := goodIn_app (goodIn_of _ (by decide +kernel)) ggX5_line_X5_isTake
set_option maxRecDepth 20000 in
theorem ggX5_line_X5_refused : GoodIn wsX5_line wsX5_refused := goodIn_r _ [14, 15, 40, 41, 42, 43, 44, 45, 46, 47, 48, 49, 50, 51, 52] (by decide +kernel) (by decide +kernel)
set_option maxRecDepth 20000 in
theorem gX5_line_X5_refused : GoodIn wsX5_line (wsV RX5 103 RX5 yX5_refused wsX5_refused) := goodIn_app (goodIn_of _ (by decide +kernel)) ggX5_line_X5_refused
set_option maxRecDepth 20000 in
theorem ggX5_line_X5_of : GoodIn wsX5_line wsX5_of := goodIn_r _ [18] (by decide +kernel) (by decide +kernel)
set_option maxRecDepth 20000 in
theorem gX5_line_X5_of : GoodIn wsX5_line (va_wsS RX5 48 yX5_of wsX5_of) := goodIn_app (goodIn_of _ (by decide +kernel)) ggX5_line_X5_of
set_option maxRecDepth 20000 in
theorem ggX5_line_X5_writeNumber : GoodIn wsX5_line wsX5_writeNumber := goodIn_r _ [22, 23, 24, 25, 6, 26, 3, 2, 40, 41, 42, 43, 44, 45, 46, 47, 48, 49, 50, 51, 52] (by decide +kernel) (by decide +kernel)
set_option maxRecDepth 20000 in
theorem gX5_line_X5_writeNumber : GoodIn wsX5_line (wsV RX5 182 RX5 yX5_writeNumber wsX5_writeNumber) := goodIn_app (goodIn_of _ (by decide +kernel)) ggX5_line_X5_writeNumber
set_option maxRecDepth 20000 in
theorem ggX5_line_X5_write : GoodIn wsX5_line wsX5_write := goodIn_r _ [26, 3, 2, 40, 41, 42, 43, 44, 45, 46, 47, 48, 49, 50, 51, 52] (by decide +kernel) (by decide +kernel)
set_option maxRecDepth 20000 in
theorem gX5_line_X5_write : GoodIn wsX5_line (wsV RX5 178 RX5 yX5_write wsX5_write) := goodIn_app (goodIn_of _ (by decide +kernel)) ggX5_line_X5_write
set_option maxRecDepth 20000 in
theorem ggX5_line_X5_isRight : GoodIn wsX5_line wsX5_isRight := goodIn_r _ [29, 16, 17, 6, 18, 30, 31, 32, 33, 34, 35] (by decide +kernel) (by decide +kernel)
set_option maxRecDepth 20000 in
theorem gX5_line_X5_isRight : GoodIn wsX5_line (va_wsS RX5 60 yX5_isRight wsX5_isRight) := goodIn_app (goodIn_of _ (by decide +kernel)) ggX5_line_X5_isRight
set_option maxRecDepth 20000 in
theorem ggX5_line_X5_writeRoll : GoodIn wsX5_line wsX5_writeRoll := goodIn_r _ [39, 23, 24, 25, 6, 26, 3, 2, 19, 20, 21, 22, 40, 41, 42, 43, 44, 45, 46, 47, 48, 49, 50, 51, 52] (by decide +kernel) (by decide +kernel)
set_option maxRecDepth 20000 in
theorem gX5_line_X5_writeRoll : GoodIn wsX5_line (wsV RX5 185 RX5 yX5_writeRoll wsX5_writeRoll) := goodIn_app (goodIn_of _ (by decide +kernel)) ggX5_line_X5_writeRoll
theorem dX5_line_0 : decode cX5_line 0 = .ok (.aload_n 0, 1) := by decide +kernel
theorem dX5_line_1 : decode cX5_line 1 = .ok (.aload_n 0, 1) := by decide +kernel
theorem dX5_line_2 : decode cX5_line 2 = .ok (.getfield 13, 3) := by decide +kernel
theorem dX5_line_5 : decode cX5_line 5 = .ok (.iload_n 1, 1) := by decide +kernel
theorem dX5_line_6 : decode cX5_line 6 = .ok (.invokestatic 147, 3) := by decide +kernel
theorem dX5_line_9 : decode cX5_line 9 = .ok (.ifCond .ne 7, 3) := by decide +kernel
theorem dX5_line_12 : decode cX5_line 12 = .ok (.iconst 1, 1) := by decide +kernel
theorem dX5_line_13 : decode cX5_line 13 = .ok (.goto 12, 3) := by decide +kernel
theorem dX5_line_16 : decode cX5_line 16 = .ok (.iload_n 2, 1) := by decide +kernel
theorem dX5_line_17 : decode cX5_line 17 = .ok (.ifCond .lt 7, 3) := by decide +kernel
theorem dX5_line_20 : decode cX5_line 20 = .ok (.iconst 0, 1) := by decide +kernel
theorem dX5_line_21 : decode cX5_line 21 = .ok (.goto 4, 3) := by decide +kernel
theorem dX5_line_24 : decode cX5_line 24 = .ok (.iconst 2, 1) := by decide +kernel
theorem dX5_line_25 : decode cX5_line 25 = .ok (.invokevirtual 103, 3) := by decide +kernel
theorem dX5_line_28 : decode cX5_line 28 = .ok (.ifCond .eq 5, 3) := by decide +kernel
theorem dX5_line_31 : decode cX5_line 31 = .ok (.iconst 0, 1) := by decide +kernel
theorem dX5_line_32 : decode cX5_line 32 = .ok (.ireturn, 1) := by decide +kernel
theorem dX5_line_33 : decode cX5_line 33 = .ok (.aload_n 0, 1) := by decide +kernel
theorem dX5_line_34 : decode cX5_line 34 = .ok (.iconst 0, 1) := by decide +kernel
theorem dX5_line_35 : decode cX5_line 35 = .ok (.putfield 175, 3) := by decide +kernel
theorem dX5_line_38 : decode cX5_line 38 = .ok (.aload_n 0, 1) := by decide +kernel
theorem dX5_line_39 : decode cX5_line 39 = .ok (.aload_n 0, 1) := by decide +kernel
theorem dX5_line_40 : decode cX5_line 40 = .ok (.getfield 13, 3) := by decide +kernel
theorem dX5_line_43 : decode cX5_line 43 = .ok (.iload_n 1, 1) := by decide +kernel
theorem dX5_line_44 : decode cX5_line 44 = .ok (.iconst 2, 1) := by decide +kernel
theorem dX5_line_45 : decode cX5_line 45 = .ok (.invokestatic 48, 3) := by decide +kernel
theorem dX5_line_48 : decode cX5_line 48 = .ok (.invokevirtual 182, 3) := by decide +kernel
theorem dX5_line_51 : decode cX5_line 51 = .ok (.aload_n 0, 1) := by decide +kernel
theorem dX5_line_52 : decode cX5_line 52 = .ok (.bipush 65, 2) := by decide +kernel
theorem dX5_line_54 : decode cX5_line 54 = .ok (.aload_n 0, 1) := by decide +kernel
theorem dX5_line_55 : decode cX5_line 55 = .ok (.getfield 13, 3) := by decide +kernel
theorem dX5_line_58 : decode cX5_line 58 = .ok (.iload_n 1, 1) := by decide +kernel
theorem dX5_line_59 : decode cX5_line 59 = .ok (.iconst 3, 1) := by decide +kernel
theorem dX5_line_60 : decode cX5_line 60 = .ok (.invokestatic 48, 3) := by decide +kernel
theorem dX5_line_63 : decode cX5_line 63 = .ok (.iadd, 1) := by decide +kernel
theorem dX5_line_64 : decode cX5_line 64 = .ok (.invokevirtual 178, 3) := by decide +kernel
theorem dX5_line_67 : decode cX5_line 67 = .ok (.aload_n 0, 1) := by decide +kernel
theorem dX5_line_68 : decode cX5_line 68 = .ok (.bipush 47, 2) := by decide +kernel
theorem dX5_line_70 : decode cX5_line 70 = .ok (.invokevirtual 178, 3) := by decide +kernel
theorem dX5_line_73 : decode cX5_line 73 = .ok (.aload_n 0, 1) := by decide +kernel
theorem dX5_line_74 : decode cX5_line 74 = .ok (.aload_n 0, 1) := by decide +kernel
theorem dX5_line_75 : decode cX5_line 75 = .ok (.getfield 13, 3) := by decide +kernel
theorem dX5_line_78 : decode cX5_line 78 = .ok (.iload_n 1, 1) := by decide +kernel
theorem dX5_line_79 : decode cX5_line 79 = .ok (.iconst 4, 1) := by decide +kernel
theorem dX5_line_80 : decode cX5_line 80 = .ok (.invokestatic 48, 3) := by decide +kernel
theorem dX5_line_83 : decode cX5_line 83 = .ok (.invokevirtual 182, 3) := by decide +kernel
theorem dX5_line_86 : decode cX5_line 86 = .ok (.aload_n 0, 1) := by decide +kernel
theorem dX5_line_87 : decode cX5_line 87 = .ok (.getfield 13, 3) := by decide +kernel
theorem dX5_line_90 : decode cX5_line 90 = .ok (.iload_n 1, 1) := by decide +kernel
theorem dX5_line_91 : decode cX5_line 91 = .ok (.bipush 13, 2) := by decide +kernel
theorem dX5_line_93 : decode cX5_line 93 = .ok (.invokestatic 48, 3) := by decide +kernel
theorem dX5_line_96 : decode cX5_line 96 = .ok (.iconst 1, 1) := by decide +kernel
theorem dX5_line_97 : decode cX5_line 97 = .ok (.if_icmp .ne 9, 3) := by decide +kernel
theorem dX5_line_100 : decode cX5_line 100 = .ok (.aload_n 0, 1) := by decide +kernel
theorem dX5_line_101 : decode cX5_line 101 = .ok (.bipush 42, 2) := by decide +kernel
theorem dX5_line_103 : decode cX5_line 103 = .ok (.invokevirtual 178, 3) := by decide +kernel
theorem dX5_line_106 : decode cX5_line 106 = .ok (.aload_n 0, 1) := by decide +kernel
theorem dX5_line_107 : decode cX5_line 107 = .ok (.getfield 13, 3) := by decide +kernel
theorem dX5_line_110 : decode cX5_line 110 = .ok (.iload_n 1, 1) := by decide +kernel
theorem dX5_line_111 : decode cX5_line 111 = .ok (.invokestatic 60, 3) := by decide +kernel
theorem dX5_line_114 : decode cX5_line 114 = .ok (.ifCond .ne 9, 3) := by decide +kernel
theorem dX5_line_117 : decode cX5_line 117 = .ok (.aload_n 0, 1) := by decide +kernel
theorem dX5_line_118 : decode cX5_line 118 = .ok (.bipush 63, 2) := by decide +kernel
theorem dX5_line_120 : decode cX5_line 120 = .ok (.invokevirtual 178, 3) := by decide +kernel
theorem dX5_line_123 : decode cX5_line 123 = .ok (.aload_n 0, 1) := by decide +kernel
theorem dX5_line_124 : decode cX5_line 124 = .ok (.getfield 13, 3) := by decide +kernel
theorem dX5_line_127 : decode cX5_line 127 = .ok (.iload_n 1, 1) := by decide +kernel
theorem dX5_line_128 : decode cX5_line 128 = .ok (.bipush 14, 2) := by decide +kernel
theorem dX5_line_130 : decode cX5_line 130 = .ok (.invokestatic 48, 3) := by decide +kernel
theorem dX5_line_133 : decode cX5_line 133 = .ok (.iconst 1, 1) := by decide +kernel
theorem dX5_line_134 : decode cX5_line 134 = .ok (.if_icmp .ne 9, 3) := by decide +kernel
theorem dX5_line_137 : decode cX5_line 137 = .ok (.aload_n 0, 1) := by decide +kernel
theorem dX5_line_138 : decode cX5_line 138 = .ok (.bipush 120, 2) := by decide +kernel
theorem dX5_line_140 : decode cX5_line 140 = .ok (.invokevirtual 178, 3) := by decide +kernel
theorem dX5_line_143 : decode cX5_line 143 = .ok (.aload_n 0, 1) := by decide +kernel
theorem dX5_line_144 : decode cX5_line 144 = .ok (.bipush 99, 2) := by decide +kernel
theorem dX5_line_146 : decode cX5_line 146 = .ok (.aload_n 0, 1) := by decide +kernel
theorem dX5_line_147 : decode cX5_line 147 = .ok (.getfield 13, 3) := by decide +kernel
theorem dX5_line_150 : decode cX5_line 150 = .ok (.iload_n 1, 1) := by decide +kernel
theorem dX5_line_151 : decode cX5_line 151 = .ok (.iconst 5, 1) := by decide +kernel
theorem dX5_line_152 : decode cX5_line 152 = .ok (.invokestatic 48, 3) := by decide +kernel
theorem dX5_line_155 : decode cX5_line 155 = .ok (.aload_n 0, 1) := by decide +kernel
theorem dX5_line_156 : decode cX5_line 156 = .ok (.getfield 13, 3) := by decide +kernel
theorem dX5_line_159 : decode cX5_line 159 = .ok (.iload_n 1, 1) := by decide +kernel
theorem dX5_line_160 : decode cX5_line 160 = .ok (.bipush 6, 2) := by decide +kernel
theorem dX5_line_162 : decode cX5_line 162 = .ok (.invokestatic 48, 3) := by decide +kernel
theorem dX5_line_165 : decode cX5_line 165 = .ok (.invokevirtual 185, 3) := by decide +kernel
theorem dX5_line_168 : decode cX5_line 168 = .ok (.aload_n 0, 1) := by decide +kernel
theorem dX5_line_169 : decode cX5_line 169 = .ok (.getfield 13, 3) := by decide +kernel
theorem dX5_line_172 : decode cX5_line 172 = .ok (.iload_n 1, 1) := by decide +kernel
theorem dX5_line_173 : decode cX5_line 173 = .ok (.bipush 8, 2) := by decide +kernel
theorem dX5_line_175 : decode cX5_line 175 = .ok (.invokestatic 48, 3) := by decide +kernel
theorem dX5_line_178 : decode cX5_line 178 = .ok (.iconst (-1), 1) := by decide +kernel
theorem dX5_line_179 : decode cX5_line 179 = .ok (.if_icmp .eq 29, 3) := by decide +kernel
theorem dX5_line_182 : decode cX5_line 182 = .ok (.aload_n 0, 1) := by decide +kernel
theorem dX5_line_183 : decode cX5_line 183 = .ok (.bipush 115, 2) := by decide +kernel
theorem dX5_line_185 : decode cX5_line 185 = .ok (.aload_n 0, 1) := by decide +kernel
theorem dX5_line_186 : decode cX5_line 186 = .ok (.getfield 13, 3) := by decide +kernel
theorem dX5_line_189 : decode cX5_line 189 = .ok (.iload_n 1, 1) := by decide +kernel
theorem dX5_line_190 : decode cX5_line 190 = .ok (.bipush 8, 2) := by decide +kernel
theorem dX5_line_192 : decode cX5_line 192 = .ok (.invokestatic 48, 3) := by decide +kernel
theorem dX5_line_195 : decode cX5_line 195 = .ok (.aload_n 0, 1) := by decide +kernel
theorem dX5_line_196 : decode cX5_line 196 = .ok (.getfield 13, 3) := by decide +kernel
theorem dX5_line_199 : decode cX5_line 199 = .ok (.iload_n 1, 1) := by decide +kernel
theorem dX5_line_200 : decode cX5_line 200 = .ok (.bipush 10, 2) := by decide +kernel
theorem dX5_line_202 : decode cX5_line 202 = .ok (.invokestatic 48, 3) := by decide +kernel
theorem dX5_line_205 : decode cX5_line 205 = .ok (.invokevirtual 185, 3) := by decide +kernel
theorem dX5_line_208 : decode cX5_line 208 = .ok (.iload_n 2, 1) := by decide +kernel
theorem dX5_line_209 : decode cX5_line 209 = .ok (.aload_n 0, 1) := by decide +kernel
theorem dX5_line_210 : decode cX5_line 210 = .ok (.getfield 175, 3) := by decide +kernel
theorem dX5_line_213 : decode cX5_line 213 = .ok (.if_icmp .ge 12, 3) := by decide +kernel
theorem dX5_line_216 : decode cX5_line 216 = .ok (.aload_n 0, 1) := by decide +kernel
theorem dX5_line_217 : decode cX5_line 217 = .ok (.getfield 29, 3) := by decide +kernel
theorem dX5_line_220 : decode cX5_line 220 = .ok (.iload_n 2, 1) := by decide +kernel
theorem dX5_line_221 : decode cX5_line 221 = .ok (.iaload, 1) := by decide +kernel
theorem dX5_line_222 : decode cX5_line 222 = .ok (.goto 4, 3) := by decide +kernel
theorem dX5_line_225 : decode cX5_line 225 = .ok (.iconst (-1), 1) := by decide +kernel
theorem dX5_line_226 : decode cX5_line 226 = .ok (.ireturn, 1) := by decide +kernel
set_option maxRecDepth 20000 in
theorem ggX5_setting_X5_in : GoodIn wsX5_setting wsX5_in := goodIn_r _ [6] (by decide +kernel) (by decide +kernel)
set_option maxRecDepth 20000 in
theorem gX5_setting_X5_in : GoodIn wsX5_setting (va_wsS RX5 40 yX5_in wsX5_in) := goodIn_app (goodIn_of _ (by decide +kernel)) ggX5_setting_X5_in
set_option maxRecDepth 20000 in
theorem ggX5_setting_X5_refused : GoodIn wsX5_setting wsX5_refused := goodIn_r _ [10, 11, 12, 13, 14, 15, 16, 17, 18, 19, 20, 21, 22, 23, 24] (by decide +kernel) (by decide +kernel)
set_option maxRecDepth 20000 in
theorem gX5_setting_X5_refused : GoodIn wsX5_setting (wsV RX5 103 RX5 yX5_refused wsX5_refused) := goodIn_app (goodIn_of _ (by decide +kernel)) ggX5_setting_X5_refused
theorem dX5_setting_0 : decode cX5_setting 0 = .ok (.aload_n 0, 1) := by decide +kernel
theorem dX5_setting_1 : decode cX5_setting 1 = .ok (.iload_n 1, 1) := by decide +kernel
theorem dX5_setting_2 : decode cX5_setting 2 = .ok (.i2l, 1) := by decide +kernel
theorem dX5_setting_3 : decode cX5_setting 3 = .ok (.lconst 0, 1) := by decide +kernel
theorem dX5_setting_4 : decode cX5_setting 4 = .ok (.ldc2_w 84, 3) := by decide +kernel
theorem dX5_setting_7 : decode cX5_setting 7 = .ok (.invokestatic 40, 3) := by decide +kernel
theorem dX5_setting_10 : decode cX5_setting 10 = .ok (.ifCond .eq 7, 3) := by decide +kernel
theorem dX5_setting_13 : decode cX5_setting 13 = .ok (.iconst 0, 1) := by decide +kernel
theorem dX5_setting_14 : decode cX5_setting 14 = .ok (.goto 4, 3) := by decide +kernel
theorem dX5_setting_17 : decode cX5_setting 17 = .ok (.iconst 1, 1) := by decide +kernel
theorem dX5_setting_18 : decode cX5_setting 18 = .ok (.invokevirtual 103, 3) := by decide +kernel
theorem dX5_setting_21 : decode cX5_setting 21 = .ok (.ifCond .eq 5, 3) := by decide +kernel
theorem dX5_setting_24 : decode cX5_setting 24 = .ok (.iconst 0, 1) := by decide +kernel
theorem dX5_setting_25 : decode cX5_setting 25 = .ok (.ireturn, 1) := by decide +kernel
theorem dX5_setting_26 : decode cX5_setting 26 = .ok (.aload_n 0, 1) := by decide +kernel
theorem dX5_setting_27 : decode cX5_setting 27 = .ok (.getfield 13, 3) := by decide +kernel
theorem dX5_setting_30 : decode cX5_setting 30 = .ok (.bipush 13, 2) := by decide +kernel
theorem dX5_setting_32 : decode cX5_setting 32 = .ok (.iload_n 1, 1) := by decide +kernel
theorem dX5_setting_33 : decode cX5_setting 33 = .ok (.iadd, 1) := by decide +kernel
theorem dX5_setting_34 : decode cX5_setting 34 = .ok (.iaload, 1) := by decide +kernel
theorem dX5_setting_35 : decode cX5_setting 35 = .ok (.ireturn, 1) := by decide +kernel
set_option maxRecDepth 20000 in
theorem ggX5_remember_X5_copyState : GoodIn wsX5_remember wsX5_copyState := goodIn_r _ [7] (by decide +kernel) (by decide +kernel)
set_option maxRecDepth 20000 in
theorem gX5_remember_X5_copyState : GoodIn wsX5_remember (va_wsS RX5 160 yX5_copyState wsX5_copyState) := goodIn_app (goodIn_of _ (by decide +kernel)) ggX5_remember_X5_copyState
theorem dX5_remember_0 : decode cX5_remember 0 = .ok (.aload_n 0, 1) := by decide +kernel
theorem dX5_remember_1 : decode cX5_remember 1 = .ok (.getfield 164, 3) := by decide +kernel
theorem dX5_remember_4 : decode cX5_remember 4 = .ok (.bipush 14, 2) := by decide +kernel
theorem dX5_remember_6 : decode cX5_remember 6 = .ok (.if_icmp .ne 44, 3) := by decide +kernel
theorem dX5_remember_9 : decode cX5_remember 9 = .ok (.iconst 0, 1) := by decide +kernel
theorem dX5_remember_10 : decode cX5_remember 10 = .ok (.istore_n 1, 1) := by decide +kernel
theorem dX5_remember_11 : decode cX5_remember 11 = .ok (.iload_n 1, 1) := by decide +kernel
theorem dX5_remember_12 : decode cX5_remember 12 = .ok (.sipush 4901, 3) := by decide +kernel
theorem dX5_remember_15 : decode cX5_remember 15 = .ok (.if_icmp .ge 25, 3) := by decide +kernel
theorem dX5_remember_18 : decode cX5_remember 18 = .ok (.aload_n 0, 1) := by decide +kernel
theorem dX5_remember_19 : decode cX5_remember 19 = .ok (.getfield 19, 3) := by decide +kernel
theorem dX5_remember_22 : decode cX5_remember 22 = .ok (.iload_n 1, 1) := by decide +kernel
theorem dX5_remember_23 : decode cX5_remember 23 = .ok (.aload_n 0, 1) := by decide +kernel
theorem dX5_remember_24 : decode cX5_remember 24 = .ok (.getfield 19, 3) := by decide +kernel
theorem dX5_remember_27 : decode cX5_remember 27 = .ok (.iload_n 1, 1) := by decide +kernel
theorem dX5_remember_28 : decode cX5_remember 28 = .ok (.sipush 377, 3) := by decide +kernel
theorem dX5_remember_31 : decode cX5_remember 31 = .ok (.iadd, 1) := by decide +kernel
theorem dX5_remember_32 : decode cX5_remember 32 = .ok (.iaload, 1) := by decide +kernel
theorem dX5_remember_33 : decode cX5_remember 33 = .ok (.iastore, 1) := by decide +kernel
theorem dX5_remember_34 : decode cX5_remember 34 = .ok (.iinc 1 1, 3) := by decide +kernel
theorem dX5_remember_37 : decode cX5_remember 37 = .ok (.goto (-26), 3) := by decide +kernel
theorem dX5_remember_40 : decode cX5_remember 40 = .ok (.aload_n 0, 1) := by decide +kernel
theorem dX5_remember_41 : decode cX5_remember 41 = .ok (.dup, 1) := by decide +kernel
theorem dX5_remember_42 : decode cX5_remember 42 = .ok (.getfield 164, 3) := by decide +kernel
theorem dX5_remember_45 : decode cX5_remember 45 = .ok (.iconst 1, 1) := by decide +kernel
theorem dX5_remember_46 : decode cX5_remember 46 = .ok (.isub, 1) := by decide +kernel
theorem dX5_remember_47 : decode cX5_remember 47 = .ok (.putfield 164, 3) := by decide +kernel
theorem dX5_remember_50 : decode cX5_remember 50 = .ok (.aload_n 0, 1) := by decide +kernel
theorem dX5_remember_51 : decode cX5_remember 51 = .ok (.getfield 13, 3) := by decide +kernel
theorem dX5_remember_54 : decode cX5_remember 54 = .ok (.iconst 0, 1) := by decide +kernel
theorem dX5_remember_55 : decode cX5_remember 55 = .ok (.aload_n 0, 1) := by decide +kernel
theorem dX5_remember_56 : decode cX5_remember 56 = .ok (.getfield 19, 3) := by decide +kernel
theorem dX5_remember_59 : decode cX5_remember 59 = .ok (.sipush 377, 3) := by decide +kernel
theorem dX5_remember_62 : decode cX5_remember 62 = .ok (.aload_n 0, 1) := by decide +kernel
theorem dX5_remember_63 : decode cX5_remember 63 = .ok (.getfield 164, 3) := by decide +kernel
theorem dX5_remember_66 : decode cX5_remember 66 = .ok (.imul, 1) := by decide +kernel
theorem dX5_remember_67 : decode cX5_remember 67 = .ok (.invokestatic 160, 3) := by decide +kernel
theorem dX5_remember_70 : decode cX5_remember 70 = .ok (.aload_n 0, 1) := by decide +kernel
theorem dX5_remember_71 : decode cX5_remember 71 = .ok (.dup, 1) := by decide +kernel
theorem dX5_remember_72 : decode cX5_remember 72 = .ok (.getfield 164, 3) := by decide +kernel
theorem dX5_remember_75 : decode cX5_remember 75 = .ok (.iconst 1, 1) := by decide +kernel
theorem dX5_remember_76 : decode cX5_remember 76 = .ok (.iadd, 1) := by decide +kernel
theorem dX5_remember_77 : decode cX5_remember 77 = .ok (.putfield 164, 3) := by decide +kernel
theorem dX5_remember_80 : decode cX5_remember 80 = .ok (.return_, 1) := by decide +kernel
set_option maxRecDepth 20000 in
theorem ggX5_call_X5_isSetup : GoodIn wsX5_call wsX5_isSetup := goodIn_r _ [5, 6, 7, 8, 9, 4, 10] (by decide +kernel) (by decide +kernel)
set_option maxRecDepth 20000 in
theorem gX5_call_X5_isSetup : GoodIn wsX5_call (va_wsS RX5 189 yX5_isSetup wsX5_isSetup) := goodIn_app (goodIn_of _ (by decide +kernel)) ggX5_call_X5_isSetup
set_option maxRecDepth 20000 in
theorem ggX5_call_X5_refused : GoodIn wsX5_call wsX5_refused := goodIn_r _ [14, 15, 37, 38, 39, 40, 41, 42, 43, 44, 45, 46, 47, 48, 49] (by decide +kernel) (by decide +kernel)
set_option maxRecDepth 20000 in
theorem gX5_call_X5_refused : GoodIn wsX5_call (wsV RX5 103 RX5 yX5_refused wsX5_refused) := goodIn_app (goodIn_of _ (by decide +kernel)) ggX5_call_X5_refused
set_option maxRecDepth 20000 in
theorem ggX5_call_X5_remember : GoodIn wsX5_call wsX5_remember := goodIn_r _ [19, 20, 21, 1, 22, 23, 4, 24, 37, 38, 39, 40, 41, 42, 43, 44, 45, 46, 47, 48, 49] (by decide +kernel) (by decide +kernel)
set_option maxRecDepth 20000 in
theorem gX5_call_X5_remember : GoodIn wsX5_call (wsV RX5 193 RX5 yX5_remember wsX5_remember) := goodIn_app (goodIn_of _ (by decide +kernel)) ggX5_call_X5_remember
set_option maxRecDepth 20000 in
theorem ggX5_call_X5_callOn : GoodIn wsX5_call wsX5_callOn := goodIn_r _ [27, 28, 29, 4, 30, 31, 32, 33, 34, 35, 36] (by decide +kernel) (by decide +kernel)
set_option maxRecDepth 20000 in
theorem gX5_call_X5_callOn : GoodIn wsX5_call (va_wsS RX5 123 yX5_callOn wsX5_callOn) := goodIn_app (goodIn_of _ (by decide +kernel)) ggX5_call_X5_callOn
theorem dX5_call_0 : decode cX5_call 0 = .ok (.aload_n 0, 1) := by decide +kernel
theorem dX5_call_1 : decode cX5_call 1 = .ok (.iload_n 1, 1) := by decide +kernel
theorem dX5_call_2 : decode cX5_call 2 = .ok (.iload_n 2, 1) := by decide +kernel
theorem dX5_call_3 : decode cX5_call 3 = .ok (.invokestatic 189, 3) := by decide +kernel
theorem dX5_call_6 : decode cX5_call 6 = .ok (.ifCond .eq 7, 3) := by decide +kernel
theorem dX5_call_9 : decode cX5_call 9 = .ok (.iconst 0, 1) := by decide +kernel
theorem dX5_call_10 : decode cX5_call 10 = .ok (.goto 4, 3) := by decide +kernel
theorem dX5_call_13 : decode cX5_call 13 = .ok (.iconst 1, 1) := by decide +kernel
theorem dX5_call_14 : decode cX5_call 14 = .ok (.invokevirtual 103, 3) := by decide +kernel
theorem dX5_call_17 : decode cX5_call 17 = .ok (.ifCond .eq 5, 3) := by decide +kernel
theorem dX5_call_20 : decode cX5_call 20 = .ok (.iconst 0, 1) := by decide +kernel
theorem dX5_call_21 : decode cX5_call 21 = .ok (.ireturn, 1) := by decide +kernel
theorem dX5_call_22 : decode cX5_call 22 = .ok (.aload_n 0, 1) := by decide +kernel
theorem dX5_call_23 : decode cX5_call 23 = .ok (.invokevirtual 193, 3) := by decide +kernel
theorem dX5_call_26 : decode cX5_call 26 = .ok (.aload_n 0, 1) := by decide +kernel
theorem dX5_call_27 : decode cX5_call 27 = .ok (.getfield 13, 3) := by decide +kernel
theorem dX5_call_30 : decode cX5_call 30 = .ok (.iload_n 1, 1) := by decide +kernel
theorem dX5_call_31 : decode cX5_call 31 = .ok (.iload_n 2, 1) := by decide +kernel
theorem dX5_call_32 : decode cX5_call 32 = .ok (.invokestatic 123, 3) := by decide +kernel
theorem dX5_call_35 : decode cX5_call 35 = .ok (.ireturn, 1) := by decide +kernel
set_option maxRecDepth 20000 in
theorem ggX5_board_X5_isSetup : GoodIn wsX5_board wsX5_isSetup := goodIn_r _ [6, 1, 7, 8, 9, 5, 10] (by decide +kernel) (by decide +kernel)
set_option maxRecDepth 20000 in
theorem gX5_board_X5_isSetup : GoodIn wsX5_board (va_wsS RX5 189 yX5_isSetup wsX5_isSetup) := goodIn_app (goodIn_of _ (by decide +kernel)) ggX5_board_X5_isSetup
set_option maxRecDepth 20000 in
theorem ggX5_board_X5_in : GoodIn wsX5_board wsX5_in := goodIn_r _ [10] (by decide +kernel) (by decide +kernel)
set_option maxRecDepth 20000 in
theorem gX5_board_X5_in : GoodIn wsX5_board (va_wsS RX5 40 yX5_in wsX5_in) := goodIn_app (goodIn_of _ (by decide +kernel)) ggX5_board_X5_in
set_option maxRecDepth 20000 in
theorem ggX5_board_X5_refused : GoodIn wsX5_board wsX5_refused := goodIn_r _ [14, 15, 37, 38, 39, 40, 41, 42, 43, 44, 45, 46, 47, 48, 49] (by decide +kernel) (by decide +kernel)
set_option maxRecDepth 20000 in
theorem gX5_board_X5_refused : GoodIn wsX5_board (wsV RX5 103 RX5 yX5_refused wsX5_refused) := goodIn_app (goodIn_of _ (by decide +kernel)) ggX5_board_X5_refused
set_option maxRecDepth 20000 in
theorem ggX5_board_X5_remember : GoodIn wsX5_board wsX5_remember := goodIn_r _ [19, 20, 21, 2, 22, 23, 5, 24, 37, 38, 39, 40, 41, 42, 43, 44, 45, 46, 47, 48, 49] (by decide +kernel) (by decide +kernel)
set_option maxRecDepth 20000 in
theorem gX5_board_X5_remember : GoodIn wsX5_board (wsV RX5 193 RX5 yX5_remember wsX5_remember) := goodIn_app (goodIn_of _ (by decide +kernel)) ggX5_board_X5_remember
set_option maxRecDepth 20000 in
theorem ggX5_board_X5_boardOn : GoodIn wsX5_board wsX5_boardOn := goodIn_r _ [27, 28, 29, 5, 30, 31, 32, 33, 34, 35, 36] (by decide +kernel) (by decide +kernel)
set_option maxRecDepth 20000 in
theorem gX5_board_X5_boardOn : GoodIn wsX5_board (va_wsS RX5 75 yX5_boardOn wsX5_boardOn) := goodIn_app (goodIn_of _ (by decide +kernel)) ggX5_board_X5_boardOn
theorem dX5_board_0 : decode cX5_board 0 = .ok (.aload_n 0, 1) := by decide +kernel
theorem dX5_board_1 : decode cX5_board 1 = .ok (.iload_n 1, 1) := by decide +kernel
theorem dX5_board_2 : decode cX5_board 2 = .ok (.iload_n 2, 1) := by decide +kernel
theorem dX5_board_3 : decode cX5_board 3 = .ok (.invokestatic 189, 3) := by decide +kernel
theorem dX5_board_6 : decode cX5_board 6 = .ok (.ifCond .eq 19, 3) := by decide +kernel
theorem dX5_board_9 : decode cX5_board 9 = .ok (.iload_n 3, 1) := by decide +kernel
theorem dX5_board_10 : decode cX5_board 10 = .ok (.i2l, 1) := by decide +kernel
theorem dX5_board_11 : decode cX5_board 11 = .ok (.lconst 1, 1) := by decide +kernel
theorem dX5_board_12 : decode cX5_board 12 = .ok (.ldc2_w 44, 3) := by decide +kernel
theorem dX5_board_15 : decode cX5_board 15 = .ok (.invokestatic 40, 3) := by decide +kernel
theorem dX5_board_18 : decode cX5_board 18 = .ok (.ifCond .eq 7, 3) := by decide +kernel
theorem dX5_board_21 : decode cX5_board 21 = .ok (.iconst 0, 1) := by decide +kernel
theorem dX5_board_22 : decode cX5_board 22 = .ok (.goto 4, 3) := by decide +kernel
theorem dX5_board_25 : decode cX5_board 25 = .ok (.iconst 1, 1) := by decide +kernel
theorem dX5_board_26 : decode cX5_board 26 = .ok (.invokevirtual 103, 3) := by decide +kernel
theorem dX5_board_29 : decode cX5_board 29 = .ok (.ifCond .eq 5, 3) := by decide +kernel
theorem dX5_board_32 : decode cX5_board 32 = .ok (.iconst 0, 1) := by decide +kernel
theorem dX5_board_33 : decode cX5_board 33 = .ok (.ireturn, 1) := by decide +kernel
theorem dX5_board_34 : decode cX5_board 34 = .ok (.aload_n 0, 1) := by decide +kernel
theorem dX5_board_35 : decode cX5_board 35 = .ok (.invokevirtual 193, 3) := by decide +kernel
theorem dX5_board_38 : decode cX5_board 38 = .ok (.aload_n 0, 1) := by decide +kernel
theorem dX5_board_39 : decode cX5_board 39 = .ok (.getfield 13, 3) := by decide +kernel
theorem dX5_board_42 : decode cX5_board 42 = .ok (.iload_n 1, 1) := by decide +kernel
theorem dX5_board_43 : decode cX5_board 43 = .ok (.iload_n 2, 1) := by decide +kernel
theorem dX5_board_44 : decode cX5_board 44 = .ok (.iload_n 3, 1) := by decide +kernel
theorem dX5_board_45 : decode cX5_board 45 = .ok (.invokestatic 75, 3) := by decide +kernel
theorem dX5_board_48 : decode cX5_board 48 = .ok (.ireturn, 1) := by decide +kernel
set_option maxRecDepth 20000 in
theorem ggX5_right_X5_remember : GoodIn wsX5_right wsX5_remember := goodIn_r _ [7, 8, 9, 2, 10, 11, 6, 12, 28, 29, 30, 31, 32, 33, 34, 35, 36, 37, 38, 39, 40] (by decide +kernel) (by decide +kernel)
set_option maxRecDepth 20000 in
theorem gX5_right_X5_remember : GoodIn wsX5_right (wsV RX5 193 RX5 yX5_remember wsX5_remember) := goodIn_app (goodIn_of _ (by decide +kernel)) ggX5_right_X5_remember
set_option maxRecDepth 20000 in
theorem ggX5_right_X5_rightOn : GoodIn wsX5_right wsX5_rightOn := goodIn_r _ [15, 16, 17, 6, 18, 19, 20, 21, 22, 23, 24, 25, 26, 27] (by decide +kernel) (by decide +kernel)
set_option maxRecDepth 20000 in
theorem gX5_right_X5_rightOn : GoodIn wsX5_right (va_wsS RX5 130 yX5_rightOn wsX5_rightOn) := goodIn_app (goodIn_of _ (by decide +kernel)) ggX5_right_X5_rightOn
theorem dX5_right_0 : decode cX5_right 0 = .ok (.aload_n 0, 1) := by decide +kernel
theorem dX5_right_1 : decode cX5_right 1 = .ok (.iconst 0, 1) := by decide +kernel
theorem dX5_right_2 : decode cX5_right 2 = .ok (.putfield 36, 3) := by decide +kernel
theorem dX5_right_5 : decode cX5_right 5 = .ok (.aload_n 0, 1) := by decide +kernel
theorem dX5_right_6 : decode cX5_right 6 = .ok (.invokevirtual 193, 3) := by decide +kernel
theorem dX5_right_9 : decode cX5_right 9 = .ok (.aload_n 0, 1) := by decide +kernel
theorem dX5_right_10 : decode cX5_right 10 = .ok (.getfield 13, 3) := by decide +kernel
theorem dX5_right_13 : decode cX5_right 13 = .ok (.invokestatic 130, 3) := by decide +kernel
theorem dX5_right_16 : decode cX5_right 16 = .ok (.ireturn, 1) := by decide +kernel
set_option maxRecDepth 20000 in
theorem ggX5_shoot_X5_in : GoodIn wsX5_shoot wsX5_in := goodIn_r _ [6] (by decide +kernel) (by decide +kernel)
set_option maxRecDepth 20000 in
theorem gX5_shoot_X5_in : GoodIn wsX5_shoot (va_wsS RX5 40 yX5_in wsX5_in) := goodIn_app (goodIn_of _ (by decide +kernel)) ggX5_shoot_X5_in
set_option maxRecDepth 20000 in
theorem ggX5_shoot_X5_canShoot : GoodIn wsX5_shoot wsX5_canShoot := goodIn_r _ [9, 10, 11, 5, 12] (by decide +kernel) (by decide +kernel)
set_option maxRecDepth 20000 in
theorem gX5_shoot_X5_canShoot : GoodIn wsX5_shoot (va_wsS RX5 133 yX5_canShoot wsX5_canShoot) := goodIn_app (goodIn_of _ (by decide +kernel)) ggX5_shoot_X5_canShoot
set_option maxRecDepth 20000 in
theorem ggX5_shoot_X5_refused : GoodIn wsX5_shoot wsX5_refused := goodIn_r _ [16, 17, 33, 34, 35, 36, 37, 38, 39, 40, 41, 42, 43, 44, 45] (by decide +kernel) (by decide +kernel)
set_option maxRecDepth 20000 in
theorem gX5_shoot_X5_refused : GoodIn wsX5_shoot (wsV RX5 103 RX5 yX5_refused wsX5_refused) := goodIn_app (goodIn_of _ (by decide +kernel)) ggX5_shoot_X5_refused
set_option maxRecDepth 20000 in
theorem ggX5_shoot_X5_remember : GoodIn wsX5_shoot wsX5_remember := goodIn_r _ [21, 22, 23, 2, 24, 25, 5, 26, 33, 34, 35, 36, 37, 38, 39, 40, 41, 42, 43, 44, 45] (by decide +kernel) (by decide +kernel)
set_option maxRecDepth 20000 in
theorem gX5_shoot_X5_remember : GoodIn wsX5_shoot (wsV RX5 193 RX5 yX5_remember wsX5_remember) := goodIn_app (goodIn_of _ (by decide +kernel)) ggX5_shoot_X5_remember
set_option maxRecDepth 20000 in
theorem ggX5_shoot_X5_shootOn : GoodIn wsX5_shoot wsX5_shootOn := goodIn_r _ [29, 10, 11, 5, 12, 30, 31, 32] (by decide +kernel) (by decide +kernel)
set_option maxRecDepth 20000 in
theorem gX5_shoot_X5_shootOn : GoodIn wsX5_shoot (va_wsS RX5 137 yX5_shootOn wsX5_shootOn) := goodIn_app (goodIn_of _ (by decide +kernel)) ggX5_shoot_X5_shootOn
theorem dX5_shoot_0 : decode cX5_shoot 0 = .ok (.aload_n 0, 1) := by decide +kernel
theorem dX5_shoot_1 : decode cX5_shoot 1 = .ok (.iload_n 1, 1) := by decide +kernel
theorem dX5_shoot_2 : decode cX5_shoot 2 = .ok (.i2l, 1) := by decide +kernel
theorem dX5_shoot_3 : decode cX5_shoot 3 = .ok (.lconst 1, 1) := by decide +kernel
theorem dX5_shoot_4 : decode cX5_shoot 4 = .ok (.ldc2_w 196, 3) := by decide +kernel
theorem dX5_shoot_7 : decode cX5_shoot 7 = .ok (.invokestatic 40, 3) := by decide +kernel
theorem dX5_shoot_10 : decode cX5_shoot 10 = .ok (.ifCond .ne 7, 3) := by decide +kernel
theorem dX5_shoot_13 : decode cX5_shoot 13 = .ok (.iconst 1, 1) := by decide +kernel
theorem dX5_shoot_14 : decode cX5_shoot 14 = .ok (.goto 18, 3) := by decide +kernel
theorem dX5_shoot_17 : decode cX5_shoot 17 = .ok (.aload_n 0, 1) := by decide +kernel
theorem dX5_shoot_18 : decode cX5_shoot 18 = .ok (.getfield 13, 3) := by decide +kernel
theorem dX5_shoot_21 : decode cX5_shoot 21 = .ok (.invokestatic 133, 3) := by decide +kernel
theorem dX5_shoot_24 : decode cX5_shoot 24 = .ok (.ifCond .eq 7, 3) := by decide +kernel
theorem dX5_shoot_27 : decode cX5_shoot 27 = .ok (.iconst 0, 1) := by decide +kernel
theorem dX5_shoot_28 : decode cX5_shoot 28 = .ok (.goto 4, 3) := by decide +kernel
theorem dX5_shoot_31 : decode cX5_shoot 31 = .ok (.iconst 2, 1) := by decide +kernel
theorem dX5_shoot_32 : decode cX5_shoot 32 = .ok (.invokevirtual 103, 3) := by decide +kernel
theorem dX5_shoot_35 : decode cX5_shoot 35 = .ok (.ifCond .eq 5, 3) := by decide +kernel
theorem dX5_shoot_38 : decode cX5_shoot 38 = .ok (.iconst 0, 1) := by decide +kernel
theorem dX5_shoot_39 : decode cX5_shoot 39 = .ok (.ireturn, 1) := by decide +kernel
theorem dX5_shoot_40 : decode cX5_shoot 40 = .ok (.aload_n 0, 1) := by decide +kernel
theorem dX5_shoot_41 : decode cX5_shoot 41 = .ok (.invokevirtual 193, 3) := by decide +kernel
theorem dX5_shoot_44 : decode cX5_shoot 44 = .ok (.aload_n 0, 1) := by decide +kernel
theorem dX5_shoot_45 : decode cX5_shoot 45 = .ok (.getfield 13, 3) := by decide +kernel
theorem dX5_shoot_48 : decode cX5_shoot 48 = .ok (.iload_n 1, 1) := by decide +kernel
theorem dX5_shoot_49 : decode cX5_shoot 49 = .ok (.iload_n 2, 1) := by decide +kernel
theorem dX5_shoot_50 : decode cX5_shoot 50 = .ok (.invokestatic 137, 3) := by decide +kernel
theorem dX5_shoot_53 : decode cX5_shoot 53 = .ok (.ireturn, 1) := by decide +kernel
set_option maxRecDepth 20000 in
theorem ggX5_newCamera_X5_remember : GoodIn wsX5_newCamera wsX5_remember := goodIn_r _ [7, 8, 9, 2, 10, 11, 6, 12, 16, 17, 18, 19, 20, 21, 22, 23, 24, 25, 26, 27, 28] (by decide +kernel) (by decide +kernel)
set_option maxRecDepth 20000 in
theorem gX5_newCamera_X5_remember : GoodIn wsX5_newCamera (wsV RX5 193 RX5 yX5_remember wsX5_remember) := goodIn_app (goodIn_of _ (by decide +kernel)) ggX5_newCamera_X5_remember
set_option maxRecDepth 20000 in
theorem ggX5_newCamera_X5_newCameraOn : GoodIn wsX5_newCamera wsX5_newCameraOn := goodIn_r _ [15] (by decide +kernel) (by decide +kernel)
set_option maxRecDepth 20000 in
theorem gX5_newCamera_X5_newCameraOn : GoodIn wsX5_newCamera (va_wsS RX5 141 yX5_newCameraOn wsX5_newCameraOn) := goodIn_app (goodIn_of _ (by decide +kernel)) ggX5_newCamera_X5_newCameraOn
theorem dX5_newCamera_0 : decode cX5_newCamera 0 = .ok (.aload_n 0, 1) := by decide +kernel
theorem dX5_newCamera_1 : decode cX5_newCamera 1 = .ok (.iconst 0, 1) := by decide +kernel
theorem dX5_newCamera_2 : decode cX5_newCamera 2 = .ok (.putfield 36, 3) := by decide +kernel
theorem dX5_newCamera_5 : decode cX5_newCamera 5 = .ok (.aload_n 0, 1) := by decide +kernel
theorem dX5_newCamera_6 : decode cX5_newCamera 6 = .ok (.invokevirtual 193, 3) := by decide +kernel
theorem dX5_newCamera_9 : decode cX5_newCamera 9 = .ok (.aload_n 0, 1) := by decide +kernel
theorem dX5_newCamera_10 : decode cX5_newCamera 10 = .ok (.getfield 13, 3) := by decide +kernel
theorem dX5_newCamera_13 : decode cX5_newCamera 13 = .ok (.invokestatic 141, 3) := by decide +kernel
theorem dX5_newCamera_16 : decode cX5_newCamera 16 = .ok (.ireturn, 1) := by decide +kernel
set_option maxRecDepth 20000 in
theorem ggX5_newSound_X5_remember : GoodIn wsX5_newSound wsX5_remember := goodIn_r _ [7, 8, 9, 2, 10, 11, 6, 12, 16, 17, 18, 19, 20, 21, 22, 23, 24, 25, 26, 27, 28] (by decide +kernel) (by decide +kernel)
set_option maxRecDepth 20000 in
theorem gX5_newSound_X5_remember : GoodIn wsX5_newSound (wsV RX5 193 RX5 yX5_remember wsX5_remember) := goodIn_app (goodIn_of _ (by decide +kernel)) ggX5_newSound_X5_remember
set_option maxRecDepth 20000 in
theorem ggX5_newSound_X5_newSoundOn : GoodIn wsX5_newSound wsX5_newSoundOn := goodIn_r _ [15] (by decide +kernel) (by decide +kernel)
set_option maxRecDepth 20000 in
theorem gX5_newSound_X5_newSoundOn : GoodIn wsX5_newSound (va_wsS RX5 144 yX5_newSoundOn wsX5_newSoundOn) := goodIn_app (goodIn_of _ (by decide +kernel)) ggX5_newSound_X5_newSoundOn
theorem dX5_newSound_0 : decode cX5_newSound 0 = .ok (.aload_n 0, 1) := by decide +kernel
theorem dX5_newSound_1 : decode cX5_newSound 1 = .ok (.iconst 0, 1) := by decide +kernel
theorem dX5_newSound_2 : decode cX5_newSound 2 = .ok (.putfield 36, 3) := by decide +kernel
theorem dX5_newSound_5 : decode cX5_newSound 5 = .ok (.aload_n 0, 1) := by decide +kernel
theorem dX5_newSound_6 : decode cX5_newSound 6 = .ok (.invokevirtual 193, 3) := by decide +kernel
theorem dX5_newSound_9 : decode cX5_newSound 9 = .ok (.aload_n 0, 1) := by decide +kernel
theorem dX5_newSound_10 : decode cX5_newSound 10 = .ok (.getfield 13, 3) := by decide +kernel
theorem dX5_newSound_13 : decode cX5_newSound 13 = .ok (.invokestatic 144, 3) := by decide +kernel
theorem dX5_newSound_16 : decode cX5_newSound 16 = .ok (.ireturn, 1) := by decide +kernel
set_option maxRecDepth 20000 in
theorem ggX5_circle_X5_isTake : GoodIn wsX5_circle wsX5_isTake := goodIn_r _ [5, 6, 7, 4, 8] (by decide +kernel) (by decide +kernel)
set_option maxRecDepth 20000 in
theorem gX5_circle_X5_isTake : GoodIn wsX5_circle (va_wsS RX5 147 yX5_isTake wsX5_isTake) := goodIn_app (goodIn_of _ (by decide +kernel)) ggX5_circle_X5_isTake
set_option maxRecDepth 20000 in
theorem ggX5_circle_X5_refused : GoodIn wsX5_circle wsX5_refused := goodIn_r _ [12, 13, 47, 48, 49, 50, 51, 52, 53, 54, 55, 56, 57, 58, 59] (by decide +kernel) (by decide +kernel)
set_option maxRecDepth 20000 in
theorem gX5_circle_X5_refused : GoodIn wsX5_circle (wsV RX5 103 RX5 yX5_refused wsX5_refused) := goodIn_app (goodIn_of _ (by decide +kernel)) ggX5_circle_X5_refused
set_option maxRecDepth 20000 in
theorem ggX5_circle_X5_remember : GoodIn wsX5_circle wsX5_remember := goodIn_r _ [17, 18, 19, 1, 20, 21, 4, 22, 47, 48, 49, 50, 51, 52, 53, 54, 55, 56, 57, 58, 59] (by decide +kernel) (by decide +kernel)
set_option maxRecDepth 20000 in
theorem gX5_circle_X5_remember : GoodIn wsX5_circle (wsV RX5 193 RX5 yX5_remember wsX5_remember) := goodIn_app (goodIn_of _ (by decide +kernel)) ggX5_circle_X5_remember
set_option maxRecDepth 20000 in
theorem ggX5_circle_X5_markOn : GoodIn wsX5_circle wsX5_markOn := goodIn_r _ [25, 26, 27, 4, 28, 29, 30, 31, 32, 33, 34, 35, 36, 37, 38, 39, 40, 41, 42, 43, 44, 45, 46] (by decide +kernel) (by decide +kernel)
set_option maxRecDepth 20000 in
theorem gX5_circle_X5_markOn : GoodIn wsX5_circle (va_wsS RX5 150 yX5_markOn wsX5_markOn) := goodIn_app (goodIn_of _ (by decide +kernel)) ggX5_circle_X5_markOn
theorem dX5_circle_0 : decode cX5_circle 0 = .ok (.aload_n 0, 1) := by decide +kernel
theorem dX5_circle_1 : decode cX5_circle 1 = .ok (.aload_n 0, 1) := by decide +kernel
theorem dX5_circle_2 : decode cX5_circle 2 = .ok (.getfield 13, 3) := by decide +kernel
theorem dX5_circle_5 : decode cX5_circle 5 = .ok (.iload_n 1, 1) := by decide +kernel
theorem dX5_circle_6 : decode cX5_circle 6 = .ok (.invokestatic 147, 3) := by decide +kernel
theorem dX5_circle_9 : decode cX5_circle 9 = .ok (.ifCond .eq 7, 3) := by decide +kernel
theorem dX5_circle_12 : decode cX5_circle 12 = .ok (.iconst 0, 1) := by decide +kernel
theorem dX5_circle_13 : decode cX5_circle 13 = .ok (.goto 4, 3) := by decide +kernel
theorem dX5_circle_16 : decode cX5_circle 16 = .ok (.iconst 1, 1) := by decide +kernel
theorem dX5_circle_17 : decode cX5_circle 17 = .ok (.invokevirtual 103, 3) := by decide +kernel
theorem dX5_circle_20 : decode cX5_circle 20 = .ok (.ifCond .eq 5, 3) := by decide +kernel
theorem dX5_circle_23 : decode cX5_circle 23 = .ok (.iconst 0, 1) := by decide +kernel
theorem dX5_circle_24 : decode cX5_circle 24 = .ok (.ireturn, 1) := by decide +kernel
theorem dX5_circle_25 : decode cX5_circle 25 = .ok (.aload_n 0, 1) := by decide +kernel
theorem dX5_circle_26 : decode cX5_circle 26 = .ok (.invokevirtual 193, 3) := by decide +kernel
theorem dX5_circle_29 : decode cX5_circle 29 = .ok (.aload_n 0, 1) := by decide +kernel
theorem dX5_circle_30 : decode cX5_circle 30 = .ok (.getfield 13, 3) := by decide +kernel
theorem dX5_circle_33 : decode cX5_circle 33 = .ok (.iload_n 1, 1) := by decide +kernel
theorem dX5_circle_34 : decode cX5_circle 34 = .ok (.bipush 13, 2) := by decide +kernel
theorem dX5_circle_36 : decode cX5_circle 36 = .ok (.iload_n 2, 1) := by decide +kernel
theorem dX5_circle_37 : decode cX5_circle 37 = .ok (.invokestatic 150, 3) := by decide +kernel
theorem dX5_circle_40 : decode cX5_circle 40 = .ok (.ireturn, 1) := by decide +kernel
set_option maxRecDepth 20000 in
theorem ggX5_falseStart_X5_isTake : GoodIn wsX5_falseStart wsX5_isTake := goodIn_r _ [5, 6, 7, 4, 8] (by decide +kernel) (by decide +kernel)
set_option maxRecDepth 20000 in
theorem gX5_falseStart_X5_isTake : GoodIn wsX5_falseStart (va_wsS RX5 147 yX5_isTake wsX5_isTake) := goodIn_app (goodIn_of _ (by decide +kernel)) ggX5_falseStart_X5_isTake
set_option maxRecDepth 20000 in
theorem ggX5_falseStart_X5_refused : GoodIn wsX5_falseStart wsX5_refused := goodIn_r _ [12, 13, 47, 48, 49, 50, 51, 52, 53, 54, 55, 56, 57, 58, 59] (by decide +kernel) (by decide +kernel)
set_option maxRecDepth 20000 in
theorem gX5_falseStart_X5_refused : GoodIn wsX5_falseStart (wsV RX5 103 RX5 yX5_refused wsX5_refused) := goodIn_app (goodIn_of _ (by decide +kernel)) ggX5_falseStart_X5_refused
set_option maxRecDepth 20000 in
theorem ggX5_falseStart_X5_remember : GoodIn wsX5_falseStart wsX5_remember := goodIn_r _ [17, 18, 19, 1, 20, 21, 4, 22, 47, 48, 49, 50, 51, 52, 53, 54, 55, 56, 57, 58, 59] (by decide +kernel) (by decide +kernel)
set_option maxRecDepth 20000 in
theorem gX5_falseStart_X5_remember : GoodIn wsX5_falseStart (wsV RX5 193 RX5 yX5_remember wsX5_remember) := goodIn_app (goodIn_of _ (by decide +kernel)) ggX5_falseStart_X5_remember
set_option maxRecDepth 20000 in
theorem ggX5_falseStart_X5_markOn : GoodIn wsX5_falseStart wsX5_markOn := goodIn_r _ [25, 26, 27, 4, 28, 29, 30, 31, 32, 33, 34, 35, 36, 37, 38, 39, 40, 41, 42, 43, 44, 45, 46] (by decide +kernel) (by decide +kernel)
set_option maxRecDepth 20000 in
theorem gX5_falseStart_X5_markOn : GoodIn wsX5_falseStart (va_wsS RX5 150 yX5_markOn wsX5_markOn) := goodIn_app (goodIn_of _ (by decide +kernel)) ggX5_falseStart_X5_markOn
theorem dX5_falseStart_0 : decode cX5_falseStart 0 = .ok (.aload_n 0, 1) := by decide +kernel
theorem dX5_falseStart_1 : decode cX5_falseStart 1 = .ok (.aload_n 0, 1) := by decide +kernel
theorem dX5_falseStart_2 : decode cX5_falseStart 2 = .ok (.getfield 13, 3) := by decide +kernel
theorem dX5_falseStart_5 : decode cX5_falseStart 5 = .ok (.iload_n 1, 1) := by decide +kernel
theorem dX5_falseStart_6 : decode cX5_falseStart 6 = .ok (.invokestatic 147, 3) := by decide +kernel
theorem dX5_falseStart_9 : decode cX5_falseStart 9 = .ok (.ifCond .eq 7, 3) := by decide +kernel
