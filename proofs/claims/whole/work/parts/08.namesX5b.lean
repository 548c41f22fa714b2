theorem dX5_falseStart_12 : decode cX5_falseStart 12 = .ok (.iconst 0, 1) := by decide +kernel
theorem dX5_falseStart_13 : decode cX5_falseStart 13 = .ok (.goto 4, 3) := by decide +kernel
theorem dX5_falseStart_16 : decode cX5_falseStart 16 = .ok (.iconst 1, 1) := by decide +kernel
theorem dX5_falseStart_17 : decode cX5_falseStart 17 = .ok (.invokevirtual 103, 3) := by decide +kernel
theorem dX5_falseStart_20 : decode cX5_falseStart 20 = .ok (.ifCond .eq 5, 3) := by decide +kernel
theorem dX5_falseStart_23 : decode cX5_falseStart 23 = .ok (.iconst 0, 1) := by decide +kernel
theorem dX5_falseStart_24 : decode cX5_falseStart 24 = .ok (.ireturn, 1) := by decide +kernel
theorem dX5_falseStart_25 : decode cX5_falseStart 25 = .ok (.aload_n 0, 1) := by decide +kernel
theorem dX5_falseStart_26 : decode cX5_falseStart 26 = .ok (.invokevirtual 193, 3) := by decide +kernel
theorem dX5_falseStart_29 : decode cX5_falseStart 29 = .ok (.aload_n 0, 1) := by decide +kernel
theorem dX5_falseStart_30 : decode cX5_falseStart 30 = .ok (.getfield 13, 3) := by decide +kernel
theorem dX5_falseStart_33 : decode cX5_falseStart 33 = .ok (.iload_n 1, 1) := by decide +kernel
theorem dX5_falseStart_34 : decode cX5_falseStart 34 = .ok (.bipush 14, 2) := by decide +kernel
theorem dX5_falseStart_36 : decode cX5_falseStart 36 = .ok (.iload_n 2, 1) := by decide +kernel
theorem dX5_falseStart_37 : decode cX5_falseStart 37 = .ok (.invokestatic 150, 3) := by decide +kernel
theorem dX5_falseStart_40 : decode cX5_falseStart 40 = .ok (.ireturn, 1) := by decide +kernel
set_option maxRecDepth 20000 in
theorem ggX5_fix_X5_isTake : GoodIn wsX5_fix wsX5_isTake := goodIn_r _ [5, 6, 7, 4, 8] (by decide +kernel) (by decide +kernel)
set_option maxRecDepth 20000 in
theorem gX5_fix_X5_isTake : GoodIn wsX5_fix (va_wsS RX5 147 yX5_isTake wsX5_isTake) := goodIn_app (goodIn_of _ (by decide +kernel)) ggX5_fix_X5_isTake
set_option maxRecDepth 20000 in
theorem ggX5_fix_X5_refused : GoodIn wsX5_fix wsX5_refused := goodIn_r _ [12, 13, 41, 42, 43, 44, 45, 46, 47, 48, 49, 50, 51, 52, 53] (by decide +kernel) (by decide +kernel)
set_option maxRecDepth 20000 in
theorem gX5_fix_X5_refused : GoodIn wsX5_fix (wsV RX5 103 RX5 yX5_refused wsX5_refused) := goodIn_app (goodIn_of _ (by decide +kernel)) ggX5_fix_X5_refused
set_option maxRecDepth 20000 in
theorem ggX5_fix_X5_remember : GoodIn wsX5_fix wsX5_remember := goodIn_r _ [17, 18, 19, 1, 20, 21, 4, 22, 41, 42, 43, 44, 45, 46, 47, 48, 49, 50, 51, 52, 53] (by decide +kernel) (by decide +kernel)
set_option maxRecDepth 20000 in
theorem gX5_fix_X5_remember : GoodIn wsX5_fix (wsV RX5 193 RX5 yX5_remember wsX5_remember) := goodIn_app (goodIn_of _ (by decide +kernel)) ggX5_fix_X5_remember
set_option maxRecDepth 20000 in
theorem ggX5_fix_X5_fixOn : GoodIn wsX5_fix wsX5_fixOn := goodIn_r _ [25, 26, 27, 4, 28, 29, 30, 31, 32, 33, 34, 35, 36, 37, 38, 39, 40] (by decide +kernel) (by decide +kernel)
set_option maxRecDepth 20000 in
theorem gX5_fix_X5_fixOn : GoodIn wsX5_fix (va_wsS RX5 198 yX5_fixOn wsX5_fixOn) := goodIn_app (goodIn_of _ (by decide +kernel)) ggX5_fix_X5_fixOn
theorem dX5_fix_0 : decode cX5_fix 0 = .ok (.aload_n 0, 1) := by decide +kernel
theorem dX5_fix_1 : decode cX5_fix 1 = .ok (.aload_n 0, 1) := by decide +kernel
theorem dX5_fix_2 : decode cX5_fix 2 = .ok (.getfield 13, 3) := by decide +kernel
theorem dX5_fix_5 : decode cX5_fix 5 = .ok (.iload_n 1, 1) := by decide +kernel
theorem dX5_fix_6 : decode cX5_fix 6 = .ok (.invokestatic 147, 3) := by decide +kernel
theorem dX5_fix_9 : decode cX5_fix 9 = .ok (.ifCond .eq 7, 3) := by decide +kernel
theorem dX5_fix_12 : decode cX5_fix 12 = .ok (.iconst 0, 1) := by decide +kernel
theorem dX5_fix_13 : decode cX5_fix 13 = .ok (.goto 4, 3) := by decide +kernel
theorem dX5_fix_16 : decode cX5_fix 16 = .ok (.iconst 1, 1) := by decide +kernel
theorem dX5_fix_17 : decode cX5_fix 17 = .ok (.invokevirtual 103, 3) := by decide +kernel
theorem dX5_fix_20 : decode cX5_fix 20 = .ok (.ifCond .eq 5, 3) := by decide +kernel
theorem dX5_fix_23 : decode cX5_fix 23 = .ok (.iconst 0, 1) := by decide +kernel
theorem dX5_fix_24 : decode cX5_fix 24 = .ok (.ireturn, 1) := by decide +kernel
theorem dX5_fix_25 : decode cX5_fix 25 = .ok (.aload_n 0, 1) := by decide +kernel
theorem dX5_fix_26 : decode cX5_fix 26 = .ok (.invokevirtual 193, 3) := by decide +kernel
theorem dX5_fix_29 : decode cX5_fix 29 = .ok (.aload_n 0, 1) := by decide +kernel
theorem dX5_fix_30 : decode cX5_fix 30 = .ok (.getfield 13, 3) := by decide +kernel
theorem dX5_fix_33 : decode cX5_fix 33 = .ok (.iload_n 1, 1) := by decide +kernel
theorem dX5_fix_34 : decode cX5_fix 34 = .ok (.invokestatic 198, 3) := by decide +kernel
theorem dX5_fix_37 : decode cX5_fix 37 = .ok (.ireturn, 1) := by decide +kernel
set_option maxRecDepth 20000 in
theorem ggX5_off_X5_in : GoodIn wsX5_off wsX5_in := goodIn_r _ [7] (by decide +kernel) (by decide +kernel)
set_option maxRecDepth 20000 in
theorem gX5_off_X5_in : GoodIn wsX5_off (va_wsS RX5 40 yX5_in wsX5_in) := goodIn_app (goodIn_of _ (by decide +kernel)) ggX5_off_X5_in
set_option maxRecDepth 20000 in
theorem ggX5_off_X5_refused : GoodIn wsX5_off wsX5_refused := goodIn_r _ [11, 12, 22, 23, 24, 25, 26, 27, 28, 29, 30, 31, 32, 33, 34] (by decide +kernel) (by decide +kernel)
set_option maxRecDepth 20000 in
theorem gX5_off_X5_refused : GoodIn wsX5_off (wsV RX5 103 RX5 yX5_refused wsX5_refused) := goodIn_app (goodIn_of _ (by decide +kernel)) ggX5_off_X5_refused
set_option maxRecDepth 20000 in
theorem ggX5_off_X5_remember : GoodIn wsX5_off wsX5_remember := goodIn_r _ [16, 17, 18, 3, 19, 20, 6, 21, 22, 23, 24, 25, 26, 27, 28, 29, 30, 31, 32, 33, 34] (by decide +kernel) (by decide +kernel)
set_option maxRecDepth 20000 in
theorem gX5_off_X5_remember : GoodIn wsX5_off (wsV RX5 193 RX5 yX5_remember wsX5_remember) := goodIn_app (goodIn_of _ (by decide +kernel)) ggX5_off_X5_remember
theorem dX5_off_0 : decode cX5_off 0 = .ok (.aload_n 0, 1) := by decide +kernel
theorem dX5_off_1 : decode cX5_off 1 = .ok (.iload_n 1, 1) := by decide +kernel
theorem dX5_off_2 : decode cX5_off 2 = .ok (.i2l, 1) := by decide +kernel
theorem dX5_off_3 : decode cX5_off 3 = .ok (.ldc2_w 201, 3) := by decide +kernel
theorem dX5_off_6 : decode cX5_off 6 = .ok (.ldc2_w 44, 3) := by decide +kernel
theorem dX5_off_9 : decode cX5_off 9 = .ok (.invokestatic 40, 3) := by decide +kernel
theorem dX5_off_12 : decode cX5_off 12 = .ok (.ifCond .eq 7, 3) := by decide +kernel
theorem dX5_off_15 : decode cX5_off 15 = .ok (.iconst 0, 1) := by decide +kernel
theorem dX5_off_16 : decode cX5_off 16 = .ok (.goto 4, 3) := by decide +kernel
theorem dX5_off_19 : decode cX5_off 19 = .ok (.iconst 1, 1) := by decide +kernel
theorem dX5_off_20 : decode cX5_off 20 = .ok (.invokevirtual 103, 3) := by decide +kernel
theorem dX5_off_23 : decode cX5_off 23 = .ok (.ifCond .eq 5, 3) := by decide +kernel
theorem dX5_off_26 : decode cX5_off 26 = .ok (.iconst 0, 1) := by decide +kernel
theorem dX5_off_27 : decode cX5_off 27 = .ok (.ireturn, 1) := by decide +kernel
theorem dX5_off_28 : decode cX5_off 28 = .ok (.aload_n 0, 1) := by decide +kernel
theorem dX5_off_29 : decode cX5_off 29 = .ok (.invokevirtual 193, 3) := by decide +kernel
theorem dX5_off_32 : decode cX5_off 32 = .ok (.aload_n 0, 1) := by decide +kernel
theorem dX5_off_33 : decode cX5_off 33 = .ok (.getfield 13, 3) := by decide +kernel
theorem dX5_off_36 : decode cX5_off 36 = .ok (.bipush 11, 2) := by decide +kernel
theorem dX5_off_38 : decode cX5_off 38 = .ok (.iaload, 1) := by decide +kernel
theorem dX5_off_39 : decode cX5_off 39 = .ok (.istore_n 2, 1) := by decide +kernel
theorem dX5_off_40 : decode cX5_off 40 = .ok (.aload_n 0, 1) := by decide +kernel
theorem dX5_off_41 : decode cX5_off 41 = .ok (.getfield 13, 3) := by decide +kernel
theorem dX5_off_44 : decode cX5_off 44 = .ok (.bipush 11, 2) := by decide +kernel
theorem dX5_off_46 : decode cX5_off 46 = .ok (.iload_n 1, 1) := by decide +kernel
theorem dX5_off_47 : decode cX5_off 47 = .ok (.iastore, 1) := by decide +kernel
theorem dX5_off_48 : decode cX5_off 48 = .ok (.iload_n 2, 1) := by decide +kernel
theorem dX5_off_49 : decode cX5_off 49 = .ok (.ireturn, 1) := by decide +kernel
set_option maxRecDepth 20000 in
theorem ggX5_set_X5_isSetting : GoodIn wsX5_set wsX5_isSetting := goodIn_r _ [5, 6, 7, 8, 9, 10, 11, 4, 12] (by decide +kernel) (by decide +kernel)
set_option maxRecDepth 20000 in
theorem gX5_set_X5_isSetting : GoodIn wsX5_set (va_wsS RX5 203 yX5_isSetting wsX5_isSetting) := goodIn_app (goodIn_of _ (by decide +kernel)) ggX5_set_X5_isSetting
set_option maxRecDepth 20000 in
theorem ggX5_set_X5_refused : GoodIn wsX5_set wsX5_refused := goodIn_r _ [16, 17, 27, 28, 29, 30, 31, 32, 33, 34, 35, 36, 37, 38, 39] (by decide +kernel) (by decide +kernel)
set_option maxRecDepth 20000 in
theorem gX5_set_X5_refused : GoodIn wsX5_set (wsV RX5 103 RX5 yX5_refused wsX5_refused) := goodIn_app (goodIn_of _ (by decide +kernel)) ggX5_set_X5_refused
set_option maxRecDepth 20000 in
theorem ggX5_set_X5_remember : GoodIn wsX5_set wsX5_remember := goodIn_r _ [21, 22, 23, 1, 24, 25, 4, 26, 27, 28, 29, 30, 31, 32, 33, 34, 35, 36, 37, 38, 39] (by decide +kernel) (by decide +kernel)
set_option maxRecDepth 20000 in
theorem gX5_set_X5_remember : GoodIn wsX5_set (wsV RX5 193 RX5 yX5_remember wsX5_remember) := goodIn_app (goodIn_of _ (by decide +kernel)) ggX5_set_X5_remember
theorem dX5_set_0 : decode cX5_set 0 = .ok (.aload_n 0, 1) := by decide +kernel
theorem dX5_set_1 : decode cX5_set 1 = .ok (.iload_n 1, 1) := by decide +kernel
theorem dX5_set_2 : decode cX5_set 2 = .ok (.iload_n 2, 1) := by decide +kernel
theorem dX5_set_3 : decode cX5_set 3 = .ok (.invokestatic 203, 3) := by decide +kernel
theorem dX5_set_6 : decode cX5_set 6 = .ok (.ifCond .eq 7, 3) := by decide +kernel
theorem dX5_set_9 : decode cX5_set 9 = .ok (.iconst 0, 1) := by decide +kernel
theorem dX5_set_10 : decode cX5_set 10 = .ok (.goto 4, 3) := by decide +kernel
theorem dX5_set_13 : decode cX5_set 13 = .ok (.iconst 1, 1) := by decide +kernel
theorem dX5_set_14 : decode cX5_set 14 = .ok (.invokevirtual 103, 3) := by decide +kernel
theorem dX5_set_17 : decode cX5_set 17 = .ok (.ifCond .eq 5, 3) := by decide +kernel
theorem dX5_set_20 : decode cX5_set 20 = .ok (.iconst 0, 1) := by decide +kernel
theorem dX5_set_21 : decode cX5_set 21 = .ok (.ireturn, 1) := by decide +kernel
theorem dX5_set_22 : decode cX5_set 22 = .ok (.aload_n 0, 1) := by decide +kernel
theorem dX5_set_23 : decode cX5_set 23 = .ok (.invokevirtual 193, 3) := by decide +kernel
theorem dX5_set_26 : decode cX5_set 26 = .ok (.aload_n 0, 1) := by decide +kernel
theorem dX5_set_27 : decode cX5_set 27 = .ok (.getfield 13, 3) := by decide +kernel
theorem dX5_set_30 : decode cX5_set 30 = .ok (.bipush 13, 2) := by decide +kernel
theorem dX5_set_32 : decode cX5_set 32 = .ok (.iload_n 1, 1) := by decide +kernel
theorem dX5_set_33 : decode cX5_set 33 = .ok (.iadd, 1) := by decide +kernel
theorem dX5_set_34 : decode cX5_set 34 = .ok (.iaload, 1) := by decide +kernel
theorem dX5_set_35 : decode cX5_set 35 = .ok (.istore_n 3, 1) := by decide +kernel
theorem dX5_set_36 : decode cX5_set 36 = .ok (.aload_n 0, 1) := by decide +kernel
theorem dX5_set_37 : decode cX5_set 37 = .ok (.getfield 13, 3) := by decide +kernel
theorem dX5_set_40 : decode cX5_set 40 = .ok (.bipush 13, 2) := by decide +kernel
theorem dX5_set_42 : decode cX5_set 42 = .ok (.iload_n 1, 1) := by decide +kernel
theorem dX5_set_43 : decode cX5_set 43 = .ok (.iadd, 1) := by decide +kernel
theorem dX5_set_44 : decode cX5_set 44 = .ok (.iload_n 2, 1) := by decide +kernel
theorem dX5_set_45 : decode cX5_set 45 = .ok (.iastore, 1) := by decide +kernel
theorem dX5_set_46 : decode cX5_set 46 = .ok (.iload_n 3, 1) := by decide +kernel
theorem dX5_set_47 : decode cX5_set 47 = .ok (.ireturn, 1) := by decide +kernel
set_option maxRecDepth 20000 in
theorem ggX5_undo_X5_refused : GoodIn wsX5_undo wsX5_refused := goodIn_r _ [8, 9, 13, 14, 15, 16, 17, 18, 19, 20, 21, 22, 23, 24, 25] (by decide +kernel) (by decide +kernel)
set_option maxRecDepth 20000 in
theorem gX5_undo_X5_refused : GoodIn wsX5_undo (wsV RX5 103 RX5 yX5_refused wsX5_refused) := goodIn_app (goodIn_of _ (by decide +kernel)) ggX5_undo_X5_refused
set_option maxRecDepth 20000 in
theorem ggX5_undo_X5_copyState : GoodIn wsX5_undo wsX5_copyState := goodIn_r _ [12] (by decide +kernel) (by decide +kernel)
set_option maxRecDepth 20000 in
theorem gX5_undo_X5_copyState : GoodIn wsX5_undo (va_wsS RX5 160 yX5_copyState wsX5_copyState) := goodIn_app (goodIn_of _ (by decide +kernel)) ggX5_undo_X5_copyState
theorem dX5_undo_0 : decode cX5_undo 0 = .ok (.aload_n 0, 1) := by decide +kernel
theorem dX5_undo_1 : decode cX5_undo 1 = .ok (.aload_n 0, 1) := by decide +kernel
theorem dX5_undo_2 : decode cX5_undo 2 = .ok (.getfield 164, 3) := by decide +kernel
theorem dX5_undo_5 : decode cX5_undo 5 = .ok (.ifCond .ne 7, 3) := by decide +kernel
theorem dX5_undo_8 : decode cX5_undo 8 = .ok (.iconst 1, 1) := by decide +kernel
theorem dX5_undo_9 : decode cX5_undo 9 = .ok (.goto 4, 3) := by decide +kernel
theorem dX5_undo_12 : decode cX5_undo 12 = .ok (.iconst 0, 1) := by decide +kernel
theorem dX5_undo_13 : decode cX5_undo 13 = .ok (.invokevirtual 103, 3) := by decide +kernel
theorem dX5_undo_16 : decode cX5_undo 16 = .ok (.ifCond .eq 5, 3) := by decide +kernel
theorem dX5_undo_19 : decode cX5_undo 19 = .ok (.iconst 0, 1) := by decide +kernel
theorem dX5_undo_20 : decode cX5_undo 20 = .ok (.ireturn, 1) := by decide +kernel
theorem dX5_undo_21 : decode cX5_undo 21 = .ok (.aload_n 0, 1) := by decide +kernel
theorem dX5_undo_22 : decode cX5_undo 22 = .ok (.dup, 1) := by decide +kernel
theorem dX5_undo_23 : decode cX5_undo 23 = .ok (.getfield 164, 3) := by decide +kernel
theorem dX5_undo_26 : decode cX5_undo 26 = .ok (.iconst 1, 1) := by decide +kernel
theorem dX5_undo_27 : decode cX5_undo 27 = .ok (.isub, 1) := by decide +kernel
theorem dX5_undo_28 : decode cX5_undo 28 = .ok (.putfield 164, 3) := by decide +kernel
theorem dX5_undo_31 : decode cX5_undo 31 = .ok (.aload_n 0, 1) := by decide +kernel
theorem dX5_undo_32 : decode cX5_undo 32 = .ok (.getfield 19, 3) := by decide +kernel
theorem dX5_undo_35 : decode cX5_undo 35 = .ok (.sipush 377, 3) := by decide +kernel
theorem dX5_undo_38 : decode cX5_undo 38 = .ok (.aload_n 0, 1) := by decide +kernel
theorem dX5_undo_39 : decode cX5_undo 39 = .ok (.getfield 164, 3) := by decide +kernel
theorem dX5_undo_42 : decode cX5_undo 42 = .ok (.imul, 1) := by decide +kernel
theorem dX5_undo_43 : decode cX5_undo 43 = .ok (.aload_n 0, 1) := by decide +kernel
theorem dX5_undo_44 : decode cX5_undo 44 = .ok (.getfield 13, 3) := by decide +kernel
theorem dX5_undo_47 : decode cX5_undo 47 = .ok (.iconst 0, 1) := by decide +kernel
theorem dX5_undo_48 : decode cX5_undo 48 = .ok (.invokestatic 160, 3) := by decide +kernel
theorem dX5_undo_51 : decode cX5_undo 51 = .ok (.aload_n 0, 1) := by decide +kernel
theorem dX5_undo_52 : decode cX5_undo 52 = .ok (.getfield 164, 3) := by decide +kernel
theorem dX5_undo_55 : decode cX5_undo 55 = .ok (.ireturn, 1) := by decide +kernel
set_option maxRecDepth 20000 in
theorem ggX5_find_X5_of : GoodIn wsX5_find wsX5_of := goodIn_r _ [6] (by decide +kernel) (by decide +kernel)
set_option maxRecDepth 20000 in
theorem gX5_find_X5_of : GoodIn wsX5_find (va_wsS RX5 48 yX5_of wsX5_of) := goodIn_app (goodIn_of _ (by decide +kernel)) ggX5_find_X5_of
set_option maxRecDepth 20000 in
theorem ggX5_find_X5_numberOf : GoodIn wsX5_find wsX5_numberOf := goodIn_r _ [9, 3, 4, 5, 6, 10, 11, 12] (by decide +kernel) (by decide +kernel)
set_option maxRecDepth 20000 in
theorem gX5_find_X5_numberOf : GoodIn wsX5_find (va_wsS RX5 56 yX5_numberOf wsX5_numberOf) := goodIn_app (goodIn_of _ (by decide +kernel)) ggX5_find_X5_numberOf
theorem dX5_find_0 : decode cX5_find 0 = .ok (.aload_n 0, 1) := by decide +kernel
theorem dX5_find_1 : decode cX5_find 1 = .ok (.iconst 0, 1) := by decide +kernel
theorem dX5_find_2 : decode cX5_find 2 = .ok (.putfield 36, 3) := by decide +kernel
theorem dX5_find_5 : decode cX5_find 5 = .ok (.iload 4, 2) := by decide +kernel
theorem dX5_find_7 : decode cX5_find 7 = .ok (.ifCond .eq 7, 3) := by decide +kernel
theorem dX5_find_10 : decode cX5_find 10 = .ok (.iconst 2, 1) := by decide +kernel
theorem dX5_find_11 : decode cX5_find 11 = .ok (.goto 4, 3) := by decide +kernel
theorem dX5_find_14 : decode cX5_find 14 = .ok (.iconst 0, 1) := by decide +kernel
theorem dX5_find_15 : decode cX5_find 15 = .ok (.istore 5, 2) := by decide +kernel
theorem dX5_find_17 : decode cX5_find 17 = .ok (.iconst 0, 1) := by decide +kernel
theorem dX5_find_18 : decode cX5_find 18 = .ok (.istore 6, 2) := by decide +kernel
theorem dX5_find_20 : decode cX5_find 20 = .ok (.iload 6, 2) := by decide +kernel
theorem dX5_find_22 : decode cX5_find 22 = .ok (.aload_n 0, 1) := by decide +kernel
theorem dX5_find_23 : decode cX5_find 23 = .ok (.getfield 13, 3) := by decide +kernel
theorem dX5_find_26 : decode cX5_find 26 = .ok (.iconst 0, 1) := by decide +kernel
theorem dX5_find_27 : decode cX5_find 27 = .ok (.iaload, 1) := by decide +kernel
theorem dX5_find_28 : decode cX5_find 28 = .ok (.if_icmp .ge 110, 3) := by decide +kernel
theorem dX5_find_31 : decode cX5_find 31 = .ok (.aload_n 0, 1) := by decide +kernel
theorem dX5_find_32 : decode cX5_find 32 = .ok (.getfield 13, 3) := by decide +kernel
theorem dX5_find_35 : decode cX5_find 35 = .ok (.iload 6, 2) := by decide +kernel
theorem dX5_find_37 : decode cX5_find 37 = .ok (.iload 5, 2) := by decide +kernel
theorem dX5_find_39 : decode cX5_find 39 = .ok (.invokestatic 48, 3) := by decide +kernel
theorem dX5_find_42 : decode cX5_find 42 = .ok (.iload_n 1, 1) := by decide +kernel
theorem dX5_find_43 : decode cX5_find 43 = .ok (.if_icmp .ne 24, 3) := by decide +kernel
theorem dX5_find_46 : decode cX5_find 46 = .ok (.aload_n 0, 1) := by decide +kernel
theorem dX5_find_47 : decode cX5_find 47 = .ok (.getfield 13, 3) := by decide +kernel
theorem dX5_find_50 : decode cX5_find 50 = .ok (.iload 6, 2) := by decide +kernel
theorem dX5_find_52 : decode cX5_find 52 = .ok (.iload 5, 2) := by decide +kernel
theorem dX5_find_54 : decode cX5_find 54 = .ok (.iconst 1, 1) := by decide +kernel
theorem dX5_find_55 : decode cX5_find 55 = .ok (.iadd, 1) := by decide +kernel
theorem dX5_find_56 : decode cX5_find 56 = .ok (.invokestatic 48, 3) := by decide +kernel
theorem dX5_find_59 : decode cX5_find 59 = .ok (.iload_n 2, 1) := by decide +kernel
theorem dX5_find_60 : decode cX5_find 60 = .ok (.if_icmp .ne 7, 3) := by decide +kernel
theorem dX5_find_63 : decode cX5_find 63 = .ok (.iconst 1, 1) := by decide +kernel
theorem dX5_find_64 : decode cX5_find 64 = .ok (.goto 4, 3) := by decide +kernel
theorem dX5_find_67 : decode cX5_find 67 = .ok (.iconst 0, 1) := by decide +kernel
theorem dX5_find_68 : decode cX5_find 68 = .ok (.istore 7, 2) := by decide +kernel
theorem dX5_find_70 : decode cX5_find 70 = .ok (.iload 4, 2) := by decide +kernel
theorem dX5_find_72 : decode cX5_find 72 = .ok (.ifCond .eq 16, 3) := by decide +kernel
theorem dX5_find_75 : decode cX5_find 75 = .ok (.aload_n 0, 1) := by decide +kernel
theorem dX5_find_76 : decode cX5_find 76 = .ok (.getfield 13, 3) := by decide +kernel
theorem dX5_find_79 : decode cX5_find 79 = .ok (.iload 6, 2) := by decide +kernel
theorem dX5_find_81 : decode cX5_find 81 = .ok (.iconst 4, 1) := by decide +kernel
theorem dX5_find_82 : decode cX5_find 82 = .ok (.invokestatic 48, 3) := by decide +kernel
theorem dX5_find_85 : decode cX5_find 85 = .ok (.goto 12, 3) := by decide +kernel
theorem dX5_find_88 : decode cX5_find 88 = .ok (.aload_n 0, 1) := by decide +kernel
theorem dX5_find_89 : decode cX5_find 89 = .ok (.getfield 13, 3) := by decide +kernel
theorem dX5_find_92 : decode cX5_find 92 = .ok (.iload 6, 2) := by decide +kernel
theorem dX5_find_94 : decode cX5_find 94 = .ok (.invokestatic 56, 3) := by decide +kernel
theorem dX5_find_97 : decode cX5_find 97 = .ok (.istore 8, 2) := by decide +kernel
theorem dX5_find_99 : decode cX5_find 99 = .ok (.iload 7, 2) := by decide +kernel
theorem dX5_find_101 : decode cX5_find 101 = .ok (.ifCond .eq 31, 3) := by decide +kernel
theorem dX5_find_104 : decode cX5_find 104 = .ok (.iload 8, 2) := by decide +kernel
theorem dX5_find_106 : decode cX5_find 106 = .ok (.iload_n 3, 1) := by decide +kernel
theorem dX5_find_107 : decode cX5_find 107 = .ok (.if_icmp .ne 25, 3) := by decide +kernel
theorem dX5_find_110 : decode cX5_find 110 = .ok (.iload 4, 2) := by decide +kernel
theorem dX5_find_112 : decode cX5_find 112 = .ok (.ifCond .ne 17, 3) := by decide +kernel
theorem dX5_find_115 : decode cX5_find 115 = .ok (.aload_n 0, 1) := by decide +kernel
theorem dX5_find_116 : decode cX5_find 116 = .ok (.getfield 13, 3) := by decide +kernel
theorem dX5_find_119 : decode cX5_find 119 = .ok (.iload 6, 2) := by decide +kernel
theorem dX5_find_121 : decode cX5_find 121 = .ok (.bipush 14, 2) := by decide +kernel
theorem dX5_find_123 : decode cX5_find 123 = .ok (.invokestatic 48, 3) := by decide +kernel
theorem dX5_find_126 : decode cX5_find 126 = .ok (.ifCond .ne 6, 3) := by decide +kernel
theorem dX5_find_129 : decode cX5_find 129 = .ok (.iload 6, 2) := by decide +kernel
theorem dX5_find_131 : decode cX5_find 131 = .ok (.ireturn, 1) := by decide +kernel
theorem dX5_find_132 : decode cX5_find 132 = .ok (.iinc 6 1, 3) := by decide +kernel
theorem dX5_find_135 : decode cX5_find 135 = .ok (.goto (-115), 3) := by decide +kernel
theorem dX5_find_138 : decode cX5_find 138 = .ok (.iconst (-1), 1) := by decide +kernel
theorem dX5_find_139 : decode cX5_find 139 = .ok (.ireturn, 1) := by decide +kernel
set_option maxRecDepth 20000 in
theorem ggX5_covers_X5_of : GoodIn wsX5_covers wsX5_of := goodIn_r _ [4] (by decide +kernel) (by decide +kernel)
set_option maxRecDepth 20000 in
theorem gX5_covers_X5_of : GoodIn wsX5_covers (va_wsS RX5 48 yX5_of wsX5_of) := goodIn_app (goodIn_of _ (by decide +kernel)) ggX5_covers_X5_of
theorem dX5_covers_0 : decode cX5_covers 0 = .ok (.iconst 0, 1) := by decide +kernel
theorem dX5_covers_1 : decode cX5_covers 1 = .ok (.istore 5, 2) := by decide +kernel
theorem dX5_covers_3 : decode cX5_covers 3 = .ok (.iload 5, 2) := by decide +kernel
theorem dX5_covers_5 : decode cX5_covers 5 = .ok (.aload_n 0, 1) := by decide +kernel
theorem dX5_covers_6 : decode cX5_covers 6 = .ok (.iconst 0, 1) := by decide +kernel
theorem dX5_covers_7 : decode cX5_covers 7 = .ok (.iaload, 1) := by decide +kernel
theorem dX5_covers_8 : decode cX5_covers 8 = .ok (.if_icmp .ge 76, 3) := by decide +kernel
theorem dX5_covers_11 : decode cX5_covers 11 = .ok (.iload_n 1, 1) := by decide +kernel
theorem dX5_covers_12 : decode cX5_covers 12 = .ok (.iconst (-1), 1) := by decide +kernel
theorem dX5_covers_13 : decode cX5_covers 13 = .ok (.if_icmp .eq 18, 3) := by decide +kernel
theorem dX5_covers_16 : decode cX5_covers 16 = .ok (.iload_n 2, 1) := by decide +kernel
theorem dX5_covers_17 : decode cX5_covers 17 = .ok (.ifCond .le 18, 3) := by decide +kernel
theorem dX5_covers_20 : decode cX5_covers 20 = .ok (.aload_n 0, 1) := by decide +kernel
theorem dX5_covers_21 : decode cX5_covers 21 = .ok (.iload 5, 2) := by decide +kernel
theorem dX5_covers_23 : decode cX5_covers 23 = .ok (.iload_n 1, 1) := by decide +kernel
theorem dX5_covers_24 : decode cX5_covers 24 = .ok (.invokestatic 48, 3) := by decide +kernel
theorem dX5_covers_27 : decode cX5_covers 27 = .ok (.iload_n 2, 1) := by decide +kernel
theorem dX5_covers_28 : decode cX5_covers 28 = .ok (.if_icmp .ne 7, 3) := by decide +kernel
theorem dX5_covers_31 : decode cX5_covers 31 = .ok (.iconst 1, 1) := by decide +kernel
theorem dX5_covers_32 : decode cX5_covers 32 = .ok (.goto 4, 3) := by decide +kernel
theorem dX5_covers_35 : decode cX5_covers 35 = .ok (.iconst 0, 1) := by decide +kernel
theorem dX5_covers_36 : decode cX5_covers 36 = .ok (.istore 6, 2) := by decide +kernel
theorem dX5_covers_38 : decode cX5_covers 38 = .ok (.aload_n 0, 1) := by decide +kernel
theorem dX5_covers_39 : decode cX5_covers 39 = .ok (.iload 5, 2) := by decide +kernel
theorem dX5_covers_41 : decode cX5_covers 41 = .ok (.iload_n 3, 1) := by decide +kernel
theorem dX5_covers_42 : decode cX5_covers 42 = .ok (.invokestatic 48, 3) := by decide +kernel
theorem dX5_covers_45 : decode cX5_covers 45 = .ok (.istore 7, 2) := by decide +kernel
theorem dX5_covers_47 : decode cX5_covers 47 = .ok (.iload 6, 2) := by decide +kernel
theorem dX5_covers_49 : decode cX5_covers 49 = .ok (.ifCond .eq 29, 3) := by decide +kernel
theorem dX5_covers_52 : decode cX5_covers 52 = .ok (.iload 4, 2) := by decide +kernel
theorem dX5_covers_54 : decode cX5_covers 54 = .ok (.iload 7, 2) := by decide +kernel
theorem dX5_covers_56 : decode cX5_covers 56 = .ok (.if_icmp .lt 22, 3) := by decide +kernel
theorem dX5_covers_59 : decode cX5_covers 59 = .ok (.iload 4, 2) := by decide +kernel
theorem dX5_covers_61 : decode cX5_covers 61 = .ok (.iload 7, 2) := by decide +kernel
theorem dX5_covers_63 : decode cX5_covers 63 = .ok (.aload_n 0, 1) := by decide +kernel
theorem dX5_covers_64 : decode cX5_covers 64 = .ok (.iload 5, 2) := by decide +kernel
theorem dX5_covers_66 : decode cX5_covers 66 = .ok (.bipush 7, 2) := by decide +kernel
theorem dX5_covers_68 : decode cX5_covers 68 = .ok (.invokestatic 48, 3) := by decide +kernel
theorem dX5_covers_71 : decode cX5_covers 71 = .ok (.iadd, 1) := by decide +kernel
theorem dX5_covers_72 : decode cX5_covers 72 = .ok (.if_icmp .ge 6, 3) := by decide +kernel
theorem dX5_covers_75 : decode cX5_covers 75 = .ok (.iload 5, 2) := by decide +kernel
theorem dX5_covers_77 : decode cX5_covers 77 = .ok (.ireturn, 1) := by decide +kernel
theorem dX5_covers_78 : decode cX5_covers 78 = .ok (.iinc 5 1, 3) := by decide +kernel
theorem dX5_covers_81 : decode cX5_covers 81 = .ok (.goto (-78), 3) := by decide +kernel
theorem dX5_covers_84 : decode cX5_covers 84 = .ok (.iconst (-1), 1) := by decide +kernel
theorem dX5_covers_85 : decode cX5_covers 85 = .ok (.ireturn, 1) := by decide +kernel
set_option maxRecDepth 20000 in
theorem ggX5_atCamera_X5_covers : GoodIn wsX5_atCamera wsX5_covers := goodIn_r _ [6, 7, 8, 5, 9] (by decide +kernel) (by decide +kernel)
set_option maxRecDepth 20000 in
theorem gX5_atCamera_X5_covers : GoodIn wsX5_atCamera (va_wsS RX5 206 yX5_covers wsX5_covers) := goodIn_app (goodIn_of _ (by decide +kernel)) ggX5_atCamera_X5_covers
theorem dX5_atCamera_0 : decode cX5_atCamera 0 = .ok (.aload_n 0, 1) := by decide +kernel
theorem dX5_atCamera_1 : decode cX5_atCamera 1 = .ok (.iconst 0, 1) := by decide +kernel
theorem dX5_atCamera_2 : decode cX5_atCamera 2 = .ok (.putfield 36, 3) := by decide +kernel
theorem dX5_atCamera_5 : decode cX5_atCamera 5 = .ok (.aload_n 0, 1) := by decide +kernel
theorem dX5_atCamera_6 : decode cX5_atCamera 6 = .ok (.getfield 13, 3) := by decide +kernel
theorem dX5_atCamera_9 : decode cX5_atCamera 9 = .ok (.iconst 5, 1) := by decide +kernel
theorem dX5_atCamera_10 : decode cX5_atCamera 10 = .ok (.iload_n 1, 1) := by decide +kernel
theorem dX5_atCamera_11 : decode cX5_atCamera 11 = .ok (.bipush 6, 2) := by decide +kernel
theorem dX5_atCamera_13 : decode cX5_atCamera 13 = .ok (.iload_n 2, 1) := by decide +kernel
theorem dX5_atCamera_14 : decode cX5_atCamera 14 = .ok (.invokestatic 206, 3) := by decide +kernel
theorem dX5_atCamera_17 : decode cX5_atCamera 17 = .ok (.ireturn, 1) := by decide +kernel
set_option maxRecDepth 20000 in
theorem ggX5_atSound_X5_covers : GoodIn wsX5_atSound wsX5_covers := goodIn_r _ [6, 7, 8, 5, 9] (by decide +kernel) (by decide +kernel)
set_option maxRecDepth 20000 in
theorem gX5_atSound_X5_covers : GoodIn wsX5_atSound (va_wsS RX5 206 yX5_covers wsX5_covers) := goodIn_app (goodIn_of _ (by decide +kernel)) ggX5_atSound_X5_covers
theorem dX5_atSound_0 : decode cX5_atSound 0 = .ok (.aload_n 0, 1) := by decide +kernel
theorem dX5_atSound_1 : decode cX5_atSound 1 = .ok (.iconst 0, 1) := by decide +kernel
theorem dX5_atSound_2 : decode cX5_atSound 2 = .ok (.putfield 36, 3) := by decide +kernel
theorem dX5_atSound_5 : decode cX5_atSound 5 = .ok (.aload_n 0, 1) := by decide +kernel
theorem dX5_atSound_6 : decode cX5_atSound 6 = .ok (.getfield 13, 3) := by decide +kernel
theorem dX5_atSound_9 : decode cX5_atSound 9 = .ok (.bipush 8, 2) := by decide +kernel
theorem dX5_atSound_11 : decode cX5_atSound 11 = .ok (.iload_n 1, 1) := by decide +kernel
theorem dX5_atSound_12 : decode cX5_atSound 12 = .ok (.bipush 9, 2) := by decide +kernel
theorem dX5_atSound_14 : decode cX5_atSound 14 = .ok (.iload_n 2, 1) := by decide +kernel
theorem dX5_atSound_15 : decode cX5_atSound 15 = .ok (.invokestatic 206, 3) := by decide +kernel
theorem dX5_atSound_18 : decode cX5_atSound 18 = .ok (.ireturn, 1) := by decide +kernel
set_option maxRecDepth 20000 in
theorem ggX5_atTime_X5_covers : GoodIn wsX5_atTime wsX5_covers := goodIn_r _ [6, 7, 8, 5, 9] (by decide +kernel) (by decide +kernel)
set_option maxRecDepth 20000 in
theorem gX5_atTime_X5_covers : GoodIn wsX5_atTime (va_wsS RX5 206 yX5_covers wsX5_covers) := goodIn_app (goodIn_of _ (by decide +kernel)) ggX5_atTime_X5_covers
theorem dX5_atTime_0 : decode cX5_atTime 0 = .ok (.aload_n 0, 1) := by decide +kernel
theorem dX5_atTime_1 : decode cX5_atTime 1 = .ok (.iconst 0, 1) := by decide +kernel
theorem dX5_atTime_2 : decode cX5_atTime 2 = .ok (.putfield 36, 3) := by decide +kernel
theorem dX5_atTime_5 : decode cX5_atTime 5 = .ok (.aload_n 0, 1) := by decide +kernel
theorem dX5_atTime_6 : decode cX5_atTime 6 = .ok (.getfield 13, 3) := by decide +kernel
theorem dX5_atTime_9 : decode cX5_atTime 9 = .ok (.iconst (-1), 1) := by decide +kernel
theorem dX5_atTime_10 : decode cX5_atTime 10 = .ok (.iconst 0, 1) := by decide +kernel
theorem dX5_atTime_11 : decode cX5_atTime 11 = .ok (.bipush 11, 2) := by decide +kernel
theorem dX5_atTime_13 : decode cX5_atTime 13 = .ok (.iload_n 1, 1) := by decide +kernel
theorem dX5_atTime_14 : decode cX5_atTime 14 = .ok (.invokestatic 206, 3) := by decide +kernel
theorem dX5_atTime_17 : decode cX5_atTime 17 = .ok (.ireturn, 1) := by decide +kernel
set_option maxRecDepth 20000 in
theorem ggX5_byFile_X5_of : GoodIn wsX5_byFile wsX5_of := goodIn_r _ [6] (by decide +kernel) (by decide +kernel)
set_option maxRecDepth 20000 in
theorem gX5_byFile_X5_of : GoodIn wsX5_byFile (va_wsS RX5 48 yX5_of wsX5_of) := goodIn_app (goodIn_of _ (by decide +kernel)) ggX5_byFile_X5_of
theorem dX5_byFile_0 : decode cX5_byFile 0 = .ok (.aload_n 0, 1) := by decide +kernel
theorem dX5_byFile_1 : decode cX5_byFile 1 = .ok (.iconst 0, 1) := by decide +kernel
theorem dX5_byFile_2 : decode cX5_byFile 2 = .ok (.putfield 36, 3) := by decide +kernel
theorem dX5_byFile_5 : decode cX5_byFile 5 = .ok (.iconst 0, 1) := by decide +kernel
theorem dX5_byFile_6 : decode cX5_byFile 6 = .ok (.istore_n 3, 1) := by decide +kernel
theorem dX5_byFile_7 : decode cX5_byFile 7 = .ok (.iload_n 3, 1) := by decide +kernel
theorem dX5_byFile_8 : decode cX5_byFile 8 = .ok (.aload_n 0, 1) := by decide +kernel
theorem dX5_byFile_9 : decode cX5_byFile 9 = .ok (.getfield 13, 3) := by decide +kernel
theorem dX5_byFile_12 : decode cX5_byFile 12 = .ok (.iconst 0, 1) := by decide +kernel
theorem dX5_byFile_13 : decode cX5_byFile 13 = .ok (.iaload, 1) := by decide +kernel
theorem dX5_byFile_14 : decode cX5_byFile 14 = .ok (.if_icmp .ge 43, 3) := by decide +kernel
theorem dX5_byFile_17 : decode cX5_byFile 17 = .ok (.iload_n 1, 1) := by decide +kernel
theorem dX5_byFile_18 : decode cX5_byFile 18 = .ok (.ifCond .le 33, 3) := by decide +kernel
theorem dX5_byFile_21 : decode cX5_byFile 21 = .ok (.aload_n 0, 1) := by decide +kernel
theorem dX5_byFile_22 : decode cX5_byFile 22 = .ok (.getfield 13, 3) := by decide +kernel
theorem dX5_byFile_25 : decode cX5_byFile 25 = .ok (.iload_n 3, 1) := by decide +kernel
theorem dX5_byFile_26 : decode cX5_byFile 26 = .ok (.bipush 8, 2) := by decide +kernel
theorem dX5_byFile_28 : decode cX5_byFile 28 = .ok (.invokestatic 48, 3) := by decide +kernel
theorem dX5_byFile_31 : decode cX5_byFile 31 = .ok (.iload_n 1, 1) := by decide +kernel
theorem dX5_byFile_32 : decode cX5_byFile 32 = .ok (.if_icmp .ne 19, 3) := by decide +kernel
theorem dX5_byFile_35 : decode cX5_byFile 35 = .ok (.aload_n 0, 1) := by decide +kernel
theorem dX5_byFile_36 : decode cX5_byFile 36 = .ok (.getfield 13, 3) := by decide +kernel
theorem dX5_byFile_39 : decode cX5_byFile 39 = .ok (.iload_n 3, 1) := by decide +kernel
theorem dX5_byFile_40 : decode cX5_byFile 40 = .ok (.bipush 10, 2) := by decide +kernel
theorem dX5_byFile_42 : decode cX5_byFile 42 = .ok (.invokestatic 48, 3) := by decide +kernel
theorem dX5_byFile_45 : decode cX5_byFile 45 = .ok (.iload_n 2, 1) := by decide +kernel
theorem dX5_byFile_46 : decode cX5_byFile 46 = .ok (.if_icmp .ne 5, 3) := by decide +kernel
theorem dX5_byFile_49 : decode cX5_byFile 49 = .ok (.iload_n 3, 1) := by decide +kernel
theorem dX5_byFile_50 : decode cX5_byFile 50 = .ok (.ireturn, 1) := by decide +kernel
theorem dX5_byFile_51 : decode cX5_byFile 51 = .ok (.iinc 3 1, 3) := by decide +kernel
theorem dX5_byFile_54 : decode cX5_byFile 54 = .ok (.goto (-47), 3) := by decide +kernel
theorem dX5_byFile_57 : decode cX5_byFile 57 = .ok (.iconst (-1), 1) := by decide +kernel
theorem dX5_byFile_58 : decode cX5_byFile 58 = .ok (.ireturn, 1) := by decide +kernel
set_option maxRecDepth 20000 in
theorem ggX5_synced_X5_isTake : GoodIn wsX5_synced wsX5_isTake := goodIn_r _ [5, 6, 7, 4, 8] (by decide +kernel) (by decide +kernel)
set_option maxRecDepth 20000 in
theorem gX5_synced_X5_isTake : GoodIn wsX5_synced (va_wsS RX5 147 yX5_isTake wsX5_isTake) := goodIn_app (goodIn_of _ (by decide +kernel)) ggX5_synced_X5_isTake
set_option maxRecDepth 20000 in
theorem ggX5_synced_X5_refused : GoodIn wsX5_synced wsX5_refused := goodIn_r _ [12, 13, 23, 24, 25, 26, 27, 28, 29, 30, 31, 32, 33, 34, 35] (by decide +kernel) (by decide +kernel)
set_option maxRecDepth 20000 in
theorem gX5_synced_X5_refused : GoodIn wsX5_synced (wsV RX5 103 RX5 yX5_refused wsX5_refused) := goodIn_app (goodIn_of _ (by decide +kernel)) ggX5_synced_X5_refused
set_option maxRecDepth 20000 in
theorem ggX5_synced_X5_syncedBy : GoodIn wsX5_synced wsX5_syncedBy := goodIn_r _ [16, 17, 18, 4, 19, 20, 21, 22] (by decide +kernel) (by decide +kernel)
set_option maxRecDepth 20000 in
theorem gX5_synced_X5_syncedBy : GoodIn wsX5_synced (va_wsS RX5 95 yX5_syncedBy wsX5_syncedBy) := goodIn_app (goodIn_of _ (by decide +kernel)) ggX5_synced_X5_syncedBy
theorem dX5_synced_0 : decode cX5_synced 0 = .ok (.aload_n 0, 1) := by decide +kernel
theorem dX5_synced_1 : decode cX5_synced 1 = .ok (.aload_n 0, 1) := by decide +kernel
theorem dX5_synced_2 : decode cX5_synced 2 = .ok (.getfield 13, 3) := by decide +kernel
theorem dX5_synced_5 : decode cX5_synced 5 = .ok (.iload_n 1, 1) := by decide +kernel
theorem dX5_synced_6 : decode cX5_synced 6 = .ok (.invokestatic 147, 3) := by decide +kernel
theorem dX5_synced_9 : decode cX5_synced 9 = .ok (.ifCond .eq 7, 3) := by decide +kernel
theorem dX5_synced_12 : decode cX5_synced 12 = .ok (.iconst 0, 1) := by decide +kernel
theorem dX5_synced_13 : decode cX5_synced 13 = .ok (.goto 4, 3) := by decide +kernel
theorem dX5_synced_16 : decode cX5_synced 16 = .ok (.iconst 1, 1) := by decide +kernel
theorem dX5_synced_17 : decode cX5_synced 17 = .ok (.invokevirtual 103, 3) := by decide +kernel
theorem dX5_synced_20 : decode cX5_synced 20 = .ok (.ifCond .eq 5, 3) := by decide +kernel
theorem dX5_synced_23 : decode cX5_synced 23 = .ok (.iconst 0, 1) := by decide +kernel
theorem dX5_synced_24 : decode cX5_synced 24 = .ok (.ireturn, 1) := by decide +kernel
theorem dX5_synced_25 : decode cX5_synced 25 = .ok (.aload_n 0, 1) := by decide +kernel
theorem dX5_synced_26 : decode cX5_synced 26 = .ok (.getfield 13, 3) := by decide +kernel
theorem dX5_synced_29 : decode cX5_synced 29 = .ok (.iload_n 1, 1) := by decide +kernel
theorem dX5_synced_30 : decode cX5_synced 30 = .ok (.iconst 0, 1) := by decide +kernel
theorem dX5_synced_31 : decode cX5_synced 31 = .ok (.invokestatic 95, 3) := by decide +kernel
theorem dX5_synced_34 : decode cX5_synced 34 = .ok (.ireturn, 1) := by decide +kernel
set_option maxRecDepth 20000 in
theorem ggX5_own_X5_of : GoodIn wsX5_own wsX5_of := goodIn_r _ [4] (by decide +kernel) (by decide +kernel)
set_option maxRecDepth 20000 in
theorem gX5_own_X5_of : GoodIn wsX5_own (va_wsS RX5 48 yX5_of wsX5_of) := goodIn_app (goodIn_of _ (by decide +kernel)) ggX5_own_X5_of
set_option maxRecDepth 20000 in
theorem ggX5_own_X5_syncedBy : GoodIn wsX5_own wsX5_syncedBy := goodIn_r _ [7, 1, 2, 3, 4, 8, 9, 10] (by decide +kernel) (by decide +kernel)
set_option maxRecDepth 20000 in
theorem gX5_own_X5_syncedBy : GoodIn wsX5_own (va_wsS RX5 95 yX5_syncedBy wsX5_syncedBy) := goodIn_app (goodIn_of _ (by decide +kernel)) ggX5_own_X5_syncedBy
theorem dX5_own_0 : decode cX5_own 0 = .ok (.iconst 0, 1) := by decide +kernel
theorem dX5_own_1 : decode cX5_own 1 = .ok (.istore_n 2, 1) := by decide +kernel
theorem dX5_own_2 : decode cX5_own 2 = .ok (.iconst 0, 1) := by decide +kernel
theorem dX5_own_3 : decode cX5_own 3 = .ok (.istore_n 3, 1) := by decide +kernel
theorem dX5_own_4 : decode cX5_own 4 = .ok (.iload_n 3, 1) := by decide +kernel
theorem dX5_own_5 : decode cX5_own 5 = .ok (.aload_n 0, 1) := by decide +kernel
theorem dX5_own_6 : decode cX5_own 6 = .ok (.iconst 0, 1) := by decide +kernel
theorem dX5_own_7 : decode cX5_own 7 = .ok (.iaload, 1) := by decide +kernel
theorem dX5_own_8 : decode cX5_own 8 = .ok (.if_icmp .ge 38, 3) := by decide +kernel
theorem dX5_own_11 : decode cX5_own 11 = .ok (.iload_n 2, 1) := by decide +kernel
theorem dX5_own_12 : decode cX5_own 12 = .ok (.aload_n 0, 1) := by decide +kernel
theorem dX5_own_13 : decode cX5_own 13 = .ok (.iload_n 3, 1) := by decide +kernel
theorem dX5_own_14 : decode cX5_own 14 = .ok (.bipush 8, 2) := by decide +kernel
theorem dX5_own_16 : decode cX5_own 16 = .ok (.invokestatic 48, 3) := by decide +kernel
theorem dX5_own_19 : decode cX5_own 19 = .ok (.iconst (-1), 1) := by decide +kernel
theorem dX5_own_20 : decode cX5_own 20 = .ok (.if_icmp .eq 17, 3) := by decide +kernel
theorem dX5_own_23 : decode cX5_own 23 = .ok (.aload_n 0, 1) := by decide +kernel
theorem dX5_own_24 : decode cX5_own 24 = .ok (.iload_n 3, 1) := by decide +kernel
theorem dX5_own_25 : decode cX5_own 25 = .ok (.iload_n 1, 1) := by decide +kernel
theorem dX5_own_26 : decode cX5_own 26 = .ok (.invokestatic 95, 3) := by decide +kernel
theorem dX5_own_29 : decode cX5_own 29 = .ok (.iload_n 3, 1) := by decide +kernel
theorem dX5_own_30 : decode cX5_own 30 = .ok (.if_icmp .ne 7, 3) := by decide +kernel
theorem dX5_own_33 : decode cX5_own 33 = .ok (.iconst 1, 1) := by decide +kernel
theorem dX5_own_34 : decode cX5_own 34 = .ok (.goto 4, 3) := by decide +kernel
theorem dX5_own_37 : decode cX5_own 37 = .ok (.iconst 0, 1) := by decide +kernel
theorem dX5_own_38 : decode cX5_own 38 = .ok (.iadd, 1) := by decide +kernel
theorem dX5_own_39 : decode cX5_own 39 = .ok (.istore_n 2, 1) := by decide +kernel
theorem dX5_own_40 : decode cX5_own 40 = .ok (.iinc 3 1, 3) := by decide +kernel
theorem dX5_own_43 : decode cX5_own 43 = .ok (.goto (-39), 3) := by decide +kernel
theorem dX5_own_46 : decode cX5_own 46 = .ok (.iload_n 2, 1) := by decide +kernel
theorem dX5_own_47 : decode cX5_own 47 = .ok (.ireturn, 1) := by decide +kernel
set_option maxRecDepth 20000 in
theorem ggX5_bestShift_X5_own : GoodIn wsX5_bestShift wsX5_own := goodIn_r _ [6, 7, 8, 5, 9, 10, 11, 12, 13, 14, 15] (by decide +kernel) (by decide +kernel)
set_option maxRecDepth 20000 in
theorem gX5_bestShift_X5_own : GoodIn wsX5_bestShift (va_wsS RX5 210 yX5_own wsX5_own) := goodIn_app (goodIn_of _ (by decide +kernel)) ggX5_bestShift_X5_own
theorem dX5_bestShift_0 : decode cX5_bestShift 0 = .ok (.aload_n 0, 1) := by decide +kernel
theorem dX5_bestShift_1 : decode cX5_bestShift 1 = .ok (.iconst 0, 1) := by decide +kernel
theorem dX5_bestShift_2 : decode cX5_bestShift 2 = .ok (.putfield 36, 3) := by decide +kernel
theorem dX5_bestShift_5 : decode cX5_bestShift 5 = .ok (.iconst 0, 1) := by decide +kernel
theorem dX5_bestShift_6 : decode cX5_bestShift 6 = .ok (.istore_n 1, 1) := by decide +kernel
theorem dX5_bestShift_7 : decode cX5_bestShift 7 = .ok (.aload_n 0, 1) := by decide +kernel
theorem dX5_bestShift_8 : decode cX5_bestShift 8 = .ok (.getfield 13, 3) := by decide +kernel
theorem dX5_bestShift_11 : decode cX5_bestShift 11 = .ok (.iconst 0, 1) := by decide +kernel
theorem dX5_bestShift_12 : decode cX5_bestShift 12 = .ok (.invokestatic 210, 3) := by decide +kernel
theorem dX5_bestShift_15 : decode cX5_bestShift 15 = .ok (.istore_n 2, 1) := by decide +kernel
theorem dX5_bestShift_16 : decode cX5_bestShift 16 = .ok (.iconst 1, 1) := by decide +kernel
theorem dX5_bestShift_17 : decode cX5_bestShift 17 = .ok (.istore_n 3, 1) := by decide +kernel
theorem dX5_bestShift_18 : decode cX5_bestShift 18 = .ok (.iload_n 3, 1) := by decide +kernel
theorem dX5_bestShift_19 : decode cX5_bestShift 19 = .ok (.bipush 99, 2) := by decide +kernel
theorem dX5_bestShift_21 : decode cX5_bestShift 21 = .ok (.if_icmp .gt 67, 3) := by decide +kernel
theorem dX5_bestShift_24 : decode cX5_bestShift 24 = .ok (.iload_n 3, 1) := by decide +kernel
theorem dX5_bestShift_25 : decode cX5_bestShift 25 = .ok (.ineg, 1) := by decide +kernel
theorem dX5_bestShift_26 : decode cX5_bestShift 26 = .ok (.istore 4, 2) := by decide +kernel
theorem dX5_bestShift_28 : decode cX5_bestShift 28 = .ok (.iload 4, 2) := by decide +kernel
theorem dX5_bestShift_30 : decode cX5_bestShift 30 = .ok (.iload_n 3, 1) := by decide +kernel
theorem dX5_bestShift_31 : decode cX5_bestShift 31 = .ok (.if_icmp .gt 51, 3) := by decide +kernel
theorem dX5_bestShift_34 : decode cX5_bestShift 34 = .ok (.aload_n 0, 1) := by decide +kernel
theorem dX5_bestShift_35 : decode cX5_bestShift 35 = .ok (.getfield 13, 3) := by decide +kernel
theorem dX5_bestShift_38 : decode cX5_bestShift 38 = .ok (.iload 4, 2) := by decide +kernel
theorem dX5_bestShift_40 : decode cX5_bestShift 40 = .ok (.invokestatic 210, 3) := by decide +kernel
theorem dX5_bestShift_43 : decode cX5_bestShift 43 = .ok (.istore 5, 2) := by decide +kernel
theorem dX5_bestShift_45 : decode cX5_bestShift 45 = .ok (.iload 5, 2) := by decide +kernel
theorem dX5_bestShift_47 : decode cX5_bestShift 47 = .ok (.iload_n 2, 1) := by decide +kernel
theorem dX5_bestShift_48 : decode cX5_bestShift 48 = .ok (.if_icmp .le 8, 3) := by decide +kernel
theorem dX5_bestShift_51 : decode cX5_bestShift 51 = .ok (.iload 4, 2) := by decide +kernel
theorem dX5_bestShift_53 : decode cX5_bestShift 53 = .ok (.goto 4, 3) := by decide +kernel
theorem dX5_bestShift_56 : decode cX5_bestShift 56 = .ok (.iload_n 1, 1) := by decide +kernel
theorem dX5_bestShift_57 : decode cX5_bestShift 57 = .ok (.istore_n 1, 1) := by decide +kernel
theorem dX5_bestShift_58 : decode cX5_bestShift 58 = .ok (.iload 5, 2) := by decide +kernel
theorem dX5_bestShift_60 : decode cX5_bestShift 60 = .ok (.iload_n 2, 1) := by decide +kernel
theorem dX5_bestShift_61 : decode cX5_bestShift 61 = .ok (.if_icmp .le 8, 3) := by decide +kernel
theorem dX5_bestShift_64 : decode cX5_bestShift 64 = .ok (.iload 5, 2) := by decide +kernel
theorem dX5_bestShift_66 : decode cX5_bestShift 66 = .ok (.goto 4, 3) := by decide +kernel
theorem dX5_bestShift_69 : decode cX5_bestShift 69 = .ok (.iload_n 2, 1) := by decide +kernel
theorem dX5_bestShift_70 : decode cX5_bestShift 70 = .ok (.istore_n 2, 1) := by decide +kernel
theorem dX5_bestShift_71 : decode cX5_bestShift 71 = .ok (.iload 4, 2) := by decide +kernel
theorem dX5_bestShift_73 : decode cX5_bestShift 73 = .ok (.iconst 2, 1) := by decide +kernel
theorem dX5_bestShift_74 : decode cX5_bestShift 74 = .ok (.iload_n 3, 1) := by decide +kernel
theorem dX5_bestShift_75 : decode cX5_bestShift 75 = .ok (.imul, 1) := by decide +kernel
theorem dX5_bestShift_76 : decode cX5_bestShift 76 = .ok (.iadd, 1) := by decide +kernel
theorem dX5_bestShift_77 : decode cX5_bestShift 77 = .ok (.istore 4, 2) := by decide +kernel
theorem dX5_bestShift_79 : decode cX5_bestShift 79 = .ok (.goto (-51), 3) := by decide +kernel
theorem dX5_bestShift_82 : decode cX5_bestShift 82 = .ok (.iinc 3 1, 3) := by decide +kernel
theorem dX5_bestShift_85 : decode cX5_bestShift 85 = .ok (.goto (-67), 3) := by decide +kernel
theorem dX5_bestShift_88 : decode cX5_bestShift 88 = .ok (.iload_n 1, 1) := by decide +kernel
theorem dX5_bestShift_89 : decode cX5_bestShift 89 = .ok (.ireturn, 1) := by decide +kernel
set_option maxRecDepth 20000 in
theorem ggX5_rolls_X5_in : GoodIn wsX5_rolls wsX5_in := goodIn_r _ [7] (by decide +kernel) (by decide +kernel)
set_option maxRecDepth 20000 in
theorem gX5_rolls_X5_in : GoodIn wsX5_rolls (va_wsS RX5 40 yX5_in wsX5_in) := goodIn_app (goodIn_of _ (by decide +kernel)) ggX5_rolls_X5_in
set_option maxRecDepth 20000 in
theorem ggX5_rolls_X5_refused : GoodIn wsX5_rolls wsX5_refused := goodIn_r _ [11, 12, 16, 17, 18, 19, 20, 21, 22, 23, 24, 25, 26, 27, 28] (by decide +kernel) (by decide +kernel)
set_option maxRecDepth 20000 in
theorem gX5_rolls_X5_refused : GoodIn wsX5_rolls (wsV RX5 103 RX5 yX5_refused wsX5_refused) := goodIn_app (goodIn_of _ (by decide +kernel)) ggX5_rolls_X5_refused
set_option maxRecDepth 20000 in
theorem ggX5_rolls_X5_left : GoodIn wsX5_rolls wsX5_left := goodIn_r _ [15] (by decide +kernel) (by decide +kernel)
set_option maxRecDepth 20000 in
theorem gX5_rolls_X5_left : GoodIn wsX5_rolls (va_wsS RX5 64 yX5_left wsX5_left) := goodIn_app (goodIn_of _ (by decide +kernel)) ggX5_rolls_X5_left
theorem dX5_rolls_0 : decode cX5_rolls 0 = .ok (.aload_n 0, 1) := by decide +kernel
theorem dX5_rolls_1 : decode cX5_rolls 1 = .ok (.iload_n 1, 1) := by decide +kernel
theorem dX5_rolls_2 : decode cX5_rolls 2 = .ok (.i2l, 1) := by decide +kernel
theorem dX5_rolls_3 : decode cX5_rolls 3 = .ok (.lconst 1, 1) := by decide +kernel
theorem dX5_rolls_4 : decode cX5_rolls 4 = .ok (.ldc2_w 196, 3) := by decide +kernel
theorem dX5_rolls_7 : decode cX5_rolls 7 = .ok (.invokestatic 40, 3) := by decide +kernel
theorem dX5_rolls_10 : decode cX5_rolls 10 = .ok (.ifCond .eq 19, 3) := by decide +kernel
theorem dX5_rolls_13 : decode cX5_rolls 13 = .ok (.iload_n 2, 1) := by decide +kernel
theorem dX5_rolls_14 : decode cX5_rolls 14 = .ok (.i2l, 1) := by decide +kernel
theorem dX5_rolls_15 : decode cX5_rolls 15 = .ok (.lconst 1, 1) := by decide +kernel
theorem dX5_rolls_16 : decode cX5_rolls 16 = .ok (.ldc2_w 44, 3) := by decide +kernel
theorem dX5_rolls_19 : decode cX5_rolls 19 = .ok (.invokestatic 40, 3) := by decide +kernel
theorem dX5_rolls_22 : decode cX5_rolls 22 = .ok (.ifCond .eq 7, 3) := by decide +kernel
theorem dX5_rolls_25 : decode cX5_rolls 25 = .ok (.iconst 0, 1) := by decide +kernel
theorem dX5_rolls_26 : decode cX5_rolls 26 = .ok (.goto 4, 3) := by decide +kernel
theorem dX5_rolls_29 : decode cX5_rolls 29 = .ok (.iconst 1, 1) := by decide +kernel
theorem dX5_rolls_30 : decode cX5_rolls 30 = .ok (.invokevirtual 103, 3) := by decide +kernel
theorem dX5_rolls_33 : decode cX5_rolls 33 = .ok (.ifCond .eq 5, 3) := by decide +kernel
theorem dX5_rolls_36 : decode cX5_rolls 36 = .ok (.iconst 0, 1) := by decide +kernel
theorem dX5_rolls_37 : decode cX5_rolls 37 = .ok (.ireturn, 1) := by decide +kernel
theorem dX5_rolls_38 : decode cX5_rolls 38 = .ok (.aload_n 0, 1) := by decide +kernel
theorem dX5_rolls_39 : decode cX5_rolls 39 = .ok (.getfield 13, 3) := by decide +kernel
theorem dX5_rolls_42 : decode cX5_rolls 42 = .ok (.invokestatic 64, 3) := by decide +kernel
theorem dX5_rolls_45 : decode cX5_rolls 45 = .ok (.istore_n 3, 1) := by decide +kernel
theorem dX5_rolls_46 : decode cX5_rolls 46 = .ok (.iconst 0, 1) := by decide +kernel
theorem dX5_rolls_47 : decode cX5_rolls 47 = .ok (.istore 4, 2) := by decide +kernel
theorem dX5_rolls_49 : decode cX5_rolls 49 = .ok (.iconst 0, 1) := by decide +kernel
theorem dX5_rolls_50 : decode cX5_rolls 50 = .ok (.istore 5, 2) := by decide +kernel
theorem dX5_rolls_52 : decode cX5_rolls 52 = .ok (.iload 5, 2) := by decide +kernel
theorem dX5_rolls_54 : decode cX5_rolls 54 = .ok (.iload_n 2, 1) := by decide +kernel
theorem dX5_rolls_55 : decode cX5_rolls 55 = .ok (.if_icmp .ge 38, 3) := by decide +kernel
theorem dX5_rolls_58 : decode cX5_rolls 58 = .ok (.iload_n 3, 1) := by decide +kernel
theorem dX5_rolls_59 : decode cX5_rolls 59 = .ok (.iload_n 1, 1) := by decide +kernel
theorem dX5_rolls_60 : decode cX5_rolls 60 = .ok (.if_icmp .ge 14, 3) := by decide +kernel
theorem dX5_rolls_63 : decode cX5_rolls 63 = .ok (.iinc 4 1, 3) := by decide +kernel
theorem dX5_rolls_66 : decode cX5_rolls 66 = .ok (.aload_n 0, 1) := by decide +kernel
theorem dX5_rolls_67 : decode cX5_rolls 67 = .ok (.getfield 13, 3) := by decide +kernel
theorem dX5_rolls_70 : decode cX5_rolls 70 = .ok (.bipush 13, 2) := by decide +kernel
theorem dX5_rolls_72 : decode cX5_rolls 72 = .ok (.iaload, 1) := by decide +kernel
theorem dX5_rolls_73 : decode cX5_rolls 73 = .ok (.istore_n 3, 1) := by decide +kernel
theorem dX5_rolls_74 : decode cX5_rolls 74 = .ok (.iload_n 3, 1) := by decide +kernel
theorem dX5_rolls_75 : decode cX5_rolls 75 = .ok (.iload_n 3, 1) := by decide +kernel
theorem dX5_rolls_76 : decode cX5_rolls 76 = .ok (.iload_n 1, 1) := by decide +kernel
theorem dX5_rolls_77 : decode cX5_rolls 77 = .ok (.if_icmp .ge 7, 3) := by decide +kernel
theorem dX5_rolls_80 : decode cX5_rolls 80 = .ok (.iload_n 3, 1) := by decide +kernel
theorem dX5_rolls_81 : decode cX5_rolls 81 = .ok (.goto 4, 3) := by decide +kernel
theorem dX5_rolls_84 : decode cX5_rolls 84 = .ok (.iload_n 1, 1) := by decide +kernel
theorem dX5_rolls_85 : decode cX5_rolls 85 = .ok (.isub, 1) := by decide +kernel
theorem dX5_rolls_86 : decode cX5_rolls 86 = .ok (.istore_n 3, 1) := by decide +kernel
theorem dX5_rolls_87 : decode cX5_rolls 87 = .ok (.iinc 5 1, 3) := by decide +kernel
theorem dX5_rolls_90 : decode cX5_rolls 90 = .ok (.goto (-38), 3) := by decide +kernel
theorem dX5_rolls_93 : decode cX5_rolls 93 = .ok (.iload 4, 2) := by decide +kernel
theorem dX5_rolls_95 : decode cX5_rolls 95 = .ok (.ireturn, 1) := by decide +kernel
set_option maxRecDepth 20000 in
theorem ggX5_ifFalse_X5_isTake : GoodIn wsX5_ifFalse wsX5_isTake := goodIn_r _ [6, 7, 8, 5, 9] (by decide +kernel) (by decide +kernel)
set_option maxRecDepth 20000 in
theorem gX5_ifFalse_X5_isTake : GoodIn wsX5_ifFalse (va_wsS RX5 147 yX5_isTake wsX5_isTake) := goodIn_app (goodIn_of _ (by decide +kernel)) ggX5_ifFalse_X5_isTake
set_option maxRecDepth 20000 in
theorem ggX5_ifFalse_X5_refused : GoodIn wsX5_ifFalse wsX5_refused := goodIn_r _ [13, 14, 33, 34, 35, 36, 37, 38, 39, 40, 41, 42, 43, 44, 45] (by decide +kernel) (by decide +kernel)
set_option maxRecDepth 20000 in
theorem gX5_ifFalse_X5_refused : GoodIn wsX5_ifFalse (wsV RX5 103 RX5 yX5_refused wsX5_refused) := goodIn_app (goodIn_of _ (by decide +kernel)) ggX5_ifFalse_X5_refused
set_option maxRecDepth 20000 in
theorem ggX5_ifFalse_X5_copyState : GoodIn wsX5_ifFalse wsX5_copyState := goodIn_r _ [17] (by decide +kernel) (by decide +kernel)
set_option maxRecDepth 20000 in
theorem gX5_ifFalse_X5_copyState : GoodIn wsX5_ifFalse (va_wsS RX5 160 yX5_copyState wsX5_copyState) := goodIn_app (goodIn_of _ (by decide +kernel)) ggX5_ifFalse_X5_copyState
set_option maxRecDepth 20000 in
theorem ggX5_ifFalse_X5_of : GoodIn wsX5_ifFalse wsX5_of := goodIn_r _ [20] (by decide +kernel) (by decide +kernel)
set_option maxRecDepth 20000 in
theorem gX5_ifFalse_X5_of : GoodIn wsX5_ifFalse (va_wsS RX5 48 yX5_of wsX5_of) := goodIn_app (goodIn_of _ (by decide +kernel)) ggX5_ifFalse_X5_of
set_option maxRecDepth 20000 in
theorem ggX5_ifFalse_X5_lay : GoodIn wsX5_ifFalse wsX5_lay := goodIn_r _ [23] (by decide +kernel) (by decide +kernel)
set_option maxRecDepth 20000 in
theorem gX5_ifFalse_X5_lay : GoodIn wsX5_ifFalse (va_wsS RX5 68 yX5_lay wsX5_lay) := goodIn_app (goodIn_of _ (by decide +kernel)) ggX5_ifFalse_X5_lay
set_option maxRecDepth 20000 in
theorem ggX5_ifFalse_X5_isRight : GoodIn wsX5_ifFalse wsX5_isRight := goodIn_r _ [26, 18, 19, 5, 20, 27, 28, 29, 30, 31, 32] (by decide +kernel) (by decide +kernel)
set_option maxRecDepth 20000 in
theorem gX5_ifFalse_X5_isRight : GoodIn wsX5_ifFalse (va_wsS RX5 60 yX5_isRight wsX5_isRight) := goodIn_app (goodIn_of _ (by decide +kernel)) ggX5_ifFalse_X5_isRight
theorem dX5_ifFalse_0 : decode cX5_ifFalse 0 = .ok (.aload_n 0, 1) := by decide +kernel
theorem dX5_ifFalse_1 : decode cX5_ifFalse 1 = .ok (.aload_n 0, 1) := by decide +kernel
theorem dX5_ifFalse_2 : decode cX5_ifFalse 2 = .ok (.getfield 13, 3) := by decide +kernel
theorem dX5_ifFalse_5 : decode cX5_ifFalse 5 = .ok (.iload_n 1, 1) := by decide +kernel
theorem dX5_ifFalse_6 : decode cX5_ifFalse 6 = .ok (.invokestatic 147, 3) := by decide +kernel
theorem dX5_ifFalse_9 : decode cX5_ifFalse 9 = .ok (.ifCond .eq 7, 3) := by decide +kernel
theorem dX5_ifFalse_12 : decode cX5_ifFalse 12 = .ok (.iconst 0, 1) := by decide +kernel
theorem dX5_ifFalse_13 : decode cX5_ifFalse 13 = .ok (.goto 4, 3) := by decide +kernel
theorem dX5_ifFalse_16 : decode cX5_ifFalse 16 = .ok (.iconst 1, 1) := by decide +kernel
theorem dX5_ifFalse_17 : decode cX5_ifFalse 17 = .ok (.invokevirtual 103, 3) := by decide +kernel
theorem dX5_ifFalse_20 : decode cX5_ifFalse 20 = .ok (.ifCond .eq 5, 3) := by decide +kernel
theorem dX5_ifFalse_23 : decode cX5_ifFalse 23 = .ok (.iconst 0, 1) := by decide +kernel
theorem dX5_ifFalse_24 : decode cX5_ifFalse 24 = .ok (.ireturn, 1) := by decide +kernel
theorem dX5_ifFalse_25 : decode cX5_ifFalse 25 = .ok (.aload_n 0, 1) := by decide +kernel
theorem dX5_ifFalse_26 : decode cX5_ifFalse 26 = .ok (.getfield 13, 3) := by decide +kernel
theorem dX5_ifFalse_29 : decode cX5_ifFalse 29 = .ok (.iconst 0, 1) := by decide +kernel
theorem dX5_ifFalse_30 : decode cX5_ifFalse 30 = .ok (.aload_n 0, 1) := by decide +kernel
theorem dX5_ifFalse_31 : decode cX5_ifFalse 31 = .ok (.getfield 16, 3) := by decide +kernel
theorem dX5_ifFalse_34 : decode cX5_ifFalse 34 = .ok (.iconst 0, 1) := by decide +kernel
theorem dX5_ifFalse_35 : decode cX5_ifFalse 35 = .ok (.invokestatic 160, 3) := by decide +kernel
theorem dX5_ifFalse_38 : decode cX5_ifFalse 38 = .ok (.aload_n 0, 1) := by decide +kernel
theorem dX5_ifFalse_39 : decode cX5_ifFalse 39 = .ok (.getfield 16, 3) := by decide +kernel
theorem dX5_ifFalse_42 : decode cX5_ifFalse 42 = .ok (.iload_n 1, 1) := by decide +kernel
theorem dX5_ifFalse_43 : decode cX5_ifFalse 43 = .ok (.bipush 14, 2) := by decide +kernel
theorem dX5_ifFalse_45 : decode cX5_ifFalse 45 = .ok (.iconst 1, 1) := by decide +kernel
theorem dX5_ifFalse_46 : decode cX5_ifFalse 46 = .ok (.aload_n 0, 1) := by decide +kernel
theorem dX5_ifFalse_47 : decode cX5_ifFalse 47 = .ok (.getfield 13, 3) := by decide +kernel
theorem dX5_ifFalse_50 : decode cX5_ifFalse 50 = .ok (.iload_n 1, 1) := by decide +kernel
theorem dX5_ifFalse_51 : decode cX5_ifFalse 51 = .ok (.bipush 14, 2) := by decide +kernel
theorem dX5_ifFalse_53 : decode cX5_ifFalse 53 = .ok (.invokestatic 48, 3) := by decide +kernel
theorem dX5_ifFalse_56 : decode cX5_ifFalse 56 = .ok (.isub, 1) := by decide +kernel
theorem dX5_ifFalse_57 : decode cX5_ifFalse 57 = .ok (.invokestatic 68, 3) := by decide +kernel
theorem dX5_ifFalse_60 : decode cX5_ifFalse 60 = .ok (.iconst 0, 1) := by decide +kernel
theorem dX5_ifFalse_61 : decode cX5_ifFalse 61 = .ok (.istore_n 2, 1) := by decide +kernel
theorem dX5_ifFalse_62 : decode cX5_ifFalse 62 = .ok (.iconst 0, 1) := by decide +kernel
theorem dX5_ifFalse_63 : decode cX5_ifFalse 63 = .ok (.istore_n 3, 1) := by decide +kernel
theorem dX5_ifFalse_64 : decode cX5_ifFalse 64 = .ok (.iload_n 3, 1) := by decide +kernel
theorem dX5_ifFalse_65 : decode cX5_ifFalse 65 = .ok (.aload_n 0, 1) := by decide +kernel
theorem dX5_ifFalse_66 : decode cX5_ifFalse 66 = .ok (.getfield 13, 3) := by decide +kernel
theorem dX5_ifFalse_69 : decode cX5_ifFalse 69 = .ok (.iconst 0, 1) := by decide +kernel
theorem dX5_ifFalse_70 : decode cX5_ifFalse 70 = .ok (.iaload, 1) := by decide +kernel
theorem dX5_ifFalse_71 : decode cX5_ifFalse 71 = .ok (.if_icmp .ge 38, 3) := by decide +kernel
theorem dX5_ifFalse_74 : decode cX5_ifFalse 74 = .ok (.iload_n 2, 1) := by decide +kernel
theorem dX5_ifFalse_75 : decode cX5_ifFalse 75 = .ok (.aload_n 0, 1) := by decide +kernel
theorem dX5_ifFalse_76 : decode cX5_ifFalse 76 = .ok (.getfield 13, 3) := by decide +kernel
theorem dX5_ifFalse_79 : decode cX5_ifFalse 79 = .ok (.iload_n 3, 1) := by decide +kernel
theorem dX5_ifFalse_80 : decode cX5_ifFalse 80 = .ok (.invokestatic 60, 3) := by decide +kernel
theorem dX5_ifFalse_83 : decode cX5_ifFalse 83 = .ok (.aload_n 0, 1) := by decide +kernel
theorem dX5_ifFalse_84 : decode cX5_ifFalse 84 = .ok (.getfield 16, 3) := by decide +kernel
theorem dX5_ifFalse_87 : decode cX5_ifFalse 87 = .ok (.iload_n 3, 1) := by decide +kernel
theorem dX5_ifFalse_88 : decode cX5_ifFalse 88 = .ok (.invokestatic 60, 3) := by decide +kernel
theorem dX5_ifFalse_91 : decode cX5_ifFalse 91 = .ok (.if_icmp .ne 7, 3) := by decide +kernel
theorem dX5_ifFalse_94 : decode cX5_ifFalse 94 = .ok (.iconst 0, 1) := by decide +kernel
theorem dX5_ifFalse_95 : decode cX5_ifFalse 95 = .ok (.goto 6, 3) := by decide +kernel
theorem dX5_ifFalse_98 : decode cX5_ifFalse 98 = .ok (.iconst 1, 1) := by decide +kernel
theorem dX5_ifFalse_99 : decode cX5_ifFalse 99 = .ok (.iload_n 3, 1) := by decide +kernel
theorem dX5_ifFalse_100 : decode cX5_ifFalse 100 = .ok (.ishl, 1) := by decide +kernel
theorem dX5_ifFalse_101 : decode cX5_ifFalse 101 = .ok (.ior, 1) := by decide +kernel
theorem dX5_ifFalse_102 : decode cX5_ifFalse 102 = .ok (.istore_n 2, 1) := by decide +kernel
theorem dX5_ifFalse_103 : decode cX5_ifFalse 103 = .ok (.iinc 3 1, 3) := by decide +kernel
theorem dX5_ifFalse_106 : decode cX5_ifFalse 106 = .ok (.goto (-42), 3) := by decide +kernel
theorem dX5_ifFalse_109 : decode cX5_ifFalse 109 = .ok (.iload_n 2, 1) := by decide +kernel
theorem dX5_ifFalse_110 : decode cX5_ifFalse 110 = .ok (.ireturn, 1) := by decide +kernel
set_option maxRecDepth 20000 in
theorem ggX5_scene_X5_in : GoodIn wsX5_scene wsX5_in := goodIn_r _ [6] (by decide +kernel) (by decide +kernel)
set_option maxRecDepth 20000 in
theorem gX5_scene_X5_in : GoodIn wsX5_scene (va_wsS RX5 40 yX5_in wsX5_in) := goodIn_app (goodIn_of _ (by decide +kernel)) ggX5_scene_X5_in
set_option maxRecDepth 20000 in
theorem ggX5_scene_X5_refused : GoodIn wsX5_scene wsX5_refused := goodIn_r _ [10, 11, 15, 16, 17, 18, 19, 20, 21, 22, 23, 24, 25, 26, 27] (by decide +kernel) (by decide +kernel)
set_option maxRecDepth 20000 in
theorem gX5_scene_X5_refused : GoodIn wsX5_scene (wsV RX5 103 RX5 yX5_refused wsX5_refused) := goodIn_app (goodIn_of _ (by decide +kernel)) ggX5_scene_X5_refused
set_option maxRecDepth 20000 in
theorem ggX5_scene_X5_of : GoodIn wsX5_scene wsX5_of := goodIn_r _ [14] (by decide +kernel) (by decide +kernel)
set_option maxRecDepth 20000 in
theorem gX5_scene_X5_of : GoodIn wsX5_scene (va_wsS RX5 48 yX5_of wsX5_of) := goodIn_app (goodIn_of _ (by decide +kernel)) ggX5_scene_X5_of
theorem dX5_scene_0 : decode cX5_scene 0 = .ok (.aload_n 0, 1) := by decide +kernel
theorem dX5_scene_1 : decode cX5_scene 1 = .ok (.iload_n 2, 1) := by decide +kernel
theorem dX5_scene_2 : decode cX5_scene 2 = .ok (.i2l, 1) := by decide +kernel
theorem dX5_scene_3 : decode cX5_scene 3 = .ok (.lconst 0, 1) := by decide +kernel
theorem dX5_scene_4 : decode cX5_scene 4 = .ok (.ldc2_w 213, 3) := by decide +kernel
theorem dX5_scene_7 : decode cX5_scene 7 = .ok (.invokestatic 40, 3) := by decide +kernel
theorem dX5_scene_10 : decode cX5_scene 10 = .ok (.ifCond .eq 7, 3) := by decide +kernel
theorem dX5_scene_13 : decode cX5_scene 13 = .ok (.iconst 0, 1) := by decide +kernel
theorem dX5_scene_14 : decode cX5_scene 14 = .ok (.goto 4, 3) := by decide +kernel
theorem dX5_scene_17 : decode cX5_scene 17 = .ok (.iconst 1, 1) := by decide +kernel
theorem dX5_scene_18 : decode cX5_scene 18 = .ok (.invokevirtual 103, 3) := by decide +kernel
theorem dX5_scene_21 : decode cX5_scene 21 = .ok (.ifCond .eq 5, 3) := by decide +kernel
theorem dX5_scene_24 : decode cX5_scene 24 = .ok (.iconst 0, 1) := by decide +kernel
theorem dX5_scene_25 : decode cX5_scene 25 = .ok (.ireturn, 1) := by decide +kernel
theorem dX5_scene_26 : decode cX5_scene 26 = .ok (.iconst 0, 1) := by decide +kernel
theorem dX5_scene_27 : decode cX5_scene 27 = .ok (.istore_n 3, 1) := by decide +kernel
theorem dX5_scene_28 : decode cX5_scene 28 = .ok (.iconst 0, 1) := by decide +kernel
theorem dX5_scene_29 : decode cX5_scene 29 = .ok (.istore 4, 2) := by decide +kernel
theorem dX5_scene_31 : decode cX5_scene 31 = .ok (.iconst 0, 1) := by decide +kernel
theorem dX5_scene_32 : decode cX5_scene 32 = .ok (.istore 5, 2) := by decide +kernel
theorem dX5_scene_34 : decode cX5_scene 34 = .ok (.iconst 0, 1) := by decide +kernel
theorem dX5_scene_35 : decode cX5_scene 35 = .ok (.istore 6, 2) := by decide +kernel
theorem dX5_scene_37 : decode cX5_scene 37 = .ok (.iconst 0, 1) := by decide +kernel
theorem dX5_scene_38 : decode cX5_scene 38 = .ok (.istore 7, 2) := by decide +kernel
theorem dX5_scene_40 : decode cX5_scene 40 = .ok (.iconst 0, 1) := by decide +kernel
theorem dX5_scene_41 : decode cX5_scene 41 = .ok (.istore 8, 2) := by decide +kernel
theorem dX5_scene_43 : decode cX5_scene 43 = .ok (.iload 8, 2) := by decide +kernel
theorem dX5_scene_45 : decode cX5_scene 45 = .ok (.aload_n 0, 1) := by decide +kernel
theorem dX5_scene_46 : decode cX5_scene 46 = .ok (.getfield 13, 3) := by decide +kernel
theorem dX5_scene_49 : decode cX5_scene 49 = .ok (.iconst 0, 1) := by decide +kernel
theorem dX5_scene_50 : decode cX5_scene 50 = .ok (.iaload, 1) := by decide +kernel
theorem dX5_scene_51 : decode cX5_scene 51 = .ok (.if_icmp .ge 102, 3) := by decide +kernel
theorem dX5_scene_54 : decode cX5_scene 54 = .ok (.aload_n 0, 1) := by decide +kernel
theorem dX5_scene_55 : decode cX5_scene 55 = .ok (.getfield 13, 3) := by decide +kernel
theorem dX5_scene_58 : decode cX5_scene 58 = .ok (.iload 8, 2) := by decide +kernel
theorem dX5_scene_60 : decode cX5_scene 60 = .ok (.iconst 0, 1) := by decide +kernel
theorem dX5_scene_61 : decode cX5_scene 61 = .ok (.invokestatic 48, 3) := by decide +kernel
theorem dX5_scene_64 : decode cX5_scene 64 = .ok (.iload_n 1, 1) := by decide +kernel
theorem dX5_scene_65 : decode cX5_scene 65 = .ok (.if_icmp .ne 82, 3) := by decide +kernel
theorem dX5_scene_68 : decode cX5_scene 68 = .ok (.iinc 3 1, 3) := by decide +kernel
theorem dX5_scene_71 : decode cX5_scene 71 = .ok (.iload 4, 2) := by decide +kernel
theorem dX5_scene_73 : decode cX5_scene 73 = .ok (.aload_n 0, 1) := by decide +kernel
theorem dX5_scene_74 : decode cX5_scene 74 = .ok (.getfield 13, 3) := by decide +kernel
theorem dX5_scene_77 : decode cX5_scene 77 = .ok (.iload 8, 2) := by decide +kernel
theorem dX5_scene_79 : decode cX5_scene 79 = .ok (.bipush 13, 2) := by decide +kernel
theorem dX5_scene_81 : decode cX5_scene 81 = .ok (.invokestatic 48, 3) := by decide +kernel
theorem dX5_scene_84 : decode cX5_scene 84 = .ok (.iadd, 1) := by decide +kernel
theorem dX5_scene_85 : decode cX5_scene 85 = .ok (.istore 4, 2) := by decide +kernel
theorem dX5_scene_87 : decode cX5_scene 87 = .ok (.iload 5, 2) := by decide +kernel
theorem dX5_scene_89 : decode cX5_scene 89 = .ok (.aload_n 0, 1) := by decide +kernel
theorem dX5_scene_90 : decode cX5_scene 90 = .ok (.getfield 13, 3) := by decide +kernel
theorem dX5_scene_93 : decode cX5_scene 93 = .ok (.iload 8, 2) := by decide +kernel
theorem dX5_scene_95 : decode cX5_scene 95 = .ok (.bipush 7, 2) := by decide +kernel
theorem dX5_scene_97 : decode cX5_scene 97 = .ok (.invokestatic 48, 3) := by decide +kernel
theorem dX5_scene_100 : decode cX5_scene 100 = .ok (.iadd, 1) := by decide +kernel
theorem dX5_scene_101 : decode cX5_scene 101 = .ok (.istore 5, 2) := by decide +kernel
theorem dX5_scene_103 : decode cX5_scene 103 = .ok (.iload 6, 2) := by decide +kernel
theorem dX5_scene_105 : decode cX5_scene 105 = .ok (.iconst 1, 1) := by decide +kernel
theorem dX5_scene_106 : decode cX5_scene 106 = .ok (.aload_n 0, 1) := by decide +kernel
theorem dX5_scene_107 : decode cX5_scene 107 = .ok (.getfield 13, 3) := by decide +kernel
theorem dX5_scene_110 : decode cX5_scene 110 = .ok (.iload 8, 2) := by decide +kernel
theorem dX5_scene_112 : decode cX5_scene 112 = .ok (.iconst 1, 1) := by decide +kernel
theorem dX5_scene_113 : decode cX5_scene 113 = .ok (.invokestatic 48, 3) := by decide +kernel
theorem dX5_scene_116 : decode cX5_scene 116 = .ok (.ishl, 1) := by decide +kernel
theorem dX5_scene_117 : decode cX5_scene 117 = .ok (.ior, 1) := by decide +kernel
theorem dX5_scene_118 : decode cX5_scene 118 = .ok (.istore 6, 2) := by decide +kernel
theorem dX5_scene_120 : decode cX5_scene 120 = .ok (.iload 7, 2) := by decide +kernel
theorem dX5_scene_122 : decode cX5_scene 122 = .ok (.aload_n 0, 1) := by decide +kernel
theorem dX5_scene_123 : decode cX5_scene 123 = .ok (.getfield 13, 3) := by decide +kernel
theorem dX5_scene_126 : decode cX5_scene 126 = .ok (.iload 8, 2) := by decide +kernel
theorem dX5_scene_128 : decode cX5_scene 128 = .ok (.bipush 13, 2) := by decide +kernel
theorem dX5_scene_130 : decode cX5_scene 130 = .ok (.invokestatic 48, 3) := by decide +kernel
theorem dX5_scene_133 : decode cX5_scene 133 = .ok (.aload_n 0, 1) := by decide +kernel
theorem dX5_scene_134 : decode cX5_scene 134 = .ok (.getfield 13, 3) := by decide +kernel
theorem dX5_scene_137 : decode cX5_scene 137 = .ok (.iload 8, 2) := by decide +kernel
theorem dX5_scene_139 : decode cX5_scene 139 = .ok (.iconst 1, 1) := by decide +kernel
theorem dX5_scene_140 : decode cX5_scene 140 = .ok (.invokestatic 48, 3) := by decide +kernel
theorem dX5_scene_143 : decode cX5_scene 143 = .ok (.ishl, 1) := by decide +kernel
theorem dX5_scene_144 : decode cX5_scene 144 = .ok (.ior, 1) := by decide +kernel
theorem dX5_scene_145 : decode cX5_scene 145 = .ok (.istore 7, 2) := by decide +kernel
theorem dX5_scene_147 : decode cX5_scene 147 = .ok (.iinc 8 1, 3) := by decide +kernel
theorem dX5_scene_150 : decode cX5_scene 150 = .ok (.goto (-107), 3) := by decide +kernel
theorem dX5_scene_153 : decode cX5_scene 153 = .ok (.iconst 0, 1) := by decide +kernel
theorem dX5_scene_154 : decode cX5_scene 154 = .ok (.istore 8, 2) := by decide +kernel
theorem dX5_scene_156 : decode cX5_scene 156 = .ok (.iconst 0, 1) := by decide +kernel
theorem dX5_scene_157 : decode cX5_scene 157 = .ok (.istore 9, 2) := by decide +kernel
theorem dX5_scene_159 : decode cX5_scene 159 = .ok (.iconst 0, 1) := by decide +kernel
theorem dX5_scene_160 : decode cX5_scene 160 = .ok (.istore 10, 2) := by decide +kernel
theorem dX5_scene_162 : decode cX5_scene 162 = .ok (.iload 10, 2) := by decide +kernel
theorem dX5_scene_164 : decode cX5_scene 164 = .ok (.bipush 26, 2) := by decide +kernel
theorem dX5_scene_166 : decode cX5_scene 166 = .ok (.if_icmp .ge 38, 3) := by decide +kernel
theorem dX5_scene_169 : decode cX5_scene 169 = .ok (.iload 8, 2) := by decide +kernel
theorem dX5_scene_171 : decode cX5_scene 171 = .ok (.iload 6, 2) := by decide +kernel
theorem dX5_scene_173 : decode cX5_scene 173 = .ok (.iload 10, 2) := by decide +kernel
theorem dX5_scene_175 : decode cX5_scene 175 = .ok (.ishr, 1) := by decide +kernel
theorem dX5_scene_176 : decode cX5_scene 176 = .ok (.iconst 1, 1) := by decide +kernel
theorem dX5_scene_177 : decode cX5_scene 177 = .ok (.iand, 1) := by decide +kernel
theorem dX5_scene_178 : decode cX5_scene 178 = .ok (.iadd, 1) := by decide +kernel
theorem dX5_scene_179 : decode cX5_scene 179 = .ok (.istore 8, 2) := by decide +kernel
theorem dX5_scene_181 : decode cX5_scene 181 = .ok (.iload 9, 2) := by decide +kernel
theorem dX5_scene_183 : decode cX5_scene 183 = .ok (.iload 6, 2) := by decide +kernel
theorem dX5_scene_185 : decode cX5_scene 185 = .ok (.iload 7, 2) := by decide +kernel
theorem dX5_scene_187 : decode cX5_scene 187 = .ok (.iconst (-1), 1) := by decide +kernel
theorem dX5_scene_188 : decode cX5_scene 188 = .ok (.ixor, 1) := by decide +kernel
theorem dX5_scene_189 : decode cX5_scene 189 = .ok (.iand, 1) := by decide +kernel
theorem dX5_scene_190 : decode cX5_scene 190 = .ok (.iload 10, 2) := by decide +kernel
theorem dX5_scene_192 : decode cX5_scene 192 = .ok (.ishr, 1) := by decide +kernel
theorem dX5_scene_193 : decode cX5_scene 193 = .ok (.iconst 1, 1) := by decide +kernel
theorem dX5_scene_194 : decode cX5_scene 194 = .ok (.iand, 1) := by decide +kernel
theorem dX5_scene_195 : decode cX5_scene 195 = .ok (.iadd, 1) := by decide +kernel
theorem dX5_scene_196 : decode cX5_scene 196 = .ok (.istore 9, 2) := by decide +kernel
theorem dX5_scene_198 : decode cX5_scene 198 = .ok (.iinc 10 1, 3) := by decide +kernel
theorem dX5_scene_201 : decode cX5_scene 201 = .ok (.goto (-39), 3) := by decide +kernel
theorem dX5_scene_204 : decode cX5_scene 204 = .ok (.iload_n 2, 1) := by decide +kernel
theorem dX5_scene_205 : decode cX5_scene 205 = .ok (.ifCond .ne 7, 3) := by decide +kernel
theorem dX5_scene_208 : decode cX5_scene 208 = .ok (.iload_n 3, 1) := by decide +kernel
theorem dX5_scene_209 : decode cX5_scene 209 = .ok (.goto 35, 3) := by decide +kernel
theorem dX5_scene_212 : decode cX5_scene 212 = .ok (.iload_n 2, 1) := by decide +kernel
theorem dX5_scene_213 : decode cX5_scene 213 = .ok (.iconst 1, 1) := by decide +kernel
theorem dX5_scene_214 : decode cX5_scene 214 = .ok (.if_icmp .ne 8, 3) := by decide +kernel
theorem dX5_scene_217 : decode cX5_scene 217 = .ok (.iload 4, 2) := by decide +kernel
theorem dX5_scene_219 : decode cX5_scene 219 = .ok (.goto 25, 3) := by decide +kernel
theorem dX5_scene_222 : decode cX5_scene 222 = .ok (.iload_n 2, 1) := by decide +kernel
theorem dX5_scene_223 : decode cX5_scene 223 = .ok (.iconst 2, 1) := by decide +kernel
theorem dX5_scene_224 : decode cX5_scene 224 = .ok (.if_icmp .ne 8, 3) := by decide +kernel
theorem dX5_scene_227 : decode cX5_scene 227 = .ok (.iload 8, 2) := by decide +kernel
theorem dX5_scene_229 : decode cX5_scene 229 = .ok (.goto 15, 3) := by decide +kernel
theorem dX5_scene_232 : decode cX5_scene 232 = .ok (.iload_n 2, 1) := by decide +kernel
theorem dX5_scene_233 : decode cX5_scene 233 = .ok (.iconst 3, 1) := by decide +kernel
theorem dX5_scene_234 : decode cX5_scene 234 = .ok (.if_icmp .ne 8, 3) := by decide +kernel
theorem dX5_scene_237 : decode cX5_scene 237 = .ok (.iload 5, 2) := by decide +kernel
theorem dX5_scene_239 : decode cX5_scene 239 = .ok (.goto 5, 3) := by decide +kernel
theorem dX5_scene_242 : decode cX5_scene 242 = .ok (.iload 9, 2) := by decide +kernel
theorem dX5_scene_244 : decode cX5_scene 244 = .ok (.ireturn, 1) := by decide +kernel
set_option maxRecDepth 20000 in
theorem ggX5_command_X5_in : GoodIn wsX5_command wsX5_in := goodIn_r _ [5] (by decide +kernel) (by decide +kernel)
set_option maxRecDepth 20000 in
theorem gX5_command_X5_in : GoodIn wsX5_command (va_wsS RX5 40 yX5_in wsX5_in) := goodIn_app (goodIn_of _ (by decide +kernel)) ggX5_command_X5_in
set_option maxRecDepth 20000 in
theorem ggX5_command_X5_canShoot : GoodIn wsX5_command wsX5_canShoot := goodIn_r _ [8, 9, 10, 4, 11] (by decide +kernel) (by decide +kernel)
set_option maxRecDepth 20000 in
theorem gX5_command_X5_canShoot : GoodIn wsX5_command (va_wsS RX5 133 yX5_canShoot wsX5_canShoot) := goodIn_app (goodIn_of _ (by decide +kernel)) ggX5_command_X5_canShoot
set_option maxRecDepth 20000 in
theorem ggX5_command_X5_shootOn : GoodIn wsX5_command wsX5_shootOn := goodIn_r _ [14, 9, 10, 4, 11, 15, 16, 17] (by decide +kernel) (by decide +kernel)
set_option maxRecDepth 20000 in
theorem gX5_command_X5_shootOn : GoodIn wsX5_command (va_wsS RX5 137 yX5_shootOn wsX5_shootOn) := goodIn_app (goodIn_of _ (by decide +kernel)) ggX5_command_X5_shootOn
set_option maxRecDepth 20000 in
theorem ggX5_command_X5_newSoundOn : GoodIn wsX5_command wsX5_newSoundOn := goodIn_r _ [20] (by decide +kernel) (by decide +kernel)
set_option maxRecDepth 20000 in
theorem gX5_command_X5_newSoundOn : GoodIn wsX5_command (va_wsS RX5 144 yX5_newSoundOn wsX5_newSoundOn) := goodIn_app (goodIn_of _ (by decide +kernel)) ggX5_command_X5_newSoundOn
set_option maxRecDepth 20000 in
theorem ggX5_command_X5_newCameraOn : GoodIn wsX5_command wsX5_newCameraOn := goodIn_r _ [23] (by decide +kernel) (by decide +kernel)
set_option maxRecDepth 20000 in
theorem gX5_command_X5_newCameraOn : GoodIn wsX5_command (va_wsS RX5 141 yX5_newCameraOn wsX5_newCameraOn) := goodIn_app (goodIn_of _ (by decide +kernel)) ggX5_command_X5_newCameraOn
set_option maxRecDepth 20000 in
theorem ggX5_command_X5_isTake : GoodIn wsX5_command wsX5_isTake := goodIn_r _ [26, 2, 3, 4, 5] (by decide +kernel) (by decide +kernel)
set_option maxRecDepth 20000 in
theorem gX5_command_X5_isTake : GoodIn wsX5_command (va_wsS RX5 147 yX5_isTake wsX5_isTake) := goodIn_app (goodIn_of _ (by decide +kernel)) ggX5_command_X5_isTake
set_option maxRecDepth 20000 in
theorem ggX5_command_X5_markOn : GoodIn wsX5_command wsX5_markOn := goodIn_r _ [29, 15, 16, 4, 17, 30, 31, 32, 33, 34, 35, 36, 37, 38, 39, 40, 41, 42, 43, 44, 45, 46, 47] (by decide +kernel) (by decide +kernel)
set_option maxRecDepth 20000 in
theorem gX5_command_X5_markOn : GoodIn wsX5_command (va_wsS RX5 150 yX5_markOn wsX5_markOn) := goodIn_app (goodIn_of _ (by decide +kernel)) ggX5_command_X5_markOn
set_option maxRecDepth 20000 in
theorem ggX5_command_X5_isSetup : GoodIn wsX5_command wsX5_isSetup := goodIn_r _ [50, 51, 52, 2, 3, 4, 5] (by decide +kernel) (by decide +kernel)
set_option maxRecDepth 20000 in
theorem gX5_command_X5_isSetup : GoodIn wsX5_command (va_wsS RX5 189 yX5_isSetup wsX5_isSetup) := goodIn_app (goodIn_of _ (by decide +kernel)) ggX5_command_X5_isSetup
set_option maxRecDepth 20000 in
theorem ggX5_command_X5_callOn : GoodIn wsX5_command wsX5_callOn := goodIn_r _ [55, 56, 57, 4, 58, 45, 46, 47, 33, 34, 35] (by decide +kernel) (by decide +kernel)
set_option maxRecDepth 20000 in
theorem gX5_command_X5_callOn : GoodIn wsX5_command (va_wsS RX5 123 yX5_callOn wsX5_callOn) := goodIn_app (goodIn_of _ (by decide +kernel)) ggX5_command_X5_callOn
set_option maxRecDepth 20000 in
theorem ggX5_command_X5_rightOn : GoodIn wsX5_command wsX5_rightOn := goodIn_r _ [61, 56, 57, 4, 58, 45, 46, 47, 33, 34, 35, 62, 63, 64] (by decide +kernel) (by decide +kernel)
set_option maxRecDepth 20000 in
theorem gX5_command_X5_rightOn : GoodIn wsX5_command (va_wsS RX5 130 yX5_rightOn wsX5_rightOn) := goodIn_app (goodIn_of _ (by decide +kernel)) ggX5_command_X5_rightOn
set_option maxRecDepth 20000 in
theorem ggX5_command_X5_isRight : GoodIn wsX5_command wsX5_isRight := goodIn_r _ [41, 33, 34, 4, 35, 42, 43, 44, 45, 46, 47] (by decide +kernel) (by decide +kernel)
set_option maxRecDepth 20000 in
theorem gX5_command_X5_isRight : GoodIn wsX5_command (va_wsS RX5 60 yX5_isRight wsX5_isRight) := goodIn_app (goodIn_of _ (by decide +kernel)) ggX5_command_X5_isRight
set_option maxRecDepth 20000 in
theorem ggX5_command_X5_wrong : GoodIn wsX5_command wsX5_wrong := goodIn_r _ [38, 39, 40, 4, 41, 33, 34, 35, 42, 43, 44, 45, 46, 47] (by decide +kernel) (by decide +kernel)
set_option maxRecDepth 20000 in
theorem gX5_command_X5_wrong : GoodIn wsX5_command (va_wsS RX5 81 yX5_wrong wsX5_wrong) := goodIn_app (goodIn_of _ (by decide +kernel)) ggX5_command_X5_wrong
set_option maxRecDepth 20000 in
theorem ggX5_command_X5_syncedBy : GoodIn wsX5_command wsX5_syncedBy := goodIn_r _ [67, 33, 34, 4, 35, 68, 69, 70] (by decide +kernel) (by decide +kernel)
set_option maxRecDepth 20000 in
theorem gX5_command_X5_syncedBy : GoodIn wsX5_command (va_wsS RX5 95 yX5_syncedBy wsX5_syncedBy) := goodIn_app (goodIn_of _ (by decide +kernel)) ggX5_command_X5_syncedBy
set_option maxRecDepth 20000 in
theorem ggX5_command_X5_left : GoodIn wsX5_command wsX5_left := goodIn_r _ [11] (by decide +kernel) (by decide +kernel)
set_option maxRecDepth 20000 in
theorem gX5_command_X5_left : GoodIn wsX5_command (va_wsS RX5 64 yX5_left wsX5_left) := goodIn_app (goodIn_of _ (by decide +kernel)) ggX5_command_X5_left
theorem dX5_command_0 : decode cX5_command 0 = .ok (.iload_n 2, 1) := by decide +kernel
theorem dX5_command_1 : decode cX5_command 1 = .ok (.bipush 100, 2) := by decide +kernel
theorem dX5_command_3 : decode cX5_command 3 = .ok (.idiv, 1) := by decide +kernel
theorem dX5_command_4 : decode cX5_command 4 = .ok (.istore_n 3, 1) := by decide +kernel
theorem dX5_command_5 : decode cX5_command 5 = .ok (.iload_n 2, 1) := by decide +kernel
theorem dX5_command_6 : decode cX5_command 6 = .ok (.bipush 100, 2) := by decide +kernel
theorem dX5_command_8 : decode cX5_command 8 = .ok (.irem, 1) := by decide +kernel
theorem dX5_command_9 : decode cX5_command 9 = .ok (.istore 4, 2) := by decide +kernel
theorem dX5_command_11 : decode cX5_command 11 = .ok (.iload 4, 2) := by decide +kernel
theorem dX5_command_13 : decode cX5_command 13 = .ok (.iconst 2, 1) := by decide +kernel
theorem dX5_command_14 : decode cX5_command 14 = .ok (.if_icmp .ge 7, 3) := by decide +kernel
theorem dX5_command_17 : decode cX5_command 17 = .ok (.iconst 1, 1) := by decide +kernel
theorem dX5_command_18 : decode cX5_command 18 = .ok (.goto 4, 3) := by decide +kernel
theorem dX5_command_21 : decode cX5_command 21 = .ok (.iconst 0, 1) := by decide +kernel
theorem dX5_command_22 : decode cX5_command 22 = .ok (.istore 5, 2) := by decide +kernel
theorem dX5_command_24 : decode cX5_command 24 = .ok (.iload_n 1, 1) := by decide +kernel
theorem dX5_command_25 : decode cX5_command 25 = .ok (.tableswitch 340 1 9 #[51, 111, 146, 186, 211, 228, 266, 285, 319], 51) := by decide +kernel
theorem dX5_command_76 : decode cX5_command 76 = .ok (.iload_n 2, 1) := by decide +kernel
theorem dX5_command_77 : decode cX5_command 77 = .ok (.sipush 2000, 3) := by decide +kernel
theorem dX5_command_80 : decode cX5_command 80 = .ok (.if_icmp .ge 54, 3) := by decide +kernel
theorem dX5_command_83 : decode cX5_command 83 = .ok (.iload_n 2, 1) := by decide +kernel
theorem dX5_command_84 : decode cX5_command 84 = .ok (.sipush 1000, 3) := by decide +kernel
theorem dX5_command_87 : decode cX5_command 87 = .ok (.irem, 1) := by decide +kernel
theorem dX5_command_88 : decode cX5_command 88 = .ok (.i2l, 1) := by decide +kernel
theorem dX5_command_89 : decode cX5_command 89 = .ok (.lconst 1, 1) := by decide +kernel
theorem dX5_command_90 : decode cX5_command 90 = .ok (.ldc2_w 196, 3) := by decide +kernel
theorem dX5_command_93 : decode cX5_command 93 = .ok (.invokestatic 40, 3) := by decide +kernel
theorem dX5_command_96 : decode cX5_command 96 = .ok (.ifCond .eq 38, 3) := by decide +kernel
theorem dX5_command_99 : decode cX5_command 99 = .ok (.aload_n 0, 1) := by decide +kernel
theorem dX5_command_100 : decode cX5_command 100 = .ok (.invokestatic 133, 3) := by decide +kernel
theorem dX5_command_103 : decode cX5_command 103 = .ok (.ifCond .eq 31, 3) := by decide +kernel
theorem dX5_command_106 : decode cX5_command 106 = .ok (.aload_n 0, 1) := by decide +kernel
theorem dX5_command_107 : decode cX5_command 107 = .ok (.iload_n 2, 1) := by decide +kernel
theorem dX5_command_108 : decode cX5_command 108 = .ok (.sipush 1000, 3) := by decide +kernel
theorem dX5_command_111 : decode cX5_command 111 = .ok (.irem, 1) := by decide +kernel
theorem dX5_command_112 : decode cX5_command 112 = .ok (.iload_n 2, 1) := by decide +kernel
theorem dX5_command_113 : decode cX5_command 113 = .ok (.sipush 1000, 3) := by decide +kernel
theorem dX5_command_116 : decode cX5_command 116 = .ok (.if_icmp .lt 7, 3) := by decide +kernel
theorem dX5_command_119 : decode cX5_command 119 = .ok (.iconst 1, 1) := by decide +kernel
theorem dX5_command_120 : decode cX5_command 120 = .ok (.goto 4, 3) := by decide +kernel
theorem dX5_command_123 : decode cX5_command 123 = .ok (.iconst 0, 1) := by decide +kernel
theorem dX5_command_124 : decode cX5_command 124 = .ok (.invokestatic 137, 3) := by decide +kernel
theorem dX5_command_127 : decode cX5_command 127 = .ok (.ifCond .le 7, 3) := by decide +kernel
theorem dX5_command_130 : decode cX5_command 130 = .ok (.iconst 1, 1) := by decide +kernel
theorem dX5_command_131 : decode cX5_command 131 = .ok (.goto 4, 3) := by decide +kernel
theorem dX5_command_134 : decode cX5_command 134 = .ok (.iconst 0, 1) := by decide +kernel
theorem dX5_command_135 : decode cX5_command 135 = .ok (.ireturn, 1) := by decide +kernel
theorem dX5_command_136 : decode cX5_command 136 = .ok (.iload_n 3, 1) := by decide +kernel
theorem dX5_command_137 : decode cX5_command 137 = .ok (.ifCond .ne 32, 3) := by decide +kernel
theorem dX5_command_140 : decode cX5_command 140 = .ok (.iload 5, 2) := by decide +kernel
theorem dX5_command_142 : decode cX5_command 142 = .ok (.ifCond .eq 27, 3) := by decide +kernel
theorem dX5_command_145 : decode cX5_command 145 = .ok (.iload 4, 2) := by decide +kernel
theorem dX5_command_147 : decode cX5_command 147 = .ok (.iconst 1, 1) := by decide +kernel
theorem dX5_command_148 : decode cX5_command 148 = .ok (.if_icmp .ne 10, 3) := by decide +kernel
theorem dX5_command_151 : decode cX5_command 151 = .ok (.aload_n 0, 1) := by decide +kernel
theorem dX5_command_152 : decode cX5_command 152 = .ok (.invokestatic 144, 3) := by decide +kernel
theorem dX5_command_155 : decode cX5_command 155 = .ok (.goto 7, 3) := by decide +kernel
theorem dX5_command_158 : decode cX5_command 158 = .ok (.aload_n 0, 1) := by decide +kernel
theorem dX5_command_159 : decode cX5_command 159 = .ok (.invokestatic 141, 3) := by decide +kernel
theorem dX5_command_162 : decode cX5_command 162 = .ok (.ifCond .le 7, 3) := by decide +kernel
theorem dX5_command_165 : decode cX5_command 165 = .ok (.iconst 1, 1) := by decide +kernel
theorem dX5_command_166 : decode cX5_command 166 = .ok (.goto 4, 3) := by decide +kernel
theorem dX5_command_169 : decode cX5_command 169 = .ok (.iconst 0, 1) := by decide +kernel
theorem dX5_command_170 : decode cX5_command 170 = .ok (.ireturn, 1) := by decide +kernel
theorem dX5_command_171 : decode cX5_command 171 = .ok (.iload 5, 2) := by decide +kernel
theorem dX5_command_173 : decode cX5_command 173 = .ok (.ifCond .eq 36, 3) := by decide +kernel
theorem dX5_command_176 : decode cX5_command 176 = .ok (.aload_n 0, 1) := by decide +kernel
theorem dX5_command_177 : decode cX5_command 177 = .ok (.iload_n 3, 1) := by decide +kernel
theorem dX5_command_178 : decode cX5_command 178 = .ok (.invokestatic 147, 3) := by decide +kernel
theorem dX5_command_181 : decode cX5_command 181 = .ok (.ifCond .eq 28, 3) := by decide +kernel
theorem dX5_command_184 : decode cX5_command 184 = .ok (.aload_n 0, 1) := by decide +kernel
theorem dX5_command_185 : decode cX5_command 185 = .ok (.iload_n 3, 1) := by decide +kernel
theorem dX5_command_186 : decode cX5_command 186 = .ok (.bipush 14, 2) := by decide +kernel
theorem dX5_command_188 : decode cX5_command 188 = .ok (.iload 4, 2) := by decide +kernel
theorem dX5_command_190 : decode cX5_command 190 = .ok (.iconst 1, 1) := by decide +kernel
theorem dX5_command_191 : decode cX5_command 191 = .ok (.if_icmp .ne 7, 3) := by decide +kernel
theorem dX5_command_194 : decode cX5_command 194 = .ok (.iconst 1, 1) := by decide +kernel
theorem dX5_command_195 : decode cX5_command 195 = .ok (.goto 4, 3) := by decide +kernel
theorem dX5_command_198 : decode cX5_command 198 = .ok (.iconst 0, 1) := by decide +kernel
theorem dX5_command_199 : decode cX5_command 199 = .ok (.invokestatic 150, 3) := by decide +kernel
theorem dX5_command_202 : decode cX5_command 202 = .ok (.ifCond .lt 7, 3) := by decide +kernel
theorem dX5_command_205 : decode cX5_command 205 = .ok (.iconst 1, 1) := by decide +kernel
theorem dX5_command_206 : decode cX5_command 206 = .ok (.goto 4, 3) := by decide +kernel
theorem dX5_command_209 : decode cX5_command 209 = .ok (.iconst 0, 1) := by decide +kernel
theorem dX5_command_210 : decode cX5_command 210 = .ok (.ireturn, 1) := by decide +kernel
theorem dX5_command_211 : decode cX5_command 211 = .ok (.iload_n 3, 1) := by decide +kernel
theorem dX5_command_212 : decode cX5_command 212 = .ok (.iload 4, 2) := by decide +kernel
theorem dX5_command_214 : decode cX5_command 214 = .ok (.invokestatic 189, 3) := by decide +kernel
theorem dX5_command_217 : decode cX5_command 217 = .ok (.ifCond .eq 17, 3) := by decide +kernel
theorem dX5_command_220 : decode cX5_command 220 = .ok (.aload_n 0, 1) := by decide +kernel
theorem dX5_command_221 : decode cX5_command 221 = .ok (.iload_n 3, 1) := by decide +kernel
theorem dX5_command_222 : decode cX5_command 222 = .ok (.iload 4, 2) := by decide +kernel
theorem dX5_command_224 : decode cX5_command 224 = .ok (.invokestatic 123, 3) := by decide +kernel
theorem dX5_command_227 : decode cX5_command 227 = .ok (.ifCond .le 7, 3) := by decide +kernel
theorem dX5_command_230 : decode cX5_command 230 = .ok (.iconst 1, 1) := by decide +kernel
theorem dX5_command_231 : decode cX5_command 231 = .ok (.goto 4, 3) := by decide +kernel
theorem dX5_command_234 : decode cX5_command 234 = .ok (.iconst 0, 1) := by decide +kernel
theorem dX5_command_235 : decode cX5_command 235 = .ok (.ireturn, 1) := by decide +kernel
theorem dX5_command_236 : decode cX5_command 236 = .ok (.iload_n 2, 1) := by decide +kernel
theorem dX5_command_237 : decode cX5_command 237 = .ok (.ifCond .ne 14, 3) := by decide +kernel
theorem dX5_command_240 : decode cX5_command 240 = .ok (.aload_n 0, 1) := by decide +kernel
theorem dX5_command_241 : decode cX5_command 241 = .ok (.invokestatic 130, 3) := by decide +kernel
theorem dX5_command_244 : decode cX5_command 244 = .ok (.ifCond .le 7, 3) := by decide +kernel
theorem dX5_command_247 : decode cX5_command 247 = .ok (.iconst 1, 1) := by decide +kernel
theorem dX5_command_248 : decode cX5_command 248 = .ok (.goto 4, 3) := by decide +kernel
theorem dX5_command_251 : decode cX5_command 251 = .ok (.iconst 0, 1) := by decide +kernel
theorem dX5_command_252 : decode cX5_command 252 = .ok (.ireturn, 1) := by decide +kernel
theorem dX5_command_253 : decode cX5_command 253 = .ok (.iload 5, 2) := by decide +kernel
theorem dX5_command_255 : decode cX5_command 255 = .ok (.ifCond .eq 34, 3) := by decide +kernel
theorem dX5_command_258 : decode cX5_command 258 = .ok (.aload_n 0, 1) := by decide +kernel
theorem dX5_command_259 : decode cX5_command 259 = .ok (.iload_n 3, 1) := by decide +kernel
theorem dX5_command_260 : decode cX5_command 260 = .ok (.invokestatic 147, 3) := by decide +kernel
theorem dX5_command_263 : decode cX5_command 263 = .ok (.ifCond .eq 26, 3) := by decide +kernel
theorem dX5_command_266 : decode cX5_command 266 = .ok (.aload_n 0, 1) := by decide +kernel
theorem dX5_command_267 : decode cX5_command 267 = .ok (.iload_n 3, 1) := by decide +kernel
theorem dX5_command_268 : decode cX5_command 268 = .ok (.invokestatic 60, 3) := by decide +kernel
theorem dX5_command_271 : decode cX5_command 271 = .ok (.iload 4, 2) := by decide +kernel
theorem dX5_command_273 : decode cX5_command 273 = .ok (.iconst 1, 1) := by decide +kernel
theorem dX5_command_274 : decode cX5_command 274 = .ok (.if_icmp .ne 7, 3) := by decide +kernel
theorem dX5_command_277 : decode cX5_command 277 = .ok (.iconst 1, 1) := by decide +kernel
theorem dX5_command_278 : decode cX5_command 278 = .ok (.goto 4, 3) := by decide +kernel
theorem dX5_command_281 : decode cX5_command 281 = .ok (.iconst 0, 1) := by decide +kernel
theorem dX5_command_282 : decode cX5_command 282 = .ok (.if_icmp .ne 7, 3) := by decide +kernel
theorem dX5_command_285 : decode cX5_command 285 = .ok (.iconst 1, 1) := by decide +kernel
theorem dX5_command_286 : decode cX5_command 286 = .ok (.goto 4, 3) := by decide +kernel
theorem dX5_command_289 : decode cX5_command 289 = .ok (.iconst 0, 1) := by decide +kernel
theorem dX5_command_290 : decode cX5_command 290 = .ok (.ireturn, 1) := by decide +kernel
theorem dX5_command_291 : decode cX5_command 291 = .ok (.iload_n 3, 1) := by decide +kernel
theorem dX5_command_292 : decode cX5_command 292 = .ok (.ifCond .ne 16, 3) := by decide +kernel
theorem dX5_command_295 : decode cX5_command 295 = .ok (.aload_n 0, 1) := by decide +kernel
theorem dX5_command_296 : decode cX5_command 296 = .ok (.invokestatic 81, 3) := by decide +kernel
theorem dX5_command_299 : decode cX5_command 299 = .ok (.iload 4, 2) := by decide +kernel
theorem dX5_command_301 : decode cX5_command 301 = .ok (.if_icmp .gt 7, 3) := by decide +kernel
theorem dX5_command_304 : decode cX5_command 304 = .ok (.iconst 1, 1) := by decide +kernel
theorem dX5_command_305 : decode cX5_command 305 = .ok (.goto 4, 3) := by decide +kernel
theorem dX5_command_308 : decode cX5_command 308 = .ok (.iconst 0, 1) := by decide +kernel
theorem dX5_command_309 : decode cX5_command 309 = .ok (.ireturn, 1) := by decide +kernel
theorem dX5_command_310 : decode cX5_command 310 = .ok (.aload_n 0, 1) := by decide +kernel
theorem dX5_command_311 : decode cX5_command 311 = .ok (.iload_n 3, 1) := by decide +kernel
theorem dX5_command_312 : decode cX5_command 312 = .ok (.invokestatic 147, 3) := by decide +kernel
theorem dX5_command_315 : decode cX5_command 315 = .ok (.ifCond .eq 27, 3) := by decide +kernel
theorem dX5_command_318 : decode cX5_command 318 = .ok (.aload_n 0, 1) := by decide +kernel
theorem dX5_command_319 : decode cX5_command 319 = .ok (.iload 4, 2) := by decide +kernel
theorem dX5_command_321 : decode cX5_command 321 = .ok (.invokestatic 147, 3) := by decide +kernel
theorem dX5_command_324 : decode cX5_command 324 = .ok (.ifCond .eq 18, 3) := by decide +kernel
theorem dX5_command_327 : decode cX5_command 327 = .ok (.aload_n 0, 1) := by decide +kernel
theorem dX5_command_328 : decode cX5_command 328 = .ok (.iload_n 3, 1) := by decide +kernel
theorem dX5_command_329 : decode cX5_command 329 = .ok (.iconst 0, 1) := by decide +kernel
theorem dX5_command_330 : decode cX5_command 330 = .ok (.invokestatic 95, 3) := by decide +kernel
theorem dX5_command_333 : decode cX5_command 333 = .ok (.iload 4, 2) := by decide +kernel
theorem dX5_command_335 : decode cX5_command 335 = .ok (.if_icmp .ne 7, 3) := by decide +kernel
theorem dX5_command_338 : decode cX5_command 338 = .ok (.iconst 1, 1) := by decide +kernel
theorem dX5_command_339 : decode cX5_command 339 = .ok (.goto 4, 3) := by decide +kernel
theorem dX5_command_342 : decode cX5_command 342 = .ok (.iconst 0, 1) := by decide +kernel
theorem dX5_command_343 : decode cX5_command 343 = .ok (.ireturn, 1) := by decide +kernel
theorem dX5_command_344 : decode cX5_command 344 = .ok (.iload_n 2, 1) := by decide +kernel
theorem dX5_command_345 : decode cX5_command 345 = .ok (.sipush 1000, 3) := by decide +kernel
theorem dX5_command_348 : decode cX5_command 348 = .ok (.if_icmp .ge 15, 3) := by decide +kernel
theorem dX5_command_351 : decode cX5_command 351 = .ok (.aload_n 0, 1) := by decide +kernel
theorem dX5_command_352 : decode cX5_command 352 = .ok (.invokestatic 64, 3) := by decide +kernel
theorem dX5_command_355 : decode cX5_command 355 = .ok (.iload_n 2, 1) := by decide +kernel
theorem dX5_command_356 : decode cX5_command 356 = .ok (.if_icmp .lt 7, 3) := by decide +kernel
theorem dX5_command_359 : decode cX5_command 359 = .ok (.iconst 1, 1) := by decide +kernel
theorem dX5_command_360 : decode cX5_command 360 = .ok (.goto 4, 3) := by decide +kernel
theorem dX5_command_363 : decode cX5_command 363 = .ok (.iconst 0, 1) := by decide +kernel
theorem dX5_command_364 : decode cX5_command 364 = .ok (.ireturn, 1) := by decide +kernel
theorem dX5_command_365 : decode cX5_command 365 = .ok (.iconst 0, 1) := by decide +kernel
theorem dX5_command_366 : decode cX5_command 366 = .ok (.ireturn, 1) := by decide +kernel
set_option maxRecDepth 20000 in
theorem ggX5_runScript_X5_in : GoodIn wsX5_runScript wsX5_in := goodIn_r _ [8] (by decide +kernel) (by decide +kernel)
set_option maxRecDepth 20000 in
theorem gX5_runScript_X5_in : GoodIn wsX5_runScript (va_wsS RX5 40 yX5_in wsX5_in) := goodIn_app (goodIn_of _ (by decide +kernel)) ggX5_runScript_X5_in
set_option maxRecDepth 20000 in
theorem ggX5_runScript_X5_refused : GoodIn wsX5_runScript wsX5_refused := goodIn_r _ [12, 13, 86, 87, 88, 89, 90, 91, 92, 93, 94, 95, 96, 97, 98] (by decide +kernel) (by decide +kernel)
set_option maxRecDepth 20000 in
theorem gX5_runScript_X5_refused : GoodIn wsX5_runScript (wsV RX5 103 RX5 yX5_refused wsX5_refused) := goodIn_app (goodIn_of _ (by decide +kernel)) ggX5_runScript_X5_refused
set_option maxRecDepth 20000 in
theorem ggX5_runScript_X5_copyState : GoodIn wsX5_runScript wsX5_copyState := goodIn_r _ [16] (by decide +kernel) (by decide +kernel)
set_option maxRecDepth 20000 in
theorem gX5_runScript_X5_copyState : GoodIn wsX5_runScript (va_wsS RX5 160 yX5_copyState wsX5_copyState) := goodIn_app (goodIn_of _ (by decide +kernel)) ggX5_runScript_X5_copyState
set_option maxRecDepth 20000 in
theorem ggX5_runScript_X5_command : GoodIn wsX5_runScript wsX5_command := goodIn_r _ [19, 20, 5, 6, 7, 8, 21, 22, 23, 24, 25, 26, 27, 28, 29, 30, 31, 32, 33, 34, 35, 36, 37, 38, 39, 40, 41, 42, 43, 44, 45, 46, 47, 48, 49, 50, 51, 52, 53, 54, 55, 56, 57, 58, 59, 60, 61, 62, 63, 64, 65, 66, 67, 68, 69, 70, 71, 72, 73, 74, 75, 76, 77, 78, 79, 80, 81, 82, 83, 84, 85] (by decide +kernel) (by decide +kernel)
set_option maxRecDepth 20000 in
theorem gX5_runScript_X5_command : GoodIn wsX5_runScript (va_wsS RX5 217 yX5_command wsX5_command) := goodIn_app (goodIn_of _ (by decide +kernel)) ggX5_runScript_X5_command
theorem dX5_runScript_0 : decode cX5_runScript 0 = .ok (.lconst 1, 1) := by decide +kernel
theorem dX5_runScript_1 : decode cX5_runScript 1 = .ok (.lstore 4, 2) := by decide +kernel
theorem dX5_runScript_3 : decode cX5_runScript 3 = .ok (.iconst 0, 1) := by decide +kernel
theorem dX5_runScript_4 : decode cX5_runScript 4 = .ok (.istore 6, 2) := by decide +kernel
theorem dX5_runScript_6 : decode cX5_runScript 6 = .ok (.iload 6, 2) := by decide +kernel
theorem dX5_runScript_8 : decode cX5_runScript 8 = .ok (.iload_n 1, 1) := by decide +kernel
theorem dX5_runScript_9 : decode cX5_runScript 9 = .ok (.if_icmp .ge 23, 3) := by decide +kernel
theorem dX5_runScript_12 : decode cX5_runScript 12 = .ok (.iload 6, 2) := by decide +kernel
theorem dX5_runScript_14 : decode cX5_runScript 14 = .ok (.iconst 3, 1) := by decide +kernel
theorem dX5_runScript_15 : decode cX5_runScript 15 = .ok (.if_icmp .ge 17, 3) := by decide +kernel
theorem dX5_runScript_18 : decode cX5_runScript 18 = .ok (.lload 4, 2) := by decide +kernel
theorem dX5_runScript_20 : decode cX5_runScript 20 = .ok (.ldc2_w 215, 3) := by decide +kernel
theorem dX5_runScript_23 : decode cX5_runScript 23 = .ok (.lmul, 1) := by decide +kernel
theorem dX5_runScript_24 : decode cX5_runScript 24 = .ok (.lstore 4, 2) := by decide +kernel
theorem dX5_runScript_26 : decode cX5_runScript 26 = .ok (.iinc 6 1, 3) := by decide +kernel
theorem dX5_runScript_29 : decode cX5_runScript 29 = .ok (.goto (-23), 3) := by decide +kernel
theorem dX5_runScript_32 : decode cX5_runScript 32 = .ok (.aload_n 0, 1) := by decide +kernel
theorem dX5_runScript_33 : decode cX5_runScript 33 = .ok (.iload_n 1, 1) := by decide +kernel
theorem dX5_runScript_34 : decode cX5_runScript 34 = .ok (.i2l, 1) := by decide +kernel
theorem dX5_runScript_35 : decode cX5_runScript 35 = .ok (.lconst 1, 1) := by decide +kernel
theorem dX5_runScript_36 : decode cX5_runScript 36 = .ok (.ldc2_w 84, 3) := by decide +kernel
theorem dX5_runScript_39 : decode cX5_runScript 39 = .ok (.invokestatic 40, 3) := by decide +kernel
theorem dX5_runScript_42 : decode cX5_runScript 42 = .ok (.ifCond .eq 19, 3) := by decide +kernel
theorem dX5_runScript_45 : decode cX5_runScript 45 = .ok (.lload_n 2, 1) := by decide +kernel
theorem dX5_runScript_46 : decode cX5_runScript 46 = .ok (.lconst 0, 1) := by decide +kernel
theorem dX5_runScript_47 : decode cX5_runScript 47 = .ok (.lload 4, 2) := by decide +kernel
theorem dX5_runScript_49 : decode cX5_runScript 49 = .ok (.lconst 1, 1) := by decide +kernel
theorem dX5_runScript_50 : decode cX5_runScript 50 = .ok (.lsub, 1) := by decide +kernel
theorem dX5_runScript_51 : decode cX5_runScript 51 = .ok (.invokestatic 40, 3) := by decide +kernel
theorem dX5_runScript_54 : decode cX5_runScript 54 = .ok (.ifCond .eq 7, 3) := by decide +kernel
theorem dX5_runScript_57 : decode cX5_runScript 57 = .ok (.iconst 0, 1) := by decide +kernel
theorem dX5_runScript_58 : decode cX5_runScript 58 = .ok (.goto 4, 3) := by decide +kernel
theorem dX5_runScript_61 : decode cX5_runScript 61 = .ok (.iconst 1, 1) := by decide +kernel
theorem dX5_runScript_62 : decode cX5_runScript 62 = .ok (.invokevirtual 103, 3) := by decide +kernel
theorem dX5_runScript_65 : decode cX5_runScript 65 = .ok (.ifCond .eq 5, 3) := by decide +kernel
theorem dX5_runScript_68 : decode cX5_runScript 68 = .ok (.iconst 0, 1) := by decide +kernel
theorem dX5_runScript_69 : decode cX5_runScript 69 = .ok (.ireturn, 1) := by decide +kernel
theorem dX5_runScript_70 : decode cX5_runScript 70 = .ok (.aload_n 0, 1) := by decide +kernel
theorem dX5_runScript_71 : decode cX5_runScript 71 = .ok (.getfield 13, 3) := by decide +kernel
theorem dX5_runScript_74 : decode cX5_runScript 74 = .ok (.iconst 0, 1) := by decide +kernel
theorem dX5_runScript_75 : decode cX5_runScript 75 = .ok (.aload_n 0, 1) := by decide +kernel
theorem dX5_runScript_76 : decode cX5_runScript 76 = .ok (.getfield 16, 3) := by decide +kernel
theorem dX5_runScript_79 : decode cX5_runScript 79 = .ok (.iconst 0, 1) := by decide +kernel
theorem dX5_runScript_80 : decode cX5_runScript 80 = .ok (.invokestatic 160, 3) := by decide +kernel
theorem dX5_runScript_83 : decode cX5_runScript 83 = .ok (.iconst 0, 1) := by decide +kernel
theorem dX5_runScript_84 : decode cX5_runScript 84 = .ok (.istore 6, 2) := by decide +kernel
theorem dX5_runScript_86 : decode cX5_runScript 86 = .ok (.iload 6, 2) := by decide +kernel
theorem dX5_runScript_88 : decode cX5_runScript 88 = .ok (.iload_n 1, 1) := by decide +kernel
theorem dX5_runScript_89 : decode cX5_runScript 89 = .ok (.if_icmp .ge 53, 3) := by decide +kernel
theorem dX5_runScript_92 : decode cX5_runScript 92 = .ok (.lload 4, 2) := by decide +kernel
theorem dX5_runScript_94 : decode cX5_runScript 94 = .ok (.ldc2_w 215, 3) := by decide +kernel
theorem dX5_runScript_97 : decode cX5_runScript 97 = .ok (.ldiv, 1) := by decide +kernel
theorem dX5_runScript_98 : decode cX5_runScript 98 = .ok (.lstore 4, 2) := by decide +kernel
theorem dX5_runScript_100 : decode cX5_runScript 100 = .ok (.lload_n 2, 1) := by decide +kernel
theorem dX5_runScript_101 : decode cX5_runScript 101 = .ok (.lload 4, 2) := by decide +kernel
theorem dX5_runScript_103 : decode cX5_runScript 103 = .ok (.ldiv, 1) := by decide +kernel
theorem dX5_runScript_104 : decode cX5_runScript 104 = .ok (.ldc2_w 215, 3) := by decide +kernel
theorem dX5_runScript_107 : decode cX5_runScript 107 = .ok (.lrem, 1) := by decide +kernel
theorem dX5_runScript_108 : decode cX5_runScript 108 = .ok (.l2i, 1) := by decide +kernel
theorem dX5_runScript_109 : decode cX5_runScript 109 = .ok (.istore 7, 2) := by decide +kernel
theorem dX5_runScript_111 : decode cX5_runScript 111 = .ok (.aload_n 0, 1) := by decide +kernel
theorem dX5_runScript_112 : decode cX5_runScript 112 = .ok (.getfield 16, 3) := by decide +kernel
theorem dX5_runScript_115 : decode cX5_runScript 115 = .ok (.iload 7, 2) := by decide +kernel
theorem dX5_runScript_117 : decode cX5_runScript 117 = .ok (.sipush 10000, 3) := by decide +kernel
theorem dX5_runScript_120 : decode cX5_runScript 120 = .ok (.idiv, 1) := by decide +kernel
theorem dX5_runScript_121 : decode cX5_runScript 121 = .ok (.iload 7, 2) := by decide +kernel
theorem dX5_runScript_123 : decode cX5_runScript 123 = .ok (.sipush 10000, 3) := by decide +kernel
theorem dX5_runScript_126 : decode cX5_runScript 126 = .ok (.irem, 1) := by decide +kernel
theorem dX5_runScript_127 : decode cX5_runScript 127 = .ok (.invokestatic 217, 3) := by decide +kernel
theorem dX5_runScript_130 : decode cX5_runScript 130 = .ok (.ifCond .ne 6, 3) := by decide +kernel
theorem dX5_runScript_133 : decode cX5_runScript 133 = .ok (.iload 6, 2) := by decide +kernel
theorem dX5_runScript_135 : decode cX5_runScript 135 = .ok (.ireturn, 1) := by decide +kernel
theorem dX5_runScript_136 : decode cX5_runScript 136 = .ok (.iinc 6 1, 3) := by decide +kernel
theorem dX5_runScript_139 : decode cX5_runScript 139 = .ok (.goto (-53), 3) := by decide +kernel
theorem dX5_runScript_142 : decode cX5_runScript 142 = .ok (.iconst (-1), 1) := by decide +kernel
theorem dX5_runScript_143 : decode cX5_runScript 143 = .ok (.ireturn, 1) := by decide +kernel
set_option maxRecDepth 20000 in
theorem ggX5_turn_X5_callOn : GoodIn wsX5_turn wsX5_callOn := goodIn_r _ [4, 5, 6, 3, 7, 8, 9, 10, 11, 12, 13] (by decide +kernel) (by decide +kernel)
set_option maxRecDepth 20000 in
theorem gX5_turn_X5_callOn : GoodIn wsX5_turn (va_wsS RX5 123 yX5_callOn wsX5_callOn) := goodIn_app (goodIn_of _ (by decide +kernel)) ggX5_turn_X5_callOn
set_option maxRecDepth 20000 in
theorem ggX5_turn_X5_rightOn : GoodIn wsX5_turn wsX5_rightOn := goodIn_r _ [16, 5, 6, 3, 7, 8, 9, 10, 11, 12, 13, 17, 18, 19] (by decide +kernel) (by decide +kernel)
set_option maxRecDepth 20000 in
theorem gX5_turn_X5_rightOn : GoodIn wsX5_turn (va_wsS RX5 130 yX5_rightOn wsX5_rightOn) := goodIn_app (goodIn_of _ (by decide +kernel)) ggX5_turn_X5_rightOn
set_option maxRecDepth 20000 in
theorem ggX5_turn_X5_boardOn : GoodIn wsX5_turn wsX5_boardOn := goodIn_r _ [19, 5, 6, 3, 7, 8, 9, 10, 11, 12, 13] (by decide +kernel) (by decide +kernel)
set_option maxRecDepth 20000 in
theorem gX5_turn_X5_boardOn : GoodIn wsX5_turn (va_wsS RX5 75 yX5_boardOn wsX5_boardOn) := goodIn_app (goodIn_of _ (by decide +kernel)) ggX5_turn_X5_boardOn
set_option maxRecDepth 20000 in
theorem ggX5_turn_X5_newCameraOn : GoodIn wsX5_turn wsX5_newCameraOn := goodIn_r _ [22] (by decide +kernel) (by decide +kernel)
set_option maxRecDepth 20000 in
theorem gX5_turn_X5_newCameraOn : GoodIn wsX5_turn (va_wsS RX5 141 yX5_newCameraOn wsX5_newCameraOn) := goodIn_app (goodIn_of _ (by decide +kernel)) ggX5_turn_X5_newCameraOn
set_option maxRecDepth 20000 in
theorem ggX5_turn_X5_newSoundOn : GoodIn wsX5_turn wsX5_newSoundOn := goodIn_r _ [25] (by decide +kernel) (by decide +kernel)
set_option maxRecDepth 20000 in
theorem gX5_turn_X5_newSoundOn : GoodIn wsX5_turn (va_wsS RX5 144 yX5_newSoundOn wsX5_newSoundOn) := goodIn_app (goodIn_of _ (by decide +kernel)) ggX5_turn_X5_newSoundOn
set_option maxRecDepth 20000 in
theorem ggX5_turn_X5_isTake : GoodIn wsX5_turn wsX5_isTake := goodIn_r _ [28, 29, 30, 3, 31] (by decide +kernel) (by decide +kernel)
set_option maxRecDepth 20000 in
theorem gX5_turn_X5_isTake : GoodIn wsX5_turn (va_wsS RX5 147 yX5_isTake wsX5_isTake) := goodIn_app (goodIn_of _ (by decide +kernel)) ggX5_turn_X5_isTake
set_option maxRecDepth 20000 in
theorem ggX5_turn_X5_markOn : GoodIn wsX5_turn wsX5_markOn := goodIn_r _ [34, 35, 36, 3, 37, 38, 39, 40, 11, 12, 13, 41, 42, 43, 44, 45, 46, 47, 48, 49, 8, 9, 10] (by decide +kernel) (by decide +kernel)
set_option maxRecDepth 20000 in
theorem gX5_turn_X5_markOn : GoodIn wsX5_turn (va_wsS RX5 150 yX5_markOn wsX5_markOn) := goodIn_app (goodIn_of _ (by decide +kernel)) ggX5_turn_X5_markOn
set_option maxRecDepth 20000 in
theorem ggX5_turn_X5_fixOn : GoodIn wsX5_turn wsX5_fixOn := goodIn_r _ [52, 44, 45, 3, 46, 11, 12, 13, 47, 48, 49, 8, 9, 10, 35, 36, 37] (by decide +kernel) (by decide +kernel)
set_option maxRecDepth 20000 in
theorem gX5_turn_X5_fixOn : GoodIn wsX5_turn (va_wsS RX5 198 yX5_fixOn wsX5_fixOn) := goodIn_app (goodIn_of _ (by decide +kernel)) ggX5_turn_X5_fixOn
set_option maxRecDepth 20000 in
theorem ggX5_turn_X5_canShoot : GoodIn wsX5_turn wsX5_canShoot := goodIn_r _ [55, 56, 57, 3, 58] (by decide +kernel) (by decide +kernel)
set_option maxRecDepth 20000 in
theorem gX5_turn_X5_canShoot : GoodIn wsX5_turn (va_wsS RX5 133 yX5_canShoot wsX5_canShoot) := goodIn_app (goodIn_of _ (by decide +kernel)) ggX5_turn_X5_canShoot
set_option maxRecDepth 20000 in
theorem ggX5_turn_X5_shootOn : GoodIn wsX5_turn wsX5_shootOn := goodIn_r _ [61, 56, 57, 3, 58, 35, 36, 37] (by decide +kernel) (by decide +kernel)
set_option maxRecDepth 20000 in
theorem gX5_turn_X5_shootOn : GoodIn wsX5_turn (va_wsS RX5 137 yX5_shootOn wsX5_shootOn) := goodIn_app (goodIn_of _ (by decide +kernel)) ggX5_turn_X5_shootOn
theorem dX5_turn_0 : decode cX5_turn 0 = .ok (.iload_n 1, 1) := by decide +kernel
theorem dX5_turn_1 : decode cX5_turn 1 = .ok (.bipush 16, 2) := by decide +kernel
theorem dX5_turn_3 : decode cX5_turn 3 = .ok (.idiv, 1) := by decide +kernel
theorem dX5_turn_4 : decode cX5_turn 4 = .ok (.istore_n 2, 1) := by decide +kernel
theorem dX5_turn_5 : decode cX5_turn 5 = .ok (.iload_n 2, 1) := by decide +kernel
theorem dX5_turn_6 : decode cX5_turn 6 = .ok (.bipush 24, 2) := by decide +kernel
theorem dX5_turn_8 : decode cX5_turn 8 = .ok (.irem, 1) := by decide +kernel
theorem dX5_turn_9 : decode cX5_turn 9 = .ok (.istore_n 3, 1) := by decide +kernel
theorem dX5_turn_10 : decode cX5_turn 10 = .ok (.iload_n 1, 1) := by decide +kernel
theorem dX5_turn_11 : decode cX5_turn 11 = .ok (.bipush 16, 2) := by decide +kernel
theorem dX5_turn_13 : decode cX5_turn 13 = .ok (.irem, 1) := by decide +kernel
theorem dX5_turn_14 : decode cX5_turn 14 = .ok (.tableswitch 186 0 8 #[50, 69, 77, 105, 113, 121, 121, 154, 169], 50) := by decide +kernel
theorem dX5_turn_64 : decode cX5_turn 64 = .ok (.aload_n 0, 1) := by decide +kernel
theorem dX5_turn_65 : decode cX5_turn 65 = .ok (.iconst 1, 1) := by decide +kernel
theorem dX5_turn_66 : decode cX5_turn 66 = .ok (.iload_n 2, 1) := by decide +kernel
theorem dX5_turn_67 : decode cX5_turn 67 = .ok (.iconst 4, 1) := by decide +kernel
theorem dX5_turn_68 : decode cX5_turn 68 = .ok (.irem, 1) := by decide +kernel
theorem dX5_turn_69 : decode cX5_turn 69 = .ok (.iadd, 1) := by decide +kernel
theorem dX5_turn_70 : decode cX5_turn 70 = .ok (.iload_n 1, 1) := by decide +kernel
theorem dX5_turn_71 : decode cX5_turn 71 = .ok (.bipush 64, 2) := by decide +kernel
theorem dX5_turn_73 : decode cX5_turn 73 = .ok (.idiv, 1) := by decide +kernel
theorem dX5_turn_74 : decode cX5_turn 74 = .ok (.iconst 3, 1) := by decide +kernel
theorem dX5_turn_75 : decode cX5_turn 75 = .ok (.irem, 1) := by decide +kernel
theorem dX5_turn_76 : decode cX5_turn 76 = .ok (.invokestatic 123, 3) := by decide +kernel
theorem dX5_turn_79 : decode cX5_turn 79 = .ok (.pop, 1) := by decide +kernel
theorem dX5_turn_80 : decode cX5_turn 80 = .ok (.goto 152, 3) := by decide +kernel
theorem dX5_turn_83 : decode cX5_turn 83 = .ok (.aload_n 0, 1) := by decide +kernel
theorem dX5_turn_84 : decode cX5_turn 84 = .ok (.invokestatic 130, 3) := by decide +kernel
theorem dX5_turn_87 : decode cX5_turn 87 = .ok (.pop, 1) := by decide +kernel
theorem dX5_turn_88 : decode cX5_turn 88 = .ok (.goto 144, 3) := by decide +kernel
theorem dX5_turn_91 : decode cX5_turn 91 = .ok (.aload_n 0, 1) := by decide +kernel
theorem dX5_turn_92 : decode cX5_turn 92 = .ok (.iconst 1, 1) := by decide +kernel
theorem dX5_turn_93 : decode cX5_turn 93 = .ok (.iload_n 2, 1) := by decide +kernel
theorem dX5_turn_94 : decode cX5_turn 94 = .ok (.iconst 4, 1) := by decide +kernel
theorem dX5_turn_95 : decode cX5_turn 95 = .ok (.irem, 1) := by decide +kernel
theorem dX5_turn_96 : decode cX5_turn 96 = .ok (.iadd, 1) := by decide +kernel
theorem dX5_turn_97 : decode cX5_turn 97 = .ok (.iload_n 1, 1) := by decide +kernel
theorem dX5_turn_98 : decode cX5_turn 98 = .ok (.bipush 64, 2) := by decide +kernel
theorem dX5_turn_100 : decode cX5_turn 100 = .ok (.idiv, 1) := by decide +kernel
theorem dX5_turn_101 : decode cX5_turn 101 = .ok (.iconst 3, 1) := by decide +kernel
theorem dX5_turn_102 : decode cX5_turn 102 = .ok (.irem, 1) := by decide +kernel
theorem dX5_turn_103 : decode cX5_turn 103 = .ok (.iconst 1, 1) := by decide +kernel
theorem dX5_turn_104 : decode cX5_turn 104 = .ok (.iload_n 1, 1) := by decide +kernel
theorem dX5_turn_105 : decode cX5_turn 105 = .ok (.sipush 256, 3) := by decide +kernel
theorem dX5_turn_108 : decode cX5_turn 108 = .ok (.idiv, 1) := by decide +kernel
theorem dX5_turn_109 : decode cX5_turn 109 = .ok (.iconst 5, 1) := by decide +kernel
theorem dX5_turn_110 : decode cX5_turn 110 = .ok (.irem, 1) := by decide +kernel
theorem dX5_turn_111 : decode cX5_turn 111 = .ok (.iadd, 1) := by decide +kernel
theorem dX5_turn_112 : decode cX5_turn 112 = .ok (.invokestatic 75, 3) := by decide +kernel
theorem dX5_turn_115 : decode cX5_turn 115 = .ok (.pop, 1) := by decide +kernel
theorem dX5_turn_116 : decode cX5_turn 116 = .ok (.goto 116, 3) := by decide +kernel
theorem dX5_turn_119 : decode cX5_turn 119 = .ok (.aload_n 0, 1) := by decide +kernel
theorem dX5_turn_120 : decode cX5_turn 120 = .ok (.invokestatic 141, 3) := by decide +kernel
theorem dX5_turn_123 : decode cX5_turn 123 = .ok (.pop, 1) := by decide +kernel
theorem dX5_turn_124 : decode cX5_turn 124 = .ok (.goto 108, 3) := by decide +kernel
theorem dX5_turn_127 : decode cX5_turn 127 = .ok (.aload_n 0, 1) := by decide +kernel
theorem dX5_turn_128 : decode cX5_turn 128 = .ok (.invokestatic 144, 3) := by decide +kernel
theorem dX5_turn_131 : decode cX5_turn 131 = .ok (.pop, 1) := by decide +kernel
theorem dX5_turn_132 : decode cX5_turn 132 = .ok (.goto 100, 3) := by decide +kernel
theorem dX5_turn_135 : decode cX5_turn 135 = .ok (.aload_n 0, 1) := by decide +kernel
theorem dX5_turn_136 : decode cX5_turn 136 = .ok (.iload_n 3, 1) := by decide +kernel
theorem dX5_turn_137 : decode cX5_turn 137 = .ok (.invokestatic 147, 3) := by decide +kernel
theorem dX5_turn_140 : decode cX5_turn 140 = .ok (.ifCond .eq 92, 3) := by decide +kernel
theorem dX5_turn_143 : decode cX5_turn 143 = .ok (.aload_n 0, 1) := by decide +kernel
theorem dX5_turn_144 : decode cX5_turn 144 = .ok (.iload_n 3, 1) := by decide +kernel
theorem dX5_turn_145 : decode cX5_turn 145 = .ok (.iload_n 1, 1) := by decide +kernel
theorem dX5_turn_146 : decode cX5_turn 146 = .ok (.bipush 16, 2) := by decide +kernel
theorem dX5_turn_148 : decode cX5_turn 148 = .ok (.irem, 1) := by decide +kernel
theorem dX5_turn_149 : decode cX5_turn 149 = .ok (.iconst 5, 1) := by decide +kernel
theorem dX5_turn_150 : decode cX5_turn 150 = .ok (.if_icmp .ne 8, 3) := by decide +kernel
theorem dX5_turn_153 : decode cX5_turn 153 = .ok (.bipush 14, 2) := by decide +kernel
theorem dX5_turn_155 : decode cX5_turn 155 = .ok (.goto 5, 3) := by decide +kernel
theorem dX5_turn_158 : decode cX5_turn 158 = .ok (.bipush 13, 2) := by decide +kernel
theorem dX5_turn_160 : decode cX5_turn 160 = .ok (.iconst 1, 1) := by decide +kernel
theorem dX5_turn_161 : decode cX5_turn 161 = .ok (.invokestatic 150, 3) := by decide +kernel
theorem dX5_turn_164 : decode cX5_turn 164 = .ok (.pop, 1) := by decide +kernel
theorem dX5_turn_165 : decode cX5_turn 165 = .ok (.goto 67, 3) := by decide +kernel
theorem dX5_turn_168 : decode cX5_turn 168 = .ok (.aload_n 0, 1) := by decide +kernel
theorem dX5_turn_169 : decode cX5_turn 169 = .ok (.bipush 11, 2) := by decide +kernel
theorem dX5_turn_171 : decode cX5_turn 171 = .ok (.iload_n 2, 1) := by decide +kernel
theorem dX5_turn_172 : decode cX5_turn 172 = .ok (.sipush 199, 3) := by decide +kernel
theorem dX5_turn_175 : decode cX5_turn 175 = .ok (.irem, 1) := by decide +kernel
theorem dX5_turn_176 : decode cX5_turn 176 = .ok (.bipush 99, 2) := by decide +kernel
theorem dX5_turn_178 : decode cX5_turn 178 = .ok (.isub, 1) := by decide +kernel
theorem dX5_turn_179 : decode cX5_turn 179 = .ok (.iastore, 1) := by decide +kernel
theorem dX5_turn_180 : decode cX5_turn 180 = .ok (.goto 52, 3) := by decide +kernel
theorem dX5_turn_183 : decode cX5_turn 183 = .ok (.aload_n 0, 1) := by decide +kernel
theorem dX5_turn_184 : decode cX5_turn 184 = .ok (.iload_n 3, 1) := by decide +kernel
theorem dX5_turn_185 : decode cX5_turn 185 = .ok (.invokestatic 147, 3) := by decide +kernel
theorem dX5_turn_188 : decode cX5_turn 188 = .ok (.ifCond .eq 44, 3) := by decide +kernel
theorem dX5_turn_191 : decode cX5_turn 191 = .ok (.aload_n 0, 1) := by decide +kernel
theorem dX5_turn_192 : decode cX5_turn 192 = .ok (.iload_n 3, 1) := by decide +kernel
theorem dX5_turn_193 : decode cX5_turn 193 = .ok (.invokestatic 198, 3) := by decide +kernel
theorem dX5_turn_196 : decode cX5_turn 196 = .ok (.pop, 1) := by decide +kernel
theorem dX5_turn_197 : decode cX5_turn 197 = .ok (.goto 35, 3) := by decide +kernel
theorem dX5_turn_200 : decode cX5_turn 200 = .ok (.aload_n 0, 1) := by decide +kernel
theorem dX5_turn_201 : decode cX5_turn 201 = .ok (.invokestatic 133, 3) := by decide +kernel
theorem dX5_turn_204 : decode cX5_turn 204 = .ok (.ifCond .eq 28, 3) := by decide +kernel
theorem dX5_turn_207 : decode cX5_turn 207 = .ok (.aload_n 0, 1) := by decide +kernel
theorem dX5_turn_208 : decode cX5_turn 208 = .ok (.iconst 1, 1) := by decide +kernel
theorem dX5_turn_209 : decode cX5_turn 209 = .ok (.iload_n 1, 1) := by decide +kernel
theorem dX5_turn_210 : decode cX5_turn 210 = .ok (.bipush 32, 2) := by decide +kernel
theorem dX5_turn_212 : decode cX5_turn 212 = .ok (.idiv, 1) := by decide +kernel
theorem dX5_turn_213 : decode cX5_turn 213 = .ok (.bipush 120, 2) := by decide +kernel
theorem dX5_turn_215 : decode cX5_turn 215 = .ok (.irem, 1) := by decide +kernel
theorem dX5_turn_216 : decode cX5_turn 216 = .ok (.iadd, 1) := by decide +kernel
theorem dX5_turn_217 : decode cX5_turn 217 = .ok (.iload_n 2, 1) := by decide +kernel
theorem dX5_turn_218 : decode cX5_turn 218 = .ok (.iconst 2, 1) := by decide +kernel
theorem dX5_turn_219 : decode cX5_turn 219 = .ok (.irem, 1) := by decide +kernel
theorem dX5_turn_220 : decode cX5_turn 220 = .ok (.ifCond .ne 7, 3) := by decide +kernel
theorem dX5_turn_223 : decode cX5_turn 223 = .ok (.iconst 1, 1) := by decide +kernel
theorem dX5_turn_224 : decode cX5_turn 224 = .ok (.goto 4, 3) := by decide +kernel
theorem dX5_turn_227 : decode cX5_turn 227 = .ok (.iconst 0, 1) := by decide +kernel
theorem dX5_turn_228 : decode cX5_turn 228 = .ok (.invokestatic 137, 3) := by decide +kernel
theorem dX5_turn_231 : decode cX5_turn 231 = .ok (.pop, 1) := by decide +kernel
theorem dX5_turn_232 : decode cX5_turn 232 = .ok (.return_, 1) := by decide +kernel
set_option maxRecDepth 20000 in
theorem ggX5_simulate_X5_in : GoodIn wsX5_simulate wsX5_in := goodIn_r _ [9] (by decide +kernel) (by decide +kernel)
set_option maxRecDepth 20000 in
theorem gX5_simulate_X5_in : GoodIn wsX5_simulate (va_wsS RX5 40 yX5_in wsX5_in) := goodIn_app (goodIn_of _ (by decide +kernel)) ggX5_simulate_X5_in
set_option maxRecDepth 20000 in
theorem ggX5_simulate_X5_refused : GoodIn wsX5_simulate wsX5_refused := goodIn_r _ [13, 14, 87, 88, 89, 90, 91, 92, 93, 94, 95, 96, 97, 98, 99] (by decide +kernel) (by decide +kernel)
set_option maxRecDepth 20000 in
theorem gX5_simulate_X5_refused : GoodIn wsX5_simulate (wsV RX5 103 RX5 yX5_refused wsX5_refused) := goodIn_app (goodIn_of _ (by decide +kernel)) ggX5_simulate_X5_refused
set_option maxRecDepth 20000 in
theorem ggX5_simulate_X5_copyState : GoodIn wsX5_simulate wsX5_copyState := goodIn_r _ [17] (by decide +kernel) (by decide +kernel)
set_option maxRecDepth 20000 in
theorem gX5_simulate_X5_copyState : GoodIn wsX5_simulate (va_wsS RX5 160 yX5_copyState wsX5_copyState) := goodIn_app (goodIn_of _ (by decide +kernel)) ggX5_simulate_X5_copyState
set_option maxRecDepth 20000 in
theorem ggX5_simulate_X5_turn : GoodIn wsX5_simulate wsX5_turn := goodIn_r _ [20, 21, 22, 8, 23, 24, 25, 26, 27, 28, 29, 30, 31, 32, 33, 34, 35, 36, 37, 38, 39, 40, 41, 42, 43, 44, 45, 46, 47, 6, 7, 9, 48, 49, 50, 51, 52, 53, 54, 55, 56, 57, 58, 59, 60, 61, 62, 63, 64, 65, 66, 67, 68, 69, 70, 71, 72, 73, 74, 75, 76, 77] (by decide +kernel) (by decide +kernel)
set_option maxRecDepth 20000 in
theorem gX5_simulate_X5_turn : GoodIn wsX5_simulate (va_wsS RX5 227 yX5_turn wsX5_turn) := goodIn_app (goodIn_of _ (by decide +kernel)) ggX5_simulate_X5_turn
set_option maxRecDepth 20000 in
theorem ggX5_simulate_X5_wrong : GoodIn wsX5_simulate wsX5_wrong := goodIn_r _ [59, 60, 61, 8, 62, 30, 31, 32, 63, 64, 65, 27, 28, 29] (by decide +kernel) (by decide +kernel)
set_option maxRecDepth 20000 in
theorem gX5_simulate_X5_wrong : GoodIn wsX5_simulate (va_wsS RX5 81 yX5_wrong wsX5_wrong) := goodIn_app (goodIn_of _ (by decide +kernel)) ggX5_simulate_X5_wrong
set_option maxRecDepth 20000 in
theorem ggX5_simulate_X5_astray : GoodIn wsX5_simulate wsX5_astray := goodIn_r _ [80, 81, 82, 8, 83, 30, 31, 32, 84, 85, 86] (by decide +kernel) (by decide +kernel)
set_option maxRecDepth 20000 in
theorem gX5_simulate_X5_astray : GoodIn wsX5_simulate (va_wsS RX5 172 yX5_astray wsX5_astray) := goodIn_app (goodIn_of _ (by decide +kernel)) ggX5_simulate_X5_astray
theorem dX5_simulate_0 : decode cX5_simulate 0 = .ok (.aload_n 0, 1) := by decide +kernel
theorem dX5_simulate_1 : decode cX5_simulate 1 = .ok (.iload_n 3, 1) := by decide +kernel
theorem dX5_simulate_2 : decode cX5_simulate 2 = .ok (.i2l, 1) := by decide +kernel
theorem dX5_simulate_3 : decode cX5_simulate 3 = .ok (.lconst 1, 1) := by decide +kernel
theorem dX5_simulate_4 : decode cX5_simulate 4 = .ok (.ldc2_w 221, 3) := by decide +kernel
theorem dX5_simulate_7 : decode cX5_simulate 7 = .ok (.invokestatic 40, 3) := by decide +kernel
theorem dX5_simulate_10 : decode cX5_simulate 10 = .ok (.ifCond .eq 7, 3) := by decide +kernel
theorem dX5_simulate_13 : decode cX5_simulate 13 = .ok (.iconst 0, 1) := by decide +kernel
theorem dX5_simulate_14 : decode cX5_simulate 14 = .ok (.goto 4, 3) := by decide +kernel
theorem dX5_simulate_17 : decode cX5_simulate 17 = .ok (.iconst 1, 1) := by decide +kernel
theorem dX5_simulate_18 : decode cX5_simulate 18 = .ok (.invokevirtual 103, 3) := by decide +kernel
theorem dX5_simulate_21 : decode cX5_simulate 21 = .ok (.ifCond .eq 5, 3) := by decide +kernel
theorem dX5_simulate_24 : decode cX5_simulate 24 = .ok (.iconst 0, 1) := by decide +kernel
theorem dX5_simulate_25 : decode cX5_simulate 25 = .ok (.ireturn, 1) := by decide +kernel
theorem dX5_simulate_26 : decode cX5_simulate 26 = .ok (.aload_n 0, 1) := by decide +kernel
theorem dX5_simulate_27 : decode cX5_simulate 27 = .ok (.getfield 13, 3) := by decide +kernel
theorem dX5_simulate_30 : decode cX5_simulate 30 = .ok (.iconst 0, 1) := by decide +kernel
theorem dX5_simulate_31 : decode cX5_simulate 31 = .ok (.aload_n 0, 1) := by decide +kernel
theorem dX5_simulate_32 : decode cX5_simulate 32 = .ok (.getfield 16, 3) := by decide +kernel
theorem dX5_simulate_35 : decode cX5_simulate 35 = .ok (.iconst 0, 1) := by decide +kernel
theorem dX5_simulate_36 : decode cX5_simulate 36 = .ok (.invokestatic 160, 3) := by decide +kernel
theorem dX5_simulate_39 : decode cX5_simulate 39 = .ok (.lload_n 1, 1) := by decide +kernel
theorem dX5_simulate_40 : decode cX5_simulate 40 = .ok (.lstore 4, 2) := by decide +kernel
theorem dX5_simulate_42 : decode cX5_simulate 42 = .ok (.iconst 0, 1) := by decide +kernel
theorem dX5_simulate_43 : decode cX5_simulate 43 = .ok (.istore 6, 2) := by decide +kernel
theorem dX5_simulate_45 : decode cX5_simulate 45 = .ok (.iload 6, 2) := by decide +kernel
theorem dX5_simulate_47 : decode cX5_simulate 47 = .ok (.iload_n 3, 1) := by decide +kernel
theorem dX5_simulate_48 : decode cX5_simulate 48 = .ok (.if_icmp .ge 34, 3) := by decide +kernel
theorem dX5_simulate_51 : decode cX5_simulate 51 = .ok (.lload 4, 2) := by decide +kernel
theorem dX5_simulate_53 : decode cX5_simulate 53 = .ok (.ldc2_w 223, 3) := by decide +kernel
theorem dX5_simulate_56 : decode cX5_simulate 56 = .ok (.lmul, 1) := by decide +kernel
theorem dX5_simulate_57 : decode cX5_simulate 57 = .ok (.ldc2_w 225, 3) := by decide +kernel
theorem dX5_simulate_60 : decode cX5_simulate 60 = .ok (.ladd, 1) := by decide +kernel
theorem dX5_simulate_61 : decode cX5_simulate 61 = .ok (.lstore 4, 2) := by decide +kernel
theorem dX5_simulate_63 : decode cX5_simulate 63 = .ok (.aload_n 0, 1) := by decide +kernel
theorem dX5_simulate_64 : decode cX5_simulate 64 = .ok (.getfield 16, 3) := by decide +kernel
theorem dX5_simulate_67 : decode cX5_simulate 67 = .ok (.lload 4, 2) := by decide +kernel
theorem dX5_simulate_69 : decode cX5_simulate 69 = .ok (.bipush 33, 2) := by decide +kernel
theorem dX5_simulate_71 : decode cX5_simulate 71 = .ok (.lushr, 1) := by decide +kernel
theorem dX5_simulate_72 : decode cX5_simulate 72 = .ok (.l2i, 1) := by decide +kernel
theorem dX5_simulate_73 : decode cX5_simulate 73 = .ok (.invokestatic 227, 3) := by decide +kernel
theorem dX5_simulate_76 : decode cX5_simulate 76 = .ok (.iinc 6 1, 3) := by decide +kernel
theorem dX5_simulate_79 : decode cX5_simulate 79 = .ok (.goto (-34), 3) := by decide +kernel
theorem dX5_simulate_82 : decode cX5_simulate 82 = .ok (.sipush 1000, 3) := by decide +kernel
theorem dX5_simulate_85 : decode cX5_simulate 85 = .ok (.aload_n 0, 1) := by decide +kernel
theorem dX5_simulate_86 : decode cX5_simulate 86 = .ok (.getfield 16, 3) := by decide +kernel
theorem dX5_simulate_89 : decode cX5_simulate 89 = .ok (.invokestatic 81, 3) := by decide +kernel
theorem dX5_simulate_92 : decode cX5_simulate 92 = .ok (.imul, 1) := by decide +kernel
theorem dX5_simulate_93 : decode cX5_simulate 93 = .ok (.aload_n 0, 1) := by decide +kernel
theorem dX5_simulate_94 : decode cX5_simulate 94 = .ok (.getfield 16, 3) := by decide +kernel
theorem dX5_simulate_97 : decode cX5_simulate 97 = .ok (.invokestatic 172, 3) := by decide +kernel
theorem dX5_simulate_100 : decode cX5_simulate 100 = .ok (.iadd, 1) := by decide +kernel
theorem dX5_simulate_101 : decode cX5_simulate 101 = .ok (.ireturn, 1) := by decide +kernel
set_option maxRecDepth 20000 in
theorem ggX5_save_X5_in : GoodIn wsX5_save wsX5_in := goodIn_r _ [7] (by decide +kernel) (by decide +kernel)
set_option maxRecDepth 20000 in
theorem gX5_save_X5_in : GoodIn wsX5_save (va_wsS RX5 40 yX5_in wsX5_in) := goodIn_app (goodIn_of _ (by decide +kernel)) ggX5_save_X5_in
set_option maxRecDepth 20000 in
theorem ggX5_save_X5_refused : GoodIn wsX5_save wsX5_refused := goodIn_r _ [11, 12, 16, 17, 18, 19, 20, 21, 22, 23, 24, 25, 26, 27, 28] (by decide +kernel) (by decide +kernel)
set_option maxRecDepth 20000 in
theorem gX5_save_X5_refused : GoodIn wsX5_save (wsV RX5 103 RX5 yX5_refused wsX5_refused) := goodIn_app (goodIn_of _ (by decide +kernel)) ggX5_save_X5_refused
set_option maxRecDepth 20000 in
theorem ggX5_save_X5_copyState : GoodIn wsX5_save wsX5_copyState := goodIn_r _ [15] (by decide +kernel) (by decide +kernel)
set_option maxRecDepth 20000 in
theorem gX5_save_X5_copyState : GoodIn wsX5_save (va_wsS RX5 160 yX5_copyState wsX5_copyState) := goodIn_app (goodIn_of _ (by decide +kernel)) ggX5_save_X5_copyState
theorem dX5_save_0 : decode cX5_save 0 = .ok (.aload_n 0, 1) := by decide +kernel
theorem dX5_save_1 : decode cX5_save 1 = .ok (.iload_n 1, 1) := by decide +kernel
theorem dX5_save_2 : decode cX5_save 2 = .ok (.i2l, 1) := by decide +kernel
theorem dX5_save_3 : decode cX5_save 3 = .ok (.lconst 0, 1) := by decide +kernel
theorem dX5_save_4 : decode cX5_save 4 = .ok (.lconst 1, 1) := by decide +kernel
theorem dX5_save_5 : decode cX5_save 5 = .ok (.invokestatic 40, 3) := by decide +kernel
theorem dX5_save_8 : decode cX5_save 8 = .ok (.ifCond .eq 7, 3) := by decide +kernel
theorem dX5_save_11 : decode cX5_save 11 = .ok (.iconst 0, 1) := by decide +kernel
theorem dX5_save_12 : decode cX5_save 12 = .ok (.goto 4, 3) := by decide +kernel
theorem dX5_save_15 : decode cX5_save 15 = .ok (.iconst 1, 1) := by decide +kernel
theorem dX5_save_16 : decode cX5_save 16 = .ok (.invokevirtual 103, 3) := by decide +kernel
theorem dX5_save_19 : decode cX5_save 19 = .ok (.ifCond .eq 5, 3) := by decide +kernel
theorem dX5_save_22 : decode cX5_save 22 = .ok (.iconst 0, 1) := by decide +kernel
theorem dX5_save_23 : decode cX5_save 23 = .ok (.ireturn, 1) := by decide +kernel
theorem dX5_save_24 : decode cX5_save 24 = .ok (.aload_n 0, 1) := by decide +kernel
theorem dX5_save_25 : decode cX5_save 25 = .ok (.getfield 13, 3) := by decide +kernel
theorem dX5_save_28 : decode cX5_save 28 = .ok (.iconst 0, 1) := by decide +kernel
theorem dX5_save_29 : decode cX5_save 29 = .ok (.aload_n 0, 1) := by decide +kernel
theorem dX5_save_30 : decode cX5_save 30 = .ok (.getfield 22, 3) := by decide +kernel
theorem dX5_save_33 : decode cX5_save 33 = .ok (.sipush 377, 3) := by decide +kernel
theorem dX5_save_36 : decode cX5_save 36 = .ok (.iload_n 1, 1) := by decide +kernel
theorem dX5_save_37 : decode cX5_save 37 = .ok (.imul, 1) := by decide +kernel
theorem dX5_save_38 : decode cX5_save 38 = .ok (.invokestatic 160, 3) := by decide +kernel
theorem dX5_save_41 : decode cX5_save 41 = .ok (.aload_n 0, 1) := by decide +kernel
theorem dX5_save_42 : decode cX5_save 42 = .ok (.getfield 25, 3) := by decide +kernel
theorem dX5_save_45 : decode cX5_save 45 = .ok (.iload_n 1, 1) := by decide +kernel
theorem dX5_save_46 : decode cX5_save 46 = .ok (.iconst 1, 1) := by decide +kernel
theorem dX5_save_47 : decode cX5_save 47 = .ok (.bastore, 1) := by decide +kernel
theorem dX5_save_48 : decode cX5_save 48 = .ok (.aload_n 0, 1) := by decide +kernel
theorem dX5_save_49 : decode cX5_save 49 = .ok (.getfield 13, 3) := by decide +kernel
theorem dX5_save_52 : decode cX5_save 52 = .ok (.iconst 0, 1) := by decide +kernel
theorem dX5_save_53 : decode cX5_save 53 = .ok (.iaload, 1) := by decide +kernel
theorem dX5_save_54 : decode cX5_save 54 = .ok (.ireturn, 1) := by decide +kernel
set_option maxRecDepth 20000 in
theorem ggX5_restore_X5_in : GoodIn wsX5_restore wsX5_in := goodIn_r _ [8] (by decide +kernel) (by decide +kernel)
set_option maxRecDepth 20000 in
theorem gX5_restore_X5_in : GoodIn wsX5_restore (va_wsS RX5 40 yX5_in wsX5_in) := goodIn_app (goodIn_of _ (by decide +kernel)) ggX5_restore_X5_in
set_option maxRecDepth 20000 in
theorem ggX5_restore_X5_refused : GoodIn wsX5_restore wsX5_refused := goodIn_r _ [12, 13, 17, 18, 19, 20, 21, 22, 23, 24, 25, 26, 27, 28, 29] (by decide +kernel) (by decide +kernel)
set_option maxRecDepth 20000 in
theorem gX5_restore_X5_refused : GoodIn wsX5_restore (wsV RX5 103 RX5 yX5_refused wsX5_refused) := goodIn_app (goodIn_of _ (by decide +kernel)) ggX5_restore_X5_refused
set_option maxRecDepth 20000 in
theorem ggX5_restore_X5_copyState : GoodIn wsX5_restore wsX5_copyState := goodIn_r _ [16] (by decide +kernel) (by decide +kernel)
set_option maxRecDepth 20000 in
theorem gX5_restore_X5_copyState : GoodIn wsX5_restore (va_wsS RX5 160 yX5_copyState wsX5_copyState) := goodIn_app (goodIn_of _ (by decide +kernel)) ggX5_restore_X5_copyState
theorem dX5_restore_0 : decode cX5_restore 0 = .ok (.aload_n 0, 1) := by decide +kernel
theorem dX5_restore_1 : decode cX5_restore 1 = .ok (.iload_n 1, 1) := by decide +kernel
theorem dX5_restore_2 : decode cX5_restore 2 = .ok (.i2l, 1) := by decide +kernel
theorem dX5_restore_3 : decode cX5_restore 3 = .ok (.lconst 0, 1) := by decide +kernel
theorem dX5_restore_4 : decode cX5_restore 4 = .ok (.lconst 1, 1) := by decide +kernel
theorem dX5_restore_5 : decode cX5_restore 5 = .ok (.invokestatic 40, 3) := by decide +kernel
theorem dX5_restore_8 : decode cX5_restore 8 = .ok (.ifCond .ne 7, 3) := by decide +kernel
theorem dX5_restore_11 : decode cX5_restore 11 = .ok (.iconst 1, 1) := by decide +kernel
theorem dX5_restore_12 : decode cX5_restore 12 = .ok (.goto 17, 3) := by decide +kernel
theorem dX5_restore_15 : decode cX5_restore 15 = .ok (.aload_n 0, 1) := by decide +kernel
theorem dX5_restore_16 : decode cX5_restore 16 = .ok (.getfield 25, 3) := by decide +kernel
theorem dX5_restore_19 : decode cX5_restore 19 = .ok (.iload_n 1, 1) := by decide +kernel
theorem dX5_restore_20 : decode cX5_restore 20 = .ok (.baload, 1) := by decide +kernel
theorem dX5_restore_21 : decode cX5_restore 21 = .ok (.ifCond .ne 7, 3) := by decide +kernel
theorem dX5_restore_24 : decode cX5_restore 24 = .ok (.iconst 2, 1) := by decide +kernel
theorem dX5_restore_25 : decode cX5_restore 25 = .ok (.goto 4, 3) := by decide +kernel
theorem dX5_restore_28 : decode cX5_restore 28 = .ok (.iconst 0, 1) := by decide +kernel
theorem dX5_restore_29 : decode cX5_restore 29 = .ok (.invokevirtual 103, 3) := by decide +kernel
theorem dX5_restore_32 : decode cX5_restore 32 = .ok (.ifCond .eq 5, 3) := by decide +kernel
theorem dX5_restore_35 : decode cX5_restore 35 = .ok (.iconst 0, 1) := by decide +kernel
theorem dX5_restore_36 : decode cX5_restore 36 = .ok (.ireturn, 1) := by decide +kernel
theorem dX5_restore_37 : decode cX5_restore 37 = .ok (.aload_n 0, 1) := by decide +kernel
theorem dX5_restore_38 : decode cX5_restore 38 = .ok (.getfield 22, 3) := by decide +kernel
theorem dX5_restore_41 : decode cX5_restore 41 = .ok (.sipush 377, 3) := by decide +kernel
theorem dX5_restore_44 : decode cX5_restore 44 = .ok (.iload_n 1, 1) := by decide +kernel
theorem dX5_restore_45 : decode cX5_restore 45 = .ok (.imul, 1) := by decide +kernel
theorem dX5_restore_46 : decode cX5_restore 46 = .ok (.aload_n 0, 1) := by decide +kernel
theorem dX5_restore_47 : decode cX5_restore 47 = .ok (.getfield 13, 3) := by decide +kernel
theorem dX5_restore_50 : decode cX5_restore 50 = .ok (.iconst 0, 1) := by decide +kernel
theorem dX5_restore_51 : decode cX5_restore 51 = .ok (.invokestatic 160, 3) := by decide +kernel
theorem dX5_restore_54 : decode cX5_restore 54 = .ok (.aload_n 0, 1) := by decide +kernel
theorem dX5_restore_55 : decode cX5_restore 55 = .ok (.iconst 0, 1) := by decide +kernel
theorem dX5_restore_56 : decode cX5_restore 56 = .ok (.putfield 164, 3) := by decide +kernel
theorem dX5_restore_59 : decode cX5_restore 59 = .ok (.aload_n 0, 1) := by decide +kernel
theorem dX5_restore_60 : decode cX5_restore 60 = .ok (.getfield 13, 3) := by decide +kernel
theorem dX5_restore_63 : decode cX5_restore 63 = .ok (.iconst 0, 1) := by decide +kernel
theorem dX5_restore_64 : decode cX5_restore 64 = .ok (.iaload, 1) := by decide +kernel
theorem dX5_restore_65 : decode cX5_restore 65 = .ok (.ireturn, 1) := by decide +kernel
