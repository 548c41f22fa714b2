theorem dX0_init_0 : decode cX0_init 0 = .ok (.aload_n 0, 1) := by decide +kernel
theorem dX0_init_1 : decode cX0_init 1 = .ok (.invokespecial 3, 3) := by decide +kernel
theorem dX0_init_4 : decode cX0_init 4 = .ok (.aload_n 0, 1) := by decide +kernel
theorem dX0_init_5 : decode cX0_init 5 = .ok (.bipush 120, 2) := by decide +kernel
theorem dX0_init_7 : decode cX0_init 7 = .ok (.newarray .char, 2) := by decide +kernel
theorem dX0_init_9 : decode cX0_init 9 = .ok (.putfield 11, 3) := by decide +kernel
theorem dX0_init_12 : decode cX0_init 12 = .ok (.return_, 1) := by decide +kernel
theorem dX0_isFull_0 : decode cX0_isFull 0 = .ok (.aload_n 0, 1) := by decide +kernel
theorem dX0_isFull_1 : decode cX0_isFull 1 = .ok (.getfield 15, 3) := by decide +kernel
theorem dX0_isFull_4 : decode cX0_isFull 4 = .ok (.bipush 120, 2) := by decide +kernel
theorem dX0_isFull_6 : decode cX0_isFull 6 = .ok (.if_icmp .lt 7, 3) := by decide +kernel
theorem dX0_isFull_9 : decode cX0_isFull 9 = .ok (.iconst 1, 1) := by decide +kernel
theorem dX0_isFull_10 : decode cX0_isFull 10 = .ok (.goto 4, 3) := by decide +kernel
theorem dX0_isFull_13 : decode cX0_isFull 13 = .ok (.iconst 0, 1) := by decide +kernel
theorem dX0_isFull_14 : decode cX0_isFull 14 = .ok (.ireturn, 1) := by decide +kernel
theorem dX0_add_0 : decode cX0_add 0 = .ok (.aload_n 0, 1) := by decide +kernel
theorem dX0_add_1 : decode cX0_add 1 = .ok (.getfield 15, 3) := by decide +kernel
theorem dX0_add_4 : decode cX0_add 4 = .ok (.bipush 120, 2) := by decide +kernel
theorem dX0_add_6 : decode cX0_add 6 = .ok (.if_icmp .ge 23, 3) := by decide +kernel
theorem dX0_add_9 : decode cX0_add 9 = .ok (.aload_n 0, 1) := by decide +kernel
theorem dX0_add_10 : decode cX0_add 10 = .ok (.getfield 11, 3) := by decide +kernel
theorem dX0_add_13 : decode cX0_add 13 = .ok (.aload_n 0, 1) := by decide +kernel
theorem dX0_add_14 : decode cX0_add 14 = .ok (.getfield 15, 3) := by decide +kernel
theorem dX0_add_17 : decode cX0_add 17 = .ok (.iload_n 1, 1) := by decide +kernel
theorem dX0_add_18 : decode cX0_add 18 = .ok (.castore, 1) := by decide +kernel
theorem dX0_add_19 : decode cX0_add 19 = .ok (.aload_n 0, 1) := by decide +kernel
theorem dX0_add_20 : decode cX0_add 20 = .ok (.dup, 1) := by decide +kernel
theorem dX0_add_21 : decode cX0_add 21 = .ok (.getfield 15, 3) := by decide +kernel
theorem dX0_add_24 : decode cX0_add 24 = .ok (.iconst 1, 1) := by decide +kernel
theorem dX0_add_25 : decode cX0_add 25 = .ok (.iadd, 1) := by decide +kernel
theorem dX0_add_26 : decode cX0_add 26 = .ok (.putfield 15, 3) := by decide +kernel
theorem dX0_add_29 : decode cX0_add 29 = .ok (.aload_n 0, 1) := by decide +kernel
theorem dX0_add_30 : decode cX0_add 30 = .ok (.getfield 15, 3) := by decide +kernel
theorem dX0_add_33 : decode cX0_add 33 = .ok (.ireturn, 1) := by decide +kernel
theorem dX0_empty_0 : decode cX0_empty 0 = .ok (.aload_n 0, 1) := by decide +kernel
theorem dX0_empty_1 : decode cX0_empty 1 = .ok (.getfield 15, 3) := by decide +kernel
theorem dX0_empty_4 : decode cX0_empty 4 = .ok (.istore_n 1, 1) := by decide +kernel
theorem dX0_empty_5 : decode cX0_empty 5 = .ok (.aload_n 0, 1) := by decide +kernel
theorem dX0_empty_6 : decode cX0_empty 6 = .ok (.iconst 0, 1) := by decide +kernel
theorem dX0_empty_7 : decode cX0_empty 7 = .ok (.putfield 15, 3) := by decide +kernel
theorem dX0_empty_10 : decode cX0_empty 10 = .ok (.iload_n 1, 1) := by decide +kernel
theorem dX0_empty_11 : decode cX0_empty 11 = .ok (.ireturn, 1) := by decide +kernel
set_option maxRecDepth 20000 in
theorem ggX0_firstError_X0_startReading : GoodIn wsX0_firstError wsX0_startReading := goodIn_r _ [6, 1, 7, 8, 9, 5, 10, 11, 12, 33, 34, 35, 36, 37, 38, 39] (by decide +kernel) (by decide +kernel)
set_option maxRecDepth 20000 in
theorem gX0_firstError_X0_startReading : GoodIn wsX0_firstError (wsV RX0 19 RX0 yX0_startReading wsX0_startReading) := goodIn_app (goodIn_of _ (by decide +kernel)) ggX0_firstError_X0_startReading
set_option maxRecDepth 20000 in
theorem ggX0_firstError_X0_hasMore : GoodIn wsX0_firstError wsX0_hasMore := goodIn_r _ [16, 1, 11, 33, 34, 35, 36, 37, 38, 39] (by decide +kernel) (by decide +kernel)
set_option maxRecDepth 20000 in
theorem gX0_firstError_X0_hasMore : GoodIn wsX0_firstError (wsV RX0 26 RX0 yX0_hasMore wsX0_hasMore) := goodIn_app (goodIn_of _ (by decide +kernel)) ggX0_firstError_X0_hasMore
set_option maxRecDepth 20000 in
theorem ggX0_firstError_X0_readCommand : GoodIn wsX0_firstError wsX0_readCommand := goodIn_r _ [20, 1, 21, 7, 8, 9, 5, 10, 11, 12, 22, 23, 24, 25, 26, 27, 28, 29, 30, 31, 32, 33, 34, 35, 36, 37, 38, 39] (by decide +kernel) (by decide +kernel)
set_option maxRecDepth 20000 in
theorem gX0_firstError_X0_readCommand : GoodIn wsX0_firstError (wsV RX0 29 RX0 yX0_readCommand wsX0_readCommand) := goodIn_app (goodIn_of _ (by decide +kernel)) ggX0_firstError_X0_readCommand
theorem dX0_firstError_0 : decode cX0_firstError 0 = .ok (.aload_n 0, 1) := by decide +kernel
theorem dX0_firstError_1 : decode cX0_firstError 1 = .ok (.invokevirtual 19, 3) := by decide +kernel
theorem dX0_firstError_4 : decode cX0_firstError 4 = .ok (.ifCond .ne 8, 3) := by decide +kernel
theorem dX0_firstError_7 : decode cX0_firstError 7 = .ok (.aload_n 0, 1) := by decide +kernel
theorem dX0_firstError_8 : decode cX0_firstError 8 = .ok (.getfield 23, 3) := by decide +kernel
theorem dX0_firstError_11 : decode cX0_firstError 11 = .ok (.ireturn, 1) := by decide +kernel
theorem dX0_firstError_12 : decode cX0_firstError 12 = .ok (.iconst 0, 1) := by decide +kernel
theorem dX0_firstError_13 : decode cX0_firstError 13 = .ok (.istore_n 1, 1) := by decide +kernel
theorem dX0_firstError_14 : decode cX0_firstError 14 = .ok (.iload_n 1, 1) := by decide +kernel
theorem dX0_firstError_15 : decode cX0_firstError 15 = .ok (.bipush 120, 2) := by decide +kernel
theorem dX0_firstError_17 : decode cX0_firstError 17 = .ok (.if_icmp .ge 28, 3) := by decide +kernel
theorem dX0_firstError_20 : decode cX0_firstError 20 = .ok (.aload_n 0, 1) := by decide +kernel
theorem dX0_firstError_21 : decode cX0_firstError 21 = .ok (.invokevirtual 26, 3) := by decide +kernel
theorem dX0_firstError_24 : decode cX0_firstError 24 = .ok (.ifCond .eq 21, 3) := by decide +kernel
theorem dX0_firstError_27 : decode cX0_firstError 27 = .ok (.aload_n 0, 1) := by decide +kernel
theorem dX0_firstError_28 : decode cX0_firstError 28 = .ok (.invokevirtual 29, 3) := by decide +kernel
theorem dX0_firstError_31 : decode cX0_firstError 31 = .ok (.ifCond .ne 8, 3) := by decide +kernel
theorem dX0_firstError_34 : decode cX0_firstError 34 = .ok (.aload_n 0, 1) := by decide +kernel
theorem dX0_firstError_35 : decode cX0_firstError 35 = .ok (.getfield 23, 3) := by decide +kernel
theorem dX0_firstError_38 : decode cX0_firstError 38 = .ok (.ireturn, 1) := by decide +kernel
theorem dX0_firstError_39 : decode cX0_firstError 39 = .ok (.iinc 1 1, 3) := by decide +kernel
theorem dX0_firstError_42 : decode cX0_firstError 42 = .ok (.goto (-28), 3) := by decide +kernel
theorem dX0_firstError_45 : decode cX0_firstError 45 = .ok (.iconst (-1), 1) := by decide +kernel
theorem dX0_firstError_46 : decode cX0_firstError 46 = .ok (.ireturn, 1) := by decide +kernel
set_option maxRecDepth 20000 in
theorem ggX0_startReading_X0_readSign : GoodIn wsX0_startReading wsX0_readSign := goodIn_r _ [6, 1, 7, 8, 9, 10, 11, 12, 13, 14, 15] (by decide +kernel) (by decide +kernel)
set_option maxRecDepth 20000 in
theorem gX0_startReading_X0_readSign : GoodIn wsX0_startReading (wsV RX0 32 RX0 yX0_readSign wsX0_readSign) := goodIn_app (goodIn_of _ (by decide +kernel)) ggX0_startReading_X0_readSign
theorem dX0_startReading_0 : decode cX0_startReading 0 = .ok (.aload_n 0, 1) := by decide +kernel
theorem dX0_startReading_1 : decode cX0_startReading 1 = .ok (.iconst 0, 1) := by decide +kernel
theorem dX0_startReading_2 : decode cX0_startReading 2 = .ok (.putfield 23, 3) := by decide +kernel
theorem dX0_startReading_5 : decode cX0_startReading 5 = .ok (.aload_n 0, 1) := by decide +kernel
theorem dX0_startReading_6 : decode cX0_startReading 6 = .ok (.bipush 84, 2) := by decide +kernel
theorem dX0_startReading_8 : decode cX0_startReading 8 = .ok (.bipush 84, 2) := by decide +kernel
theorem dX0_startReading_10 : decode cX0_startReading 10 = .ok (.invokevirtual 32, 3) := by decide +kernel
theorem dX0_startReading_13 : decode cX0_startReading 13 = .ok (.iconst (-1), 1) := by decide +kernel
theorem dX0_startReading_14 : decode cX0_startReading 14 = .ok (.if_icmp .eq 7, 3) := by decide +kernel
theorem dX0_startReading_17 : decode cX0_startReading 17 = .ok (.iconst 1, 1) := by decide +kernel
theorem dX0_startReading_18 : decode cX0_startReading 18 = .ok (.goto 4, 3) := by decide +kernel
theorem dX0_startReading_21 : decode cX0_startReading 21 = .ok (.iconst 0, 1) := by decide +kernel
theorem dX0_startReading_22 : decode cX0_startReading 22 = .ok (.ireturn, 1) := by decide +kernel
theorem dX0_hasMore_0 : decode cX0_hasMore 0 = .ok (.aload_n 0, 1) := by decide +kernel
theorem dX0_hasMore_1 : decode cX0_hasMore 1 = .ok (.getfield 23, 3) := by decide +kernel
theorem dX0_hasMore_4 : decode cX0_hasMore 4 = .ok (.aload_n 0, 1) := by decide +kernel
theorem dX0_hasMore_5 : decode cX0_hasMore 5 = .ok (.getfield 15, 3) := by decide +kernel
theorem dX0_hasMore_8 : decode cX0_hasMore 8 = .ok (.if_icmp .ge 7, 3) := by decide +kernel
theorem dX0_hasMore_11 : decode cX0_hasMore 11 = .ok (.iconst 1, 1) := by decide +kernel
theorem dX0_hasMore_12 : decode cX0_hasMore 12 = .ok (.goto 4, 3) := by decide +kernel
theorem dX0_hasMore_15 : decode cX0_hasMore 15 = .ok (.iconst 0, 1) := by decide +kernel
theorem dX0_hasMore_16 : decode cX0_hasMore 16 = .ok (.ireturn, 1) := by decide +kernel
set_option maxRecDepth 20000 in
theorem ggX0_readCommand_X0_readSign : GoodIn wsX0_readCommand wsX0_readSign := goodIn_r _ [7, 1, 8, 9, 21, 22, 23, 24, 25, 26, 27] (by decide +kernel) (by decide +kernel)
set_option maxRecDepth 20000 in
theorem gX0_readCommand_X0_readSign : GoodIn wsX0_readCommand (wsV RX0 32 RX0 yX0_readSign wsX0_readSign) := goodIn_app (goodIn_of _ (by decide +kernel)) ggX0_readCommand_X0_readSign
set_option maxRecDepth 20000 in
theorem ggX0_readCommand_X0_readSetup : GoodIn wsX0_readCommand wsX0_readSetup := goodIn_r _ [13, 14, 15, 16, 17, 18, 19, 6, 20, 1, 3, 4, 5, 7, 8, 9, 21, 22, 23, 24, 25, 26, 27] (by decide +kernel) (by decide +kernel)
set_option maxRecDepth 20000 in
theorem gX0_readCommand_X0_readSetup : GoodIn wsX0_readCommand (wsV RX0 39 RX0 yX0_readSetup wsX0_readSetup) := goodIn_app (goodIn_of _ (by decide +kernel)) ggX0_readCommand_X0_readSetup
set_option maxRecDepth 20000 in
theorem ggX0_readCommand_X0_readNumber : GoodIn wsX0_readCommand wsX0_readNumber := goodIn_r _ [20, 14, 1, 3, 4, 5, 6, 7, 8, 9, 21, 22, 23, 24, 25, 26, 27] (by decide +kernel) (by decide +kernel)
set_option maxRecDepth 20000 in
theorem gX0_readCommand_X0_readNumber : GoodIn wsX0_readCommand (wsV RX0 42 RX0 yX0_readNumber wsX0_readNumber) := goodIn_app (goodIn_of _ (by decide +kernel)) ggX0_readCommand_X0_readNumber
theorem dX0_readCommand_0 : decode cX0_readCommand 0 = .ok (.aload_n 0, 1) := by decide +kernel
theorem dX0_readCommand_1 : decode cX0_readCommand 1 = .ok (.getfield 23, 3) := by decide +kernel
theorem dX0_readCommand_4 : decode cX0_readCommand 4 = .ok (.istore_n 1, 1) := by decide +kernel
theorem dX0_readCommand_5 : decode cX0_readCommand 5 = .ok (.aload_n 0, 1) := by decide +kernel
theorem dX0_readCommand_6 : decode cX0_readCommand 6 = .ok (.aload_n 0, 1) := by decide +kernel
theorem dX0_readCommand_7 : decode cX0_readCommand 7 = .ok (.bipush 97, 2) := by decide +kernel
theorem dX0_readCommand_9 : decode cX0_readCommand 9 = .ok (.bipush 122, 2) := by decide +kernel
theorem dX0_readCommand_11 : decode cX0_readCommand 11 = .ok (.invokevirtual 32, 3) := by decide +kernel
theorem dX0_readCommand_14 : decode cX0_readCommand 14 = .ok (.putfield 36, 3) := by decide +kernel
theorem dX0_readCommand_17 : decode cX0_readCommand 17 = .ok (.aload_n 0, 1) := by decide +kernel
theorem dX0_readCommand_18 : decode cX0_readCommand 18 = .ok (.getfield 36, 3) := by decide +kernel
theorem dX0_readCommand_21 : decode cX0_readCommand 21 = .ok (.tableswitch 161 98 118 #[104, 99, 161, 161, 139, 161, 161, 161, 161, 161, 161, 129, 159, 139, 161, 161, 159, 159, 129, 161, 149], 99) := by decide +kernel
theorem dX0_readCommand_120 : decode cX0_readCommand 120 = .ok (.aload_n 0, 1) := by decide +kernel
theorem dX0_readCommand_121 : decode cX0_readCommand 121 = .ok (.invokevirtual 39, 3) := by decide +kernel
theorem dX0_readCommand_124 : decode cX0_readCommand 124 = .ok (.ireturn, 1) := by decide +kernel
theorem dX0_readCommand_125 : decode cX0_readCommand 125 = .ok (.aload_n 0, 1) := by decide +kernel
theorem dX0_readCommand_126 : decode cX0_readCommand 126 = .ok (.invokevirtual 39, 3) := by decide +kernel
theorem dX0_readCommand_129 : decode cX0_readCommand 129 = .ok (.ifCond .eq 19, 3) := by decide +kernel
theorem dX0_readCommand_132 : decode cX0_readCommand 132 = .ok (.aload_n 0, 1) := by decide +kernel
theorem dX0_readCommand_133 : decode cX0_readCommand 133 = .ok (.bipush 10, 2) := by decide +kernel
theorem dX0_readCommand_135 : decode cX0_readCommand 135 = .ok (.iconst 1, 1) := by decide +kernel
theorem dX0_readCommand_136 : decode cX0_readCommand 136 = .ok (.bipush 99, 2) := by decide +kernel
theorem dX0_readCommand_138 : decode cX0_readCommand 138 = .ok (.invokevirtual 42, 3) := by decide +kernel
theorem dX0_readCommand_141 : decode cX0_readCommand 141 = .ok (.ifCond .eq 7, 3) := by decide +kernel
theorem dX0_readCommand_144 : decode cX0_readCommand 144 = .ok (.iconst 1, 1) := by decide +kernel
theorem dX0_readCommand_145 : decode cX0_readCommand 145 = .ok (.goto 4, 3) := by decide +kernel
theorem dX0_readCommand_148 : decode cX0_readCommand 148 = .ok (.iconst 0, 1) := by decide +kernel
theorem dX0_readCommand_149 : decode cX0_readCommand 149 = .ok (.ireturn, 1) := by decide +kernel
theorem dX0_readCommand_150 : decode cX0_readCommand 150 = .ok (.aload_n 0, 1) := by decide +kernel
theorem dX0_readCommand_151 : decode cX0_readCommand 151 = .ok (.bipush 100, 2) := by decide +kernel
theorem dX0_readCommand_153 : decode cX0_readCommand 153 = .ok (.iconst 1, 1) := by decide +kernel
theorem dX0_readCommand_154 : decode cX0_readCommand 154 = .ok (.bipush 120, 2) := by decide +kernel
theorem dX0_readCommand_156 : decode cX0_readCommand 156 = .ok (.invokevirtual 42, 3) := by decide +kernel
theorem dX0_readCommand_159 : decode cX0_readCommand 159 = .ok (.ireturn, 1) := by decide +kernel
theorem dX0_readCommand_160 : decode cX0_readCommand 160 = .ok (.aload_n 0, 1) := by decide +kernel
theorem dX0_readCommand_161 : decode cX0_readCommand 161 = .ok (.bipush 10, 2) := by decide +kernel
theorem dX0_readCommand_163 : decode cX0_readCommand 163 = .ok (.iconst 0, 1) := by decide +kernel
theorem dX0_readCommand_164 : decode cX0_readCommand 164 = .ok (.bipush 23, 2) := by decide +kernel
theorem dX0_readCommand_166 : decode cX0_readCommand 166 = .ok (.invokevirtual 42, 3) := by decide +kernel
theorem dX0_readCommand_169 : decode cX0_readCommand 169 = .ok (.ireturn, 1) := by decide +kernel
theorem dX0_readCommand_170 : decode cX0_readCommand 170 = .ok (.aload_n 0, 1) := by decide +kernel
theorem dX0_readCommand_171 : decode cX0_readCommand 171 = .ok (.bipush 10, 2) := by decide +kernel
theorem dX0_readCommand_173 : decode cX0_readCommand 173 = .ok (.iconst 0, 1) := by decide +kernel
theorem dX0_readCommand_174 : decode cX0_readCommand 174 = .ok (.bipush 99, 2) := by decide +kernel
theorem dX0_readCommand_176 : decode cX0_readCommand 176 = .ok (.invokevirtual 42, 3) := by decide +kernel
theorem dX0_readCommand_179 : decode cX0_readCommand 179 = .ok (.ireturn, 1) := by decide +kernel
theorem dX0_readCommand_180 : decode cX0_readCommand 180 = .ok (.iconst 1, 1) := by decide +kernel
theorem dX0_readCommand_181 : decode cX0_readCommand 181 = .ok (.ireturn, 1) := by decide +kernel
theorem dX0_readCommand_182 : decode cX0_readCommand 182 = .ok (.aload_n 0, 1) := by decide +kernel
theorem dX0_readCommand_183 : decode cX0_readCommand 183 = .ok (.iload_n 1, 1) := by decide +kernel
theorem dX0_readCommand_184 : decode cX0_readCommand 184 = .ok (.putfield 23, 3) := by decide +kernel
theorem dX0_readCommand_187 : decode cX0_readCommand 187 = .ok (.iconst 0, 1) := by decide +kernel
theorem dX0_readCommand_188 : decode cX0_readCommand 188 = .ok (.ireturn, 1) := by decide +kernel
set_option maxRecDepth 20000 in
theorem ggX0_readSetup_X0_readNumber : GoodIn wsX0_readSetup wsX0_readNumber := goodIn_r _ [8, 1, 9, 10, 11, 12, 7, 13, 14, 15, 16, 17, 18, 19, 20, 21, 22] (by decide +kernel) (by decide +kernel)
set_option maxRecDepth 20000 in
theorem gX0_readSetup_X0_readNumber : GoodIn wsX0_readSetup (wsV RX0 42 RX0 yX0_readNumber wsX0_readNumber) := goodIn_app (goodIn_of _ (by decide +kernel)) ggX0_readSetup_X0_readNumber
set_option maxRecDepth 20000 in
theorem ggX0_readSetup_X0_readSign : GoodIn wsX0_readSetup wsX0_readSign := goodIn_r _ [13, 9, 14, 15, 16, 17, 18, 19, 20, 21, 22] (by decide +kernel) (by decide +kernel)
set_option maxRecDepth 20000 in
theorem gX0_readSetup_X0_readSign : GoodIn wsX0_readSetup (wsV RX0 32 RX0 yX0_readSign wsX0_readSign) := goodIn_app (goodIn_of _ (by decide +kernel)) ggX0_readSetup_X0_readSign
theorem dX0_readSetup_0 : decode cX0_readSetup 0 = .ok (.aload_n 0, 1) := by decide +kernel
theorem dX0_readSetup_1 : decode cX0_readSetup 1 = .ok (.bipush 10, 2) := by decide +kernel
theorem dX0_readSetup_3 : decode cX0_readSetup 3 = .ok (.iconst 1, 1) := by decide +kernel
theorem dX0_readSetup_4 : decode cX0_readSetup 4 = .ok (.bipush 99, 2) := by decide +kernel
theorem dX0_readSetup_6 : decode cX0_readSetup 6 = .ok (.invokevirtual 42, 3) := by decide +kernel
theorem dX0_readSetup_9 : decode cX0_readSetup 9 = .ok (.ifCond .ne 5, 3) := by decide +kernel
theorem dX0_readSetup_12 : decode cX0_readSetup 12 = .ok (.iconst 0, 1) := by decide +kernel
theorem dX0_readSetup_13 : decode cX0_readSetup 13 = .ok (.ireturn, 1) := by decide +kernel
theorem dX0_readSetup_14 : decode cX0_readSetup 14 = .ok (.aload_n 0, 1) := by decide +kernel
theorem dX0_readSetup_15 : decode cX0_readSetup 15 = .ok (.aload_n 0, 1) := by decide +kernel
theorem dX0_readSetup_16 : decode cX0_readSetup 16 = .ok (.getfield 46, 3) := by decide +kernel
theorem dX0_readSetup_19 : decode cX0_readSetup 19 = .ok (.putfield 49, 3) := by decide +kernel
theorem dX0_readSetup_22 : decode cX0_readSetup 22 = .ok (.aload_n 0, 1) := by decide +kernel
theorem dX0_readSetup_23 : decode cX0_readSetup 23 = .ok (.aload_n 0, 1) := by decide +kernel
theorem dX0_readSetup_24 : decode cX0_readSetup 24 = .ok (.bipush 65, 2) := by decide +kernel
theorem dX0_readSetup_26 : decode cX0_readSetup 26 = .ok (.bipush 90, 2) := by decide +kernel
theorem dX0_readSetup_28 : decode cX0_readSetup 28 = .ok (.invokevirtual 32, 3) := by decide +kernel
theorem dX0_readSetup_31 : decode cX0_readSetup 31 = .ok (.bipush 65, 2) := by decide +kernel
theorem dX0_readSetup_33 : decode cX0_readSetup 33 = .ok (.isub, 1) := by decide +kernel
theorem dX0_readSetup_34 : decode cX0_readSetup 34 = .ok (.putfield 52, 3) := by decide +kernel
theorem dX0_readSetup_37 : decode cX0_readSetup 37 = .ok (.aload_n 0, 1) := by decide +kernel
theorem dX0_readSetup_38 : decode cX0_readSetup 38 = .ok (.getfield 52, 3) := by decide +kernel
theorem dX0_readSetup_41 : decode cX0_readSetup 41 = .ok (.ifCond .lt 7, 3) := by decide +kernel
theorem dX0_readSetup_44 : decode cX0_readSetup 44 = .ok (.iconst 1, 1) := by decide +kernel
theorem dX0_readSetup_45 : decode cX0_readSetup 45 = .ok (.goto 4, 3) := by decide +kernel
theorem dX0_readSetup_48 : decode cX0_readSetup 48 = .ok (.iconst 0, 1) := by decide +kernel
theorem dX0_readSetup_49 : decode cX0_readSetup 49 = .ok (.ireturn, 1) := by decide +kernel
set_option maxRecDepth 20000 in
theorem ggX0_readNumber_X0_readSign : GoodIn wsX0_readNumber wsX0_readSign := goodIn_r _ [7, 2, 8, 9, 10, 11, 12, 13, 14, 15, 16] (by decide +kernel) (by decide +kernel)
set_option maxRecDepth 20000 in
theorem gX0_readNumber_X0_readSign : GoodIn wsX0_readNumber (wsV RX0 32 RX0 yX0_readSign wsX0_readSign) := goodIn_app (goodIn_of _ (by decide +kernel)) ggX0_readNumber_X0_readSign
theorem dX0_readNumber_0 : decode cX0_readNumber 0 = .ok (.aload_n 0, 1) := by decide +kernel
theorem dX0_readNumber_1 : decode cX0_readNumber 1 = .ok (.iconst 0, 1) := by decide +kernel
theorem dX0_readNumber_2 : decode cX0_readNumber 2 = .ok (.putfield 46, 3) := by decide +kernel
theorem dX0_readNumber_5 : decode cX0_readNumber 5 = .ok (.iload_n 1, 1) := by decide +kernel
theorem dX0_readNumber_6 : decode cX0_readNumber 6 = .ok (.istore 4, 2) := by decide +kernel
theorem dX0_readNumber_8 : decode cX0_readNumber 8 = .ok (.iload 4, 2) := by decide +kernel
theorem dX0_readNumber_10 : decode cX0_readNumber 10 = .ok (.ifCond .le 80, 3) := by decide +kernel
theorem dX0_readNumber_13 : decode cX0_readNumber 13 = .ok (.aload_n 0, 1) := by decide +kernel
theorem dX0_readNumber_14 : decode cX0_readNumber 14 = .ok (.bipush 48, 2) := by decide +kernel
theorem dX0_readNumber_16 : decode cX0_readNumber 16 = .ok (.bipush 57, 2) := by decide +kernel
theorem dX0_readNumber_18 : decode cX0_readNumber 18 = .ok (.invokevirtual 32, 3) := by decide +kernel
theorem dX0_readNumber_21 : decode cX0_readNumber 21 = .ok (.bipush 48, 2) := by decide +kernel
theorem dX0_readNumber_23 : decode cX0_readNumber 23 = .ok (.isub, 1) := by decide +kernel
theorem dX0_readNumber_24 : decode cX0_readNumber 24 = .ok (.istore 5, 2) := by decide +kernel
theorem dX0_readNumber_26 : decode cX0_readNumber 26 = .ok (.iload 5, 2) := by decide +kernel
theorem dX0_readNumber_28 : decode cX0_readNumber 28 = .ok (.ifCond .ge 5, 3) := by decide +kernel
theorem dX0_readNumber_31 : decode cX0_readNumber 31 = .ok (.iconst 0, 1) := by decide +kernel
theorem dX0_readNumber_32 : decode cX0_readNumber 32 = .ok (.ireturn, 1) := by decide +kernel
theorem dX0_readNumber_33 : decode cX0_readNumber 33 = .ok (.aload_n 0, 1) := by decide +kernel
theorem dX0_readNumber_34 : decode cX0_readNumber 34 = .ok (.dup, 1) := by decide +kernel
theorem dX0_readNumber_35 : decode cX0_readNumber 35 = .ok (.getfield 46, 3) := by decide +kernel
theorem dX0_readNumber_38 : decode cX0_readNumber 38 = .ok (.iload 5, 2) := by decide +kernel
theorem dX0_readNumber_40 : decode cX0_readNumber 40 = .ok (.iload 4, 2) := by decide +kernel
theorem dX0_readNumber_42 : decode cX0_readNumber 42 = .ok (.imul, 1) := by decide +kernel
theorem dX0_readNumber_43 : decode cX0_readNumber 43 = .ok (.iadd, 1) := by decide +kernel
theorem dX0_readNumber_44 : decode cX0_readNumber 44 = .ok (.putfield 46, 3) := by decide +kernel
theorem dX0_readNumber_47 : decode cX0_readNumber 47 = .ok (.aload_n 0, 1) := by decide +kernel
theorem dX0_readNumber_48 : decode cX0_readNumber 48 = .ok (.getfield 46, 3) := by decide +kernel
theorem dX0_readNumber_51 : decode cX0_readNumber 51 = .ok (.iload_n 3, 1) := by decide +kernel
theorem dX0_readNumber_52 : decode cX0_readNumber 52 = .ok (.if_icmp .gt 16, 3) := by decide +kernel
theorem dX0_readNumber_55 : decode cX0_readNumber 55 = .ok (.aload_n 0, 1) := by decide +kernel
theorem dX0_readNumber_56 : decode cX0_readNumber 56 = .ok (.getfield 46, 3) := by decide +kernel
theorem dX0_readNumber_59 : decode cX0_readNumber 59 = .ok (.iload 4, 2) := by decide +kernel
theorem dX0_readNumber_61 : decode cX0_readNumber 61 = .ok (.iadd, 1) := by decide +kernel
theorem dX0_readNumber_62 : decode cX0_readNumber 62 = .ok (.iconst 1, 1) := by decide +kernel
theorem dX0_readNumber_63 : decode cX0_readNumber 63 = .ok (.isub, 1) := by decide +kernel
theorem dX0_readNumber_64 : decode cX0_readNumber 64 = .ok (.iload_n 2, 1) := by decide +kernel
theorem dX0_readNumber_65 : decode cX0_readNumber 65 = .ok (.if_icmp .ge 15, 3) := by decide +kernel
theorem dX0_readNumber_68 : decode cX0_readNumber 68 = .ok (.aload_n 0, 1) := by decide +kernel
theorem dX0_readNumber_69 : decode cX0_readNumber 69 = .ok (.dup, 1) := by decide +kernel
theorem dX0_readNumber_70 : decode cX0_readNumber 70 = .ok (.getfield 23, 3) := by decide +kernel
theorem dX0_readNumber_73 : decode cX0_readNumber 73 = .ok (.iconst 1, 1) := by decide +kernel
theorem dX0_readNumber_74 : decode cX0_readNumber 74 = .ok (.isub, 1) := by decide +kernel
theorem dX0_readNumber_75 : decode cX0_readNumber 75 = .ok (.putfield 23, 3) := by decide +kernel
theorem dX0_readNumber_78 : decode cX0_readNumber 78 = .ok (.iconst 0, 1) := by decide +kernel
theorem dX0_readNumber_79 : decode cX0_readNumber 79 = .ok (.ireturn, 1) := by decide +kernel
theorem dX0_readNumber_80 : decode cX0_readNumber 80 = .ok (.iload 4, 2) := by decide +kernel
theorem dX0_readNumber_82 : decode cX0_readNumber 82 = .ok (.bipush 10, 2) := by decide +kernel
theorem dX0_readNumber_84 : decode cX0_readNumber 84 = .ok (.idiv, 1) := by decide +kernel
theorem dX0_readNumber_85 : decode cX0_readNumber 85 = .ok (.istore 4, 2) := by decide +kernel
theorem dX0_readNumber_87 : decode cX0_readNumber 87 = .ok (.goto (-79), 3) := by decide +kernel
theorem dX0_readNumber_90 : decode cX0_readNumber 90 = .ok (.iconst 1, 1) := by decide +kernel
theorem dX0_readNumber_91 : decode cX0_readNumber 91 = .ok (.ireturn, 1) := by decide +kernel
theorem dX0_readSign_0 : decode cX0_readSign 0 = .ok (.aload_n 0, 1) := by decide +kernel
theorem dX0_readSign_1 : decode cX0_readSign 1 = .ok (.getfield 23, 3) := by decide +kernel
theorem dX0_readSign_4 : decode cX0_readSign 4 = .ok (.ifCond .lt 49, 3) := by decide +kernel
theorem dX0_readSign_7 : decode cX0_readSign 7 = .ok (.aload_n 0, 1) := by decide +kernel
theorem dX0_readSign_8 : decode cX0_readSign 8 = .ok (.getfield 23, 3) := by decide +kernel
theorem dX0_readSign_11 : decode cX0_readSign 11 = .ok (.aload_n 0, 1) := by decide +kernel
theorem dX0_readSign_12 : decode cX0_readSign 12 = .ok (.getfield 15, 3) := by decide +kernel
theorem dX0_readSign_15 : decode cX0_readSign 15 = .ok (.if_icmp .ge 38, 3) := by decide +kernel
theorem dX0_readSign_18 : decode cX0_readSign 18 = .ok (.aload_n 0, 1) := by decide +kernel
theorem dX0_readSign_19 : decode cX0_readSign 19 = .ok (.getfield 23, 3) := by decide +kernel
theorem dX0_readSign_22 : decode cX0_readSign 22 = .ok (.bipush 120, 2) := by decide +kernel
theorem dX0_readSign_24 : decode cX0_readSign 24 = .ok (.if_icmp .ge 29, 3) := by decide +kernel
theorem dX0_readSign_27 : decode cX0_readSign 27 = .ok (.aload_n 0, 1) := by decide +kernel
theorem dX0_readSign_28 : decode cX0_readSign 28 = .ok (.getfield 11, 3) := by decide +kernel
theorem dX0_readSign_31 : decode cX0_readSign 31 = .ok (.aload_n 0, 1) := by decide +kernel
theorem dX0_readSign_32 : decode cX0_readSign 32 = .ok (.getfield 23, 3) := by decide +kernel
theorem dX0_readSign_35 : decode cX0_readSign 35 = .ok (.caload, 1) := by decide +kernel
theorem dX0_readSign_36 : decode cX0_readSign 36 = .ok (.iload_n 1, 1) := by decide +kernel
theorem dX0_readSign_37 : decode cX0_readSign 37 = .ok (.if_icmp .lt 16, 3) := by decide +kernel
theorem dX0_readSign_40 : decode cX0_readSign 40 = .ok (.aload_n 0, 1) := by decide +kernel
theorem dX0_readSign_41 : decode cX0_readSign 41 = .ok (.getfield 11, 3) := by decide +kernel
theorem dX0_readSign_44 : decode cX0_readSign 44 = .ok (.aload_n 0, 1) := by decide +kernel
theorem dX0_readSign_45 : decode cX0_readSign 45 = .ok (.getfield 23, 3) := by decide +kernel
theorem dX0_readSign_48 : decode cX0_readSign 48 = .ok (.caload, 1) := by decide +kernel
theorem dX0_readSign_49 : decode cX0_readSign 49 = .ok (.iload_n 2, 1) := by decide +kernel
theorem dX0_readSign_50 : decode cX0_readSign 50 = .ok (.if_icmp .le 5, 3) := by decide +kernel
theorem dX0_readSign_53 : decode cX0_readSign 53 = .ok (.iconst (-1), 1) := by decide +kernel
theorem dX0_readSign_54 : decode cX0_readSign 54 = .ok (.ireturn, 1) := by decide +kernel
theorem dX0_readSign_55 : decode cX0_readSign 55 = .ok (.aload_n 0, 1) := by decide +kernel
theorem dX0_readSign_56 : decode cX0_readSign 56 = .ok (.getfield 11, 3) := by decide +kernel
theorem dX0_readSign_59 : decode cX0_readSign 59 = .ok (.aload_n 0, 1) := by decide +kernel
theorem dX0_readSign_60 : decode cX0_readSign 60 = .ok (.getfield 23, 3) := by decide +kernel
theorem dX0_readSign_63 : decode cX0_readSign 63 = .ok (.caload, 1) := by decide +kernel
theorem dX0_readSign_64 : decode cX0_readSign 64 = .ok (.istore_n 3, 1) := by decide +kernel
theorem dX0_readSign_65 : decode cX0_readSign 65 = .ok (.aload_n 0, 1) := by decide +kernel
theorem dX0_readSign_66 : decode cX0_readSign 66 = .ok (.dup, 1) := by decide +kernel
theorem dX0_readSign_67 : decode cX0_readSign 67 = .ok (.getfield 23, 3) := by decide +kernel
theorem dX0_readSign_70 : decode cX0_readSign 70 = .ok (.iconst 1, 1) := by decide +kernel
theorem dX0_readSign_71 : decode cX0_readSign 71 = .ok (.iadd, 1) := by decide +kernel
theorem dX0_readSign_72 : decode cX0_readSign 72 = .ok (.putfield 23, 3) := by decide +kernel
theorem dX0_readSign_75 : decode cX0_readSign 75 = .ok (.iload_n 3, 1) := by decide +kernel
theorem dX0_readSign_76 : decode cX0_readSign 76 = .ok (.ireturn, 1) := by decide +kernel
theorem dX1_init_0 : decode cX1_init 0 = .ok (.aload_n 0, 1) := by decide +kernel
theorem dX1_init_1 : decode cX1_init 1 = .ok (.invokespecial 3, 3) := by decide +kernel
theorem dX1_init_4 : decode cX1_init 4 = .ok (.aload_n 0, 1) := by decide +kernel
theorem dX1_init_5 : decode cX1_init 5 = .ok (.bipush 80, 2) := by decide +kernel
theorem dX1_init_7 : decode cX1_init 7 = .ok (.newarray .char, 2) := by decide +kernel
theorem dX1_init_9 : decode cX1_init 9 = .ok (.putfield 11, 3) := by decide +kernel
theorem dX1_init_12 : decode cX1_init 12 = .ok (.return_, 1) := by decide +kernel
set_option maxRecDepth 20000 in
theorem ggX1_write_X3_of : GoodIn wsX1_write wsX3_of := goodIn_r _ [6, 7, 50] (by decide +kernel) (by decide +kernel)
set_option maxRecDepth 20000 in
theorem gX1_write_X3_of : GoodIn wsX1_write (wsV RX1 19 RX3 yX3_of wsX3_of) := goodIn_app (goodIn_of _ (by decide +kernel)) ggX1_write_X3_of
set_option maxRecDepth 20000 in
theorem ggX1_write_X1_addNumber : GoodIn wsX1_write wsX1_addNumber := goodIn_r _ [12, 13, 14, 15, 16, 11, 17, 1, 18, 48, 49] (by decide +kernel) (by decide +kernel)
set_option maxRecDepth 20000 in
theorem gX1_write_X1_addNumber : GoodIn wsX1_write (wsV RX1 25 RX1 yX1_addNumber wsX1_addNumber) := goodIn_app (goodIn_of _ (by decide +kernel)) ggX1_write_X1_addNumber
set_option maxRecDepth 20000 in
theorem ggX1_write_X1_add : GoodIn wsX1_write wsX1_add := goodIn_r _ [17, 1, 18, 48, 49] (by decide +kernel) (by decide +kernel)
set_option maxRecDepth 20000 in
theorem gX1_write_X1_add : GoodIn wsX1_write (wsV RX1 29 RX1 yX1_add wsX1_add) := goodIn_app (goodIn_of _ (by decide +kernel)) ggX1_write_X1_add
set_option maxRecDepth 20000 in
theorem ggX1_write_X1_addIf : GoodIn wsX1_write wsX1_addIf := goodIn_r _ [22, 14, 15, 16, 11, 17, 1, 18, 48, 49] (by decide +kernel) (by decide +kernel)
set_option maxRecDepth 20000 in
theorem gX1_write_X1_addIf : GoodIn wsX1_write (wsV RX1 33 RX1 yX1_addIf wsX1_addIf) := goodIn_app (goodIn_of _ (by decide +kernel)) ggX1_write_X1_addIf
set_option maxRecDepth 20000 in
theorem ggX1_write_X3_isRight : GoodIn wsX1_write wsX3_isRight := goodIn_r _ [26, 27, 3, 4, 5, 6, 7, 28, 29, 30, 31, 32, 33, 34, 35, 36, 37, 38, 39, 50] (by decide +kernel) (by decide +kernel)
set_option maxRecDepth 20000 in
theorem gX1_write_X3_isRight : GoodIn wsX1_write (wsV RX1 37 RX3 yX3_isRight wsX3_isRight) := goodIn_app (goodIn_of _ (by decide +kernel)) ggX1_write_X3_isRight
set_option maxRecDepth 20000 in
theorem ggX1_write_X1_addPlace : GoodIn wsX1_write wsX1_addPlace := goodIn_r _ [43, 14, 15, 16, 11, 17, 1, 18, 8, 9, 10, 12, 13, 48, 49] (by decide +kernel) (by decide +kernel)
set_option maxRecDepth 20000 in
theorem gX1_write_X1_addPlace : GoodIn wsX1_write (wsV RX1 41 RX1 yX1_addPlace wsX1_addPlace) := goodIn_app (goodIn_of _ (by decide +kernel)) ggX1_write_X1_addPlace
set_option maxRecDepth 20000 in
theorem ggX1_write_X3_hasSound : GoodIn wsX1_write wsX3_hasSound := goodIn_r _ [47, 27, 3, 4, 5, 6, 7, 50] (by decide +kernel) (by decide +kernel)
set_option maxRecDepth 20000 in
theorem gX1_write_X3_hasSound : GoodIn wsX1_write (wsV RX1 45 RX3 yX3_hasSound wsX3_hasSound) := goodIn_app (goodIn_of _ (by decide +kernel)) ggX1_write_X3_hasSound
theorem dX1_write_0 : decode cX1_write 0 = .ok (.aload_n 0, 1) := by decide +kernel
theorem dX1_write_1 : decode cX1_write 1 = .ok (.iconst 0, 1) := by decide +kernel
theorem dX1_write_2 : decode cX1_write 2 = .ok (.putfield 15, 3) := by decide +kernel
theorem dX1_write_5 : decode cX1_write 5 = .ok (.aload_n 0, 1) := by decide +kernel
theorem dX1_write_6 : decode cX1_write 6 = .ok (.aload_n 1, 1) := by decide +kernel
theorem dX1_write_7 : decode cX1_write 7 = .ok (.iload_n 2, 1) := by decide +kernel
theorem dX1_write_8 : decode cX1_write 8 = .ok (.iconst 3, 1) := by decide +kernel
theorem dX1_write_9 : decode cX1_write 9 = .ok (.invokevirtual 19, 3) := by decide +kernel
theorem dX1_write_12 : decode cX1_write 12 = .ok (.invokevirtual 25, 3) := by decide +kernel
theorem dX1_write_15 : decode cX1_write 15 = .ok (.aload_n 0, 1) := by decide +kernel
theorem dX1_write_16 : decode cX1_write 16 = .ok (.bipush 65, 2) := by decide +kernel
theorem dX1_write_18 : decode cX1_write 18 = .ok (.aload_n 1, 1) := by decide +kernel
theorem dX1_write_19 : decode cX1_write 19 = .ok (.iload_n 2, 1) := by decide +kernel
theorem dX1_write_20 : decode cX1_write 20 = .ok (.iconst 4, 1) := by decide +kernel
theorem dX1_write_21 : decode cX1_write 21 = .ok (.invokevirtual 19, 3) := by decide +kernel
theorem dX1_write_24 : decode cX1_write 24 = .ok (.iadd, 1) := by decide +kernel
theorem dX1_write_25 : decode cX1_write 25 = .ok (.i2c, 1) := by decide +kernel
theorem dX1_write_26 : decode cX1_write 26 = .ok (.invokevirtual 29, 3) := by decide +kernel
theorem dX1_write_29 : decode cX1_write 29 = .ok (.aload_n 0, 1) := by decide +kernel
theorem dX1_write_30 : decode cX1_write 30 = .ok (.bipush 47, 2) := by decide +kernel
theorem dX1_write_32 : decode cX1_write 32 = .ok (.invokevirtual 29, 3) := by decide +kernel
theorem dX1_write_35 : decode cX1_write 35 = .ok (.aload_n 0, 1) := by decide +kernel
theorem dX1_write_36 : decode cX1_write 36 = .ok (.aload_n 1, 1) := by decide +kernel
theorem dX1_write_37 : decode cX1_write 37 = .ok (.iload_n 2, 1) := by decide +kernel
theorem dX1_write_38 : decode cX1_write 38 = .ok (.iconst 5, 1) := by decide +kernel
theorem dX1_write_39 : decode cX1_write 39 = .ok (.invokevirtual 19, 3) := by decide +kernel
theorem dX1_write_42 : decode cX1_write 42 = .ok (.invokevirtual 25, 3) := by decide +kernel
theorem dX1_write_45 : decode cX1_write 45 = .ok (.aload_n 0, 1) := by decide +kernel
theorem dX1_write_46 : decode cX1_write 46 = .ok (.aload_n 1, 1) := by decide +kernel
theorem dX1_write_47 : decode cX1_write 47 = .ok (.iload_n 2, 1) := by decide +kernel
theorem dX1_write_48 : decode cX1_write 48 = .ok (.bipush 14, 2) := by decide +kernel
theorem dX1_write_50 : decode cX1_write 50 = .ok (.invokevirtual 19, 3) := by decide +kernel
theorem dX1_write_53 : decode cX1_write 53 = .ok (.iconst 1, 1) := by decide +kernel
theorem dX1_write_54 : decode cX1_write 54 = .ok (.if_icmp .ne 7, 3) := by decide +kernel
theorem dX1_write_57 : decode cX1_write 57 = .ok (.iconst 1, 1) := by decide +kernel
theorem dX1_write_58 : decode cX1_write 58 = .ok (.goto 4, 3) := by decide +kernel
theorem dX1_write_61 : decode cX1_write 61 = .ok (.iconst 0, 1) := by decide +kernel
theorem dX1_write_62 : decode cX1_write 62 = .ok (.bipush 42, 2) := by decide +kernel
theorem dX1_write_64 : decode cX1_write 64 = .ok (.invokevirtual 33, 3) := by decide +kernel
theorem dX1_write_67 : decode cX1_write 67 = .ok (.aload_n 0, 1) := by decide +kernel
theorem dX1_write_68 : decode cX1_write 68 = .ok (.aload_n 1, 1) := by decide +kernel
theorem dX1_write_69 : decode cX1_write 69 = .ok (.iload_n 2, 1) := by decide +kernel
theorem dX1_write_70 : decode cX1_write 70 = .ok (.invokevirtual 37, 3) := by decide +kernel
theorem dX1_write_73 : decode cX1_write 73 = .ok (.ifCond .ne 7, 3) := by decide +kernel
theorem dX1_write_76 : decode cX1_write 76 = .ok (.iconst 1, 1) := by decide +kernel
theorem dX1_write_77 : decode cX1_write 77 = .ok (.goto 4, 3) := by decide +kernel
theorem dX1_write_80 : decode cX1_write 80 = .ok (.iconst 0, 1) := by decide +kernel
theorem dX1_write_81 : decode cX1_write 81 = .ok (.bipush 63, 2) := by decide +kernel
theorem dX1_write_83 : decode cX1_write 83 = .ok (.invokevirtual 33, 3) := by decide +kernel
theorem dX1_write_86 : decode cX1_write 86 = .ok (.aload_n 0, 1) := by decide +kernel
theorem dX1_write_87 : decode cX1_write 87 = .ok (.aload_n 1, 1) := by decide +kernel
theorem dX1_write_88 : decode cX1_write 88 = .ok (.iload_n 2, 1) := by decide +kernel
theorem dX1_write_89 : decode cX1_write 89 = .ok (.bipush 15, 2) := by decide +kernel
theorem dX1_write_91 : decode cX1_write 91 = .ok (.invokevirtual 19, 3) := by decide +kernel
theorem dX1_write_94 : decode cX1_write 94 = .ok (.iconst 1, 1) := by decide +kernel
theorem dX1_write_95 : decode cX1_write 95 = .ok (.if_icmp .ne 7, 3) := by decide +kernel
theorem dX1_write_98 : decode cX1_write 98 = .ok (.iconst 1, 1) := by decide +kernel
theorem dX1_write_99 : decode cX1_write 99 = .ok (.goto 4, 3) := by decide +kernel
theorem dX1_write_102 : decode cX1_write 102 = .ok (.iconst 0, 1) := by decide +kernel
theorem dX1_write_103 : decode cX1_write 103 = .ok (.bipush 120, 2) := by decide +kernel
theorem dX1_write_105 : decode cX1_write 105 = .ok (.invokevirtual 33, 3) := by decide +kernel
theorem dX1_write_108 : decode cX1_write 108 = .ok (.aload_n 0, 1) := by decide +kernel
theorem dX1_write_109 : decode cX1_write 109 = .ok (.bipush 99, 2) := by decide +kernel
theorem dX1_write_111 : decode cX1_write 111 = .ok (.aload_n 1, 1) := by decide +kernel
theorem dX1_write_112 : decode cX1_write 112 = .ok (.iload_n 2, 1) := by decide +kernel
theorem dX1_write_113 : decode cX1_write 113 = .ok (.bipush 6, 2) := by decide +kernel
theorem dX1_write_115 : decode cX1_write 115 = .ok (.invokevirtual 19, 3) := by decide +kernel
theorem dX1_write_118 : decode cX1_write 118 = .ok (.aload_n 1, 1) := by decide +kernel
theorem dX1_write_119 : decode cX1_write 119 = .ok (.iload_n 2, 1) := by decide +kernel
theorem dX1_write_120 : decode cX1_write 120 = .ok (.bipush 7, 2) := by decide +kernel
theorem dX1_write_122 : decode cX1_write 122 = .ok (.invokevirtual 19, 3) := by decide +kernel
theorem dX1_write_125 : decode cX1_write 125 = .ok (.invokevirtual 41, 3) := by decide +kernel
theorem dX1_write_128 : decode cX1_write 128 = .ok (.aload_n 1, 1) := by decide +kernel
theorem dX1_write_129 : decode cX1_write 129 = .ok (.iload_n 2, 1) := by decide +kernel
theorem dX1_write_130 : decode cX1_write 130 = .ok (.invokevirtual 45, 3) := by decide +kernel
theorem dX1_write_133 : decode cX1_write 133 = .ok (.ifCond .eq 23, 3) := by decide +kernel
theorem dX1_write_136 : decode cX1_write 136 = .ok (.aload_n 0, 1) := by decide +kernel
theorem dX1_write_137 : decode cX1_write 137 = .ok (.bipush 115, 2) := by decide +kernel
theorem dX1_write_139 : decode cX1_write 139 = .ok (.aload_n 1, 1) := by decide +kernel
theorem dX1_write_140 : decode cX1_write 140 = .ok (.iload_n 2, 1) := by decide +kernel
theorem dX1_write_141 : decode cX1_write 141 = .ok (.bipush 9, 2) := by decide +kernel
theorem dX1_write_143 : decode cX1_write 143 = .ok (.invokevirtual 19, 3) := by decide +kernel
theorem dX1_write_146 : decode cX1_write 146 = .ok (.aload_n 1, 1) := by decide +kernel
theorem dX1_write_147 : decode cX1_write 147 = .ok (.iload_n 2, 1) := by decide +kernel
theorem dX1_write_148 : decode cX1_write 148 = .ok (.bipush 11, 2) := by decide +kernel
theorem dX1_write_150 : decode cX1_write 150 = .ok (.invokevirtual 19, 3) := by decide +kernel
theorem dX1_write_153 : decode cX1_write 153 = .ok (.invokevirtual 41, 3) := by decide +kernel
theorem dX1_write_156 : decode cX1_write 156 = .ok (.return_, 1) := by decide +kernel
theorem dX1_signAt_0 : decode cX1_signAt 0 = .ok (.iload_n 1, 1) := by decide +kernel
theorem dX1_signAt_1 : decode cX1_signAt 1 = .ok (.ifCond .lt 17, 3) := by decide +kernel
theorem dX1_signAt_4 : decode cX1_signAt 4 = .ok (.iload_n 1, 1) := by decide +kernel
theorem dX1_signAt_5 : decode cX1_signAt 5 = .ok (.aload_n 0, 1) := by decide +kernel
theorem dX1_signAt_6 : decode cX1_signAt 6 = .ok (.getfield 15, 3) := by decide +kernel
theorem dX1_signAt_9 : decode cX1_signAt 9 = .ok (.if_icmp .ge 9, 3) := by decide +kernel
theorem dX1_signAt_12 : decode cX1_signAt 12 = .ok (.iload_n 1, 1) := by decide +kernel
theorem dX1_signAt_13 : decode cX1_signAt 13 = .ok (.bipush 80, 2) := by decide +kernel
theorem dX1_signAt_15 : decode cX1_signAt 15 = .ok (.if_icmp .lt 7, 3) := by decide +kernel
theorem dX1_signAt_18 : decode cX1_signAt 18 = .ok (.iconst (-1), 1) := by decide +kernel
theorem dX1_signAt_19 : decode cX1_signAt 19 = .ok (.goto 9, 3) := by decide +kernel
theorem dX1_signAt_22 : decode cX1_signAt 22 = .ok (.aload_n 0, 1) := by decide +kernel
theorem dX1_signAt_23 : decode cX1_signAt 23 = .ok (.getfield 11, 3) := by decide +kernel
theorem dX1_signAt_26 : decode cX1_signAt 26 = .ok (.iload_n 1, 1) := by decide +kernel
theorem dX1_signAt_27 : decode cX1_signAt 27 = .ok (.caload, 1) := by decide +kernel
theorem dX1_signAt_28 : decode cX1_signAt 28 = .ok (.ireturn, 1) := by decide +kernel
set_option maxRecDepth 20000 in
theorem ggX1_addPlace_X1_add : GoodIn wsX1_addPlace wsX1_add := goodIn_r _ [5, 6, 7, 13, 14] (by decide +kernel) (by decide +kernel)
set_option maxRecDepth 20000 in
theorem gX1_addPlace_X1_add : GoodIn wsX1_addPlace (wsV RX1 29 RX1 yX1_add wsX1_add) := goodIn_app (goodIn_of _ (by decide +kernel)) ggX1_addPlace_X1_add
set_option maxRecDepth 20000 in
theorem ggX1_addPlace_X1_addNumber : GoodIn wsX1_addPlace wsX1_addNumber := goodIn_r _ [11, 12, 1, 2, 3, 4, 5, 6, 7, 13, 14] (by decide +kernel) (by decide +kernel)
set_option maxRecDepth 20000 in
theorem gX1_addPlace_X1_addNumber : GoodIn wsX1_addPlace (wsV RX1 25 RX1 yX1_addNumber wsX1_addNumber) := goodIn_app (goodIn_of _ (by decide +kernel)) ggX1_addPlace_X1_addNumber
theorem dX1_addPlace_0 : decode cX1_addPlace 0 = .ok (.aload_n 0, 1) := by decide +kernel
theorem dX1_addPlace_1 : decode cX1_addPlace 1 = .ok (.bipush 32, 2) := by decide +kernel
theorem dX1_addPlace_3 : decode cX1_addPlace 3 = .ok (.invokevirtual 29, 3) := by decide +kernel
theorem dX1_addPlace_6 : decode cX1_addPlace 6 = .ok (.aload_n 0, 1) := by decide +kernel
theorem dX1_addPlace_7 : decode cX1_addPlace 7 = .ok (.iload_n 1, 1) := by decide +kernel
theorem dX1_addPlace_8 : decode cX1_addPlace 8 = .ok (.invokevirtual 29, 3) := by decide +kernel
theorem dX1_addPlace_11 : decode cX1_addPlace 11 = .ok (.aload_n 0, 1) := by decide +kernel
theorem dX1_addPlace_12 : decode cX1_addPlace 12 = .ok (.iload_n 2, 1) := by decide +kernel
theorem dX1_addPlace_13 : decode cX1_addPlace 13 = .ok (.invokevirtual 25, 3) := by decide +kernel
theorem dX1_addPlace_16 : decode cX1_addPlace 16 = .ok (.aload_n 0, 1) := by decide +kernel
theorem dX1_addPlace_17 : decode cX1_addPlace 17 = .ok (.bipush 58, 2) := by decide +kernel
theorem dX1_addPlace_19 : decode cX1_addPlace 19 = .ok (.invokevirtual 29, 3) := by decide +kernel
theorem dX1_addPlace_22 : decode cX1_addPlace 22 = .ok (.aload_n 0, 1) := by decide +kernel
theorem dX1_addPlace_23 : decode cX1_addPlace 23 = .ok (.iload_n 3, 1) := by decide +kernel
theorem dX1_addPlace_24 : decode cX1_addPlace 24 = .ok (.invokevirtual 25, 3) := by decide +kernel
theorem dX1_addPlace_27 : decode cX1_addPlace 27 = .ok (.return_, 1) := by decide +kernel
set_option maxRecDepth 20000 in
theorem ggX1_addNumber_X1_add : GoodIn wsX1_addNumber wsX1_add := goodIn_r _ [6, 7, 8, 9, 10] (by decide +kernel) (by decide +kernel)
set_option maxRecDepth 20000 in
theorem gX1_addNumber_X1_add : GoodIn wsX1_addNumber (wsV RX1 29 RX1 yX1_add wsX1_add) := goodIn_app (goodIn_of _ (by decide +kernel)) ggX1_addNumber_X1_add
theorem dX1_addNumber_0 : decode cX1_addNumber 0 = .ok (.ldc 48, 2) := by decide +kernel
theorem dX1_addNumber_2 : decode cX1_addNumber 2 = .ok (.istore_n 2, 1) := by decide +kernel
theorem dX1_addNumber_3 : decode cX1_addNumber 3 = .ok (.iload_n 2, 1) := by decide +kernel
theorem dX1_addNumber_4 : decode cX1_addNumber 4 = .ok (.ifCond .le 35, 3) := by decide +kernel
theorem dX1_addNumber_7 : decode cX1_addNumber 7 = .ok (.iload_n 2, 1) := by decide +kernel
theorem dX1_addNumber_8 : decode cX1_addNumber 8 = .ok (.iconst 1, 1) := by decide +kernel
theorem dX1_addNumber_9 : decode cX1_addNumber 9 = .ok (.if_icmp .eq 8, 3) := by decide +kernel
theorem dX1_addNumber_12 : decode cX1_addNumber 12 = .ok (.iload_n 1, 1) := by decide +kernel
theorem dX1_addNumber_13 : decode cX1_addNumber 13 = .ok (.iload_n 2, 1) := by decide +kernel
theorem dX1_addNumber_14 : decode cX1_addNumber 14 = .ok (.if_icmp .lt 17, 3) := by decide +kernel
theorem dX1_addNumber_17 : decode cX1_addNumber 17 = .ok (.aload_n 0, 1) := by decide +kernel
theorem dX1_addNumber_18 : decode cX1_addNumber 18 = .ok (.bipush 48, 2) := by decide +kernel
theorem dX1_addNumber_20 : decode cX1_addNumber 20 = .ok (.iload_n 1, 1) := by decide +kernel
theorem dX1_addNumber_21 : decode cX1_addNumber 21 = .ok (.iload_n 2, 1) := by decide +kernel
theorem dX1_addNumber_22 : decode cX1_addNumber 22 = .ok (.idiv, 1) := by decide +kernel
theorem dX1_addNumber_23 : decode cX1_addNumber 23 = .ok (.bipush 10, 2) := by decide +kernel
theorem dX1_addNumber_25 : decode cX1_addNumber 25 = .ok (.irem, 1) := by decide +kernel
theorem dX1_addNumber_26 : decode cX1_addNumber 26 = .ok (.iadd, 1) := by decide +kernel
theorem dX1_addNumber_27 : decode cX1_addNumber 27 = .ok (.i2c, 1) := by decide +kernel
theorem dX1_addNumber_28 : decode cX1_addNumber 28 = .ok (.invokevirtual 29, 3) := by decide +kernel
theorem dX1_addNumber_31 : decode cX1_addNumber 31 = .ok (.iload_n 2, 1) := by decide +kernel
theorem dX1_addNumber_32 : decode cX1_addNumber 32 = .ok (.bipush 10, 2) := by decide +kernel
theorem dX1_addNumber_34 : decode cX1_addNumber 34 = .ok (.idiv, 1) := by decide +kernel
theorem dX1_addNumber_35 : decode cX1_addNumber 35 = .ok (.istore_n 2, 1) := by decide +kernel
theorem dX1_addNumber_36 : decode cX1_addNumber 36 = .ok (.goto (-33), 3) := by decide +kernel
theorem dX1_addNumber_39 : decode cX1_addNumber 39 = .ok (.return_, 1) := by decide +kernel
set_option maxRecDepth 20000 in
theorem ggX1_addIf_X1_add : GoodIn wsX1_addIf wsX1_add := goodIn_r _ [5, 6, 7, 8, 9] (by decide +kernel) (by decide +kernel)
set_option maxRecDepth 20000 in
theorem gX1_addIf_X1_add : GoodIn wsX1_addIf (wsV RX1 29 RX1 yX1_add wsX1_add) := goodIn_app (goodIn_of _ (by decide +kernel)) ggX1_addIf_X1_add
theorem dX1_addIf_0 : decode cX1_addIf 0 = .ok (.iload_n 1, 1) := by decide +kernel
theorem dX1_addIf_1 : decode cX1_addIf 1 = .ok (.ifCond .eq 8, 3) := by decide +kernel
theorem dX1_addIf_4 : decode cX1_addIf 4 = .ok (.aload_n 0, 1) := by decide +kernel
theorem dX1_addIf_5 : decode cX1_addIf 5 = .ok (.iload_n 2, 1) := by decide +kernel
theorem dX1_addIf_6 : decode cX1_addIf 6 = .ok (.invokevirtual 29, 3) := by decide +kernel
theorem dX1_addIf_9 : decode cX1_addIf 9 = .ok (.return_, 1) := by decide +kernel
theorem dX1_add_0 : decode cX1_add 0 = .ok (.aload_n 0, 1) := by decide +kernel
theorem dX1_add_1 : decode cX1_add 1 = .ok (.getfield 15, 3) := by decide +kernel
theorem dX1_add_4 : decode cX1_add 4 = .ok (.bipush 80, 2) := by decide +kernel
theorem dX1_add_6 : decode cX1_add 6 = .ok (.if_icmp .ge 23, 3) := by decide +kernel
theorem dX1_add_9 : decode cX1_add 9 = .ok (.aload_n 0, 1) := by decide +kernel
theorem dX1_add_10 : decode cX1_add 10 = .ok (.getfield 11, 3) := by decide +kernel
theorem dX1_add_13 : decode cX1_add 13 = .ok (.aload_n 0, 1) := by decide +kernel
theorem dX1_add_14 : decode cX1_add 14 = .ok (.getfield 15, 3) := by decide +kernel
theorem dX1_add_17 : decode cX1_add 17 = .ok (.iload_n 1, 1) := by decide +kernel
theorem dX1_add_18 : decode cX1_add 18 = .ok (.castore, 1) := by decide +kernel
theorem dX1_add_19 : decode cX1_add 19 = .ok (.aload_n 0, 1) := by decide +kernel
theorem dX1_add_20 : decode cX1_add 20 = .ok (.dup, 1) := by decide +kernel
theorem dX1_add_21 : decode cX1_add 21 = .ok (.getfield 15, 3) := by decide +kernel
theorem dX1_add_24 : decode cX1_add 24 = .ok (.iconst 1, 1) := by decide +kernel
theorem dX1_add_25 : decode cX1_add 25 = .ok (.iadd, 1) := by decide +kernel
theorem dX1_add_26 : decode cX1_add 26 = .ok (.putfield 15, 3) := by decide +kernel
theorem dX1_add_29 : decode cX1_add 29 = .ok (.return_, 1) := by decide +kernel
theorem dX2_init_0 : decode cX2_init 0 = .ok (.aload_n 0, 1) := by decide +kernel
theorem dX2_init_1 : decode cX2_init 1 = .ok (.invokespecial 3, 3) := by decide +kernel
theorem dX2_init_4 : decode cX2_init 4 = .ok (.aload_n 0, 1) := by decide +kernel
theorem dX2_init_5 : decode cX2_init 5 = .ok (.iload_n 1, 1) := by decide +kernel
theorem dX2_init_6 : decode cX2_init 6 = .ok (.putfield 9, 3) := by decide +kernel
theorem dX2_init_9 : decode cX2_init 9 = .ok (.aload_n 0, 1) := by decide +kernel
theorem dX2_init_10 : decode cX2_init 10 = .ok (.iload_n 1, 1) := by decide +kernel
theorem dX2_init_11 : decode cX2_init 11 = .ok (.sipush 400, 3) := by decide +kernel
theorem dX2_init_14 : decode cX2_init 14 = .ok (.imul, 1) := by decide +kernel
theorem dX2_init_15 : decode cX2_init 15 = .ok (.newarray .int, 2) := by decide +kernel
theorem dX2_init_17 : decode cX2_init 17 = .ok (.putfield 15, 3) := by decide +kernel
theorem dX2_init_20 : decode cX2_init 20 = .ok (.return_, 1) := by decide +kernel
theorem dX2_store_0 : decode cX2_store 0 = .ok (.iload_n 1, 1) := by decide +kernel
theorem dX2_store_1 : decode cX2_store 1 = .ok (.ifCond .lt 31, 3) := by decide +kernel
theorem dX2_store_4 : decode cX2_store 4 = .ok (.iload_n 1, 1) := by decide +kernel
theorem dX2_store_5 : decode cX2_store 5 = .ok (.aload_n 0, 1) := by decide +kernel
theorem dX2_store_6 : decode cX2_store 6 = .ok (.getfield 9, 3) := by decide +kernel
theorem dX2_store_9 : decode cX2_store 9 = .ok (.if_icmp .ge 23, 3) := by decide +kernel
theorem dX2_store_12 : decode cX2_store 12 = .ok (.aload_n 2, 1) := by decide +kernel
theorem dX2_store_13 : decode cX2_store 13 = .ok (.getfield 19, 3) := by decide +kernel
theorem dX2_store_16 : decode cX2_store 16 = .ok (.iconst 0, 1) := by decide +kernel
theorem dX2_store_17 : decode cX2_store 17 = .ok (.aload_n 0, 1) := by decide +kernel
theorem dX2_store_18 : decode cX2_store 18 = .ok (.getfield 15, 3) := by decide +kernel
theorem dX2_store_21 : decode cX2_store 21 = .ok (.iload_n 1, 1) := by decide +kernel
theorem dX2_store_22 : decode cX2_store 22 = .ok (.sipush 400, 3) := by decide +kernel
theorem dX2_store_25 : decode cX2_store 25 = .ok (.imul, 1) := by decide +kernel
theorem dX2_store_26 : decode cX2_store 26 = .ok (.sipush 400, 3) := by decide +kernel
theorem dX2_store_29 : decode cX2_store 29 = .ok (.invokestatic 22, 3) := by decide +kernel
theorem dX2_store_32 : decode cX2_store 32 = .ok (.return_, 1) := by decide +kernel
theorem dX2_fetch_0 : decode cX2_fetch 0 = .ok (.iload_n 1, 1) := by decide +kernel
theorem dX2_fetch_1 : decode cX2_fetch 1 = .ok (.ifCond .lt 31, 3) := by decide +kernel
theorem dX2_fetch_4 : decode cX2_fetch 4 = .ok (.iload_n 1, 1) := by decide +kernel
theorem dX2_fetch_5 : decode cX2_fetch 5 = .ok (.aload_n 0, 1) := by decide +kernel
theorem dX2_fetch_6 : decode cX2_fetch 6 = .ok (.getfield 9, 3) := by decide +kernel
theorem dX2_fetch_9 : decode cX2_fetch 9 = .ok (.if_icmp .ge 23, 3) := by decide +kernel
theorem dX2_fetch_12 : decode cX2_fetch 12 = .ok (.aload_n 0, 1) := by decide +kernel
theorem dX2_fetch_13 : decode cX2_fetch 13 = .ok (.getfield 15, 3) := by decide +kernel
theorem dX2_fetch_16 : decode cX2_fetch 16 = .ok (.iload_n 1, 1) := by decide +kernel
theorem dX2_fetch_17 : decode cX2_fetch 17 = .ok (.sipush 400, 3) := by decide +kernel
theorem dX2_fetch_20 : decode cX2_fetch 20 = .ok (.imul, 1) := by decide +kernel
theorem dX2_fetch_21 : decode cX2_fetch 21 = .ok (.aload_n 2, 1) := by decide +kernel
theorem dX2_fetch_22 : decode cX2_fetch 22 = .ok (.getfield 19, 3) := by decide +kernel
theorem dX2_fetch_25 : decode cX2_fetch 25 = .ok (.iconst 0, 1) := by decide +kernel
theorem dX2_fetch_26 : decode cX2_fetch 26 = .ok (.sipush 400, 3) := by decide +kernel
theorem dX2_fetch_29 : decode cX2_fetch 29 = .ok (.invokestatic 22, 3) := by decide +kernel
theorem dX2_fetch_32 : decode cX2_fetch 32 = .ok (.return_, 1) := by decide +kernel
theorem dJ6_bitCount_0f7a4_0 : decode cJ6_bitCount_0f7a4 0 = .ok (.iload_n 0, 1) := by decide +kernel
theorem dJ6_bitCount_0f7a4_1 : decode cJ6_bitCount_0f7a4 1 = .ok (.iload_n 0, 1) := by decide +kernel
theorem dJ6_bitCount_0f7a4_2 : decode cJ6_bitCount_0f7a4 2 = .ok (.iconst 1, 1) := by decide +kernel
theorem dJ6_bitCount_0f7a4_3 : decode cJ6_bitCount_0f7a4 3 = .ok (.iushr, 1) := by decide +kernel
theorem dJ6_bitCount_0f7a4_4 : decode cJ6_bitCount_0f7a4 4 = .ok (.ldc_w 265, 3) := by decide +kernel
theorem dJ6_bitCount_0f7a4_7 : decode cJ6_bitCount_0f7a4 7 = .ok (.iand, 1) := by decide +kernel
theorem dJ6_bitCount_0f7a4_8 : decode cJ6_bitCount_0f7a4 8 = .ok (.isub, 1) := by decide +kernel
theorem dJ6_bitCount_0f7a4_9 : decode cJ6_bitCount_0f7a4 9 = .ok (.istore_n 0, 1) := by decide +kernel
theorem dJ6_bitCount_0f7a4_10 : decode cJ6_bitCount_0f7a4 10 = .ok (.iload_n 0, 1) := by decide +kernel
theorem dJ6_bitCount_0f7a4_11 : decode cJ6_bitCount_0f7a4 11 = .ok (.ldc_w 266, 3) := by decide +kernel
theorem dJ6_bitCount_0f7a4_14 : decode cJ6_bitCount_0f7a4 14 = .ok (.iand, 1) := by decide +kernel
theorem dJ6_bitCount_0f7a4_15 : decode cJ6_bitCount_0f7a4 15 = .ok (.iload_n 0, 1) := by decide +kernel
theorem dJ6_bitCount_0f7a4_16 : decode cJ6_bitCount_0f7a4 16 = .ok (.iconst 2, 1) := by decide +kernel
theorem dJ6_bitCount_0f7a4_17 : decode cJ6_bitCount_0f7a4 17 = .ok (.iushr, 1) := by decide +kernel
theorem dJ6_bitCount_0f7a4_18 : decode cJ6_bitCount_0f7a4 18 = .ok (.ldc_w 266, 3) := by decide +kernel
theorem dJ6_bitCount_0f7a4_21 : decode cJ6_bitCount_0f7a4 21 = .ok (.iand, 1) := by decide +kernel
theorem dJ6_bitCount_0f7a4_22 : decode cJ6_bitCount_0f7a4 22 = .ok (.iadd, 1) := by decide +kernel
theorem dJ6_bitCount_0f7a4_23 : decode cJ6_bitCount_0f7a4 23 = .ok (.istore_n 0, 1) := by decide +kernel
theorem dJ6_bitCount_0f7a4_24 : decode cJ6_bitCount_0f7a4 24 = .ok (.iload_n 0, 1) := by decide +kernel
theorem dJ6_bitCount_0f7a4_25 : decode cJ6_bitCount_0f7a4 25 = .ok (.iload_n 0, 1) := by decide +kernel
theorem dJ6_bitCount_0f7a4_26 : decode cJ6_bitCount_0f7a4 26 = .ok (.iconst 4, 1) := by decide +kernel
theorem dJ6_bitCount_0f7a4_27 : decode cJ6_bitCount_0f7a4 27 = .ok (.iushr, 1) := by decide +kernel
theorem dJ6_bitCount_0f7a4_28 : decode cJ6_bitCount_0f7a4 28 = .ok (.iadd, 1) := by decide +kernel
theorem dJ6_bitCount_0f7a4_29 : decode cJ6_bitCount_0f7a4 29 = .ok (.ldc_w 267, 3) := by decide +kernel
theorem dJ6_bitCount_0f7a4_32 : decode cJ6_bitCount_0f7a4 32 = .ok (.iand, 1) := by decide +kernel
theorem dJ6_bitCount_0f7a4_33 : decode cJ6_bitCount_0f7a4 33 = .ok (.istore_n 0, 1) := by decide +kernel
theorem dJ6_bitCount_0f7a4_34 : decode cJ6_bitCount_0f7a4 34 = .ok (.iload_n 0, 1) := by decide +kernel
theorem dJ6_bitCount_0f7a4_35 : decode cJ6_bitCount_0f7a4 35 = .ok (.iload_n 0, 1) := by decide +kernel
theorem dJ6_bitCount_0f7a4_36 : decode cJ6_bitCount_0f7a4 36 = .ok (.bipush 8, 2) := by decide +kernel
theorem dJ6_bitCount_0f7a4_38 : decode cJ6_bitCount_0f7a4 38 = .ok (.iushr, 1) := by decide +kernel
theorem dJ6_bitCount_0f7a4_39 : decode cJ6_bitCount_0f7a4 39 = .ok (.iadd, 1) := by decide +kernel
theorem dJ6_bitCount_0f7a4_40 : decode cJ6_bitCount_0f7a4 40 = .ok (.istore_n 0, 1) := by decide +kernel
theorem dJ6_bitCount_0f7a4_41 : decode cJ6_bitCount_0f7a4 41 = .ok (.iload_n 0, 1) := by decide +kernel
theorem dJ6_bitCount_0f7a4_42 : decode cJ6_bitCount_0f7a4 42 = .ok (.iload_n 0, 1) := by decide +kernel
theorem dJ6_bitCount_0f7a4_43 : decode cJ6_bitCount_0f7a4 43 = .ok (.bipush 16, 2) := by decide +kernel
theorem dJ6_bitCount_0f7a4_45 : decode cJ6_bitCount_0f7a4 45 = .ok (.iushr, 1) := by decide +kernel
theorem dJ6_bitCount_0f7a4_46 : decode cJ6_bitCount_0f7a4 46 = .ok (.iadd, 1) := by decide +kernel
theorem dJ6_bitCount_0f7a4_47 : decode cJ6_bitCount_0f7a4 47 = .ok (.istore_n 0, 1) := by decide +kernel
theorem dJ6_bitCount_0f7a4_48 : decode cJ6_bitCount_0f7a4 48 = .ok (.iload_n 0, 1) := by decide +kernel
theorem dJ6_bitCount_0f7a4_49 : decode cJ6_bitCount_0f7a4 49 = .ok (.bipush 63, 2) := by decide +kernel
theorem dJ6_bitCount_0f7a4_51 : decode cJ6_bitCount_0f7a4 51 = .ok (.iand, 1) := by decide +kernel
theorem dJ6_bitCount_0f7a4_52 : decode cJ6_bitCount_0f7a4 52 = .ok (.ireturn, 1) := by decide +kernel
theorem dJ9_abs_0f7a4_0 : decode cJ9_abs_0f7a4 0 = .ok (.iload_n 0, 1) := by decide +kernel
theorem dJ9_abs_0f7a4_1 : decode cJ9_abs_0f7a4 1 = .ok (.ifCond .ge 8, 3) := by decide +kernel
theorem dJ9_abs_0f7a4_4 : decode cJ9_abs_0f7a4 4 = .ok (.iload_n 0, 1) := by decide +kernel
theorem dJ9_abs_0f7a4_5 : decode cJ9_abs_0f7a4 5 = .ok (.ineg, 1) := by decide +kernel
theorem dJ9_abs_0f7a4_6 : decode cJ9_abs_0f7a4 6 = .ok (.goto 4, 3) := by decide +kernel
theorem dJ9_abs_0f7a4_9 : decode cJ9_abs_0f7a4 9 = .ok (.iload_n 0, 1) := by decide +kernel
theorem dJ9_abs_0f7a4_10 : decode cJ9_abs_0f7a4 10 = .ok (.ireturn, 1) := by decide +kernel
theorem dJ9_max_7cf53_0 : decode cJ9_max_7cf53 0 = .ok (.iload_n 0, 1) := by decide +kernel
theorem dJ9_max_7cf53_1 : decode cJ9_max_7cf53 1 = .ok (.iload_n 1, 1) := by decide +kernel
theorem dJ9_max_7cf53_2 : decode cJ9_max_7cf53 2 = .ok (.if_icmp .lt 7, 3) := by decide +kernel
theorem dJ9_max_7cf53_5 : decode cJ9_max_7cf53 5 = .ok (.iload_n 0, 1) := by decide +kernel
theorem dJ9_max_7cf53_6 : decode cJ9_max_7cf53 6 = .ok (.goto 4, 3) := by decide +kernel
theorem dJ9_max_7cf53_9 : decode cJ9_max_7cf53 9 = .ok (.iload_n 1, 1) := by decide +kernel
theorem dJ9_max_7cf53_10 : decode cJ9_max_7cf53 10 = .ok (.ireturn, 1) := by decide +kernel
theorem dJ9_min_7cf53_0 : decode cJ9_min_7cf53 0 = .ok (.iload_n 0, 1) := by decide +kernel
theorem dJ9_min_7cf53_1 : decode cJ9_min_7cf53 1 = .ok (.iload_n 1, 1) := by decide +kernel
theorem dJ9_min_7cf53_2 : decode cJ9_min_7cf53 2 = .ok (.if_icmp .gt 7, 3) := by decide +kernel
theorem dJ9_min_7cf53_5 : decode cJ9_min_7cf53 5 = .ok (.iload_n 0, 1) := by decide +kernel
theorem dJ9_min_7cf53_6 : decode cJ9_min_7cf53 6 = .ok (.goto 4, 3) := by decide +kernel
theorem dJ9_min_7cf53_9 : decode cJ9_min_7cf53 9 = .ok (.iload_n 1, 1) := by decide +kernel
theorem dJ9_min_7cf53_10 : decode cJ9_min_7cf53 10 = .ok (.ireturn, 1) := by decide +kernel
theorem dJ7_fill_53178_0 : decode cJ7_fill_53178 0 = .ok (.iconst 0, 1) := by decide +kernel
theorem dJ7_fill_53178_1 : decode cJ7_fill_53178 1 = .ok (.istore_n 2, 1) := by decide +kernel
theorem dJ7_fill_53178_2 : decode cJ7_fill_53178 2 = .ok (.aload_n 0, 1) := by decide +kernel
theorem dJ7_fill_53178_3 : decode cJ7_fill_53178 3 = .ok (.arraylength, 1) := by decide +kernel
theorem dJ7_fill_53178_4 : decode cJ7_fill_53178 4 = .ok (.istore_n 3, 1) := by decide +kernel
theorem dJ7_fill_53178_5 : decode cJ7_fill_53178 5 = .ok (.iload_n 2, 1) := by decide +kernel
theorem dJ7_fill_53178_6 : decode cJ7_fill_53178 6 = .ok (.iload_n 3, 1) := by decide +kernel
theorem dJ7_fill_53178_7 : decode cJ7_fill_53178 7 = .ok (.if_icmp .ge 13, 3) := by decide +kernel
theorem dJ7_fill_53178_10 : decode cJ7_fill_53178 10 = .ok (.aload_n 0, 1) := by decide +kernel
theorem dJ7_fill_53178_11 : decode cJ7_fill_53178 11 = .ok (.iload_n 2, 1) := by decide +kernel
theorem dJ7_fill_53178_12 : decode cJ7_fill_53178 12 = .ok (.iload_n 1, 1) := by decide +kernel
theorem dJ7_fill_53178_13 : decode cJ7_fill_53178 13 = .ok (.iastore, 1) := by decide +kernel
theorem dJ7_fill_53178_14 : decode cJ7_fill_53178 14 = .ok (.iinc 2 1, 3) := by decide +kernel
theorem dJ7_fill_53178_17 : decode cJ7_fill_53178 17 = .ok (.goto (-12), 3) := by decide +kernel
theorem dJ7_fill_53178_20 : decode cJ7_fill_53178 20 = .ok (.return_, 1) := by decide +kernel
