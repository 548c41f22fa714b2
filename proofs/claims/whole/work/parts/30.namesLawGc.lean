set_option maxRecDepth 20000 in
theorem ggL_law_X5_fix : GoodIn wsL_law wsX5_fix := goodIn_r _ [663, 68, 231, 232, 5, 233, 106, 107, 108, 109, 110, 111, 112, 113, 567, 568, 569, 570, 368, 70, 369, 370, 371, 664, 665, 666, 243, 244, 245, 200, 201, 202, 246, 247, 248, 197, 198, 199, 222, 223, 224, 945, 946, 947, 948, 949, 950, 951, 952, 953, 954, 955, 956, 957] (by decide +kernel) (by decide +kernel)
set_option maxRecDepth 20000 in
theorem gL_law_X5_fix : GoodIn wsL_law (wsV RL 160 RX5 yX5_fix wsX5_fix) := goodIn_app (goodIn_of _ (by decide +kernel)) ggL_law_X5_fix
set_option maxRecDepth 20000 in
theorem ggL_law_L_off : GoodIn wsL_law wsL_off := goodIn_ca (goodIn_r _ [669, 81, 670, 671, 672, 2, 673, 87, 88, 17, 546, 547, 548, 549, 261, 262, 22, 550, 551, 552, 21, 553, 52, 53, 554, 555, 556, 557, 360, 361, 362, 16, 363, 39, 936, 937, 938, 939, 940, 941, 942, 943, 944, 959, 960, 958] (by decide +kernel) (by decide +kernel)) (goodIn_sub (fun _ h => List.mem_append_left _ (List.mem_append_left _ (List.mem_append_right _ h))) (by decide +kernel))
set_option maxRecDepth 20000 in
theorem gL_law_L_off : GoodIn wsL_law (va_wsS RL 161 yL_off wsL_off) := goodIn_app (goodIn_of _ (by decide +kernel)) ggL_law_L_off
set_option maxRecDepth 20000 in
theorem ggL_law_X5_off : GoodIn wsL_law wsX5_off := goodIn_r _ [677, 678, 566, 68, 106, 107, 5, 108, 109, 110, 111, 112, 113, 567, 568, 569, 570, 368, 70, 369, 370, 371, 945, 946, 947, 948, 949, 950, 951, 952, 953, 954, 955, 956, 957] (by decide +kernel) (by decide +kernel)
set_option maxRecDepth 20000 in
theorem gL_law_X5_off : GoodIn wsL_law (wsV RL 163 RX5 yX5_off wsX5_off) := goodIn_app (goodIn_of _ (by decide +kernel)) ggL_law_X5_off
set_option maxRecDepth 20000 in
theorem ggL_law_L_set : GoodIn wsL_law wsL_set := goodIn_ca (goodIn_r _ [681, 81, 682, 683, 684, 2, 685, 87, 88, 17, 686, 687, 688, 689, 690, 546, 547, 548, 549, 261, 262, 22, 550, 551, 552, 21, 553, 52, 53, 554, 555, 556, 557, 691, 692, 693, 16, 694, 39, 321, 322, 323, 324, 936, 937, 938, 939, 940, 941, 942, 943, 944, 959, 960, 958] (by decide +kernel) (by decide +kernel)) (goodIn_sub (fun _ h => List.mem_append_left _ (List.mem_append_left _ (List.mem_append_right _ h))) (by decide +kernel))
set_option maxRecDepth 20000 in
theorem gL_law_L_set : GoodIn wsL_law (va_wsS RL 164 yL_set wsL_set) := goodIn_app (goodIn_of _ (by decide +kernel)) ggL_law_L_set
set_option maxRecDepth 20000 in
theorem ggL_law_X5_set : GoodIn wsL_law wsX5_set := goodIn_r _ [698, 68, 699, 700, 5, 701, 535, 702, 703, 704, 106, 107, 108, 109, 110, 111, 112, 113, 567, 568, 569, 570, 368, 70, 369, 370, 371, 945, 946, 947, 948, 949, 950, 951, 952, 953, 954, 955, 956, 957] (by decide +kernel) (by decide +kernel)
set_option maxRecDepth 20000 in
theorem gL_law_X5_set : GoodIn wsL_law (wsV RL 166 RX5 yX5_set wsX5_set) := goodIn_app (goodIn_of _ (by decide +kernel)) ggL_law_X5_set
set_option maxRecDepth 20000 in
theorem ggL_law_L_undo : GoodIn wsL_law wsL_undo := goodIn_ca (goodIn_r _ [707, 82, 708, 709, 710, 2, 711, 89, 90, 261, 22, 262, 17, 712, 713, 714, 21, 715, 52, 53, 554, 555, 556, 557, 936, 937, 938, 939, 940, 941, 942, 943, 944, 959, 960, 958] (by decide +kernel) (by decide +kernel)) (goodIn_sub (fun _ h => List.mem_append_left _ (List.mem_append_right _ h)) (by decide +kernel))
set_option maxRecDepth 20000 in
theorem gL_law_L_undo : GoodIn wsL_law (va_wsS RL 167 yL_undo wsL_undo) := goodIn_app (goodIn_of _ (by decide +kernel)) ggL_law_L_undo
set_option maxRecDepth 20000 in
theorem ggL_law_X5_undo : GoodIn wsL_law wsX5_undo := goodIn_r _ [719, 368, 70, 68, 109, 110, 111, 5, 112, 113, 369, 370, 371, 945, 946, 947, 948, 949, 950, 951, 952, 953, 954, 955, 956, 957] (by decide +kernel) (by decide +kernel)
set_option maxRecDepth 20000 in
theorem gL_law_X5_undo : GoodIn wsL_law (wsV RL 169 RX5 yX5_undo wsX5_undo) := goodIn_app (goodIn_of _ (by decide +kernel)) ggL_law_X5_undo
set_option maxRecDepth 20000 in
theorem ggL_law_X4_find : GoodIn wsL_law wsX4_find := goodIn_r _ [723, 17, 724, 725, 726, 16, 727, 290, 291, 292, 293, 39, 399, 400, 401, 402, 298, 299, 300, 301, 728, 729, 730, 731, 395, 396, 397, 398, 294, 295, 296, 297, 936, 937, 938, 939, 940, 941, 942, 943, 944, 958] (by decide +kernel) (by decide +kernel)
set_option maxRecDepth 20000 in
theorem gL_law_X4_find : GoodIn wsL_law (wsV RL 170 RX4 yX4_find wsX4_find) := goodIn_app (goodIn_of _ (by decide +kernel)) ggL_law_X4_find
set_option maxRecDepth 20000 in
theorem ggL_law_X5_find : GoodIn wsL_law wsX5_find := goodIn_r _ [735, 113, 68, 200, 201, 5, 202, 246, 247, 248, 197, 198, 199, 945, 946, 947, 948, 949, 950, 951, 952, 953, 954, 955, 956, 957] (by decide +kernel) (by decide +kernel)
set_option maxRecDepth 20000 in
theorem gL_law_X5_find : GoodIn wsL_law (wsV RL 174 RX5 yX5_find wsX5_find) := goodIn_app (goodIn_of _ (by decide +kernel)) ggL_law_X5_find
set_option maxRecDepth 20000 in
theorem ggL_law_X4_atCamera : GoodIn wsL_law wsX4_atCamera := goodIn_r _ [739, 17, 740, 291, 292, 16, 293, 39, 741, 299, 300, 301, 742, 743, 744, 745, 298, 936, 937, 938, 939, 940, 941, 942, 943, 944, 958] (by decide +kernel) (by decide +kernel)
set_option maxRecDepth 20000 in
theorem gL_law_X4_atCamera : GoodIn wsL_law (wsV RL 175 RX4 yX4_atCamera wsX4_atCamera) := goodIn_app (goodIn_of _ (by decide +kernel)) ggL_law_X4_atCamera
set_option maxRecDepth 20000 in
theorem ggL_law_X5_atCamera : GoodIn wsL_law wsX5_atCamera := goodIn_r _ [749, 113, 68, 750, 751, 5, 752, 200, 201, 202, 945, 946, 947, 948, 949, 950, 951, 952, 953, 954, 955, 956, 957] (by decide +kernel) (by decide +kernel)
set_option maxRecDepth 20000 in
theorem gL_law_X5_atCamera : GoodIn wsL_law (wsV RL 178 RX5 yX5_atCamera wsX5_atCamera) := goodIn_app (goodIn_of _ (by decide +kernel)) ggL_law_X5_atCamera
set_option maxRecDepth 20000 in
theorem ggL_law_X4_atSound : GoodIn wsL_law wsX4_atSound := goodIn_r _ [756, 17, 740, 291, 292, 16, 293, 39, 757, 427, 428, 429, 298, 299, 300, 301, 741, 742, 743, 744, 745, 936, 937, 938, 939, 940, 941, 942, 943, 944, 958] (by decide +kernel) (by decide +kernel)
set_option maxRecDepth 20000 in
theorem gL_law_X4_atSound : GoodIn wsL_law (wsV RL 179 RX4 yX4_atSound wsX4_atSound) := goodIn_app (goodIn_of _ (by decide +kernel)) ggL_law_X4_atSound
set_option maxRecDepth 20000 in
theorem ggL_law_X5_atSound : GoodIn wsL_law wsX5_atSound := goodIn_r _ [761, 113, 68, 750, 751, 5, 752, 200, 201, 202, 945, 946, 947, 948, 949, 950, 951, 952, 953, 954, 955, 956, 957] (by decide +kernel) (by decide +kernel)
set_option maxRecDepth 20000 in
theorem gL_law_X5_atSound : GoodIn wsL_law (wsV RL 182 RX5 yX5_atSound wsX5_atSound) := goodIn_app (goodIn_of _ (by decide +kernel)) ggL_law_X5_atSound
set_option maxRecDepth 20000 in
theorem ggL_law_X4_atTime : GoodIn wsL_law wsX4_atTime := goodIn_r _ [765, 17, 740, 291, 292, 16, 293, 39, 742, 743, 744, 745, 298, 299, 300, 301, 936, 937, 938, 939, 940, 941, 942, 943, 944, 958] (by decide +kernel) (by decide +kernel)
set_option maxRecDepth 20000 in
theorem gL_law_X4_atTime : GoodIn wsL_law (wsV RL 183 RX4 yX4_atTime wsX4_atTime) := goodIn_app (goodIn_of _ (by decide +kernel)) ggL_law_X4_atTime
set_option maxRecDepth 20000 in
theorem ggL_law_X5_atTime : GoodIn wsL_law wsX5_atTime := goodIn_r _ [769, 113, 68, 750, 751, 5, 752, 200, 201, 202, 945, 946, 947, 948, 949, 950, 951, 952, 953, 954, 955, 956, 957] (by decide +kernel) (by decide +kernel)
set_option maxRecDepth 20000 in
theorem gL_law_X5_atTime : GoodIn wsL_law (wsV RL 186 RX5 yX5_atTime wsX5_atTime) := goodIn_app (goodIn_of _ (by decide +kernel)) ggL_law_X5_atTime
set_option maxRecDepth 20000 in
theorem ggL_law_X4_byFile : GoodIn wsL_law wsX4_byFile := goodIn_r _ [773, 17, 740, 291, 292, 16, 293, 39, 757, 427, 428, 429, 298, 299, 300, 301, 741, 936, 937, 938, 939, 940, 941, 942, 943, 944, 958] (by decide +kernel) (by decide +kernel)
set_option maxRecDepth 20000 in
theorem gL_law_X4_byFile : GoodIn wsL_law (wsV RL 187 RX4 yX4_byFile wsX4_byFile) := goodIn_app (goodIn_of _ (by decide +kernel)) ggL_law_X4_byFile
set_option maxRecDepth 20000 in
theorem ggL_law_X5_byFile : GoodIn wsL_law wsX5_byFile := goodIn_r _ [777, 113, 68, 200, 201, 5, 202, 945, 946, 947, 948, 949, 950, 951, 952, 953, 954, 955, 956, 957] (by decide +kernel) (by decide +kernel)
set_option maxRecDepth 20000 in
theorem gL_law_X5_byFile : GoodIn wsL_law (wsV RL 190 RX5 yX5_byFile wsX5_byFile) := goodIn_app (goodIn_of _ (by decide +kernel)) ggL_law_X5_byFile
set_option maxRecDepth 20000 in
theorem ggL_law_L_synced : GoodIn wsL_law wsL_synced := goodIn_ca (goodIn_r _ [780, 454, 781, 782, 783, 2, 784, 459, 460, 17, 461, 357, 358, 16, 359, 39, 785, 423, 424, 425, 298, 299, 300, 301, 290, 291, 292, 293, 426, 427, 428, 429, 430, 431, 432, 433, 936, 937, 938, 939, 940, 941, 942, 943, 944, 958] (by decide +kernel) (by decide +kernel)) (goodIn_sub (fun _ h => List.mem_append_right _ h) (by decide +kernel))
set_option maxRecDepth 20000 in
theorem gL_law_L_synced : GoodIn wsL_law (va_wsS RL 191 yL_synced wsL_synced) := goodIn_app (goodIn_of _ (by decide +kernel)) ggL_law_L_synced
