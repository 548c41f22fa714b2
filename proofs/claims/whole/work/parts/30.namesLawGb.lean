set_option maxRecDepth 20000 in
theorem ggL_law_X5_setting : GoodIn wsL_law wsX5_setting := goodIn_r _ [534, 535, 68, 106, 107, 5, 108, 109, 110, 111, 112, 113, 945, 946, 947, 948, 949, 950, 951, 952, 953, 954, 955, 956, 957] (by decide +kernel) (by decide +kernel)
set_option maxRecDepth 20000 in
theorem gL_law_X5_setting : GoodIn wsL_law (wsV RL 128 RX5 yX5_setting wsX5_setting) := goodIn_app (goodIn_of _ (by decide +kernel)) ggL_law_X5_setting
set_option maxRecDepth 20000 in
theorem ggL_law_L_call : GoodIn wsL_law wsL_call := goodIn_ca (goodIn_r _ [538, 81, 539, 540, 541, 2, 542, 87, 88, 17, 543, 544, 545, 546, 547, 548, 549, 261, 262, 22, 550, 551, 552, 21, 553, 52, 53, 554, 555, 556, 557, 274, 275, 276, 16, 277, 39, 558, 287, 288, 289, 290, 291, 292, 293, 294, 295, 296, 297, 298, 299, 300, 301, 936, 937, 938, 939, 940, 941, 942, 943, 944, 959, 960, 958] (by decide +kernel) (by decide +kernel)) (goodIn_sub (fun _ h => List.mem_append_left _ (List.mem_append_left _ (List.mem_append_right _ h))) (by decide +kernel))
set_option maxRecDepth 20000 in
theorem gL_law_L_call : GoodIn wsL_law (va_wsS RL 129 yL_call wsL_call) := goodIn_app (goodIn_of _ (by decide +kernel)) ggL_law_L_call
set_option maxRecDepth 20000 in
theorem ggL_law_X5_call : GoodIn wsL_law wsX5_call := goodIn_r _ [562, 68, 563, 564, 5, 565, 566, 190, 106, 107, 108, 109, 110, 111, 112, 113, 567, 568, 569, 570, 368, 70, 369, 370, 371, 191, 192, 193, 194, 195, 196, 197, 198, 199, 200, 201, 202, 945, 946, 947, 948, 949, 950, 951, 952, 953, 954, 955, 956, 957] (by decide +kernel) (by decide +kernel)
set_option maxRecDepth 20000 in
theorem gL_law_X5_call : GoodIn wsL_law (wsV RL 131 RX5 yX5_call wsX5_call) := goodIn_app (goodIn_of _ (by decide +kernel)) ggL_law_X5_call
set_option maxRecDepth 20000 in
theorem ggL_law_L_board : GoodIn wsL_law wsL_board := goodIn_ca (goodIn_r _ [573, 81, 574, 575, 576, 2, 577, 87, 88, 17, 543, 544, 545, 546, 547, 548, 549, 261, 262, 22, 550, 551, 552, 21, 553, 52, 53, 554, 555, 556, 557, 278, 279, 280, 16, 281, 39, 578, 579, 580, 581, 286, 287, 288, 289, 290, 291, 292, 293, 294, 295, 296, 297, 298, 299, 300, 301, 936, 937, 938, 939, 940, 941, 942, 943, 944, 959, 960, 958] (by decide +kernel) (by decide +kernel)) (goodIn_sub (fun _ h => List.mem_append_left _ (List.mem_append_left _ (List.mem_append_right _ h))) (by decide +kernel))
set_option maxRecDepth 20000 in
theorem gL_law_L_board : GoodIn wsL_law (va_wsS RL 132 yL_board wsL_board) := goodIn_app (goodIn_of _ (by decide +kernel)) ggL_law_L_board
set_option maxRecDepth 20000 in
theorem ggL_law_X5_board : GoodIn wsL_law wsX5_board := goodIn_r _ [585, 566, 68, 563, 564, 5, 565, 190, 106, 107, 108, 109, 110, 111, 112, 113, 567, 568, 569, 570, 368, 70, 369, 370, 371, 207, 208, 209, 194, 195, 196, 197, 198, 199, 200, 201, 202, 945, 946, 947, 948, 949, 950, 951, 952, 953, 954, 955, 956, 957] (by decide +kernel) (by decide +kernel)
set_option maxRecDepth 20000 in
theorem gL_law_X5_board : GoodIn wsL_law (wsV RL 135 RX5 yX5_board wsX5_board) := goodIn_app (goodIn_of _ (by decide +kernel)) ggL_law_X5_board
set_option maxRecDepth 20000 in
theorem ggL_law_X4_right : GoodIn wsL_law wsX4_right := goodIn_r _ [589, 17, 546, 547, 548, 2, 549, 261, 262, 22, 550, 551, 552, 21, 553, 52, 53, 554, 555, 556, 557, 282, 283, 284, 16, 285, 39, 286, 287, 288, 289, 290, 291, 292, 293, 294, 295, 296, 297, 298, 299, 300, 301, 302, 279, 280, 281, 558, 936, 937, 938, 939, 940, 941, 942, 943, 944, 959, 960, 958] (by decide +kernel) (by decide +kernel)
set_option maxRecDepth 20000 in
theorem gL_law_X4_right : GoodIn wsL_law (wsV RL 136 RX4 yX4_right wsX4_right) := goodIn_app (goodIn_of _ (by decide +kernel)) ggL_law_X4_right
set_option maxRecDepth 20000 in
theorem ggL_law_X5_right : GoodIn wsL_law wsX5_right := goodIn_r _ [593, 113, 68, 567, 568, 569, 5, 570, 368, 70, 369, 370, 371, 210, 211, 212, 194, 195, 196, 197, 198, 199, 200, 201, 202, 207, 208, 209, 945, 946, 947, 948, 949, 950, 951, 952, 953, 954, 955, 956, 957] (by decide +kernel) (by decide +kernel)
set_option maxRecDepth 20000 in
theorem gL_law_X5_right : GoodIn wsL_law (wsV RL 139 RX5 yX5_right wsX5_right) := goodIn_app (goodIn_of _ (by decide +kernel)) ggL_law_X5_right
set_option maxRecDepth 20000 in
theorem ggL_law_L_shoot : GoodIn wsL_law wsL_shoot := goodIn_ca (goodIn_ca (goodIn_r _ [596, 81, 82, 597, 598, 599, 2, 600, 87, 88, 89, 90, 17, 601, 307, 308, 602, 310, 311, 16, 312, 290, 291, 292, 293, 39, 313, 314, 315, 316, 317, 318, 319, 320, 321, 322, 323, 324, 546, 547, 548, 549, 261, 262, 22, 550, 551, 552, 21, 553, 52, 53, 554, 555, 556, 557, 603, 326, 327, 328, 329, 330, 331, 332, 333, 334, 335, 336, 337, 338, 339, 340, 341, 342, 343, 298, 299, 300, 301, 936, 937, 938, 939, 940, 941, 942, 943, 944, 958, 959, 960] (by decide +kernel) (by decide +kernel)) (goodIn_sub (fun _ h => List.mem_append_left _ (List.mem_append_left _ (List.mem_append_right _ h))) (by decide +kernel))) (goodIn_sub (fun _ h => List.mem_append_left _ (List.mem_append_right _ h)) (by decide +kernel))
set_option maxRecDepth 20000 in
theorem gL_law_L_shoot : GoodIn wsL_law (va_wsS RL 140 yL_shoot wsL_shoot) := goodIn_app (goodIn_of _ (by decide +kernel)) ggL_law_L_shoot
set_option maxRecDepth 20000 in
theorem ggL_law_X5_shoot : GoodIn wsL_law wsX5_shoot := goodIn_r _ [607, 608, 68, 106, 107, 5, 108, 213, 214, 215, 216, 217, 218, 109, 110, 111, 112, 113, 567, 568, 569, 570, 368, 70, 369, 370, 371, 219, 220, 221, 222, 223, 224, 945, 946, 947, 948, 949, 950, 951, 952, 953, 954, 955, 956, 957] (by decide +kernel) (by decide +kernel)
set_option maxRecDepth 20000 in
theorem gL_law_X5_shoot : GoodIn wsL_law (wsV RL 143 RX5 yX5_shoot wsX5_shoot) := goodIn_app (goodIn_of _ (by decide +kernel)) ggL_law_X5_shoot
set_option maxRecDepth 20000 in
theorem ggL_law_X4_newCamera : GoodIn wsL_law wsX4_newCamera := goodIn_r _ [612, 17, 546, 547, 548, 2, 549, 261, 262, 22, 550, 551, 552, 21, 553, 52, 53, 554, 555, 556, 557, 344, 345, 346, 16, 347, 39, 936, 937, 938, 939, 940, 941, 942, 943, 944, 959, 960, 958] (by decide +kernel) (by decide +kernel)
set_option maxRecDepth 20000 in
theorem gL_law_X4_newCamera : GoodIn wsL_law (wsV RL 144 RX4 yX4_newCamera wsX4_newCamera) := goodIn_app (goodIn_of _ (by decide +kernel)) ggL_law_X4_newCamera
set_option maxRecDepth 20000 in
theorem ggL_law_X5_newCamera : GoodIn wsL_law wsX5_newCamera := goodIn_r _ [616, 113, 68, 567, 568, 569, 5, 570, 368, 70, 369, 370, 371, 225, 226, 227, 945, 946, 947, 948, 949, 950, 951, 952, 953, 954, 955, 956, 957] (by decide +kernel) (by decide +kernel)
set_option maxRecDepth 20000 in
theorem gL_law_X5_newCamera : GoodIn wsL_law (wsV RL 147 RX5 yX5_newCamera wsX5_newCamera) := goodIn_app (goodIn_of _ (by decide +kernel)) ggL_law_X5_newCamera
set_option maxRecDepth 20000 in
theorem ggL_law_X4_newSound : GoodIn wsL_law wsX4_newSound := goodIn_r _ [620, 17, 546, 547, 548, 2, 549, 261, 262, 22, 550, 551, 552, 21, 553, 52, 53, 554, 555, 556, 557, 348, 349, 350, 16, 351, 39, 936, 937, 938, 939, 940, 941, 942, 943, 944, 959, 960, 958] (by decide +kernel) (by decide +kernel)
set_option maxRecDepth 20000 in
theorem gL_law_X4_newSound : GoodIn wsL_law (wsV RL 148 RX4 yX4_newSound wsX4_newSound) := goodIn_app (goodIn_of _ (by decide +kernel)) ggL_law_X4_newSound
set_option maxRecDepth 20000 in
theorem ggL_law_X5_newSound : GoodIn wsL_law wsX5_newSound := goodIn_r _ [624, 113, 68, 567, 568, 569, 5, 570, 368, 70, 369, 370, 371, 228, 229, 230, 945, 946, 947, 948, 949, 950, 951, 952, 953, 954, 955, 956, 957] (by decide +kernel) (by decide +kernel)
set_option maxRecDepth 20000 in
theorem gL_law_X5_newSound : GoodIn wsL_law (wsV RL 151 RX5 yX5_newSound wsX5_newSound) := goodIn_app (goodIn_of _ (by decide +kernel)) ggL_law_X5_newSound
set_option maxRecDepth 20000 in
theorem ggL_law_L_circle : GoodIn wsL_law wsL_circle := goodIn_ca (goodIn_r _ [627, 454, 628, 629, 630, 2, 631, 459, 460, 17, 461, 357, 358, 16, 359, 39, 546, 547, 548, 549, 261, 262, 22, 550, 551, 552, 21, 553, 52, 53, 554, 555, 556, 557, 352, 353, 354, 355, 356, 332, 333, 334, 335, 632, 411, 412, 413, 290, 291, 292, 293, 298, 299, 300, 301, 936, 937, 938, 939, 940, 941, 942, 943, 944, 958, 959, 960] (by decide +kernel) (by decide +kernel)) (goodIn_sub (fun _ h => List.mem_append_right _ h) (by decide +kernel))
set_option maxRecDepth 20000 in
theorem gL_law_L_circle : GoodIn wsL_law (va_wsS RL 152 yL_circle wsL_circle) := goodIn_app (goodIn_of _ (by decide +kernel)) ggL_law_L_circle
set_option maxRecDepth 20000 in
theorem ggL_law_X5_circle : GoodIn wsL_law wsX5_circle := goodIn_r _ [636, 68, 231, 232, 5, 233, 106, 107, 108, 109, 110, 111, 112, 113, 567, 568, 569, 570, 368, 70, 369, 370, 371, 234, 235, 236, 222, 223, 224, 237, 238, 239, 200, 201, 202, 240, 241, 242, 243, 244, 245, 246, 247, 248, 197, 198, 199, 945, 946, 947, 948, 949, 950, 951, 952, 953, 954, 955, 956, 957] (by decide +kernel) (by decide +kernel)
set_option maxRecDepth 20000 in
theorem gL_law_X5_circle : GoodIn wsL_law (wsV RL 154 RX5 yX5_circle wsX5_circle) := goodIn_app (goodIn_of _ (by decide +kernel)) ggL_law_X5_circle
set_option maxRecDepth 20000 in
theorem ggL_law_L_falseStart : GoodIn wsL_law wsL_falseStart := goodIn_ca (goodIn_r _ [639, 454, 640, 641, 642, 2, 643, 459, 460, 17, 461, 357, 358, 16, 359, 39, 546, 547, 548, 549, 261, 262, 22, 550, 551, 552, 21, 553, 52, 53, 554, 555, 556, 557, 352, 353, 354, 355, 356, 332, 333, 334, 335, 644, 384, 385, 386, 387, 388, 389, 390, 290, 291, 292, 293, 391, 392, 393, 394, 298, 299, 300, 301, 395, 396, 397, 398, 294, 295, 296, 297, 399, 400, 401, 402, 403, 404, 405, 406, 407, 408, 409, 936, 937, 938, 939, 940, 941, 942, 943, 944, 958, 959, 960] (by decide +kernel) (by decide +kernel)) (goodIn_sub (fun _ h => List.mem_append_right _ h) (by decide +kernel))
set_option maxRecDepth 20000 in
theorem gL_law_L_falseStart : GoodIn wsL_law (va_wsS RL 155 yL_falseStart wsL_falseStart) := goodIn_app (goodIn_of _ (by decide +kernel)) ggL_law_L_falseStart
set_option maxRecDepth 20000 in
theorem ggL_law_X5_falseStart : GoodIn wsL_law wsX5_falseStart := goodIn_r _ [648, 68, 231, 232, 5, 233, 106, 107, 108, 109, 110, 111, 112, 113, 567, 568, 569, 570, 368, 70, 369, 370, 371, 234, 235, 236, 222, 223, 224, 237, 238, 239, 200, 201, 202, 240, 241, 242, 243, 244, 245, 246, 247, 248, 197, 198, 199, 945, 946, 947, 948, 949, 950, 951, 952, 953, 954, 955, 956, 957] (by decide +kernel) (by decide +kernel)
set_option maxRecDepth 20000 in
theorem gL_law_X5_falseStart : GoodIn wsL_law (wsV RL 157 RX5 yX5_falseStart wsX5_falseStart) := goodIn_app (goodIn_of _ (by decide +kernel)) ggL_law_X5_falseStart
set_option maxRecDepth 20000 in
theorem ggL_law_L_fix : GoodIn wsL_law wsL_fix := goodIn_ca (goodIn_r _ [651, 454, 652, 653, 654, 2, 655, 459, 460, 17, 461, 357, 358, 16, 359, 39, 546, 547, 548, 549, 261, 262, 22, 550, 551, 552, 21, 553, 52, 53, 554, 555, 556, 557, 656, 657, 658, 659, 356, 391, 392, 393, 394, 298, 299, 300, 301, 395, 396, 397, 398, 294, 295, 296, 297, 399, 400, 401, 402, 332, 333, 334, 335, 936, 937, 938, 939, 940, 941, 942, 943, 944, 958, 959, 960] (by decide +kernel) (by decide +kernel)) (goodIn_sub (fun _ h => List.mem_append_right _ h) (by decide +kernel))
set_option maxRecDepth 20000 in
theorem gL_law_L_fix : GoodIn wsL_law (va_wsS RL 158 yL_fix wsL_fix) := goodIn_app (goodIn_of _ (by decide +kernel)) ggL_law_L_fix
