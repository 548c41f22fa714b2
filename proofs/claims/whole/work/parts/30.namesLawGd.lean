set_option maxRecDepth 20000 in
theorem ggL_law_X5_synced : GoodIn wsL_law wsX5_synced := goodIn_r _ [789, 68, 231, 232, 5, 233, 106, 107, 108, 109, 110, 111, 112, 113, 445, 446, 447, 200, 201, 202, 448, 449, 450, 945, 946, 947, 948, 949, 950, 951, 952, 953, 954, 955, 956, 957] (by decide +kernel) (by decide +kernel)
set_option maxRecDepth 20000 in
theorem gL_law_X5_synced : GoodIn wsL_law (wsV RL 193 RX5 yX5_synced wsX5_synced) := goodIn_app (goodIn_of _ (by decide +kernel)) ggL_law_X5_synced
set_option maxRecDepth 20000 in
theorem ggL_law_X4_bestShift : GoodIn wsL_law wsX4_bestShift := goodIn_r _ [793, 17, 794, 795, 796, 16, 797, 290, 291, 292, 293, 39, 426, 427, 428, 429, 298, 299, 300, 301, 798, 799, 800, 801, 802, 803, 319, 804, 422, 423, 424, 425, 430, 431, 432, 433, 805, 806, 807, 808, 936, 937, 938, 939, 940, 941, 942, 943, 944, 958] (by decide +kernel) (by decide +kernel)
set_option maxRecDepth 20000 in
theorem gL_law_X4_bestShift : GoodIn wsL_law (wsV RL 194 RX4 yX4_bestShift wsX4_bestShift) := goodIn_app (goodIn_of _ (by decide +kernel)) ggL_law_X4_bestShift
set_option maxRecDepth 20000 in
theorem ggL_law_X5_bestShift : GoodIn wsL_law wsX5_bestShift := goodIn_r _ [812, 113, 68, 813, 814, 5, 815, 200, 201, 202, 445, 446, 447, 448, 449, 450, 945, 946, 947, 948, 949, 950, 951, 952, 953, 954, 955, 956, 957] (by decide +kernel) (by decide +kernel)
set_option maxRecDepth 20000 in
theorem gL_law_X5_bestShift : GoodIn wsL_law (wsV RL 197 RX5 yX5_bestShift wsX5_bestShift) := goodIn_app (goodIn_of _ (by decide +kernel)) ggL_law_X5_bestShift
set_option maxRecDepth 20000 in
theorem ggL_law_L_rolls : GoodIn wsL_law wsL_rolls := goodIn_ca (goodIn_r _ [818, 81, 819, 820, 821, 2, 822, 87, 88, 17, 823, 330, 319, 331, 601, 307, 308, 824, 314, 315, 16, 316, 39, 317, 318, 320, 321, 322, 323, 324, 530, 936, 937, 938, 939, 940, 941, 942, 943, 944, 958] (by decide +kernel) (by decide +kernel)) (goodIn_sub (fun _ h => List.mem_append_left _ (List.mem_append_left _ (List.mem_append_right _ h))) (by decide +kernel))
set_option maxRecDepth 20000 in
theorem gL_law_L_rolls : GoodIn wsL_law (va_wsS RL 198 yL_rolls wsL_rolls) := goodIn_app (goodIn_of _ (by decide +kernel)) ggL_law_L_rolls
set_option maxRecDepth 20000 in
theorem ggL_law_X5_rolls : GoodIn wsL_law wsX5_rolls := goodIn_r _ [828, 608, 566, 68, 106, 107, 5, 108, 109, 110, 111, 112, 113, 216, 217, 218, 945, 946, 947, 948, 949, 950, 951, 952, 953, 954, 955, 956, 957] (by decide +kernel) (by decide +kernel)
set_option maxRecDepth 20000 in
theorem gL_law_X5_rolls : GoodIn wsL_law (wsV RL 200 RX5 yX5_rolls wsX5_rolls) := goodIn_app (goodIn_of _ (by decide +kernel)) ggL_law_X5_rolls
set_option maxRecDepth 20000 in
theorem ggL_law_L_ifFalse : GoodIn wsL_law wsL_ifFalse := goodIn_ca (goodIn_r _ [831, 454, 832, 833, 834, 2, 835, 459, 460, 17, 18, 461, 357, 358, 16, 359, 39, 836, 837, 838, 839, 840, 555, 556, 557, 741, 299, 300, 301, 352, 353, 354, 355, 356, 332, 333, 334, 335, 841, 388, 389, 390, 290, 291, 292, 293, 391, 392, 393, 394, 298, 395, 396, 397, 398, 294, 295, 296, 297, 399, 400, 401, 402, 936, 937, 938, 939, 940, 941, 942, 943, 944, 958] (by decide +kernel) (by decide +kernel)) (goodIn_sub (fun _ h => List.mem_append_right _ h) (by decide +kernel))
set_option maxRecDepth 20000 in
theorem gL_law_L_ifFalse : GoodIn wsL_law (va_wsS RL 201 yL_ifFalse wsL_ifFalse) := goodIn_app (goodIn_of _ (by decide +kernel)) ggL_law_L_ifFalse
set_option maxRecDepth 20000 in
theorem ggL_law_X5_ifFalse : GoodIn wsL_law wsX5_ifFalse := goodIn_r _ [845, 68, 69, 231, 232, 5, 233, 106, 107, 108, 109, 110, 111, 112, 113, 369, 370, 371, 200, 201, 202, 222, 223, 224, 243, 244, 245, 246, 247, 248, 197, 198, 199, 945, 946, 947, 948, 949, 950, 951, 952, 953, 954, 955, 956, 957] (by decide +kernel) (by decide +kernel)
set_option maxRecDepth 20000 in
theorem gL_law_X5_ifFalse : GoodIn wsL_law (wsV RL 203 RX5 yX5_ifFalse wsX5_ifFalse) := goodIn_app (goodIn_of _ (by decide +kernel)) ggL_law_X5_ifFalse
set_option maxRecDepth 20000 in
theorem ggL_law_L_scene : GoodIn wsL_law wsL_scene := goodIn_ca (goodIn_r _ [848, 81, 849, 850, 851, 2, 852, 87, 88, 17, 853, 854, 855, 16, 856, 290, 291, 292, 293, 39, 298, 299, 300, 301, 403, 404, 405, 406, 407, 408, 409, 936, 937, 938, 939, 940, 941, 942, 943, 944, 958] (by decide +kernel) (by decide +kernel)) (goodIn_sub (fun _ h => List.mem_append_left _ (List.mem_append_left _ (List.mem_append_right _ h))) (by decide +kernel))
set_option maxRecDepth 20000 in
theorem gL_law_L_scene : GoodIn wsL_law (va_wsS RL 204 yL_scene wsL_scene) := goodIn_app (goodIn_of _ (by decide +kernel)) ggL_law_L_scene
set_option maxRecDepth 20000 in
theorem ggL_law_X5_scene : GoodIn wsL_law wsX5_scene := goodIn_r _ [860, 861, 68, 106, 107, 5, 108, 109, 110, 111, 112, 113, 200, 201, 202, 945, 946, 947, 948, 949, 950, 951, 952, 953, 954, 955, 956, 957] (by decide +kernel) (by decide +kernel)
set_option maxRecDepth 20000 in
theorem gL_law_X5_scene : GoodIn wsL_law (wsV RL 206 RX5 yX5_scene wsX5_scene) := goodIn_app (goodIn_of _ (by decide +kernel)) ggL_law_X5_scene
set_option maxRecDepth 20000 in
theorem ggL_law_L_runScript : GoodIn wsL_law wsL_runScript := goodIn_ca (goodIn_r _ [864, 81, 865, 866, 867, 2, 868, 87, 88, 18, 17, 869, 870, 871, 872, 836, 837, 838, 16, 839, 39, 840, 555, 556, 557, 873, 874, 875, 876, 303, 304, 305, 306, 307, 308, 309, 310, 311, 312, 290, 291, 292, 293, 313, 314, 315, 316, 317, 318, 319, 320, 321, 322, 323, 324, 325, 326, 327, 328, 329, 330, 331, 332, 333, 334, 335, 336, 337, 338, 339, 340, 341, 342, 343, 298, 299, 300, 301, 877, 878, 879, 880, 348, 349, 350, 351, 344, 345, 346, 347, 352, 353, 354, 355, 356, 357, 358, 359, 543, 544, 545, 274, 275, 276, 277, 282, 283, 284, 285, 286, 287, 288, 289, 294, 295, 296, 297, 302, 279, 280, 281, 461, 881, 392, 393, 394, 395, 396, 397, 398, 399, 400, 401, 402, 644, 384, 385, 386, 387, 388, 389, 390, 391, 403, 404, 405, 406, 407, 408, 409, 785, 423, 424, 425, 426, 427, 428, 429, 430, 431, 432, 433, 824, 936, 937, 938, 939, 940, 941, 942, 943, 944, 958] (by decide +kernel) (by decide +kernel)) (goodIn_sub (fun _ h => List.mem_append_left _ (List.mem_append_left _ (List.mem_append_right _ h))) (by decide +kernel))
set_option maxRecDepth 20000 in
theorem gL_law_L_runScript : GoodIn wsL_law (va_wsS RL 209 yL_runScript wsL_runScript) := goodIn_app (goodIn_of _ (by decide +kernel)) ggL_law_L_runScript
set_option maxRecDepth 20000 in
theorem ggL_law_X5_runScript : GoodIn wsL_law wsX5_runScript := goodIn_r _ [885, 886, 535, 68, 69, 106, 107, 5, 108, 109, 110, 111, 112, 113, 369, 370, 371, 887, 888, 889, 608, 213, 214, 215, 216, 217, 218, 219, 220, 221, 222, 223, 224, 228, 229, 230, 225, 226, 227, 231, 232, 233, 234, 235, 236, 237, 238, 239, 200, 201, 202, 240, 241, 242, 243, 244, 245, 246, 247, 248, 197, 198, 199, 563, 564, 565, 566, 190, 191, 192, 193, 194, 195, 196, 210, 211, 212, 207, 208, 209, 445, 446, 447, 448, 449, 450, 945, 946, 947, 948, 949, 950, 951, 952, 953, 954, 955, 956, 957] (by decide +kernel) (by decide +kernel)
set_option maxRecDepth 20000 in
theorem gL_law_X5_runScript : GoodIn wsL_law (wsV RL 212 RX5 yX5_runScript wsX5_runScript) := goodIn_app (goodIn_of _ (by decide +kernel)) ggL_law_X5_runScript
set_option maxRecDepth 20000 in
theorem ggL_law_L_simulate : GoodIn wsL_law wsL_simulate := goodIn_ca (goodIn_r _ [892, 81, 893, 894, 895, 2, 896, 87, 88, 18, 17, 897, 898, 836, 837, 838, 16, 839, 39, 840, 555, 556, 557, 899, 900, 901, 902, 274, 275, 276, 277, 282, 283, 284, 285, 286, 287, 288, 289, 290, 291, 292, 293, 294, 295, 296, 297, 298, 299, 300, 301, 302, 279, 280, 281, 278, 344, 345, 346, 347, 348, 349, 350, 351, 352, 353, 354, 355, 356, 357, 358, 359, 332, 333, 334, 335, 360, 361, 362, 363, 656, 657, 658, 659, 391, 392, 393, 394, 395, 396, 397, 398, 399, 400, 401, 402, 303, 304, 305, 306, 307, 308, 309, 310, 311, 312, 313, 314, 315, 316, 317, 318, 319, 320, 321, 322, 323, 324, 325, 326, 327, 328, 329, 330, 331, 336, 337, 338, 339, 340, 341, 342, 343, 644, 384, 385, 386, 387, 388, 389, 390, 403, 404, 405, 406, 407, 408, 409, 903, 419, 420, 421, 422, 423, 424, 425, 426, 427, 428, 429, 430, 431, 432, 433, 936, 937, 938, 939, 940, 941, 942, 943, 944, 958] (by decide +kernel) (by decide +kernel)) (goodIn_sub (fun _ h => List.mem_append_left _ (List.mem_append_left _ (List.mem_append_right _ h))) (by decide +kernel))
set_option maxRecDepth 20000 in
theorem gL_law_L_simulate : GoodIn wsL_law (va_wsS RL 213 yL_simulate wsL_simulate) := goodIn_app (goodIn_of _ (by decide +kernel)) ggL_law_L_simulate
set_option maxRecDepth 20000 in
theorem ggL_law_X5_simulate : GoodIn wsL_law wsX5_simulate := goodIn_r _ [907, 908, 68, 69, 909, 910, 106, 107, 5, 108, 109, 110, 111, 112, 113, 369, 370, 371, 911, 912, 913, 191, 192, 193, 194, 195, 196, 197, 198, 199, 200, 201, 202, 210, 211, 212, 207, 208, 209, 225, 226, 227, 228, 229, 230, 231, 232, 233, 234, 235, 236, 222, 223, 224, 237, 238, 239, 240, 241, 242, 243, 244, 245, 246, 247, 248, 664, 665, 666, 213, 214, 215, 216, 217, 218, 219, 220, 221, 442, 443, 444, 445, 446, 447, 448, 449, 450, 945, 946, 947, 948, 949, 950, 951, 952, 953, 954, 955, 956, 957] (by decide +kernel) (by decide +kernel)
set_option maxRecDepth 20000 in
theorem gL_law_X5_simulate : GoodIn wsL_law (wsV RL 216 RX5 yX5_simulate wsX5_simulate) := goodIn_app (goodIn_of _ (by decide +kernel)) ggL_law_X5_simulate
set_option maxRecDepth 20000 in
theorem ggL_law_L_save : GoodIn wsL_law wsL_save := goodIn_ca (goodIn_r _ [916, 454, 917, 918, 919, 2, 920, 459, 460, 23, 17, 25, 550, 551, 552, 21, 553, 52, 53, 554, 555, 556, 557, 740, 291, 292, 16, 293, 39, 936, 937, 938, 939, 940, 941, 942, 943, 944, 959, 960, 958] (by decide +kernel) (by decide +kernel)) (goodIn_sub (fun _ h => List.mem_append_right _ h) (by decide +kernel))
set_option maxRecDepth 20000 in
theorem gL_law_L_save : GoodIn wsL_law (va_wsS RL 217 yL_save wsL_save) := goodIn_app (goodIn_of _ (by decide +kernel)) ggL_law_L_save
set_option maxRecDepth 20000 in
theorem ggL_law_X5_save : GoodIn wsL_law wsX5_save := goodIn_r _ [924, 68, 71, 72, 106, 107, 5, 108, 109, 110, 111, 112, 113, 369, 370, 371, 945, 946, 947, 948, 949, 950, 951, 952, 953, 954, 955, 956, 957] (by decide +kernel) (by decide +kernel)
set_option maxRecDepth 20000 in
theorem gL_law_X5_save : GoodIn wsL_law (wsV RL 219 RX5 yX5_save wsX5_save) := goodIn_app (goodIn_of _ (by decide +kernel)) ggL_law_X5_save
set_option maxRecDepth 20000 in
theorem ggL_law_L_restore : GoodIn wsL_law wsL_restore := goodIn_ca (goodIn_ca (goodIn_r _ [927, 454, 82, 928, 929, 930, 2, 931, 459, 460, 89, 90, 25, 23, 17, 712, 713, 714, 21, 715, 52, 53, 554, 555, 556, 557, 257, 258, 259, 260, 261, 262, 740, 291, 292, 16, 293, 39, 936, 937, 938, 939, 940, 941, 942, 943, 944, 959, 960, 958] (by decide +kernel) (by decide +kernel)) (goodIn_sub (fun _ h => List.mem_append_right _ h) (by decide +kernel))) (goodIn_sub (fun _ h => List.mem_append_left _ (List.mem_append_right _ h)) (by decide +kernel))
set_option maxRecDepth 20000 in
theorem gL_law_L_restore : GoodIn wsL_law (va_wsS RL 220 yL_restore wsL_restore) := goodIn_app (goodIn_of _ (by decide +kernel)) ggL_law_L_restore
set_option maxRecDepth 20000 in
theorem ggL_law_X5_restore : GoodIn wsL_law wsX5_restore := goodIn_r _ [935, 72, 71, 68, 368, 106, 107, 5, 108, 109, 110, 111, 112, 113, 369, 370, 371, 945, 946, 947, 948, 949, 950, 951, 952, 953, 954, 955, 956, 957] (by decide +kernel) (by decide +kernel)
set_option maxRecDepth 20000 in
theorem gL_law_X5_restore : GoodIn wsL_law (wsV RL 222 RX5 yX5_restore wsX5_restore) := goodIn_app (goodIn_of _ (by decide +kernel)) ggL_law_X5_restore
