set_option maxRecDepth 20000 in
theorem ggL_law_X7_init : GoodIn wsL_law wsX7_init := goodIn_r _ [8, 9, 10, 11, 12, 13, 14, 15, 16, 17, 18, 19, 20, 21, 22, 23, 24, 25, 26, 27, 28, 29, 30, 31, 32, 33, 34, 35, 36, 37, 38, 39, 40, 41, 42, 43, 44, 45, 46, 47, 48, 49, 50, 51, 52, 53, 54, 55, 56, 57, 58, 59, 60, 61, 62, 63, 64, 65, 66, 67, 68, 69, 70, 71, 72, 73, 74, 75, 76, 77, 78, 79, 80, 81, 82, 83, 84, 85, 86, 87, 88, 89, 962, 963, 964, 965, 966, 967, 968, 969, 929, 930, 931, 932, 933, 934, 935, 936, 937, 938, 970, 971, 972, 973, 974, 975, 976, 977, 978, 979, 980, 981, 982, 983, 984, 985, 986, 987, 988, 989, 990, 991] (by decide +kernel) (by decide +kernel)
set_option maxRecDepth 20000 in
theorem gL_law_X7_init : GoodIn wsL_law (wsX7_init) := ggL_law_X7_init
set_option maxRecDepth 20000 in
theorem ggL_law_X8_init : GoodIn wsL_law wsX8_init := goodIn_r _ [92, 93, 10, 11, 45, 94, 95, 96, 97, 60, 98, 99, 100, 101, 17, 102, 103, 104, 105, 939, 940, 941, 942, 943, 944, 945, 946, 947, 948, 949, 950, 951, 952, 953, 954, 955, 956, 957, 958, 959, 960, 961] (by decide +kernel) (by decide +kernel)
set_option maxRecDepth 20000 in
theorem gL_law_X8_init : GoodIn wsL_law (wsX8_init) := ggL_law_X8_init
set_option maxRecDepth 20000 in
theorem ggL_law_X7_feed : GoodIn wsL_law wsX7_feed := goodIn_r _ [109, 40, 110, 111, 929, 930, 931, 932, 933, 934, 935, 936, 937, 938, 990, 991] (by decide +kernel) (by decide +kernel)
set_option maxRecDepth 20000 in
theorem gL_law_X7_feed : GoodIn wsL_law (wsV RL 13 RX7 yX7_feed wsX7_feed) := goodIn_app (goodIn_of _ (by decide +kernel)) ggL_law_X7_feed
set_option maxRecDepth 20000 in
theorem ggL_law_X8_feed : GoodIn wsL_law wsX8_feed := goodIn_r _ [115, 116, 117, 95, 118, 119, 5, 120, 939, 940, 941, 942, 943, 944, 945, 946, 947, 948, 949, 950, 951, 952, 953, 954, 955, 956, 957, 958, 959, 960, 961] (by decide +kernel) (by decide +kernel)
set_option maxRecDepth 20000 in
theorem gL_law_X8_feed : GoodIn wsL_law (wsV RL 17 RX8 yX8_feed wsX8_feed) := goodIn_app (goodIn_of _ (by decide +kernel)) ggL_law_X8_feed
set_option maxRecDepth 20000 in
theorem ggL_law_X7_end : GoodIn wsL_law wsX7_end := goodIn_r _ [124, 40, 110, 929, 930, 931, 932, 933, 934, 935, 936, 937, 938, 990, 991] (by decide +kernel) (by decide +kernel)
set_option maxRecDepth 20000 in
theorem gL_law_X7_end : GoodIn wsL_law (wsV RL 18 RX7 yX7_end wsX7_end) := goodIn_app (goodIn_of _ (by decide +kernel)) ggL_law_X7_end
set_option maxRecDepth 20000 in
theorem ggL_law_X8_end : GoodIn wsL_law wsX8_end := goodIn_r _ [128, 117, 118, 119, 5, 120, 939, 940, 941, 942, 943, 944, 945, 946, 947, 948, 949, 950, 951, 952, 953, 954, 955, 956, 957, 958, 959, 960, 961] (by decide +kernel) (by decide +kernel)
set_option maxRecDepth 20000 in
theorem gL_law_X8_end : GoodIn wsL_law (wsV RL 21 RX8 yX8_end wsX8_end) := goodIn_app (goodIn_of _ (by decide +kernel)) ggL_law_X8_end
set_option maxRecDepth 20000 in
theorem ggL_law_X7_text : GoodIn wsL_law wsX7_text := goodIn_r _ [132, 38, 133, 26, 134, 135, 40, 110, 136, 15, 30, 137, 18, 138, 139, 140, 141, 37, 142, 84, 143, 144, 145, 146, 147, 148, 149, 150, 151, 14, 152, 153, 154, 51, 155, 156, 157, 158, 82, 159, 160, 161, 162, 163, 164, 165, 166, 167, 168, 169, 170, 171, 172, 173, 174, 175, 176, 177, 178, 179, 180, 181, 182, 183, 184, 185, 186, 187, 188, 189, 190, 191, 192, 193, 194, 195, 196, 197, 198, 199, 200, 201, 202, 203, 204, 205, 206, 207, 208, 209, 210, 211, 212, 213, 214, 215, 216, 217, 218, 219, 220, 221, 222, 223, 224, 225, 226, 227, 228, 229, 230, 231, 232, 233, 234, 235, 236, 237, 238, 239, 240, 241, 242, 243, 244, 245, 246, 247, 248, 249, 250, 251, 252, 253, 254, 255, 256, 257, 258, 2, 259, 260, 261, 262, 263, 264, 265, 266, 267, 268, 269, 270, 271, 272, 273, 274, 275, 46, 47, 48, 49, 276, 277, 278, 279, 280, 281, 282, 25, 283, 61, 284, 285, 286, 287, 288, 289, 290, 291, 292, 293, 294, 295, 296, 297, 298, 299, 300, 301, 302, 303, 304, 305, 306, 307, 308, 309, 50, 929, 930, 931, 932, 933, 934, 935, 936, 937, 938, 982, 983, 984, 985, 986, 987, 988, 989, 962, 963, 964, 965, 966, 967, 968, 969, 990, 991, 975, 976, 977, 973, 974] (by decide +kernel) (by decide +kernel)
set_option maxRecDepth 20000 in
theorem gL_law_X7_text : GoodIn wsL_law (wsV RL 22 RX7 yX7_text wsX7_text) := goodIn_app (goodIn_of _ (by decide +kernel)) ggL_law_X7_text
set_option maxRecDepth 20000 in
theorem ggL_law_X8_text : GoodIn wsL_law wsX8_text := goodIn_r _ [313, 314, 315, 316, 94, 317, 117, 318, 319, 320, 102, 321, 322, 323, 5, 324, 325, 326, 327, 328, 329, 330, 331, 332, 333, 334, 95, 118, 119, 120, 335, 336, 337, 338, 339, 340, 341, 342, 343, 344, 345, 346, 96, 97, 347, 348, 349, 350, 351, 352, 353, 354, 355, 356, 357, 358, 359, 360, 361, 362, 363, 364, 365, 366, 367, 368, 369, 98, 370, 371, 372, 373, 374, 375, 376, 377, 378, 379, 380, 381, 382, 383, 384, 385, 386, 939, 940, 941, 942, 943, 944, 945, 946, 947, 948, 949, 950, 951, 952, 953, 954, 955, 956, 957, 958, 959, 960, 961] (by decide +kernel) (by decide +kernel)
set_option maxRecDepth 20000 in
theorem gL_law_X8_text : GoodIn wsL_law (wsV RL 26 RX8 yX8_text wsX8_text) := goodIn_app (goodIn_of _ (by decide +kernel)) ggL_law_X8_text
set_option maxRecDepth 20000 in
theorem ggL_law_X7_fault : GoodIn wsL_law wsX7_fault := goodIn_r _ [390, 38, 133, 929, 930, 931, 932, 933, 934, 935, 936, 937, 938, 982, 983, 984, 985, 986, 987, 988, 989] (by decide +kernel) (by decide +kernel)
set_option maxRecDepth 20000 in
theorem gL_law_X7_fault : GoodIn wsL_law (wsV RL 27 RX7 yX7_fault wsX7_fault) := goodIn_app (goodIn_of _ (by decide +kernel)) ggL_law_X7_fault
set_option maxRecDepth 20000 in
theorem ggL_law_X8_fault : GoodIn wsL_law wsX8_fault := goodIn_r _ [394, 318, 939, 940, 941, 942, 943, 944, 945, 946, 947, 948, 949, 950, 951, 952, 953, 954, 955, 956, 957, 958, 959, 960, 961] (by decide +kernel) (by decide +kernel)
set_option maxRecDepth 20000 in
theorem gL_law_X8_fault : GoodIn wsL_law (wsV RL 30 RX8 yX8_fault wsX8_fault) := goodIn_app (goodIn_of _ (by decide +kernel)) ggL_law_X8_fault
set_option maxRecDepth 20000 in
theorem ggL_law_X7_rule : GoodIn wsL_law wsX7_rule := goodIn_r _ [398, 15, 399, 135, 400, 26, 30, 137, 401, 402, 403, 14, 404, 153, 405, 406, 407, 408, 46, 47, 409, 410, 411, 412, 413, 414, 415, 416, 417, 418, 419, 420, 48, 421, 422, 423, 2, 424, 425, 426, 427, 428, 429, 430, 431, 432, 433, 25, 434, 61, 294, 435, 284, 285, 286, 287, 288, 289, 290, 291, 292, 293, 295, 296, 297, 298, 299, 300, 436, 437, 438, 439, 49, 51, 440, 441, 442, 443, 63, 444, 307, 308, 309, 445, 446, 447, 448, 449, 450, 451, 452, 929, 930, 931, 932, 933, 934, 935, 936, 937, 938, 962, 963, 964, 965, 966, 967, 968, 969, 975, 976, 977, 973, 974] (by decide +kernel) (by decide +kernel)
set_option maxRecDepth 20000 in
theorem gL_law_X7_rule : GoodIn wsL_law (wsV RL 31 RX7 yX7_rule wsX7_rule) := goodIn_app (goodIn_of _ (by decide +kernel)) ggL_law_X7_rule
set_option maxRecDepth 20000 in
theorem ggL_law_X8_rule : GoodIn wsL_law wsX8_rule := goodIn_r _ [456, 94, 320, 457, 458, 459, 5, 460, 461, 462, 463, 464, 465, 466, 467, 468, 469, 470, 471, 472, 473, 474, 475, 476, 477, 478, 479, 480, 98, 370, 371, 372, 373, 374, 375, 376, 377, 378, 379, 380, 381, 382, 481, 482, 483, 484, 485, 486, 487, 488, 939, 940, 941, 942, 943, 944, 945, 946, 947, 948, 949, 950, 951, 952, 953, 954, 955, 956, 957, 958, 959, 960, 961] (by decide +kernel) (by decide +kernel)
set_option maxRecDepth 20000 in
theorem gL_law_X8_rule : GoodIn wsL_law (wsV RL 34 RX8 yX8_rule wsX8_rule) := goodIn_app (goodIn_of _ (by decide +kernel)) ggL_law_X8_rule
set_option maxRecDepth 20000 in
theorem ggL_law_X7_bound : GoodIn wsL_law wsX7_bound := goodIn_r _ [492, 15, 430, 429, 493, 494, 495, 496, 14, 497, 153, 425, 426, 427, 2, 428, 26, 431, 432, 433, 25, 434, 61, 294, 435, 284, 285, 286, 287, 288, 289, 290, 291, 292, 293, 295, 296, 297, 298, 299, 300, 436, 437, 438, 439, 48, 49, 51, 498, 499, 500, 501, 409, 410, 411, 412, 46, 47, 929, 930, 931, 932, 933, 934, 935, 936, 937, 938, 962, 963, 964, 965, 966, 967, 968, 969, 973, 974] (by decide +kernel) (by decide +kernel)
set_option maxRecDepth 20000 in
theorem gL_law_X7_bound : GoodIn wsL_law (wsV RL 35 RX7 yX7_bound wsX7_bound) := goodIn_app (goodIn_of _ (by decide +kernel)) ggL_law_X7_bound
set_option maxRecDepth 20000 in
theorem ggL_law_X8_bound : GoodIn wsL_law wsX8_bound := goodIn_r _ [505, 94, 506, 507, 508, 5, 509, 457, 458, 459, 460, 118, 119, 120, 477, 478, 479, 480, 98, 370, 371, 372, 373, 374, 375, 376, 377, 378, 379, 380, 381, 382, 510, 511, 512, 513, 469, 470, 471, 472, 939, 940, 941, 942, 943, 944, 945, 946, 947, 948, 949, 950, 951, 952, 953, 954, 955, 956, 957, 958, 959, 960, 961] (by decide +kernel) (by decide +kernel)
set_option maxRecDepth 20000 in
theorem gL_law_X8_bound : GoodIn wsL_law (wsV RL 39 RX8 yX8_bound wsX8_bound) := goodIn_app (goodIn_of _ (by decide +kernel)) ggL_law_X8_bound
set_option maxRecDepth 20000 in
theorem ggL_law_X7_limit : GoodIn wsL_law wsX7_limit := goodIn_r _ [517, 15, 518, 519, 494, 495, 496, 14, 497, 153, 929, 930, 931, 932, 933, 934, 935, 936, 937, 938, 962, 963, 964, 965, 966, 967, 968, 969] (by decide +kernel) (by decide +kernel)
set_option maxRecDepth 20000 in
theorem gL_law_X7_limit : GoodIn wsL_law (wsV RL 40 RX7 yX7_limit wsX7_limit) := goodIn_app (goodIn_of _ (by decide +kernel)) ggL_law_X7_limit
set_option maxRecDepth 20000 in
theorem ggL_law_X8_limit : GoodIn wsL_law wsX8_limit := goodIn_r _ [523, 94, 524, 506, 507, 508, 5, 509, 457, 458, 459, 460, 118, 119, 120, 939, 940, 941, 942, 943, 944, 945, 946, 947, 948, 949, 950, 951, 952, 953, 954, 955, 956, 957, 958, 959, 960, 961] (by decide +kernel) (by decide +kernel)
set_option maxRecDepth 20000 in
theorem gL_law_X8_limit : GoodIn wsL_law (wsV RL 44 RX8 yX8_limit wsX8_limit) := goodIn_app (goodIn_of _ (by decide +kernel)) ggL_law_X8_limit
set_option maxRecDepth 20000 in
theorem ggL_law_X7_tightest : GoodIn wsL_law wsX7_tightest := goodIn_r _ [528, 452, 15, 399, 529, 530, 2, 531, 532, 258, 259, 533, 410, 411, 14, 412, 46, 47, 436, 437, 438, 439, 48, 49, 51, 298, 299, 300, 929, 930, 931, 932, 933, 934, 935, 936, 937, 938, 962, 963, 964, 965, 966, 967, 968, 969] (by decide +kernel) (by decide +kernel)
set_option maxRecDepth 20000 in
theorem gL_law_X7_tightest : GoodIn wsL_law (wsV RL 45 RX7 yX7_tightest wsX7_tightest) := goodIn_app (goodIn_of _ (by decide +kernel)) ggL_law_X7_tightest
set_option maxRecDepth 20000 in
theorem ggL_law_X8_tightest : GoodIn wsL_law wsX8_tightest := goodIn_r _ [537, 538, 539, 5, 540, 541, 542, 543, 544, 118, 119, 120, 457, 458, 459, 460, 94, 469, 470, 471, 472, 375, 376, 377, 378, 379, 380, 381, 382, 939, 940, 941, 942, 943, 944, 945, 946, 947, 948, 949, 950, 951, 952, 953, 954, 955, 956, 957, 958, 959, 960, 961] (by decide +kernel) (by decide +kernel)
