set_option maxRecDepth 20000 in
theorem ggL_law_X8_push : GoodIn wsL_law wsX8_push := goodIn_r _ [699, 94, 457, 458, 459, 5, 460, 939, 940, 941, 942, 943, 944, 945, 946, 947, 948, 949, 950, 951, 952, 953, 954, 955, 956, 957, 958, 959, 960, 961] (by decide +kernel) (by decide +kernel)
set_option maxRecDepth 20000 in
theorem gL_law_X8_push : GoodIn wsL_law (wsV RL 85 RX8 yX8_push wsX8_push) := goodIn_app (goodIn_of _ (by decide +kernel)) ggL_law_X8_push
set_option maxRecDepth 20000 in
theorem ggL_law_X7_pop : GoodIn wsL_law wsX7_pop := goodIn_r _ [703, 15, 399, 695, 400, 704, 705, 706, 14, 707, 154, 929, 930, 931, 932, 933, 934, 935, 936, 937, 938, 962, 963, 964, 965, 966, 967, 968, 969] (by decide +kernel) (by decide +kernel)
set_option maxRecDepth 20000 in
theorem gL_law_X7_pop : GoodIn wsL_law (wsV RL 86 RX7 yX7_pop wsX7_pop) := goodIn_app (goodIn_of _ (by decide +kernel)) ggL_law_X7_pop
set_option maxRecDepth 20000 in
theorem ggL_law_X8_pop : GoodIn wsL_law wsX8_pop := goodIn_r _ [711, 94, 118, 119, 5, 120, 457, 458, 459, 460, 939, 940, 941, 942, 943, 944, 945, 946, 947, 948, 949, 950, 951, 952, 953, 954, 955, 956, 957, 958, 959, 960, 961] (by decide +kernel) (by decide +kernel)
set_option maxRecDepth 20000 in
theorem gL_law_X8_pop : GoodIn wsL_law (wsV RL 89 RX8 yX8_pop wsX8_pop) := goodIn_app (goodIn_of _ (by decide +kernel)) ggL_law_X8_pop
set_option maxRecDepth 20000 in
theorem ggL_law_X7_level : GoodIn wsL_law wsX7_level := goodIn_r _ [715, 15, 695, 704, 705, 706, 14, 707, 154, 929, 930, 931, 932, 933, 934, 935, 936, 937, 938, 962, 963, 964, 965, 966, 967, 968, 969] (by decide +kernel) (by decide +kernel)
set_option maxRecDepth 20000 in
theorem gL_law_X7_level : GoodIn wsL_law (wsV RL 90 RX7 yX7_level wsX7_level) := goodIn_app (goodIn_of _ (by decide +kernel)) ggL_law_X7_level
set_option maxRecDepth 20000 in
theorem ggL_law_X8_level : GoodIn wsL_law wsX8_level := goodIn_r _ [719, 94, 118, 119, 5, 120, 939, 940, 941, 942, 943, 944, 945, 946, 947, 948, 949, 950, 951, 952, 953, 954, 955, 956, 957, 958, 959, 960, 961] (by decide +kernel) (by decide +kernel)
set_option maxRecDepth 20000 in
theorem gL_law_X8_level : GoodIn wsL_law (wsV RL 93 RX8 yX8_level wsX8_level) := goodIn_app (goodIn_of _ (by decide +kernel)) ggL_law_X8_level
set_option maxRecDepth 20000 in
theorem ggL_law_X7_implied : GoodIn wsL_law wsX7_implied := goodIn_r _ [723, 724, 26, 15, 452, 519, 532, 258, 2, 259, 562, 563, 564, 431, 432, 433, 25, 434, 61, 294, 435, 284, 285, 286, 287, 288, 289, 290, 291, 292, 293, 295, 296, 297, 298, 299, 300, 725, 726, 727, 728, 729, 730, 731, 732, 733, 734, 929, 930, 931, 932, 933, 934, 935, 936, 937, 938, 973, 974, 962, 963, 964, 965, 966, 967, 968, 969] (by decide +kernel) (by decide +kernel)
set_option maxRecDepth 20000 in
theorem gL_law_X7_implied : GoodIn wsL_law (wsV RL 94 RX7 yX7_implied wsX7_implied) := goodIn_app (goodIn_of _ (by decide +kernel)) ggL_law_X7_implied
set_option maxRecDepth 20000 in
theorem ggL_law_X8_implied : GoodIn wsL_law wsX8_implied := goodIn_r _ [738, 739, 98, 541, 542, 5, 543, 544, 118, 119, 120, 606, 607, 608, 370, 371, 372, 373, 374, 94, 375, 376, 377, 378, 379, 380, 381, 382, 740, 741, 742, 524, 743, 744, 745, 746, 747, 748, 749, 939, 940, 941, 942, 943, 944, 945, 946, 947, 948, 949, 950, 951, 952, 953, 954, 955, 956, 957, 958, 959, 960, 961] (by decide +kernel) (by decide +kernel)
set_option maxRecDepth 20000 in
theorem gL_law_X8_implied : GoodIn wsL_law (wsV RL 98 RX8 yX8_implied wsX8_implied) := goodIn_app (goodIn_of _ (by decide +kernel)) ggL_law_X8_implied
set_option maxRecDepth 20000 in
theorem ggL_law_X7_fixed : GoodIn wsL_law wsX7_fixed := goodIn_r _ [753, 26, 15, 532, 258, 2, 259, 431, 432, 433, 25, 434, 61, 294, 435, 284, 285, 286, 287, 288, 289, 290, 291, 292, 293, 295, 296, 297, 298, 299, 300, 754, 450, 451, 452, 929, 930, 931, 932, 933, 934, 935, 936, 937, 938, 973, 974, 962, 963, 964, 965, 966, 967, 968, 969] (by decide +kernel) (by decide +kernel)
set_option maxRecDepth 20000 in
theorem gL_law_X7_fixed : GoodIn wsL_law (wsV RL 99 RX7 yX7_fixed wsX7_fixed) := goodIn_app (goodIn_of _ (by decide +kernel)) ggL_law_X7_fixed
set_option maxRecDepth 20000 in
theorem ggL_law_X8_fixed : GoodIn wsL_law wsX8_fixed := goodIn_r _ [758, 541, 542, 5, 543, 544, 118, 119, 120, 370, 371, 372, 373, 98, 374, 94, 375, 376, 377, 378, 379, 380, 381, 382, 485, 486, 487, 488, 939, 940, 941, 942, 943, 944, 945, 946, 947, 948, 949, 950, 951, 952, 953, 954, 955, 956, 957, 958, 959, 960, 961] (by decide +kernel) (by decide +kernel)
set_option maxRecDepth 20000 in
theorem gL_law_X8_fixed : GoodIn wsL_law (wsV RL 102 RX8 yX8_fixed wsX8_fixed) := goodIn_app (goodIn_of _ (by decide +kernel)) ggL_law_X8_fixed
set_option maxRecDepth 20000 in
theorem ggL_law_X7_high : GoodIn wsL_law wsX7_high := goodIn_r _ [762, 724, 26, 15, 532, 258, 2, 259, 562, 563, 564, 763, 764, 765, 25, 766, 435, 61, 767, 281, 282, 283, 284, 285, 286, 287, 288, 289, 290, 291, 292, 293, 294, 295, 296, 297, 298, 299, 300, 725, 726, 727, 728, 729, 730, 731, 732, 733, 734, 929, 930, 931, 932, 933, 934, 935, 936, 937, 938, 962, 963, 964, 965, 966, 967, 968, 969, 973, 974] (by decide +kernel) (by decide +kernel)
set_option maxRecDepth 20000 in
theorem gL_law_X7_high : GoodIn wsL_law (wsV RL 103 RX7 yX7_high wsX7_high) := goodIn_app (goodIn_of _ (by decide +kernel)) ggL_law_X7_high
set_option maxRecDepth 20000 in
theorem ggL_law_X8_high : GoodIn wsL_law wsX8_high := goodIn_r _ [771, 739, 98, 541, 542, 5, 543, 544, 118, 119, 120, 606, 607, 608, 370, 371, 372, 373, 374, 94, 375, 376, 377, 378, 379, 380, 381, 382, 740, 741, 742, 524, 743, 744, 745, 746, 747, 748, 749, 939, 940, 941, 942, 943, 944, 945, 946, 947, 948, 949, 950, 951, 952, 953, 954, 955, 956, 957, 958, 959, 960, 961] (by decide +kernel) (by decide +kernel)
set_option maxRecDepth 20000 in
theorem gL_law_X8_high : GoodIn wsL_law (wsV RL 107 RX8 yX8_high wsX8_high) := goodIn_app (goodIn_of _ (by decide +kernel)) ggL_law_X8_high
set_option maxRecDepth 20000 in
theorem ggL_law_X7_reach : GoodIn wsL_law wsX7_reach := goodIn_r _ [775, 724, 26, 15, 452, 519, 532, 258, 2, 259, 431, 432, 433, 25, 434, 61, 294, 435, 284, 285, 286, 287, 288, 289, 290, 291, 292, 293, 295, 296, 297, 298, 299, 300, 732, 733, 734, 725, 726, 727, 728, 729, 730, 731, 929, 930, 931, 932, 933, 934, 935, 936, 937, 938, 973, 974, 962, 963, 964, 965, 966, 967, 968, 969] (by decide +kernel) (by decide +kernel)
set_option maxRecDepth 20000 in
theorem gL_law_X7_reach : GoodIn wsL_law (wsV RL 108 RX7 yX7_reach wsX7_reach) := goodIn_app (goodIn_of _ (by decide +kernel)) ggL_law_X7_reach
set_option maxRecDepth 20000 in
theorem ggL_law_X8_reach : GoodIn wsL_law wsX8_reach := goodIn_r _ [779, 351, 739, 98, 374, 541, 542, 5, 543, 544, 118, 119, 120, 370, 371, 372, 373, 94, 375, 376, 377, 378, 379, 380, 381, 382, 740, 741, 742, 524, 743, 744, 745, 746, 747, 748, 749, 939, 940, 941, 942, 943, 944, 945, 946, 947, 948, 949, 950, 951, 952, 953, 954, 955, 956, 957, 958, 959, 960, 961] (by decide +kernel) (by decide +kernel)
set_option maxRecDepth 20000 in
theorem gL_law_X8_reach : GoodIn wsL_law (wsV RL 112 RX8 yX8_reach wsX8_reach) := goodIn_app (goodIn_of _ (by decide +kernel)) ggL_law_X8_reach
set_option maxRecDepth 20000 in
theorem ggL_law_X7_room : GoodIn wsL_law wsX7_room := goodIn_r _ [783, 724, 26, 15, 452, 519, 529, 530, 2, 531, 532, 258, 259, 562, 563, 564, 431, 432, 433, 25, 434, 61, 294, 435, 284, 285, 286, 287, 288, 289, 290, 291, 292, 293, 295, 296, 297, 298, 299, 300, 725, 726, 727, 728, 729, 730, 731, 732, 733, 734, 929, 930, 931, 932, 933, 934, 935, 936, 937, 938, 973, 974, 962, 963, 964, 965, 966, 967, 968, 969] (by decide +kernel) (by decide +kernel)
set_option maxRecDepth 20000 in
theorem gL_law_X7_room : GoodIn wsL_law (wsV RL 113 RX7 yX7_room wsX7_room) := goodIn_app (goodIn_of _ (by decide +kernel)) ggL_law_X7_room
set_option maxRecDepth 20000 in
theorem ggL_law_X8_room : GoodIn wsL_law wsX8_room := goodIn_r _ [787, 739, 98, 374, 524, 538, 539, 5, 540, 541, 542, 543, 544, 118, 119, 120, 606, 607, 608, 370, 371, 372, 373, 94, 375, 376, 377, 378, 379, 380, 381, 382, 743, 744, 745, 746, 747, 748, 749, 939, 940, 941, 942, 943, 944, 945, 946, 947, 948, 949, 950, 951, 952, 953, 954, 955, 956, 957, 958, 959, 960, 961] (by decide +kernel) (by decide +kernel)
set_option maxRecDepth 20000 in
theorem gL_law_X8_room : GoodIn wsL_law (wsV RL 116 RX8 yX8_room wsX8_room) := goodIn_app (goodIn_of _ (by decide +kernel)) ggL_law_X8_room
set_option maxRecDepth 20000 in
theorem ggL_law_X7_ways : GoodIn wsL_law wsX7_ways := goodIn_r _ [791, 34, 15, 792, 793, 794, 33, 795, 796, 797, 74, 798, 799, 800, 801, 802, 803, 804, 585, 586, 587, 805, 285, 286, 287, 806, 807, 75, 808, 809, 810, 811, 929, 930, 931, 932, 933, 934, 935, 936, 937, 938, 978, 979, 980, 981, 962, 963, 964, 965, 966, 967, 968, 969] (by decide +kernel) (by decide +kernel)
set_option maxRecDepth 20000 in
theorem gL_law_X7_ways : GoodIn wsL_law (wsV RL 117 RX7 yX7_ways wsX7_ways) := goodIn_app (goodIn_of _ (by decide +kernel)) ggL_law_X7_ways
set_option maxRecDepth 20000 in
theorem ggL_law_X8_ways : GoodIn wsL_law wsX8_ways := goodIn_r _ [815, 352, 816, 118, 119, 5, 120, 817, 818, 819, 820, 101, 94, 457, 458, 459, 460, 939, 940, 941, 942, 943, 944, 945, 946, 947, 948, 949, 950, 951, 952, 953, 954, 955, 956, 957, 958, 959, 960, 961] (by decide +kernel) (by decide +kernel)
set_option maxRecDepth 20000 in
theorem gL_law_X8_ways : GoodIn wsL_law (wsV RL 120 RX8 yX8_ways wsX8_ways) := goodIn_app (goodIn_of _ (by decide +kernel)) ggL_law_X8_ways
set_option maxRecDepth 20000 in
theorem ggL_law_X7_grow : GoodIn wsL_law wsX7_grow := goodIn_r _ [824, 15, 399, 135, 825, 826, 2, 827, 828, 829, 830, 831, 565, 298, 299, 300, 566, 567, 568, 569, 26, 452, 431, 432, 433, 25, 434, 61, 294, 435, 284, 285, 286, 287, 288, 289, 290, 291, 292, 293, 295, 296, 297, 597, 273, 274, 14, 275, 153, 46, 47, 48, 49, 929, 930, 931, 932, 933, 934, 935, 936, 937, 938, 962, 963, 964, 965, 966, 967, 968, 969, 973, 974] (by decide +kernel) (by decide +kernel)
