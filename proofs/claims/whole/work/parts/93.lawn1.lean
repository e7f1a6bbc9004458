set_option maxRecDepth 20000 in
theorem gL_law_X8_tightest : GoodIn wsL_law (wsV RL 48 RX8 yX8_tightest wsX8_tightest) := goodIn_app (goodIn_of _ (by decide +kernel)) ggL_law_X8_tightest
set_option maxRecDepth 20000 in
theorem ggL_law_X7_pair : GoodIn wsL_law wsX7_pair := goodIn_r _ [548, 15, 399, 430, 429, 549, 406, 407, 14, 408, 46, 47, 409, 410, 411, 412, 929, 930, 931, 932, 933, 934, 935, 936, 937, 938, 962, 963, 964, 965, 966, 967, 968, 969] (by decide +kernel) (by decide +kernel)
set_option maxRecDepth 20000 in
theorem gL_law_X7_pair : GoodIn wsL_law (wsV RL 49 RX7 yX7_pair wsX7_pair) := goodIn_app (goodIn_of _ (by decide +kernel)) ggL_law_X7_pair
set_option maxRecDepth 20000 in
theorem ggL_law_X8_pair : GoodIn wsL_law wsX8_pair := goodIn_r _ [553, 457, 458, 459, 5, 460, 94, 465, 466, 467, 468, 469, 470, 471, 472, 939, 940, 941, 942, 943, 944, 945, 946, 947, 948, 949, 950, 951, 952, 953, 954, 955, 956, 957, 958, 959, 960, 961] (by decide +kernel) (by decide +kernel)
set_option maxRecDepth 20000 in
theorem gL_law_X8_pair : GoodIn wsL_law (wsV RL 52 RX8 yX8_pair wsX8_pair) := goodIn_app (goodIn_of _ (by decide +kernel)) ggL_law_X8_pair
set_option maxRecDepth 20000 in
theorem ggL_law_X7_add : GoodIn wsL_law wsX7_add := goodIn_r _ [557, 558, 559, 560, 2, 561, 15, 399, 135, 30, 529, 530, 531, 532, 258, 259, 562, 563, 564, 565, 298, 299, 300, 566, 567, 568, 569, 26, 452, 431, 432, 433, 25, 434, 61, 294, 435, 284, 285, 286, 287, 288, 289, 290, 291, 292, 293, 295, 296, 297, 570, 571, 572, 29, 573, 574, 69, 575, 576, 577, 578, 579, 580, 581, 582, 583, 584, 585, 586, 587, 588, 437, 438, 14, 439, 48, 49, 51, 589, 590, 591, 592, 67, 593, 594, 595, 596, 597, 273, 274, 275, 153, 46, 47, 929, 930, 931, 932, 933, 934, 935, 936, 937, 938, 962, 963, 964, 965, 966, 967, 968, 969, 973, 974, 975, 976, 977] (by decide +kernel) (by decide +kernel)
set_option maxRecDepth 20000 in
theorem gL_law_X7_add : GoodIn wsL_law (wsV RL 53 RX7 yX7_add wsX7_add) := goodIn_app (goodIn_of _ (by decide +kernel)) ggL_law_X7_add
set_option maxRecDepth 20000 in
theorem ggL_law_X8_add : GoodIn wsL_law wsX8_add := goodIn_r _ [601, 602, 603, 604, 5, 605, 538, 539, 540, 541, 542, 543, 544, 118, 119, 120, 606, 607, 608, 457, 458, 459, 460, 94, 609, 610, 611, 612, 379, 380, 381, 382, 613, 614, 615, 616, 98, 374, 370, 371, 372, 373, 375, 376, 377, 378, 617, 618, 619, 620, 100, 320, 99, 621, 622, 623, 624, 625, 626, 627, 628, 362, 363, 364, 365, 939, 940, 941, 942, 943, 944, 945, 946, 947, 948, 949, 950, 951, 952, 953, 954, 955, 956, 957, 958, 959, 960, 961] (by decide +kernel) (by decide +kernel)
set_option maxRecDepth 20000 in
theorem gL_law_X8_add : GoodIn wsL_law (wsV RL 57 RX8 yX8_add wsX8_add) := goodIn_app (goodIn_of _ (by decide +kernel)) ggL_law_X8_add
set_option maxRecDepth 20000 in
theorem ggL_law_X7_may : GoodIn wsL_law wsX7_may := goodIn_r _ [632, 15, 135, 529, 530, 2, 531, 532, 258, 259, 562, 563, 564, 565, 298, 299, 300, 566, 567, 568, 569, 26, 452, 431, 432, 433, 25, 434, 61, 294, 435, 284, 285, 286, 287, 288, 289, 290, 291, 292, 293, 295, 296, 297, 929, 930, 931, 932, 933, 934, 935, 936, 937, 938, 962, 963, 964, 965, 966, 967, 968, 969, 973, 974] (by decide +kernel) (by decide +kernel)
set_option maxRecDepth 20000 in
theorem gL_law_X7_may : GoodIn wsL_law (wsV RL 58 RX7 yX7_may wsX7_may) := goodIn_app (goodIn_of _ (by decide +kernel)) ggL_law_X7_may
set_option maxRecDepth 20000 in
theorem ggL_law_X8_may : GoodIn wsL_law wsX8_may := goodIn_r _ [636, 538, 539, 5, 540, 541, 542, 543, 544, 118, 119, 120, 606, 607, 608, 609, 610, 611, 612, 94, 379, 380, 381, 382, 613, 614, 615, 616, 98, 374, 370, 371, 372, 373, 375, 376, 377, 378, 939, 940, 941, 942, 943, 944, 945, 946, 947, 948, 949, 950, 951, 952, 953, 954, 955, 956, 957, 958, 959, 960, 961] (by decide +kernel) (by decide +kernel)
set_option maxRecDepth 20000 in
theorem gL_law_X8_may : GoodIn wsL_law (wsV RL 61 RX8 yX8_may wsX8_may) := goodIn_app (goodIn_of _ (by decide +kernel)) ggL_law_X8_may
set_option maxRecDepth 20000 in
theorem ggL_law_X7_conflict : GoodIn wsL_law wsX7_conflict := goodIn_r _ [640, 30, 137, 641, 929, 930, 931, 932, 933, 934, 935, 936, 937, 938, 975, 976, 977] (by decide +kernel) (by decide +kernel)
set_option maxRecDepth 20000 in
theorem gL_law_X7_conflict : GoodIn wsL_law (wsV RL 62 RX7 yX7_conflict wsX7_conflict) := goodIn_app (goodIn_of _ (by decide +kernel)) ggL_law_X7_conflict
set_option maxRecDepth 20000 in
theorem ggL_law_X8_conflict : GoodIn wsL_law wsX8_conflict := goodIn_r _ [645, 320, 99, 939, 940, 941, 942, 943, 944, 945, 946, 947, 948, 949, 950, 951, 952, 953, 954, 955, 956, 957, 958, 959, 960, 961] (by decide +kernel) (by decide +kernel)
set_option maxRecDepth 20000 in
theorem gL_law_X8_conflict : GoodIn wsL_law (wsV RL 65 RX8 yX8_conflict wsX8_conflict) := goodIn_app (goodIn_of _ (by decide +kernel)) ggL_law_X8_conflict
set_option maxRecDepth 20000 in
theorem ggL_law_X7_drop : GoodIn wsL_law wsX7_drop := goodIn_r _ [649, 15, 399, 494, 495, 496, 14, 497, 153, 650, 651, 652, 653, 46, 47, 48, 49, 154, 50, 929, 930, 931, 932, 933, 934, 935, 936, 937, 938, 962, 963, 964, 965, 966, 967, 968, 969] (by decide +kernel) (by decide +kernel)
set_option maxRecDepth 20000 in
theorem gL_law_X7_drop : GoodIn wsL_law (wsV RL 66 RX7 yX7_drop wsX7_drop) := goodIn_app (goodIn_of _ (by decide +kernel)) ggL_law_X7_drop
set_option maxRecDepth 20000 in
theorem ggL_law_X8_drop : GoodIn wsL_law wsX8_drop := goodIn_r _ [657, 94, 506, 507, 508, 5, 509, 457, 458, 459, 460, 118, 119, 120, 939, 940, 941, 942, 943, 944, 945, 946, 947, 948, 949, 950, 951, 952, 953, 954, 955, 956, 957, 958, 959, 960, 961] (by decide +kernel) (by decide +kernel)
set_option maxRecDepth 20000 in
theorem gL_law_X8_drop : GoodIn wsL_law (wsV RL 69 RX8 yX8_drop wsX8_drop) := goodIn_app (goodIn_of _ (by decide +kernel)) ggL_law_X8_drop
set_option maxRecDepth 20000 in
theorem ggL_law_X7_change : GoodIn wsL_law wsX7_change := goodIn_r _ [661, 15, 430, 429, 493, 135, 30, 518, 494, 495, 496, 14, 497, 153, 565, 298, 2, 299, 300, 566, 567, 568, 569, 26, 452, 431, 432, 433, 25, 434, 61, 294, 435, 284, 285, 286, 287, 288, 289, 290, 291, 292, 293, 295, 296, 297, 570, 571, 572, 29, 573, 574, 69, 575, 576, 577, 578, 579, 580, 581, 582, 583, 584, 585, 586, 587, 588, 437, 438, 439, 48, 49, 51, 589, 590, 591, 592, 67, 593, 594, 595, 596, 929, 930, 931, 932, 933, 934, 935, 936, 937, 938, 962, 963, 964, 965, 966, 967, 968, 969, 973, 974, 975, 976, 977] (by decide +kernel) (by decide +kernel)
set_option maxRecDepth 20000 in
theorem gL_law_X7_change : GoodIn wsL_law (wsV RL 70 RX7 yX7_change wsX7_change) := goodIn_app (goodIn_of _ (by decide +kernel)) ggL_law_X7_change
set_option maxRecDepth 20000 in
theorem ggL_law_X8_change : GoodIn wsL_law wsX8_change := goodIn_r _ [665, 94, 506, 507, 508, 5, 509, 457, 458, 459, 460, 118, 119, 120, 609, 610, 611, 612, 379, 380, 381, 382, 613, 614, 615, 616, 98, 374, 370, 371, 372, 373, 375, 376, 377, 378, 617, 618, 619, 620, 100, 320, 99, 621, 622, 623, 624, 625, 626, 627, 628, 939, 940, 941, 942, 943, 944, 945, 946, 947, 948, 949, 950, 951, 952, 953, 954, 955, 956, 957, 958, 959, 960, 961] (by decide +kernel) (by decide +kernel)
set_option maxRecDepth 20000 in
theorem gL_law_X8_change : GoodIn wsL_law (wsV RL 73 RX8 yX8_change wsX8_change) := goodIn_app (goodIn_of _ (by decide +kernel)) ggL_law_X8_change
set_option maxRecDepth 20000 in
theorem ggL_law_X7_shift : GoodIn wsL_law wsX7_shift := goodIn_r _ [669, 15, 399, 430, 429, 518, 532, 258, 2, 259, 670, 671, 672, 14, 673, 46, 48, 47, 674, 675, 676, 929, 930, 931, 932, 933, 934, 935, 936, 937, 938, 962, 963, 964, 965, 966, 967, 968, 969] (by decide +kernel) (by decide +kernel)
set_option maxRecDepth 20000 in
theorem gL_law_X7_shift : GoodIn wsL_law (wsV RL 74 RX7 yX7_shift wsX7_shift) := goodIn_app (goodIn_of _ (by decide +kernel)) ggL_law_X7_shift
set_option maxRecDepth 20000 in
theorem ggL_law_X8_shift : GoodIn wsL_law wsX8_shift := goodIn_r _ [680, 94, 681, 682, 541, 542, 5, 543, 544, 118, 119, 120, 457, 458, 459, 460, 939, 940, 941, 942, 943, 944, 945, 946, 947, 948, 949, 950, 951, 952, 953, 954, 955, 956, 957, 958, 959, 960, 961] (by decide +kernel) (by decide +kernel)
set_option maxRecDepth 20000 in
theorem gL_law_X8_shift : GoodIn wsL_law (wsV RL 77 RX8 yX8_shift wsX8_shift) := goodIn_app (goodIn_of _ (by decide +kernel)) ggL_law_X8_shift
set_option maxRecDepth 20000 in
theorem ggL_law_X7_whole : GoodIn wsL_law wsX7_whole := goodIn_r _ [686, 26, 15, 135, 562, 563, 2, 564, 280, 281, 282, 25, 283, 61, 284, 285, 286, 287, 288, 289, 290, 291, 292, 293, 294, 295, 296, 297, 298, 299, 300, 929, 930, 931, 932, 933, 934, 935, 936, 937, 938, 962, 963, 964, 965, 966, 967, 968, 969, 973, 974] (by decide +kernel) (by decide +kernel)
set_option maxRecDepth 20000 in
theorem gL_law_X7_whole : GoodIn wsL_law (wsV RL 78 RX7 yX7_whole wsX7_whole) := goodIn_app (goodIn_of _ (by decide +kernel)) ggL_law_X7_whole
set_option maxRecDepth 20000 in
theorem ggL_law_X8_whole : GoodIn wsL_law wsX8_whole := goodIn_r _ [690, 94, 606, 607, 5, 608, 118, 119, 120, 366, 367, 368, 369, 98, 370, 371, 372, 373, 374, 375, 376, 377, 378, 379, 380, 381, 382, 939, 940, 941, 942, 943, 944, 945, 946, 947, 948, 949, 950, 951, 952, 953, 954, 955, 956, 957, 958, 959, 960, 961] (by decide +kernel) (by decide +kernel)
set_option maxRecDepth 20000 in
theorem gL_law_X8_whole : GoodIn wsL_law (wsV RL 81 RX8 yX8_whole wsX8_whole) := goodIn_app (goodIn_of _ (by decide +kernel)) ggL_law_X8_whole
set_option maxRecDepth 20000 in
theorem ggL_law_X7_push : GoodIn wsL_law wsX7_push := goodIn_r _ [694, 15, 400, 695, 399, 929, 930, 931, 932, 933, 934, 935, 936, 937, 938, 962, 963, 964, 965, 966, 967, 968, 969] (by decide +kernel) (by decide +kernel)
set_option maxRecDepth 20000 in
theorem gL_law_X7_push : GoodIn wsL_law (wsV RL 82 RX7 yX7_push wsX7_push) := goodIn_app (goodIn_of _ (by decide +kernel)) ggL_law_X7_push
