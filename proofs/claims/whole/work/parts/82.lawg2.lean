/-! law rows -/
set_option maxRecDepth 20000 in
theorem ggL_law_X5_read : GoodIn wsL_law wsX5_read := goodIn_r _ [343, 15, 83, 18, 307, 133, 157, 135, 136, 137, 14, 138, 101, 284, 285, 2, 286, 92, 93, 94, 95, 96, 308, 309, 310, 20, 311, 294, 344, 345, 346, 347, 295, 48, 172, 173, 174, 175, 176, 177, 178, 852, 853, 854, 855, 856, 857, 858, 875, 876, 877, 878, 879, 880, 881, 897, 898, 899, 900, 901, 902, 903, 904, 905, 882, 883, 884] (by decide +kernel) (by decide +kernel)
set_option maxRecDepth 20000 in
theorem gL_law_X5_read : GoodIn wsL_law (wsV RL 66 RX5 yX5_read wsX5_read) := goodIn_app (goodIn_of _ (by decide +kernel)) ggL_law_X5_read
set_option maxRecDepth 20000 in
theorem ggL_law_X6_read : GoodIn wsL_law wsX6_read := goodIn_r _ [351, 119, 71, 320, 69, 72, 73, 149, 150, 151, 5, 152, 121, 122, 123, 300, 301, 302, 124, 125, 126, 127, 128, 190, 191, 192, 859, 860, 861, 862, 863, 864, 865, 866, 867, 868, 869, 870, 871, 872, 873, 874] (by decide +kernel) (by decide +kernel)
set_option maxRecDepth 20000 in
theorem gL_law_X6_read : GoodIn wsL_law (wsV RL 69 RX6 yX6_read wsX6_read) := goodIn_app (goodIn_of _ (by decide +kernel)) ggL_law_X6_read
set_option maxRecDepth 20000 in
theorem ggL_law_X5_order : GoodIn wsL_law wsX5_order := goodIn_r _ [355, 24, 15, 356, 357, 358, 2, 359, 84, 269, 360, 92, 93, 94, 95, 96, 361, 362, 363, 23, 364, 365, 366, 367, 368, 369, 370, 371, 372, 223, 373, 374, 375, 52, 53, 54, 376, 377, 378, 379, 41, 380, 109, 381, 140, 141, 142, 106, 143, 382, 383, 384, 385, 55, 386, 387, 388, 389, 56, 57, 390, 391, 392, 393, 394, 395, 396, 397, 398, 184, 185, 399, 400, 401, 402, 403, 173, 174, 175, 176, 177, 178, 404, 405, 406, 407, 58, 408, 409, 410, 411, 852, 853, 854, 855, 856, 857, 858, 875, 876, 877, 878, 879, 880, 881, 885, 886, 887, 888, 889, 890, 891, 892, 897, 898, 899, 900, 901, 902, 903, 904, 905] (by decide +kernel) (by decide +kernel)
set_option maxRecDepth 20000 in
theorem gL_law_X5_order : GoodIn wsL_law (wsV RL 70 RX5 yX5_order wsX5_order) := goodIn_app (goodIn_of _ (by decide +kernel)) ggL_law_X5_order
set_option maxRecDepth 20000 in
theorem ggL_law_X6_order : GoodIn wsL_law wsX6_order := goodIn_r _ [415, 416, 417, 418, 419, 5, 420, 69, 278, 421, 124, 125, 126, 127, 128, 422, 423, 424, 425, 426, 77, 78, 76, 427, 428, 429, 430, 431, 432, 433, 434, 190, 191, 192, 435, 436, 437, 438, 75, 859, 860, 861, 862, 863, 864, 865, 866, 867, 868, 869, 870, 871, 872, 873, 874] (by decide +kernel) (by decide +kernel)
set_option maxRecDepth 20000 in
theorem gL_law_X6_order : GoodIn wsL_law (wsV RL 73 RX6 yX6_order wsX6_order) := goodIn_app (goodIn_of _ (by decide +kernel)) ggL_law_X6_order
set_option maxRecDepth 20000 in
theorem ggL_law_X5_at : GoodIn wsL_law wsX5_at := goodIn_r _ [442, 15, 84, 83, 24, 443, 356, 357, 358, 2, 359, 269, 360, 92, 93, 94, 95, 96, 361, 362, 363, 23, 364, 365, 366, 367, 368, 369, 370, 371, 372, 223, 373, 374, 375, 52, 53, 54, 376, 377, 378, 379, 41, 380, 109, 381, 140, 141, 142, 106, 143, 382, 383, 384, 385, 55, 386, 387, 388, 389, 56, 57, 390, 391, 392, 393, 394, 395, 396, 397, 398, 184, 185, 399, 400, 401, 402, 403, 173, 174, 175, 176, 177, 178, 404, 405, 406, 407, 58, 852, 853, 854, 855, 856, 857, 858, 875, 876, 877, 878, 879, 880, 881, 885, 886, 887, 888, 889, 890, 891, 892, 897, 898, 899, 900, 901, 902, 903, 904, 905] (by decide +kernel) (by decide +kernel)
set_option maxRecDepth 20000 in
theorem gL_law_X5_at : GoodIn wsL_law (wsV RL 74 RX5 yX5_at wsX5_at) := goodIn_app (goodIn_of _ (by decide +kernel)) ggL_law_X5_at
set_option maxRecDepth 20000 in
theorem ggL_law_X6_at : GoodIn wsL_law wsX6_at := goodIn_r _ [447, 69, 119, 75, 417, 418, 419, 5, 420, 278, 421, 124, 125, 126, 127, 128, 121, 122, 123, 422, 423, 424, 425, 416, 426, 77, 78, 76, 427, 428, 429, 430, 431, 432, 433, 434, 190, 191, 192, 435, 436, 437, 438, 859, 860, 861, 862, 863, 864, 865, 866, 867, 868, 869, 870, 871, 872, 873, 874] (by decide +kernel) (by decide +kernel)
set_option maxRecDepth 20000 in
theorem gL_law_X6_at : GoodIn wsL_law (wsV RL 78 RX6 yX6_at wsX6_at) := goodIn_app (goodIn_of _ (by decide +kernel)) ggL_law_X6_at
set_option maxRecDepth 20000 in
theorem ggL_law_X5_holes : GoodIn wsL_law wsX5_holes := goodIn_r _ [451, 83, 24, 15, 452, 453, 2, 454, 92, 93, 94, 95, 96, 356, 357, 358, 359, 84, 269, 360, 361, 362, 363, 23, 364, 365, 366, 367, 368, 369, 370, 371, 372, 223, 373, 374, 375, 52, 53, 54, 376, 377, 378, 379, 41, 380, 109, 381, 140, 141, 142, 106, 143, 382, 383, 384, 385, 55, 386, 387, 388, 389, 56, 57, 390, 391, 392, 393, 394, 395, 396, 397, 398, 184, 185, 399, 400, 401, 402, 403, 173, 174, 175, 176, 177, 178, 404, 405, 406, 407, 58, 455, 456, 457, 458, 459, 460, 461, 462, 463, 464, 465, 466, 852, 853, 854, 855, 856, 857, 858, 875, 876, 877, 878, 879, 880, 881, 885, 886, 887, 888, 889, 890, 891, 892, 897, 898, 899, 900, 901, 902, 903, 904, 905] (by decide +kernel) (by decide +kernel)
set_option maxRecDepth 20000 in
theorem gL_law_X5_holes : GoodIn wsL_law (wsV RL 79 RX5 yX5_holes wsX5_holes) := goodIn_app (goodIn_of _ (by decide +kernel)) ggL_law_X5_holes
set_option maxRecDepth 20000 in
theorem ggL_law_X6_holes : GoodIn wsL_law wsX6_holes := goodIn_r _ [470, 119, 75, 471, 472, 5, 473, 121, 122, 123, 124, 125, 126, 127, 128, 417, 418, 419, 420, 69, 278, 421, 422, 423, 424, 425, 416, 426, 77, 78, 76, 427, 428, 429, 430, 431, 432, 433, 434, 190, 191, 192, 435, 436, 437, 438, 474, 475, 476, 477, 859, 860, 861, 862, 863, 864, 865, 866, 867, 868, 869, 870, 871, 872, 873, 874] (by decide +kernel) (by decide +kernel)
set_option maxRecDepth 20000 in
theorem gL_law_X6_holes : GoodIn wsL_law (wsV RL 82 RX6 yX6_holes wsX6_holes) := goodIn_app (goodIn_of _ (by decide +kernel)) ggL_law_X6_holes
set_option maxRecDepth 20000 in
theorem ggL_law_X5_good : GoodIn wsL_law wsX5_good := goodIn_r _ [481, 83, 15, 269, 24, 452, 453, 2, 454, 92, 93, 94, 95, 96, 482, 483, 484, 14, 485, 101, 34, 486, 184, 185, 356, 357, 358, 359, 84, 360, 361, 362, 363, 23, 364, 365, 366, 367, 368, 369, 370, 371, 372, 223, 373, 374, 375, 52, 53, 54, 376, 377, 378, 379, 41, 380, 109, 381, 140, 141, 142, 106, 143, 382, 383, 384, 385, 55, 386, 387, 388, 389, 56, 57, 390, 391, 392, 393, 394, 395, 396, 397, 398, 399, 400, 401, 402, 403, 173, 174, 175, 176, 177, 178, 404, 405, 406, 407, 58, 487, 460, 461, 462, 488, 464, 465, 466, 852, 853, 854, 855, 856, 857, 858, 875, 876, 877, 878, 879, 880, 881, 897, 898, 899, 900, 901, 902, 903, 904, 905, 885, 886, 887, 888, 889, 890, 891, 892] (by decide +kernel) (by decide +kernel)
set_option maxRecDepth 20000 in
theorem gL_law_X5_good : GoodIn wsL_law (wsV RL 83 RX5 yX5_good wsX5_good) := goodIn_app (goodIn_of _ (by decide +kernel)) ggL_law_X5_good
set_option maxRecDepth 20000 in
theorem ggL_law_X6_good : GoodIn wsL_law wsX6_good := goodIn_r _ [492, 119, 69, 278, 75, 471, 472, 5, 473, 121, 122, 123, 124, 125, 126, 127, 128, 493, 494, 495, 496, 417, 418, 419, 420, 421, 422, 423, 424, 425, 416, 426, 77, 78, 76, 427, 428, 429, 430, 431, 432, 433, 434, 190, 191, 192, 435, 436, 437, 438, 859, 860, 861, 862, 863, 864, 865, 866, 867, 868, 869, 870, 871, 872, 873, 874] (by decide +kernel) (by decide +kernel)
set_option maxRecDepth 20000 in
theorem gL_law_X6_good : GoodIn wsL_law (wsV RL 87 RX6 yX6_good wsX6_good) := goodIn_app (goodIn_of _ (by decide +kernel)) ggL_law_X6_good
set_option maxRecDepth 20000 in
theorem ggL_law_X5_tell : GoodIn wsL_law wsX5_tell := goodIn_r _ [500, 15, 501, 85, 502, 92, 93, 94, 2, 95, 96, 852, 853, 854, 855, 856, 857, 858, 875, 876, 877, 878, 879, 880, 881] (by decide +kernel) (by decide +kernel)
set_option maxRecDepth 20000 in
theorem gL_law_X5_tell : GoodIn wsL_law (wsV RL 88 RX5 yX5_tell wsX5_tell) := goodIn_app (goodIn_of _ (by decide +kernel)) ggL_law_X5_tell
set_option maxRecDepth 20000 in
theorem ggL_law_X6_tell : GoodIn wsL_law wsX6_tell := goodIn_r _ [506, 69, 120, 124, 125, 126, 5, 127, 128, 859, 860, 861, 862, 863, 864, 865, 866, 867, 868, 869, 870, 871, 872, 873, 874] (by decide +kernel) (by decide +kernel)
set_option maxRecDepth 20000 in
theorem gL_law_X6_tell : GoodIn wsL_law (wsV RL 91 RX6 yX6_tell wsX6_tell) := goodIn_app (goodIn_of _ (by decide +kernel)) ggL_law_X6_tell
set_option maxRecDepth 20000 in
theorem ggL_law_X5_check : GoodIn wsL_law wsX5_check := goodIn_r _ [510, 15, 501, 84, 269, 502, 92, 93, 94, 2, 95, 96, 511, 512, 513, 14, 514, 38, 34, 183, 515, 136, 137, 138, 101, 184, 185, 516, 517, 518, 519, 486, 520, 378, 379, 41, 380, 109, 381, 140, 141, 142, 106, 143, 521, 173, 174, 175, 176, 177, 178, 852, 853, 854, 855, 856, 857, 858, 875, 876, 877, 878, 879, 880, 881, 897, 898, 899, 900, 901, 902, 903, 904, 905] (by decide +kernel) (by decide +kernel)
set_option maxRecDepth 20000 in
theorem gL_law_X5_check : GoodIn wsL_law (wsV RL 92 RX5 yX5_check wsX5_check) := goodIn_app (goodIn_of _ (by decide +kernel)) ggL_law_X5_check
set_option maxRecDepth 20000 in
theorem ggL_law_X6_check : GoodIn wsL_law wsX6_check := goodIn_r _ [525, 69, 278, 76, 124, 125, 126, 5, 127, 128, 149, 150, 151, 152, 121, 122, 123, 253, 254, 255, 256, 474, 475, 476, 477, 427, 428, 429, 430, 431, 432, 433, 434, 190, 191, 192, 859, 860, 861, 862, 863, 864, 865, 866, 867, 868, 869, 870, 871, 872, 873, 874] (by decide +kernel) (by decide +kernel)
set_option maxRecDepth 20000 in
theorem gL_law_X6_check : GoodIn wsL_law (wsV RL 95 RX6 yX6_check wsX6_check) := goodIn_app (goodIn_of _ (by decide +kernel)) ggL_law_X6_check
set_option maxRecDepth 20000 in
theorem ggL_law_X5_without : GoodIn wsL_law wsX5_without := goodIn_r _ [529, 83, 24, 15, 452, 453, 2, 454, 92, 93, 94, 95, 96, 356, 357, 358, 359, 84, 269, 360, 361, 362, 363, 23, 364, 365, 366, 367, 368, 369, 370, 371, 372, 223, 373, 374, 375, 52, 53, 54, 376, 377, 378, 379, 41, 380, 109, 381, 140, 141, 142, 106, 143, 382, 383, 384, 385, 55, 386, 387, 388, 389, 56, 57, 390, 391, 392, 393, 394, 395, 396, 397, 398, 184, 185, 399, 400, 401, 402, 403, 173, 174, 175, 176, 177, 178, 404, 405, 406, 407, 58, 408, 409, 410, 411, 852, 853, 854, 855, 856, 857, 858, 875, 876, 877, 878, 879, 880, 881, 885, 886, 887, 888, 889, 890, 891, 892, 897, 898, 899, 900, 901, 902, 903, 904, 905] (by decide +kernel) (by decide +kernel)
set_option maxRecDepth 20000 in
theorem gL_law_X5_without : GoodIn wsL_law (wsV RL 96 RX5 yX5_without wsX5_without) := goodIn_app (goodIn_of _ (by decide +kernel)) ggL_law_X5_without
set_option maxRecDepth 20000 in
theorem ggL_law_X6_without : GoodIn wsL_law wsX6_without := goodIn_r _ [533, 119, 416, 471, 472, 5, 473, 121, 122, 123, 124, 125, 126, 127, 128, 417, 418, 419, 420, 69, 278, 421, 422, 423, 424, 425, 426, 77, 78, 76, 427, 428, 429, 430, 431, 432, 433, 434, 190, 191, 192, 435, 436, 437, 438, 75, 859, 860, 861, 862, 863, 864, 865, 866, 867, 868, 869, 870, 871, 872, 873, 874] (by decide +kernel) (by decide +kernel)
set_option maxRecDepth 20000 in
theorem gL_law_X6_without : GoodIn wsL_law (wsV RL 99 RX6 yX6_without wsX6_without) := goodIn_app (goodIn_of _ (by decide +kernel)) ggL_law_X6_without
set_option maxRecDepth 20000 in
theorem ggL_law_X5_ways : GoodIn wsL_law wsX5_ways := goodIn_r _ [537, 24, 15, 356, 357, 358, 2, 359, 84, 269, 360, 92, 93, 94, 95, 96, 361, 362, 363, 23, 364, 365, 366, 367, 368, 369, 370, 371, 372, 223, 373, 374, 375, 52, 53, 54, 376, 377, 378, 379, 41, 380, 109, 381, 140, 141, 142, 106, 143, 382, 383, 384, 385, 55, 386, 387, 388, 389, 56, 57, 390, 391, 392, 393, 394, 395, 396, 397, 398, 184, 185, 399, 400, 401, 402, 403, 173, 174, 175, 176, 177, 178, 404, 405, 406, 407, 58, 538, 539, 540, 541, 852, 853, 854, 855, 856, 857, 858, 875, 876, 877, 878, 879, 880, 881, 885, 886, 887, 888, 889, 890, 891, 892, 897, 898, 899, 900, 901, 902, 903, 904, 905] (by decide +kernel) (by decide +kernel)
set_option maxRecDepth 20000 in
theorem gL_law_X5_ways : GoodIn wsL_law (wsV RL 100 RX5 yX5_ways wsX5_ways) := goodIn_app (goodIn_of _ (by decide +kernel)) ggL_law_X5_ways
set_option maxRecDepth 20000 in
theorem ggL_law_X6_ways : GoodIn wsL_law wsX6_ways := goodIn_r _ [545, 426, 417, 418, 419, 5, 420, 69, 278, 421, 124, 125, 126, 127, 128, 422, 423, 424, 425, 416, 77, 78, 76, 427, 428, 429, 430, 431, 432, 433, 434, 190, 191, 192, 435, 436, 437, 438, 75, 859, 860, 861, 862, 863, 864, 865, 866, 867, 868, 869, 870, 871, 872, 873, 874] (by decide +kernel) (by decide +kernel)
set_option maxRecDepth 20000 in
theorem gL_law_X6_ways : GoodIn wsL_law (wsV RL 103 RX6 yX6_ways wsX6_ways) := goodIn_app (goodIn_of _ (by decide +kernel)) ggL_law_X6_ways
set_option maxRecDepth 20000 in
theorem ggL_law_X5_stretches : GoodIn wsL_law wsX5_stretches := goodIn_r _ [549, 24, 15, 28, 550, 551, 552, 553, 2, 554, 84, 83, 356, 357, 358, 359, 269, 360, 92, 93, 94, 95, 96, 361, 362, 363, 23, 364, 365, 366, 367, 368, 369, 370, 371, 372, 223, 373, 374, 375, 52, 53, 54, 376, 377, 378, 379, 41, 380, 109, 381, 140, 141, 142, 106, 143, 382, 383, 384, 385, 55, 386, 387, 388, 389, 56, 57, 390, 391, 392, 393, 394, 395, 396, 397, 398, 184, 185, 399, 400, 401, 402, 403, 173, 174, 175, 176, 177, 178, 404, 405, 406, 407, 58, 555, 556, 557, 27, 558, 559, 560, 561, 62, 64, 562, 563, 564, 565, 566, 567, 568, 569, 852, 853, 854, 855, 856, 857, 858, 893, 894, 895, 896, 875, 876, 877, 878, 879, 880, 881, 885, 886, 887, 888, 889, 890, 891, 892, 897, 898, 899, 900, 901, 902, 903, 904, 905] (by decide +kernel) (by decide +kernel)
set_option maxRecDepth 20000 in
theorem gL_law_X5_stretches : GoodIn wsL_law (wsV RL 104 RX5 yX5_stretches wsX5_stretches) := goodIn_app (goodIn_of _ (by decide +kernel)) ggL_law_X5_stretches
set_option maxRecDepth 20000 in
theorem ggL_law_X6_stretches : GoodIn wsL_law wsX6_stretches := goodIn_r _ [573, 574, 575, 576, 577, 5, 578, 69, 119, 417, 418, 419, 420, 278, 421, 121, 122, 123, 124, 125, 126, 127, 128, 422, 423, 424, 425, 416, 426, 77, 78, 76, 427, 428, 429, 430, 431, 432, 433, 434, 190, 191, 192, 435, 436, 437, 438, 75, 579, 580, 581, 582, 583, 584, 585, 586, 587, 588, 589, 590, 859, 860, 861, 862, 863, 864, 865, 866, 867, 868, 869, 870, 871, 872, 873, 874] (by decide +kernel) (by decide +kernel)
set_option maxRecDepth 20000 in
theorem gL_law_X6_stretches : GoodIn wsL_law (wsV RL 107 RX6 yX6_stretches wsX6_stretches) := goodIn_app (goodIn_of _ (by decide +kernel)) ggL_law_X6_stretches
set_option maxRecDepth 20000 in
theorem ggL_law_X5_border : GoodIn wsL_law wsX5_border := goodIn_r _ [594, 83, 24, 15, 28, 551, 552, 553, 2, 554, 84, 356, 357, 358, 359, 269, 360, 92, 93, 94, 95, 96, 361, 362, 363, 23, 364, 365, 366, 367, 368, 369, 370, 371, 372, 223, 373, 374, 375, 52, 53, 54, 376, 377, 378, 379, 41, 380, 109, 381, 140, 141, 142, 106, 143, 382, 383, 384, 385, 55, 386, 387, 388, 389, 56, 57, 390, 391, 392, 393, 394, 395, 396, 397, 398, 184, 185, 399, 400, 401, 402, 403, 173, 174, 175, 176, 177, 178, 404, 405, 406, 407, 58, 555, 556, 557, 27, 558, 559, 560, 561, 62, 64, 562, 563, 564, 565, 566, 567, 568, 569, 595, 596, 597, 598, 852, 853, 854, 855, 856, 857, 858, 875, 876, 877, 878, 879, 880, 881, 885, 886, 887, 888, 889, 890, 891, 892, 897, 898, 899, 900, 901, 902, 903, 904, 905, 893, 894, 895, 896] (by decide +kernel) (by decide +kernel)
set_option maxRecDepth 20000 in
theorem gL_law_X5_border : GoodIn wsL_law (wsV RL 108 RX5 yX5_border wsX5_border) := goodIn_app (goodIn_of _ (by decide +kernel)) ggL_law_X5_border
set_option maxRecDepth 20000 in
theorem ggL_law_X6_border : GoodIn wsL_law wsX6_border := goodIn_r _ [602, 119, 583, 575, 576, 577, 5, 578, 69, 417, 418, 419, 420, 278, 421, 121, 122, 123, 124, 125, 126, 127, 128, 422, 423, 424, 425, 416, 426, 77, 78, 76, 427, 428, 429, 430, 431, 432, 433, 434, 190, 191, 192, 435, 436, 437, 438, 75, 579, 580, 581, 582, 574, 584, 585, 586, 587, 588, 589, 590, 859, 860, 861, 862, 863, 864, 865, 866, 867, 868, 869, 870, 871, 872, 873, 874] (by decide +kernel) (by decide +kernel)
set_option maxRecDepth 20000 in
theorem gL_law_X6_border : GoodIn wsL_law (wsV RL 111 RX6 yX6_border wsX6_border) := goodIn_app (goodIn_of _ (by decide +kernel)) ggL_law_X6_border
set_option maxRecDepth 20000 in
theorem ggL_law_X5_year : GoodIn wsL_law wsX5_year := goodIn_r _ [606, 15, 83, 135, 136, 137, 14, 138, 101, 92, 93, 94, 2, 95, 96, 607, 608, 609, 610, 34, 611, 612, 372, 223, 373, 613, 614, 615, 616, 39, 617, 180, 181, 182, 183, 184, 185, 239, 240, 241, 242, 618, 619, 620, 621, 622, 623, 222, 224, 624, 236, 237, 238, 852, 853, 854, 855, 856, 857, 858, 875, 876, 877, 878, 879, 880, 881, 897, 898, 899, 900, 901, 902, 903, 904, 905] (by decide +kernel) (by decide +kernel)
set_option maxRecDepth 20000 in
theorem gL_law_X5_year : GoodIn wsL_law (wsV RL 112 RX5 yX5_year wsX5_year) := goodIn_app (goodIn_of _ (by decide +kernel)) ggL_law_X5_year
set_option maxRecDepth 20000 in
theorem ggL_law_X6_year : GoodIn wsL_law wsX6_year := goodIn_r _ [628, 119, 149, 150, 151, 5, 152, 69, 121, 122, 123, 629, 630, 631, 632, 229, 222, 223, 224, 633, 372, 373, 253, 254, 255, 256, 124, 125, 126, 127, 128, 859, 860, 861, 862, 863, 864, 865, 866, 867, 868, 869, 870, 871, 872, 873, 874] (by decide +kernel) (by decide +kernel)
set_option maxRecDepth 20000 in
theorem gL_law_X6_year : GoodIn wsL_law (wsV RL 115 RX6 yX6_year wsX6_year) := goodIn_app (goodIn_of _ (by decide +kernel)) ggL_law_X6_year
set_option maxRecDepth 20000 in
theorem ggL_law_X5_wrong : GoodIn wsL_law wsX5_wrong := goodIn_r _ [637, 15, 84, 618, 619, 620, 14, 621, 101, 34, 622, 623, 222, 223, 224, 624, 236, 237, 238, 39, 183, 239, 240, 241, 242, 184, 2, 185, 607, 608, 609, 610, 611, 612, 372, 373, 613, 614, 615, 616, 617, 180, 181, 182, 852, 853, 854, 855, 856, 857, 858, 875, 876, 877, 878, 879, 880, 881, 897, 898, 899, 900, 901, 902, 903, 904, 905] (by decide +kernel) (by decide +kernel)
set_option maxRecDepth 20000 in
theorem gL_law_X5_wrong : GoodIn wsL_law (wsV RL 116 RX5 yX5_wrong wsX5_wrong) := goodIn_app (goodIn_of _ (by decide +kernel)) ggL_law_X5_wrong
set_option maxRecDepth 20000 in
theorem ggL_law_X6_wrong : GoodIn wsL_law wsX6_wrong := goodIn_r _ [641, 69, 629, 630, 631, 5, 632, 229, 222, 223, 224, 633, 372, 373, 253, 254, 255, 256, 859, 860, 861, 862, 863, 864, 865, 866, 867, 868, 869, 870, 871, 872, 873, 874] (by decide +kernel) (by decide +kernel)
set_option maxRecDepth 20000 in
theorem gL_law_X6_wrong : GoodIn wsL_law (wsV RL 119 RX6 yX6_wrong wsX6_wrong) := goodIn_app (goodIn_of _ (by decide +kernel)) ggL_law_X6_wrong
