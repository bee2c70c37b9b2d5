/-! law rows -/
set_option maxRecDepth 20000 in
theorem ggL_law_X5_init : GoodIn wsL_law wsX5_init := goodIn_r _ [8, 9, 10, 11, 12, 13, 14, 15, 16, 17, 18, 19, 20, 21, 22, 23, 24, 25, 26, 27, 28, 29, 30, 31, 32, 33, 34, 35, 36, 37, 38, 39, 40, 41, 42, 43, 44, 45, 46, 47, 48, 49, 50, 51, 52, 53, 54, 55, 56, 57, 58, 59, 60, 61, 62, 63, 64, 875, 876, 877, 878, 879, 880, 881, 852, 853, 854, 855, 856, 857, 858, 882, 883, 884, 885, 886, 887, 888, 889, 890, 891, 892, 893, 894, 895, 896, 897, 898, 899, 900, 901, 902, 903, 904, 905] (by decide +kernel) (by decide +kernel)
set_option maxRecDepth 20000 in
theorem gL_law_X5_init : GoodIn wsL_law (wsX5_init) := ggL_law_X5_init
set_option maxRecDepth 20000 in
theorem ggL_law_X6_init : GoodIn wsL_law wsX6_init := goodIn_r _ [67, 68, 10, 11, 35, 69, 70, 71, 72, 73, 74, 75, 76, 77, 78, 859, 860, 861, 862, 863, 864, 865, 866, 867, 868, 869, 870, 871, 872, 873, 874] (by decide +kernel) (by decide +kernel)
set_option maxRecDepth 20000 in
theorem gL_law_X6_init : GoodIn wsL_law (wsX6_init) := ggL_law_X6_init
set_option maxRecDepth 20000 in
theorem ggL_law_X5_grave : GoodIn wsL_law wsX5_grave := goodIn_r _ [82, 83, 15, 84, 85, 86, 87, 2, 88, 89, 90, 91, 92, 93, 94, 95, 96, 97, 98, 99, 14, 100, 34, 101, 102, 103, 104, 41, 105, 106, 107, 108, 109, 110, 111, 112, 113, 114, 852, 853, 854, 855, 856, 857, 858, 875, 876, 877, 878, 879, 880, 881, 897, 898, 899, 900, 901, 902, 903, 904, 905] (by decide +kernel) (by decide +kernel)
set_option maxRecDepth 20000 in
theorem gL_law_X5_grave : GoodIn wsL_law (wsV RL 13 RX5 yX5_grave wsX5_grave) := goodIn_app (goodIn_of _ (by decide +kernel)) ggL_law_X5_grave
set_option maxRecDepth 20000 in
theorem ggL_law_X6_grave : GoodIn wsL_law wsX6_grave := goodIn_r _ [118, 119, 69, 120, 121, 122, 5, 123, 124, 125, 126, 127, 128, 859, 860, 861, 862, 863, 864, 865, 866, 867, 868, 869, 870, 871, 872, 873, 874] (by decide +kernel) (by decide +kernel)
set_option maxRecDepth 20000 in
theorem gL_law_X6_grave : GoodIn wsL_law (wsV RL 17 RX6 yX6_grave wsX6_grave) := goodIn_app (goodIn_of _ (by decide +kernel)) ggL_law_X6_grave
set_option maxRecDepth 20000 in
theorem ggL_law_X5_as : GoodIn wsL_law wsX5_as := goodIn_r _ [132, 15, 83, 133, 134, 135, 136, 137, 14, 138, 101, 86, 87, 2, 88, 92, 93, 94, 95, 96, 139, 140, 141, 41, 142, 106, 143, 852, 853, 854, 855, 856, 857, 858, 875, 876, 877, 878, 879, 880, 881, 897, 898, 899, 900, 901, 902, 903, 904, 905] (by decide +kernel) (by decide +kernel)
set_option maxRecDepth 20000 in
theorem gL_law_X5_as : GoodIn wsL_law (wsV RL 18 RX5 yX5_as wsX5_as) := goodIn_app (goodIn_of _ (by decide +kernel)) ggL_law_X5_as
set_option maxRecDepth 20000 in
theorem ggL_law_X6_as : GoodIn wsL_law wsX6_as := goodIn_r _ [147, 119, 69, 148, 149, 150, 151, 5, 152, 121, 122, 123, 124, 125, 126, 127, 128, 859, 860, 861, 862, 863, 864, 865, 866, 867, 868, 869, 870, 871, 872, 873, 874] (by decide +kernel) (by decide +kernel)
set_option maxRecDepth 20000 in
theorem gL_law_X6_as : GoodIn wsL_law (wsV RL 22 RX6 yX6_as wsX6_as) := goodIn_app (goodIn_of _ (by decide +kernel)) ggL_law_X6_as
set_option maxRecDepth 20000 in
theorem ggL_law_X5_goods : GoodIn wsL_law wsX5_goods := goodIn_r _ [156, 15, 83, 133, 157, 135, 136, 137, 14, 138, 101, 92, 93, 94, 2, 95, 96, 852, 853, 854, 855, 856, 857, 858, 875, 876, 877, 878, 879, 880, 881, 897, 898, 899, 900, 901, 902, 903, 904, 905] (by decide +kernel) (by decide +kernel)
set_option maxRecDepth 20000 in
theorem gL_law_X5_goods : GoodIn wsL_law (wsV RL 23 RX5 yX5_goods wsX5_goods) := goodIn_app (goodIn_of _ (by decide +kernel)) ggL_law_X5_goods
set_option maxRecDepth 20000 in
theorem ggL_law_X6_goods : GoodIn wsL_law wsX6_goods := goodIn_r _ [161, 119, 69, 149, 150, 151, 5, 152, 121, 122, 123, 124, 125, 126, 127, 128, 859, 860, 861, 862, 863, 864, 865, 866, 867, 868, 869, 870, 871, 872, 873, 874] (by decide +kernel) (by decide +kernel)
set_option maxRecDepth 20000 in
theorem gL_law_X6_goods : GoodIn wsL_law (wsV RL 26 RX6 yX6_goods wsX6_goods) := goodIn_app (goodIn_of _ (by decide +kernel)) ggL_law_X6_goods
set_option maxRecDepth 20000 in
theorem ggL_law_X5_of : GoodIn wsL_law wsX5_of := goodIn_r _ [165, 15, 83, 133, 166, 167, 168, 157, 169, 170, 171, 135, 136, 137, 14, 138, 101, 92, 93, 94, 2, 95, 96, 172, 173, 174, 175, 176, 177, 178, 179, 180, 181, 182, 34, 183, 184, 185, 852, 853, 854, 855, 856, 857, 858, 875, 876, 877, 878, 879, 880, 881, 897, 898, 899, 900, 901, 902, 903, 904, 905] (by decide +kernel) (by decide +kernel)
set_option maxRecDepth 20000 in
theorem gL_law_X5_of : GoodIn wsL_law (wsV RL 27 RX5 yX5_of wsX5_of) := goodIn_app (goodIn_of _ (by decide +kernel)) ggL_law_X5_of
set_option maxRecDepth 20000 in
theorem ggL_law_X6_of : GoodIn wsL_law wsX6_of := goodIn_r _ [189, 119, 69, 149, 150, 151, 5, 152, 121, 122, 123, 124, 125, 126, 127, 128, 190, 191, 192, 193, 194, 195, 196, 197, 198, 199, 200, 859, 860, 861, 862, 863, 864, 865, 866, 867, 868, 869, 870, 871, 872, 873, 874] (by decide +kernel) (by decide +kernel)
set_option maxRecDepth 20000 in
theorem gL_law_X6_of : GoodIn wsL_law (wsV RL 30 RX6 yX6_of wsX6_of) := goodIn_app (goodIn_of _ (by decide +kernel)) ggL_law_X6_of
set_option maxRecDepth 20000 in
theorem ggL_law_X5_span : GoodIn wsL_law wsX5_span := goodIn_r _ [204, 15, 83, 205, 133, 169, 170, 135, 136, 137, 14, 138, 101, 206, 207, 2, 208, 92, 93, 94, 95, 96, 852, 853, 854, 855, 856, 857, 858, 875, 876, 877, 878, 879, 880, 881, 897, 898, 899, 900, 901, 902, 903, 904, 905] (by decide +kernel) (by decide +kernel)
set_option maxRecDepth 20000 in
theorem gL_law_X5_span : GoodIn wsL_law (wsV RL 31 RX5 yX5_span wsX5_span) := goodIn_app (goodIn_of _ (by decide +kernel)) ggL_law_X5_span
set_option maxRecDepth 20000 in
theorem ggL_law_X6_span : GoodIn wsL_law wsX6_span := goodIn_r _ [212, 119, 213, 69, 149, 150, 151, 5, 152, 121, 122, 123, 214, 215, 216, 124, 125, 126, 127, 128, 859, 860, 861, 862, 863, 864, 865, 866, 867, 868, 869, 870, 871, 872, 873, 874] (by decide +kernel) (by decide +kernel)
set_option maxRecDepth 20000 in
theorem gL_law_X6_span : GoodIn wsL_law (wsV RL 34 RX6 yX6_span wsX6_span) := goodIn_app (goodIn_of _ (by decide +kernel)) ggL_law_X6_span
set_option maxRecDepth 20000 in
theorem ggL_law_X5_coin : GoodIn wsL_law wsX5_coin := goodIn_r _ [220, 15, 83, 133, 134, 170, 205, 169, 221, 222, 223, 224, 135, 136, 137, 14, 138, 101, 206, 207, 2, 208, 92, 93, 94, 95, 96, 139, 140, 141, 41, 142, 106, 143, 852, 853, 854, 855, 856, 857, 858, 875, 876, 877, 878, 879, 880, 881, 897, 898, 899, 900, 901, 902, 903, 904, 905] (by decide +kernel) (by decide +kernel)
set_option maxRecDepth 20000 in
theorem gL_law_X5_coin : GoodIn wsL_law (wsV RL 35 RX5 yX5_coin wsX5_coin) := goodIn_app (goodIn_of _ (by decide +kernel)) ggL_law_X5_coin
set_option maxRecDepth 20000 in
theorem ggL_law_X6_coin : GoodIn wsL_law wsX6_coin := goodIn_r _ [228, 119, 69, 148, 213, 229, 222, 223, 224, 149, 150, 151, 5, 152, 121, 122, 123, 214, 215, 216, 124, 125, 126, 127, 128, 859, 860, 861, 862, 863, 864, 865, 866, 867, 868, 869, 870, 871, 872, 873, 874] (by decide +kernel) (by decide +kernel)
set_option maxRecDepth 20000 in
theorem gL_law_X6_coin : GoodIn wsL_law (wsV RL 38 RX6 yX6_coin wsX6_coin) := goodIn_app (goodIn_of _ (by decide +kernel)) ggL_law_X6_coin
set_option maxRecDepth 20000 in
theorem ggL_law_X5_cut : GoodIn wsL_law wsX5_cut := goodIn_r _ [233, 15, 83, 205, 234, 135, 136, 137, 14, 138, 101, 92, 93, 94, 2, 95, 96, 235, 236, 237, 238, 39, 34, 183, 239, 240, 241, 242, 184, 185, 243, 244, 245, 246, 247, 852, 853, 854, 855, 856, 857, 858, 875, 876, 877, 878, 879, 880, 881, 897, 898, 899, 900, 901, 902, 903, 904, 905] (by decide +kernel) (by decide +kernel)
set_option maxRecDepth 20000 in
theorem gL_law_X5_cut : GoodIn wsL_law (wsV RL 39 RX5 yX5_cut wsX5_cut) := goodIn_app (goodIn_of _ (by decide +kernel)) ggL_law_X5_cut
set_option maxRecDepth 20000 in
theorem ggL_law_X6_cut : GoodIn wsL_law wsX6_cut := goodIn_r _ [251, 119, 213, 252, 69, 149, 150, 151, 5, 152, 121, 122, 123, 124, 125, 126, 127, 128, 253, 254, 255, 256, 197, 198, 199, 200, 859, 860, 861, 862, 863, 864, 865, 866, 867, 868, 869, 870, 871, 872, 873, 874] (by decide +kernel) (by decide +kernel)
set_option maxRecDepth 20000 in
theorem gL_law_X6_cut : GoodIn wsL_law (wsV RL 43 RX6 yX6_cut wsX6_cut) := goodIn_app (goodIn_of _ (by decide +kernel)) ggL_law_X6_cut
set_option maxRecDepth 20000 in
theorem ggL_law_X5_later : GoodIn wsL_law wsX5_later := goodIn_r _ [260, 15, 83, 135, 136, 137, 14, 138, 101, 92, 93, 94, 2, 95, 96, 235, 236, 237, 238, 39, 34, 183, 239, 240, 241, 242, 184, 185, 243, 852, 853, 854, 855, 856, 857, 858, 875, 876, 877, 878, 879, 880, 881, 897, 898, 899, 900, 901, 902, 903, 904, 905] (by decide +kernel) (by decide +kernel)
set_option maxRecDepth 20000 in
theorem gL_law_X5_later : GoodIn wsL_law (wsV RL 44 RX5 yX5_later wsX5_later) := goodIn_app (goodIn_of _ (by decide +kernel)) ggL_law_X5_later
set_option maxRecDepth 20000 in
theorem ggL_law_X6_later : GoodIn wsL_law wsX6_later := goodIn_r _ [264, 119, 149, 150, 151, 5, 152, 69, 121, 122, 123, 124, 125, 126, 127, 128, 253, 254, 255, 256, 859, 860, 861, 862, 863, 864, 865, 866, 867, 868, 869, 870, 871, 872, 873, 874] (by decide +kernel) (by decide +kernel)
set_option maxRecDepth 20000 in
theorem gL_law_X6_later : GoodIn wsL_law (wsV RL 47 RX6 yX6_later wsX6_later) := goodIn_app (goodIn_of _ (by decide +kernel)) ggL_law_X6_later
set_option maxRecDepth 20000 in
theorem ggL_law_X5_fill : GoodIn wsL_law wsX5_fill := goodIn_r _ [268, 15, 84, 269, 92, 93, 94, 2, 95, 96, 270, 271, 272, 14, 273, 101, 34, 183, 852, 853, 854, 855, 856, 857, 858, 875, 876, 877, 878, 879, 880, 881, 897, 898, 899, 900, 901, 902, 903, 904, 905] (by decide +kernel) (by decide +kernel)
set_option maxRecDepth 20000 in
theorem gL_law_X5_fill : GoodIn wsL_law (wsV RL 48 RX5 yX5_fill wsX5_fill) := goodIn_app (goodIn_of _ (by decide +kernel)) ggL_law_X5_fill
set_option maxRecDepth 20000 in
theorem ggL_law_X6_fill : GoodIn wsL_law wsX6_fill := goodIn_r _ [277, 69, 278, 124, 125, 126, 5, 127, 128, 859, 860, 861, 862, 863, 864, 865, 866, 867, 868, 869, 870, 871, 872, 873, 874] (by decide +kernel) (by decide +kernel)
set_option maxRecDepth 20000 in
theorem gL_law_X6_fill : GoodIn wsL_law (wsV RL 52 RX6 yX6_fill wsX6_fill) := goodIn_app (goodIn_of _ (by decide +kernel)) ggL_law_X6_fill
set_option maxRecDepth 20000 in
theorem ggL_law_X5_sheet : GoodIn wsL_law wsX5_sheet := goodIn_r _ [282, 83, 205, 18, 283, 284, 285, 2, 286, 287, 288, 289, 92, 93, 94, 95, 96, 290, 291, 292, 20, 293, 294, 295, 48, 852, 853, 854, 855, 856, 857, 858, 882, 883, 884] (by decide +kernel) (by decide +kernel)
set_option maxRecDepth 20000 in
theorem gL_law_X5_sheet : GoodIn wsL_law (wsV RL 53 RX5 yX5_sheet wsX5_sheet) := goodIn_app (goodIn_of _ (by decide +kernel)) ggL_law_X5_sheet
set_option maxRecDepth 20000 in
theorem ggL_law_X6_sheet : GoodIn wsL_law wsX6_sheet := goodIn_r _ [299, 119, 213, 71, 72, 73, 300, 301, 5, 302, 121, 122, 123, 124, 125, 126, 127, 128, 859, 860, 861, 862, 863, 864, 865, 866, 867, 868, 869, 870, 871, 872, 873, 874] (by decide +kernel) (by decide +kernel)
set_option maxRecDepth 20000 in
theorem gL_law_X6_sheet : GoodIn wsL_law (wsV RL 56 RX6 yX6_sheet wsX6_sheet) := goodIn_app (goodIn_of _ (by decide +kernel)) ggL_law_X6_sheet
set_option maxRecDepth 20000 in
theorem ggL_law_X5_put : GoodIn wsL_law wsX5_put := goodIn_r _ [306, 83, 18, 307, 283, 284, 285, 2, 286, 92, 93, 94, 95, 96, 308, 309, 310, 20, 311, 294, 312, 313, 314, 315, 48, 852, 853, 854, 855, 856, 857, 858, 882, 883, 884] (by decide +kernel) (by decide +kernel)
set_option maxRecDepth 20000 in
theorem gL_law_X5_put : GoodIn wsL_law (wsV RL 57 RX5 yX5_put wsX5_put) := goodIn_app (goodIn_of _ (by decide +kernel)) ggL_law_X5_put
set_option maxRecDepth 20000 in
theorem ggL_law_X6_put : GoodIn wsL_law wsX6_put := goodIn_r _ [319, 119, 71, 320, 72, 73, 321, 300, 301, 5, 302, 121, 122, 123, 124, 125, 126, 127, 128, 859, 860, 861, 862, 863, 864, 865, 866, 867, 868, 869, 870, 871, 872, 873, 874] (by decide +kernel) (by decide +kernel)
set_option maxRecDepth 20000 in
theorem gL_law_X6_put : GoodIn wsL_law (wsV RL 60 RX6 yX6_put wsX6_put) := goodIn_app (goodIn_of _ (by decide +kernel)) ggL_law_X6_put
set_option maxRecDepth 20000 in
theorem ggL_law_X5_copy : GoodIn wsL_law wsX5_copy := goodIn_r _ [325, 83, 18, 307, 326, 134, 327, 328, 329, 330, 331, 284, 285, 2, 286, 92, 93, 94, 95, 96, 308, 309, 310, 20, 311, 294, 332, 333, 334, 335, 295, 852, 853, 854, 855, 856, 857, 858, 882, 883, 884] (by decide +kernel) (by decide +kernel)
set_option maxRecDepth 20000 in
theorem gL_law_X5_copy : GoodIn wsL_law (wsV RL 61 RX5 yX5_copy wsX5_copy) := goodIn_app (goodIn_of _ (by decide +kernel)) ggL_law_X5_copy
set_option maxRecDepth 20000 in
theorem ggL_law_X6_copy : GoodIn wsL_law wsX6_copy := goodIn_r _ [339, 119, 71, 320, 148, 72, 74, 73, 300, 301, 5, 302, 121, 122, 123, 124, 125, 126, 127, 128, 859, 860, 861, 862, 863, 864, 865, 866, 867, 868, 869, 870, 871, 872, 873, 874] (by decide +kernel) (by decide +kernel)
set_option maxRecDepth 20000 in
theorem gL_law_X6_copy : GoodIn wsL_law (wsV RL 65 RX6 yX6_copy wsX6_copy) := goodIn_app (goodIn_of _ (by decide +kernel)) ggL_law_X6_copy
