/-! law rows -/
set_option maxRecDepth 20000 in
theorem ggL_law_X5_in : GoodIn wsL_law wsX5_in := goodIn_r _ [645, 83, 15, 84, 206, 207, 2, 208, 92, 93, 94, 95, 96, 618, 619, 620, 14, 621, 101, 34, 622, 623, 222, 223, 224, 624, 236, 237, 238, 39, 183, 239, 240, 241, 242, 184, 185, 607, 608, 609, 610, 611, 612, 372, 373, 613, 614, 615, 616, 617, 180, 181, 182, 852, 853, 854, 855, 856, 857, 858, 875, 876, 877, 878, 879, 880, 881, 897, 898, 899, 900, 901, 902, 903, 904, 905] (by decide +kernel) (by decide +kernel)
set_option maxRecDepth 20000 in
theorem gL_law_X5_in : GoodIn wsL_law (wsV RL 120 RX5 yX5_in wsX5_in) := goodIn_app (goodIn_of _ (by decide +kernel)) ggL_law_X5_in
set_option maxRecDepth 20000 in
theorem ggL_law_X6_in : GoodIn wsL_law wsX6_in := goodIn_r _ [649, 119, 69, 214, 215, 5, 216, 121, 122, 123, 124, 125, 126, 127, 128, 629, 630, 631, 632, 229, 222, 223, 224, 633, 372, 373, 253, 254, 255, 256, 859, 860, 861, 862, 863, 864, 865, 866, 867, 868, 869, 870, 871, 872, 873, 874] (by decide +kernel) (by decide +kernel)
set_option maxRecDepth 20000 in
theorem gL_law_X6_in : GoodIn wsL_law (wsV RL 123 RX6 yX6_in wsX6_in) := goodIn_app (goodIn_of _ (by decide +kernel)) ggL_law_X6_in
set_option maxRecDepth 20000 in
theorem ggL_law_X5_used : GoodIn wsL_law wsX5_used := goodIn_r _ [653, 83, 15, 269, 452, 453, 2, 454, 92, 93, 94, 95, 96, 482, 483, 484, 14, 485, 101, 34, 486, 184, 185, 654, 655, 656, 657, 623, 222, 223, 224, 658, 608, 609, 610, 611, 612, 372, 373, 613, 614, 615, 616, 39, 617, 180, 181, 182, 183, 239, 240, 241, 242, 659, 660, 661, 662, 663, 619, 620, 621, 622, 624, 236, 237, 238, 852, 853, 854, 855, 856, 857, 858, 875, 876, 877, 878, 879, 880, 881, 897, 898, 899, 900, 901, 902, 903, 904, 905] (by decide +kernel) (by decide +kernel)
set_option maxRecDepth 20000 in
theorem gL_law_X5_used : GoodIn wsL_law (wsV RL 124 RX5 yX5_used wsX5_used) := goodIn_app (goodIn_of _ (by decide +kernel)) ggL_law_X5_used
set_option maxRecDepth 20000 in
theorem ggL_law_X6_used : GoodIn wsL_law wsX6_used := goodIn_r _ [667, 119, 69, 278, 471, 472, 5, 473, 121, 122, 123, 124, 125, 126, 127, 128, 493, 494, 495, 496, 629, 630, 631, 632, 229, 222, 223, 224, 633, 372, 373, 253, 254, 255, 256, 859, 860, 861, 862, 863, 864, 865, 866, 867, 868, 869, 870, 871, 872, 873, 874] (by decide +kernel) (by decide +kernel)
set_option maxRecDepth 20000 in
theorem gL_law_X6_used : GoodIn wsL_law (wsV RL 127 RX6 yX6_used wsX6_used) := goodIn_app (goodIn_of _ (by decide +kernel)) ggL_law_X6_used
set_option maxRecDepth 20000 in
theorem ggL_law_X5_family : GoodIn wsL_law wsX5_family := goodIn_r _ [671, 15, 83, 135, 136, 137, 14, 138, 101, 89, 90, 2, 91, 92, 93, 94, 95, 96, 672, 673, 674, 675, 39, 676, 677, 678, 679, 34, 680, 681, 682, 41, 683, 107, 684, 685, 223, 686, 108, 239, 240, 241, 242, 184, 185, 852, 853, 854, 855, 856, 857, 858, 875, 876, 877, 878, 879, 880, 881, 897, 898, 899, 900, 901, 902, 903, 904, 905] (by decide +kernel) (by decide +kernel)
set_option maxRecDepth 20000 in
theorem gL_law_X5_family : GoodIn wsL_law (wsV RL 128 RX5 yX5_family wsX5_family) := goodIn_app (goodIn_of _ (by decide +kernel)) ggL_law_X5_family
set_option maxRecDepth 20000 in
theorem ggL_law_X6_family : GoodIn wsL_law wsX6_family := goodIn_r _ [690, 119, 149, 150, 151, 5, 152, 69, 121, 122, 123, 124, 125, 126, 127, 128, 691, 692, 693, 694, 695, 685, 223, 686, 696, 697, 698, 699, 859, 860, 861, 862, 863, 864, 865, 866, 867, 868, 869, 870, 871, 872, 873, 874] (by decide +kernel) (by decide +kernel)
set_option maxRecDepth 20000 in
theorem gL_law_X6_family : GoodIn wsL_law (wsV RL 131 RX6 yX6_family wsX6_family) := goodIn_app (goodIn_of _ (by decide +kernel)) ggL_law_X6_family
set_option maxRecDepth 20000 in
theorem ggL_law_X5_families : GoodIn wsL_law wsX5_families := goodIn_r _ [703, 83, 15, 84, 89, 90, 2, 91, 92, 93, 94, 95, 96, 672, 673, 674, 14, 675, 101, 39, 676, 677, 678, 679, 34, 680, 681, 682, 41, 683, 107, 684, 685, 223, 686, 108, 239, 240, 241, 242, 184, 185, 852, 853, 854, 855, 856, 857, 858, 875, 876, 877, 878, 879, 880, 881, 897, 898, 899, 900, 901, 902, 903, 904, 905] (by decide +kernel) (by decide +kernel)
set_option maxRecDepth 20000 in
theorem gL_law_X5_families : GoodIn wsL_law (wsV RL 132 RX5 yX5_families wsX5_families) := goodIn_app (goodIn_of _ (by decide +kernel)) ggL_law_X5_families
set_option maxRecDepth 20000 in
theorem ggL_law_X6_families : GoodIn wsL_law wsX6_families := goodIn_r _ [707, 119, 69, 121, 122, 5, 123, 124, 125, 126, 127, 128, 691, 692, 693, 694, 695, 685, 223, 686, 696, 697, 698, 699, 859, 860, 861, 862, 863, 864, 865, 866, 867, 868, 869, 870, 871, 872, 873, 874] (by decide +kernel) (by decide +kernel)
set_option maxRecDepth 20000 in
theorem gL_law_X6_families : GoodIn wsL_law (wsV RL 135 RX6 yX6_families wsX6_families) := goodIn_app (goodIn_of _ (by decide +kernel)) ggL_law_X6_families
set_option maxRecDepth 20000 in
theorem ggL_law_X5_like : GoodIn wsL_law wsX5_like := goodIn_r _ [711, 15, 83, 135, 136, 137, 14, 138, 101, 92, 93, 94, 2, 95, 96, 712, 713, 714, 715, 34, 486, 521, 173, 174, 175, 176, 177, 178, 716, 717, 718, 719, 623, 222, 223, 224, 720, 721, 722, 852, 853, 854, 855, 856, 857, 858, 875, 876, 877, 878, 879, 880, 881, 897, 898, 899, 900, 901, 902, 903, 904, 905] (by decide +kernel) (by decide +kernel)
set_option maxRecDepth 20000 in
theorem gL_law_X5_like : GoodIn wsL_law (wsV RL 136 RX5 yX5_like wsX5_like) := goodIn_app (goodIn_of _ (by decide +kernel)) ggL_law_X5_like
set_option maxRecDepth 20000 in
theorem ggL_law_X6_like : GoodIn wsL_law wsX6_like := goodIn_r _ [726, 119, 149, 150, 151, 5, 152, 69, 121, 122, 123, 124, 125, 126, 127, 128, 727, 728, 729, 730, 190, 191, 192, 731, 732, 733, 734, 859, 860, 861, 862, 863, 864, 865, 866, 867, 868, 869, 870, 871, 872, 873, 874] (by decide +kernel) (by decide +kernel)
set_option maxRecDepth 20000 in
theorem gL_law_X6_like : GoodIn wsL_law (wsV RL 139 RX6 yX6_like wsX6_like) := goodIn_app (goodIn_of _ (by decide +kernel)) ggL_law_X6_like
set_option maxRecDepth 20000 in
theorem ggL_law_X5_nearest : GoodIn wsL_law wsX5_nearest := goodIn_r _ [738, 15, 83, 84, 269, 135, 136, 137, 14, 138, 101, 92, 93, 94, 2, 95, 96, 739, 740, 741, 742, 743, 713, 714, 715, 34, 486, 521, 173, 174, 175, 176, 177, 178, 744, 717, 718, 719, 623, 222, 223, 224, 852, 853, 854, 855, 856, 857, 858, 875, 876, 877, 878, 879, 880, 881, 897, 898, 899, 900, 901, 902, 903, 904, 905] (by decide +kernel) (by decide +kernel)
set_option maxRecDepth 20000 in
theorem gL_law_X5_nearest : GoodIn wsL_law (wsV RL 140 RX5 yX5_nearest wsX5_nearest) := goodIn_app (goodIn_of _ (by decide +kernel)) ggL_law_X5_nearest
set_option maxRecDepth 20000 in
theorem ggL_law_X6_nearest : GoodIn wsL_law wsX6_nearest := goodIn_r _ [748, 119, 69, 278, 149, 150, 151, 5, 152, 121, 122, 123, 124, 125, 126, 127, 128, 727, 728, 729, 730, 190, 191, 192, 731, 732, 733, 734, 859, 860, 861, 862, 863, 864, 865, 866, 867, 868, 869, 870, 871, 872, 873, 874] (by decide +kernel) (by decide +kernel)
set_option maxRecDepth 20000 in
theorem gL_law_X6_nearest : GoodIn wsL_law (wsV RL 143 RX6 yX6_nearest wsX6_nearest) := goodIn_app (goodIn_of _ (by decide +kernel)) ggL_law_X6_nearest
set_option maxRecDepth 20000 in
theorem ggL_law_X5_mark : GoodIn wsL_law wsX5_mark := goodIn_r _ [752, 15, 83, 133, 135, 136, 137, 14, 138, 101, 753, 754, 2, 755, 92, 93, 94, 95, 96, 756, 757, 758, 41, 759, 113, 114, 852, 853, 854, 855, 856, 857, 858, 875, 876, 877, 878, 879, 880, 881, 897, 898, 899, 900, 901, 902, 903, 904, 905] (by decide +kernel) (by decide +kernel)
set_option maxRecDepth 20000 in
theorem gL_law_X5_mark : GoodIn wsL_law (wsV RL 144 RX5 yX5_mark wsX5_mark) := goodIn_app (goodIn_of _ (by decide +kernel)) ggL_law_X5_mark
set_option maxRecDepth 20000 in
theorem ggL_law_X6_mark : GoodIn wsL_law wsX6_mark := goodIn_r _ [763, 119, 69, 149, 150, 151, 5, 152, 121, 122, 123, 764, 765, 766, 124, 125, 126, 127, 128, 859, 860, 861, 862, 863, 864, 865, 866, 867, 868, 869, 870, 871, 872, 873, 874] (by decide +kernel) (by decide +kernel)
set_option maxRecDepth 20000 in
theorem gL_law_X6_mark : GoodIn wsL_law (wsV RL 147 RX6 yX6_mark wsX6_mark) := goodIn_app (goodIn_of _ (by decide +kernel)) ggL_law_X6_mark
set_option maxRecDepth 20000 in
theorem ggL_law_X5_weigh : GoodIn wsL_law wsX5_weigh := goodIn_r _ [770, 83, 15, 753, 754, 2, 755, 92, 93, 94, 95, 96, 771, 772, 773, 14, 774, 36, 37, 852, 853, 854, 855, 856, 857, 858, 875, 876, 877, 878, 879, 880, 881] (by decide +kernel) (by decide +kernel)
set_option maxRecDepth 20000 in
theorem gL_law_X5_weigh : GoodIn wsL_law (wsV RL 148 RX5 yX5_weigh wsX5_weigh) := goodIn_app (goodIn_of _ (by decide +kernel)) ggL_law_X5_weigh
set_option maxRecDepth 20000 in
theorem ggL_law_X6_weigh : GoodIn wsL_law wsX6_weigh := goodIn_r _ [778, 119, 69, 764, 765, 5, 766, 121, 122, 123, 124, 125, 126, 127, 128, 859, 860, 861, 862, 863, 864, 865, 866, 867, 868, 869, 870, 871, 872, 873, 874] (by decide +kernel) (by decide +kernel)
set_option maxRecDepth 20000 in
theorem gL_law_X6_weigh : GoodIn wsL_law (wsV RL 152 RX6 yX6_weigh wsX6_weigh) := goodIn_app (goodIn_of _ (by decide +kernel)) ggL_law_X6_weigh
set_option maxRecDepth 20000 in
theorem ggL_law_X5_share : GoodIn wsL_law wsX5_share := goodIn_r _ [782, 15, 83, 133, 134, 135, 136, 137, 14, 138, 101, 92, 93, 94, 2, 95, 96, 139, 140, 141, 41, 142, 106, 143, 783, 784, 785, 786, 34, 787, 788, 789, 772, 773, 774, 36, 37, 184, 185, 852, 853, 854, 855, 856, 857, 858, 875, 876, 877, 878, 879, 880, 881, 897, 898, 899, 900, 901, 902, 903, 904, 905] (by decide +kernel) (by decide +kernel)
set_option maxRecDepth 20000 in
theorem gL_law_X5_share : GoodIn wsL_law (wsV RL 153 RX5 yX5_share wsX5_share) := goodIn_app (goodIn_of _ (by decide +kernel)) ggL_law_X5_share
set_option maxRecDepth 20000 in
theorem ggL_law_X6_share : GoodIn wsL_law wsX6_share := goodIn_r _ [793, 119, 69, 148, 149, 150, 151, 5, 152, 121, 122, 123, 124, 125, 126, 127, 128, 794, 795, 796, 797, 859, 860, 861, 862, 863, 864, 865, 866, 867, 868, 869, 870, 871, 872, 873, 874] (by decide +kernel) (by decide +kernel)
set_option maxRecDepth 20000 in
theorem gL_law_X6_share : GoodIn wsL_law (wsV RL 157 RX6 yX6_share wsX6_share) := goodIn_app (goodIn_of _ (by decide +kernel)) ggL_law_X6_share
set_option maxRecDepth 20000 in
theorem ggL_law_X5_people : GoodIn wsL_law wsX5_people := goodIn_r _ [801, 83, 15, 84, 92, 93, 94, 2, 95, 96, 802, 803, 804, 14, 805, 34, 806, 140, 141, 41, 142, 106, 143, 807, 784, 785, 786, 787, 788, 789, 772, 773, 774, 36, 37, 184, 185, 852, 853, 854, 855, 856, 857, 858, 875, 876, 877, 878, 879, 880, 881, 897, 898, 899, 900, 901, 902, 903, 904, 905] (by decide +kernel) (by decide +kernel)
set_option maxRecDepth 20000 in
theorem gL_law_X5_people : GoodIn wsL_law (wsV RL 158 RX5 yX5_people wsX5_people) := goodIn_app (goodIn_of _ (by decide +kernel)) ggL_law_X5_people
set_option maxRecDepth 20000 in
theorem ggL_law_X6_people : GoodIn wsL_law wsX6_people := goodIn_r _ [811, 119, 69, 121, 122, 5, 123, 124, 125, 126, 127, 128, 794, 795, 796, 797, 859, 860, 861, 862, 863, 864, 865, 866, 867, 868, 869, 870, 871, 872, 873, 874] (by decide +kernel) (by decide +kernel)
set_option maxRecDepth 20000 in
theorem gL_law_X6_people : GoodIn wsL_law (wsV RL 161 RX6 yX6_people wsX6_people) := goodIn_app (goodIn_of _ (by decide +kernel)) ggL_law_X6_people
set_option maxRecDepth 20000 in
theorem ggL_law_X5_keep : GoodIn wsL_law wsX5_keep := goodIn_r _ [815, 16, 15, 816, 84, 817, 818, 819, 14, 820, 34, 36, 821, 329, 330, 331, 37, 38, 101, 822, 823, 824, 825, 41, 826, 106, 107, 108, 109, 110, 111, 112, 113, 114, 852, 853, 854, 855, 856, 857, 858, 875, 876, 877, 878, 879, 880, 881, 897, 898, 899, 900, 901, 902, 903, 904, 905] (by decide +kernel) (by decide +kernel)
set_option maxRecDepth 20000 in
theorem gL_law_X5_keep : GoodIn wsL_law (wsV RL 162 RX5 yX5_keep wsX5_keep) := goodIn_app (goodIn_of _ (by decide +kernel)) ggL_law_X5_keep
set_option maxRecDepth 20000 in
theorem ggL_law_X6_keep : GoodIn wsL_law wsX6_keep := goodIn_r _ [830, 70, 69, 831, 859, 860, 861, 862, 863, 864, 865, 866, 867, 868, 869, 870, 871, 872, 873, 874] (by decide +kernel) (by decide +kernel)
set_option maxRecDepth 20000 in
theorem gL_law_X6_keep : GoodIn wsL_law (wsV RL 165 RX6 yX6_keep wsX6_keep) := goodIn_app (goodIn_of _ (by decide +kernel)) ggL_law_X6_keep
set_option maxRecDepth 20000 in
theorem ggL_law_X5_back : GoodIn wsL_law wsX5_back := goodIn_r _ [835, 816, 269, 15, 16, 84, 92, 93, 94, 2, 95, 96, 817, 818, 819, 14, 820, 34, 36, 821, 329, 330, 331, 37, 38, 101, 822, 823, 824, 825, 41, 826, 106, 107, 108, 109, 110, 111, 112, 113, 114, 852, 853, 854, 855, 856, 857, 858, 875, 876, 877, 878, 879, 880, 881, 897, 898, 899, 900, 901, 902, 903, 904, 905] (by decide +kernel) (by decide +kernel)
set_option maxRecDepth 20000 in
theorem gL_law_X5_back : GoodIn wsL_law (wsV RL 166 RX5 yX5_back wsX5_back) := goodIn_app (goodIn_of _ (by decide +kernel)) ggL_law_X5_back
set_option maxRecDepth 20000 in
theorem ggL_law_X6_back : GoodIn wsL_law wsX6_back := goodIn_r _ [839, 831, 278, 69, 70, 124, 125, 126, 5, 127, 128, 859, 860, 861, 862, 863, 864, 865, 866, 867, 868, 869, 870, 871, 872, 873, 874] (by decide +kernel) (by decide +kernel)
set_option maxRecDepth 20000 in
theorem gL_law_X6_back : GoodIn wsL_law (wsV RL 169 RX6 yX6_back wsX6_back) := goodIn_app (goodIn_of _ (by decide +kernel)) ggL_law_X6_back
set_option maxRecDepth 20000 in
theorem ggL_law_X5_told : GoodIn wsL_law wsX5_told := goodIn_r _ [843, 15, 84, 96, 501, 83, 844, 845, 846, 14, 847, 101, 34, 183, 521, 173, 174, 175, 176, 177, 178, 92, 93, 94, 2, 95, 852, 853, 854, 855, 856, 857, 858, 875, 876, 877, 878, 879, 880, 881, 897, 898, 899, 900, 901, 902, 903, 904, 905] (by decide +kernel) (by decide +kernel)
set_option maxRecDepth 20000 in
theorem gL_law_X5_told : GoodIn wsL_law (wsV RL 170 RX5 yX5_told wsX5_told) := goodIn_app (goodIn_of _ (by decide +kernel)) ggL_law_X5_told
set_option maxRecDepth 20000 in
theorem ggL_law_X6_told : GoodIn wsL_law wsX6_told := goodIn_r _ [851, 119, 69, 128, 121, 122, 5, 123, 124, 125, 126, 127, 190, 191, 192, 859, 860, 861, 862, 863, 864, 865, 866, 867, 868, 869, 870, 871, 872, 873, 874] (by decide +kernel) (by decide +kernel)
set_option maxRecDepth 20000 in
theorem gL_law_X6_told : GoodIn wsL_law (wsV RL 173 RX6 yX6_told wsX6_told) := goodIn_app (goodIn_of _ (by decide +kernel)) ggL_law_X6_told
