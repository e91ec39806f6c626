set_option maxRecDepth 20000 in
theorem ggL_law_X8_leave : GoodIn wsL_law wsX8_leave := goodIn_r _ [744, 39, 280, 281, 2, 282, 149, 150, 151, 725, 726, 727, 38, 728, 96, 745, 746, 747, 748, 103, 105, 898, 899, 900, 901, 902, 903, 904, 969, 970, 971, 972, 973, 974, 975, 976, 977, 978, 979, 980, 981, 982] (by decide +kernel) (by decide +kernel)
set_option maxRecDepth 20000 in
theorem gL_law_X8_leave : GoodIn wsL_law (wsV RL 124 RX8 yX8_leave wsX8_leave) := goodIn_app (goodIn_of _ (by decide +kernel)) ggL_law_X8_leave
set_option maxRecDepth 20000 in
theorem ggL_law_X9_leave : GoodIn wsL_law wsX9_leave := goodIn_r _ [752, 135, 296, 297, 5, 298, 163, 164, 165, 737, 738, 739, 740, 905, 906, 907, 908, 909, 910, 911, 912, 913, 914, 915, 916, 917, 918, 919, 920, 921, 922, 923, 924, 925, 926, 927, 928, 929, 930, 931, 932, 933, 934, 935, 936, 937, 938, 939, 940, 941, 942] (by decide +kernel) (by decide +kernel)
set_option maxRecDepth 20000 in
theorem gL_law_X9_leave : GoodIn wsL_law (wsV RL 127 RX9 yX9_leave wsX9_leave) := goodIn_app (goodIn_of _ (by decide +kernel)) ggL_law_X9_leave
set_option maxRecDepth 20000 in
theorem ggL_law_X8_against : GoodIn wsL_law wsX8_against := goodIn_r _ [756, 39, 280, 281, 2, 282, 149, 150, 151, 757, 758, 759, 38, 760, 101, 761, 762, 763, 764, 105, 106, 100, 765, 59, 60, 61, 766, 767, 768, 769, 102, 103, 770, 198, 199, 200, 771, 772, 773, 774, 98, 99, 97, 775, 206, 207, 776, 777, 778, 779, 107, 108, 109, 780, 781, 782, 783, 784, 785, 786, 787, 788, 789, 790, 791, 96, 898, 899, 900, 901, 902, 903, 904, 969, 970, 971, 972, 973, 974, 975, 976, 977, 978, 979, 980, 981, 982] (by decide +kernel) (by decide +kernel)
set_option maxRecDepth 20000 in
theorem gL_law_X8_against : GoodIn wsL_law (wsV RL 128 RX8 yX8_against wsX8_against) := goodIn_app (goodIn_of _ (by decide +kernel)) ggL_law_X8_against
set_option maxRecDepth 20000 in
theorem ggL_law_X9_against : GoodIn wsL_law wsX9_against := goodIn_r _ [795, 141, 296, 297, 5, 298, 163, 164, 165, 796, 797, 798, 799, 134, 800, 139, 140, 135, 737, 738, 739, 740, 801, 802, 803, 804, 137, 138, 136, 805, 806, 807, 257, 258, 259, 905, 906, 907, 908, 909, 910, 911, 912, 913, 914, 915, 916, 917, 918, 919, 920, 921, 922, 923, 924, 925, 926, 927, 928, 929, 930, 931, 932, 933, 934, 935, 936, 937, 938, 939, 940, 941, 942] (by decide +kernel) (by decide +kernel)
set_option maxRecDepth 20000 in
theorem gL_law_X9_against : GoodIn wsL_law (wsV RL 131 RX9 yX9_against wsX9_against) := goodIn_app (goodIn_of _ (by decide +kernel)) ggL_law_X9_against
set_option maxRecDepth 20000 in
theorem ggL_law_X8_round : GoodIn wsL_law wsX8_round := goodIn_r _ [811, 39, 149, 150, 2, 151, 812, 813, 814, 38, 815, 107, 108, 109, 761, 762, 763, 764, 105, 106, 100, 765, 59, 60, 61, 766, 767, 768, 769, 102, 103, 770, 198, 199, 200, 771, 772, 773, 774, 98, 99, 97, 775, 206, 207, 776, 777, 778, 779, 101, 780, 781, 782, 783, 784, 785, 786, 787, 788, 789, 790, 791, 96, 898, 899, 900, 901, 902, 903, 904, 969, 970, 971, 972, 973, 974, 975, 976, 977, 978, 979, 980, 981, 982] (by decide +kernel) (by decide +kernel)
set_option maxRecDepth 20000 in
theorem gL_law_X8_round : GoodIn wsL_law (wsV RL 132 RX8 yX8_round wsX8_round) := goodIn_app (goodIn_of _ (by decide +kernel)) ggL_law_X8_round
set_option maxRecDepth 20000 in
theorem ggL_law_X9_round : GoodIn wsL_law wsX9_round := goodIn_r _ [819, 800, 805, 806, 807, 163, 164, 5, 165, 796, 797, 798, 799, 134, 139, 140, 135, 737, 738, 739, 740, 801, 802, 803, 804, 137, 138, 136, 141, 257, 258, 259, 905, 906, 907, 908, 909, 910, 911, 912, 913, 914, 915, 916, 917, 918, 919, 920, 921, 922, 923, 924, 925, 926, 927, 928, 929, 930, 931, 932, 933, 934, 935, 936, 937, 938, 939, 940, 941, 942] (by decide +kernel) (by decide +kernel)
set_option maxRecDepth 20000 in
theorem gL_law_X9_round : GoodIn wsL_law (wsV RL 135 RX9 yX9_round wsX9_round) := goodIn_app (goodIn_of _ (by decide +kernel)) ggL_law_X9_round
set_option maxRecDepth 20000 in
theorem ggL_law_X8_played : GoodIn wsL_law wsX8_played := goodIn_r _ [823, 39, 824, 825, 826, 38, 827, 101, 98, 99, 96, 104, 105, 761, 762, 763, 764, 106, 100, 765, 59, 60, 61, 766, 767, 768, 769, 102, 103, 770, 198, 199, 200, 771, 772, 773, 774, 97, 775, 206, 207, 776, 777, 778, 779, 107, 108, 109, 780, 781, 782, 783, 784, 785, 786, 787, 788, 789, 790, 791, 898, 899, 900, 901, 902, 903, 904, 969, 970, 971, 972, 973, 974, 975, 976, 977, 978, 979, 980, 981, 982] (by decide +kernel) (by decide +kernel)
set_option maxRecDepth 20000 in
theorem gL_law_X8_played : GoodIn wsL_law (wsV RL 136 RX8 yX8_played wsX8_played) := goodIn_app (goodIn_of _ (by decide +kernel)) ggL_law_X8_played
set_option maxRecDepth 20000 in
theorem ggL_law_X9_played : GoodIn wsL_law wsX9_played := goodIn_r _ [831, 135, 137, 141, 138, 832, 800, 796, 797, 798, 5, 799, 134, 139, 140, 737, 738, 739, 740, 801, 802, 803, 804, 136, 805, 806, 807, 257, 258, 259, 163, 164, 165, 905, 906, 907, 908, 909, 910, 911, 912, 913, 914, 915, 916, 917, 918, 919, 920, 921, 922, 923, 924, 925, 926, 927, 928, 929, 930, 931, 932, 933, 934, 935, 936, 937, 938, 939, 940, 941, 942] (by decide +kernel) (by decide +kernel)
set_option maxRecDepth 20000 in
theorem gL_law_X9_played : GoodIn wsL_law (wsV RL 139 RX9 yX9_played wsX9_played) := goodIn_app (goodIn_of _ (by decide +kernel)) ggL_law_X9_played
set_option maxRecDepth 20000 in
theorem ggL_law_X8_had : GoodIn wsL_law wsX8_had := goodIn_r _ [836, 39, 280, 281, 2, 282, 149, 150, 151, 837, 838, 839, 38, 840, 99, 898, 899, 900, 901, 902, 903, 904, 969, 970, 971, 972, 973, 974, 975, 976, 977, 978, 979, 980, 981, 982] (by decide +kernel) (by decide +kernel)
set_option maxRecDepth 20000 in
theorem gL_law_X8_had : GoodIn wsL_law (wsV RL 140 RX8 yX8_had wsX8_had) := goodIn_app (goodIn_of _ (by decide +kernel)) ggL_law_X8_had
set_option maxRecDepth 20000 in
theorem ggL_law_X9_had : GoodIn wsL_law wsX9_had := goodIn_r _ [844, 138, 296, 297, 5, 298, 163, 164, 165, 905, 906, 907, 908, 909, 910, 911, 912, 913, 914, 915, 916, 917, 918, 919, 920, 921, 922, 923, 924, 925, 926, 927, 928, 929, 930, 931, 932, 933, 934, 935, 936, 937, 938, 939, 940, 941, 942] (by decide +kernel) (by decide +kernel)
set_option maxRecDepth 20000 in
theorem gL_law_X9_had : GoodIn wsL_law (wsV RL 143 RX9 yX9_had wsX9_had) := goodIn_app (goodIn_of _ (by decide +kernel)) ggL_law_X9_had
set_option maxRecDepth 20000 in
theorem ggL_law_X8_of : GoodIn wsL_law wsX8_of := goodIn_r _ [848, 19, 39, 280, 281, 2, 282, 149, 150, 151, 849, 850, 851, 18, 852, 57, 853, 854, 855, 856, 56, 857, 858, 859, 38, 860, 96, 98, 861, 862, 863, 864, 97, 865, 866, 867, 868, 99, 898, 899, 900, 901, 902, 903, 904, 948, 949, 950, 951, 969, 970, 971, 972, 973, 974, 975, 976, 977, 978, 979, 980, 981, 982] (by decide +kernel) (by decide +kernel)
set_option maxRecDepth 20000 in
theorem gL_law_X8_of : GoodIn wsL_law (wsV RL 144 RX8 yX8_of wsX8_of) := goodIn_app (goodIn_of _ (by decide +kernel)) ggL_law_X8_of
set_option maxRecDepth 20000 in
theorem ggL_law_X9_of : GoodIn wsL_law wsX9_of := goodIn_r _ [872, 119, 135, 137, 136, 138, 296, 297, 5, 298, 163, 164, 165, 363, 364, 365, 366, 117, 905, 906, 907, 908, 909, 910, 911, 912, 913, 914, 915, 916, 917, 918, 919, 920, 921, 922, 923, 924, 925, 926, 927, 928, 929, 930, 931, 932, 933, 934, 935, 936, 937, 938, 939, 940, 941, 942] (by decide +kernel) (by decide +kernel)
set_option maxRecDepth 20000 in
theorem gL_law_X9_of : GoodIn wsL_law (wsV RL 147 RX9 yX9_of wsX9_of) := goodIn_app (goodIn_of _ (by decide +kernel)) ggL_law_X9_of
set_option maxRecDepth 20000 in
theorem ggL_law_X8_count : GoodIn wsL_law wsX8_count := goodIn_r _ [876, 31, 39, 35, 877, 878, 879, 30, 880, 82, 881, 576, 577, 578, 79, 80, 579, 580, 581, 882, 883, 884, 38, 885, 103, 886, 887, 888, 889, 104, 890, 891, 892, 34, 893, 89, 898, 899, 900, 901, 902, 903, 904, 958, 959, 960, 961, 962, 969, 970, 971, 972, 973, 974, 975, 976, 977, 978, 979, 980, 981, 982, 963, 964, 965, 966, 967, 968] (by decide +kernel) (by decide +kernel)
set_option maxRecDepth 20000 in
theorem gL_law_X8_count : GoodIn wsL_law (wsV RL 148 RX8 yX8_count wsX8_count) := goodIn_app (goodIn_of _ (by decide +kernel)) ggL_law_X8_count
set_option maxRecDepth 20000 in
theorem ggL_law_X9_count : GoodIn wsL_law wsX9_count := goodIn_r _ [897, 545, 832, 659, 602, 603, 604, 5, 605, 594, 595, 596, 597, 561, 562, 563, 564, 127, 128, 737, 738, 739, 740, 135, 905, 906, 907, 908, 909, 910, 911, 912, 913, 914, 915, 916, 917, 918, 919, 920, 921, 922, 923, 924, 925, 926, 927, 928, 929, 930, 931, 932, 933, 934, 935, 936, 937, 938, 939, 940, 941, 942] (by decide +kernel) (by decide +kernel)
set_option maxRecDepth 20000 in
theorem gL_law_X9_count : GoodIn wsL_law (wsV RL 151 RX9 yX9_count wsX9_count) := goodIn_app (goodIn_of _ (by decide +kernel)) ggL_law_X9_count
