set_option maxRecDepth 20000 in
theorem ggL_law_X8_strongest : GoodIn wsL_law wsX8_strongest := goodIn_r _ [609, 31, 610, 611, 612, 30, 613, 78, 79, 614, 570, 571, 572, 80, 81, 573, 574, 198, 199, 200, 575, 576, 577, 578, 579, 580, 581, 582, 583, 584, 898, 899, 900, 901, 902, 903, 904, 958, 959, 960, 961, 962] (by decide +kernel) (by decide +kernel)
set_option maxRecDepth 20000 in
theorem gL_law_X8_strongest : GoodIn wsL_law (wsV RL 88 RX8 yX8_strongest wsX8_strongest) := goodIn_app (goodIn_of _ (by decide +kernel)) ggL_law_X8_strongest
set_option maxRecDepth 20000 in
theorem ggL_law_X9_strongest : GoodIn wsL_law wsX9_strongest := goodIn_r _ [618, 589, 590, 591, 5, 592, 593, 594, 595, 596, 597, 561, 562, 563, 564, 545, 127, 128, 598, 599, 600, 601, 129, 602, 603, 604, 605, 905, 906, 907, 908, 909, 910, 911, 912, 913, 914, 915, 916, 917, 918, 919, 920, 921, 922, 923, 924, 925, 926, 927, 928, 929, 930, 931, 932, 933, 934, 935, 936, 937, 938, 939, 940, 941, 942] (by decide +kernel) (by decide +kernel)
set_option maxRecDepth 20000 in
theorem gL_law_X9_strongest : GoodIn wsL_law (wsV RL 91 RX9 yX9_strongest wsX9_strongest) := goodIn_app (goodIn_of _ (by decide +kernel)) ggL_law_X9_strongest
set_option maxRecDepth 20000 in
theorem ggL_law_X8_cost : GoodIn wsL_law wsX8_cost := goodIn_r _ [622, 35, 149, 150, 2, 151, 623, 624, 625, 34, 626, 90, 627, 628, 629, 630, 91, 898, 899, 900, 901, 902, 903, 904, 963, 964, 965, 966, 967, 968] (by decide +kernel) (by decide +kernel)
set_option maxRecDepth 20000 in
theorem gL_law_X8_cost : GoodIn wsL_law (wsV RL 92 RX8 yX8_cost wsX8_cost) := goodIn_app (goodIn_of _ (by decide +kernel)) ggL_law_X8_cost
set_option maxRecDepth 20000 in
theorem ggL_law_X9_cost : GoodIn wsL_law wsX9_cost := goodIn_r _ [634, 130, 131, 163, 164, 5, 165, 905, 906, 907, 908, 909, 910, 911, 912, 913, 914, 915, 916, 917, 918, 919, 920, 921, 922, 923, 924, 925, 926, 927, 928, 929, 930, 931, 932, 933, 934, 935, 936, 937, 938, 939, 940, 941, 942] (by decide +kernel) (by decide +kernel)
set_option maxRecDepth 20000 in
theorem gL_law_X9_cost : GoodIn wsL_law (wsV RL 95 RX9 yX9_cost wsX9_cost) := goodIn_app (goodIn_of _ (by decide +kernel)) ggL_law_X9_cost
set_option maxRecDepth 20000 in
theorem ggL_law_X8_wear : GoodIn wsL_law wsX8_wear := goodIn_r _ [638, 35, 146, 147, 2, 148, 149, 150, 151, 639, 640, 641, 34, 642, 86, 898, 899, 900, 901, 902, 903, 904, 963, 964, 965, 966, 967, 968] (by decide +kernel) (by decide +kernel)
set_option maxRecDepth 20000 in
theorem gL_law_X8_wear : GoodIn wsL_law (wsV RL 96 RX8 yX8_wear wsX8_wear) := goodIn_app (goodIn_of _ (by decide +kernel)) ggL_law_X8_wear
set_option maxRecDepth 20000 in
theorem ggL_law_X9_wear : GoodIn wsL_law wsX9_wear := goodIn_r _ [646, 132, 160, 161, 5, 162, 163, 164, 165, 905, 906, 907, 908, 909, 910, 911, 912, 913, 914, 915, 916, 917, 918, 919, 920, 921, 922, 923, 924, 925, 926, 927, 928, 929, 930, 931, 932, 933, 934, 935, 936, 937, 938, 939, 940, 941, 942] (by decide +kernel) (by decide +kernel)
set_option maxRecDepth 20000 in
theorem gL_law_X9_wear : GoodIn wsL_law (wsV RL 99 RX9 yX9_wear wsX9_wear) := goodIn_app (goodIn_of _ (by decide +kernel)) ggL_law_X9_wear
set_option maxRecDepth 20000 in
theorem ggL_law_X8_plan : GoodIn wsL_law wsX8_plan := goodIn_r _ [650, 35, 146, 147, 2, 148, 149, 150, 151, 651, 652, 653, 34, 654, 89, 87, 898, 899, 900, 901, 902, 903, 904, 963, 964, 965, 966, 967, 968] (by decide +kernel) (by decide +kernel)
set_option maxRecDepth 20000 in
theorem gL_law_X8_plan : GoodIn wsL_law (wsV RL 100 RX8 yX8_plan wsX8_plan) := goodIn_app (goodIn_of _ (by decide +kernel)) ggL_law_X8_plan
set_option maxRecDepth 20000 in
theorem ggL_law_X9_plan : GoodIn wsL_law wsX9_plan := goodIn_r _ [658, 659, 133, 160, 161, 5, 162, 163, 164, 165, 905, 906, 907, 908, 909, 910, 911, 912, 913, 914, 915, 916, 917, 918, 919, 920, 921, 922, 923, 924, 925, 926, 927, 928, 929, 930, 931, 932, 933, 934, 935, 936, 937, 938, 939, 940, 941, 942] (by decide +kernel) (by decide +kernel)
set_option maxRecDepth 20000 in
theorem gL_law_X9_plan : GoodIn wsL_law (wsV RL 103 RX9 yX9_plan wsX9_plan) := goodIn_app (goodIn_of _ (by decide +kernel)) ggL_law_X9_plan
set_option maxRecDepth 20000 in
theorem ggL_law_X8_unplan : GoodIn wsL_law wsX8_unplan := goodIn_r _ [663, 35, 664, 665, 666, 34, 667, 89, 898, 899, 900, 901, 902, 903, 904, 963, 964, 965, 966, 967, 968] (by decide +kernel) (by decide +kernel)
set_option maxRecDepth 20000 in
theorem gL_law_X8_unplan : GoodIn wsL_law (wsV RL 104 RX8 yX8_unplan wsX8_unplan) := goodIn_app (goodIn_of _ (by decide +kernel)) ggL_law_X8_unplan
set_option maxRecDepth 20000 in
theorem ggL_law_X9_unplan : GoodIn wsL_law wsX9_unplan := goodIn_r _ [671, 659, 905, 906, 907, 908, 909, 910, 911, 912, 913, 914, 915, 916, 917, 918, 919, 920, 921, 922, 923, 924, 925, 926, 927, 928, 929, 930, 931, 932, 933, 934, 935, 936, 937, 938, 939, 940, 941, 942] (by decide +kernel) (by decide +kernel)
set_option maxRecDepth 20000 in
theorem gL_law_X9_unplan : GoodIn wsL_law (wsV RL 107 RX9 yX9_unplan wsX9_unplan) := goodIn_app (goodIn_of _ (by decide +kernel)) ggL_law_X9_unplan
set_option maxRecDepth 20000 in
theorem ggL_law_X8_costs : GoodIn wsL_law wsX8_costs := goodIn_r _ [675, 35, 149, 150, 2, 151, 676, 677, 678, 34, 679, 89, 680, 681, 682, 683, 88, 684, 685, 686, 687, 90, 91, 688, 198, 199, 200, 86, 87, 898, 899, 900, 901, 902, 903, 904, 963, 964, 965, 966, 967, 968] (by decide +kernel) (by decide +kernel)
set_option maxRecDepth 20000 in
theorem gL_law_X8_costs : GoodIn wsL_law (wsV RL 108 RX8 yX8_costs wsX8_costs) := goodIn_app (goodIn_of _ (by decide +kernel)) ggL_law_X8_costs
set_option maxRecDepth 20000 in
theorem ggL_law_X9_costs : GoodIn wsL_law wsX9_costs := goodIn_r _ [692, 659, 163, 164, 5, 165, 693, 694, 695, 696, 130, 131, 132, 133, 905, 906, 907, 908, 909, 910, 911, 912, 913, 914, 915, 916, 917, 918, 919, 920, 921, 922, 923, 924, 925, 926, 927, 928, 929, 930, 931, 932, 933, 934, 935, 936, 937, 938, 939, 940, 941, 942] (by decide +kernel) (by decide +kernel)
set_option maxRecDepth 20000 in
theorem gL_law_X9_costs : GoodIn wsL_law (wsV RL 111 RX9 yX9_costs wsX9_costs) := goodIn_app (goodIn_of _ (by decide +kernel)) ggL_law_X9_costs
set_option maxRecDepth 20000 in
theorem ggL_law_X8_change : GoodIn wsL_law wsX8_change := goodIn_r _ [700, 35, 676, 677, 678, 34, 679, 89, 701, 702, 703, 704, 88, 684, 685, 686, 687, 90, 91, 688, 198, 199, 200, 86, 87, 898, 899, 900, 901, 902, 903, 904, 963, 964, 965, 966, 967, 968] (by decide +kernel) (by decide +kernel)
set_option maxRecDepth 20000 in
theorem gL_law_X8_change : GoodIn wsL_law (wsV RL 112 RX8 yX8_change wsX8_change) := goodIn_app (goodIn_of _ (by decide +kernel)) ggL_law_X8_change
set_option maxRecDepth 20000 in
theorem ggL_law_X9_change : GoodIn wsL_law wsX9_change := goodIn_r _ [708, 659, 693, 694, 695, 5, 696, 130, 131, 132, 133, 905, 906, 907, 908, 909, 910, 911, 912, 913, 914, 915, 916, 917, 918, 919, 920, 921, 922, 923, 924, 925, 926, 927, 928, 929, 930, 931, 932, 933, 934, 935, 936, 937, 938, 939, 940, 941, 942] (by decide +kernel) (by decide +kernel)
set_option maxRecDepth 20000 in
theorem gL_law_X9_change : GoodIn wsL_law (wsV RL 115 RX9 yX9_change wsX9_change) := goodIn_app (goodIn_of _ (by decide +kernel)) ggL_law_X9_change
set_option maxRecDepth 20000 in
theorem ggL_law_X8_courts : GoodIn wsL_law wsX8_courts := goodIn_r _ [712, 39, 149, 150, 2, 151, 713, 714, 715, 38, 716, 102, 105, 898, 899, 900, 901, 902, 903, 904, 969, 970, 971, 972, 973, 974, 975, 976, 977, 978, 979, 980, 981, 982] (by decide +kernel) (by decide +kernel)
set_option maxRecDepth 20000 in
theorem gL_law_X8_courts : GoodIn wsL_law (wsV RL 116 RX8 yX8_courts wsX8_courts) := goodIn_app (goodIn_of _ (by decide +kernel)) ggL_law_X8_courts
set_option maxRecDepth 20000 in
theorem ggL_law_X9_courts : GoodIn wsL_law wsX9_courts := goodIn_r _ [720, 134, 163, 164, 5, 165, 905, 906, 907, 908, 909, 910, 911, 912, 913, 914, 915, 916, 917, 918, 919, 920, 921, 922, 923, 924, 925, 926, 927, 928, 929, 930, 931, 932, 933, 934, 935, 936, 937, 938, 939, 940, 941, 942] (by decide +kernel) (by decide +kernel)
set_option maxRecDepth 20000 in
theorem gL_law_X9_courts : GoodIn wsL_law (wsV RL 119 RX9 yX9_courts wsX9_courts) := goodIn_app (goodIn_of _ (by decide +kernel)) ggL_law_X9_courts
set_option maxRecDepth 20000 in
theorem ggL_law_X8_come : GoodIn wsL_law wsX8_come := goodIn_r _ [724, 39, 280, 281, 2, 282, 149, 150, 151, 725, 726, 727, 38, 728, 96, 729, 730, 731, 732, 97, 98, 103, 105, 898, 899, 900, 901, 902, 903, 904, 969, 970, 971, 972, 973, 974, 975, 976, 977, 978, 979, 980, 981, 982] (by decide +kernel) (by decide +kernel)
set_option maxRecDepth 20000 in
theorem gL_law_X8_come : GoodIn wsL_law (wsV RL 120 RX8 yX8_come wsX8_come) := goodIn_app (goodIn_of _ (by decide +kernel)) ggL_law_X8_come
set_option maxRecDepth 20000 in
theorem ggL_law_X9_come : GoodIn wsL_law wsX9_come := goodIn_r _ [736, 135, 136, 137, 296, 297, 5, 298, 163, 164, 165, 737, 738, 739, 740, 905, 906, 907, 908, 909, 910, 911, 912, 913, 914, 915, 916, 917, 918, 919, 920, 921, 922, 923, 924, 925, 926, 927, 928, 929, 930, 931, 932, 933, 934, 935, 936, 937, 938, 939, 940, 941, 942] (by decide +kernel) (by decide +kernel)
set_option maxRecDepth 20000 in
theorem gL_law_X9_come : GoodIn wsL_law (wsV RL 123 RX9 yX9_come wsX9_come) := goodIn_app (goodIn_of _ (by decide +kernel)) ggL_law_X9_come
