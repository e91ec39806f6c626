set_option maxRecDepth 20000 in
theorem ggL_law_X8_strike : GoodIn wsL_law wsX8_strike := goodIn_r _ [370, 15, 23, 186, 187, 2, 188, 149, 150, 151, 280, 281, 282, 371, 372, 373, 14, 374, 375, 190, 191, 192, 48, 193, 194, 195, 196, 44, 197, 198, 199, 200, 46, 201, 202, 203, 204, 205, 206, 207, 208, 209, 210, 211, 212, 213, 214, 215, 216, 217, 218, 49, 219, 220, 221, 222, 45, 223, 224, 225, 226, 227, 228, 376, 377, 378, 22, 379, 68, 380, 381, 382, 383, 329, 234, 235, 236, 237, 238, 232, 384, 325, 326, 327, 69, 328, 330, 331, 332, 18, 333, 55, 334, 335, 230, 231, 336, 240, 241, 242, 243, 337, 338, 339, 340, 341, 342, 343, 344, 345, 346, 347, 57, 385, 386, 387, 388, 389, 898, 899, 900, 901, 902, 903, 904, 943, 944, 945, 946, 947, 952, 953, 954, 955, 948, 949, 950, 951] (by decide +kernel) (by decide +kernel)
set_option maxRecDepth 20000 in
theorem gL_law_X8_strike : GoodIn wsL_law (wsV RL 50 RX8 yX8_strike wsX8_strike) := goodIn_app (goodIn_of _ (by decide +kernel)) ggL_law_X8_strike
set_option maxRecDepth 20000 in
theorem ggL_law_X9_strike : GoodIn wsL_law wsX9_strike := goodIn_r _ [393, 250, 251, 5, 252, 163, 164, 165, 296, 297, 298, 253, 254, 255, 256, 181, 114, 249, 115, 120, 257, 258, 259, 352, 353, 354, 355, 260, 261, 262, 263, 116, 356, 357, 358, 359, 118, 360, 361, 362, 363, 364, 365, 366, 117, 119, 905, 906, 907, 908, 909, 910, 911, 912, 913, 914, 915, 916, 917, 918, 919, 920, 921, 922, 923, 924, 925, 926, 927, 928, 929, 930, 931, 932, 933, 934, 935, 936, 937, 938, 939, 940, 941, 942] (by decide +kernel) (by decide +kernel)
set_option maxRecDepth 20000 in
theorem gL_law_X9_strike : GoodIn wsL_law (wsV RL 53 RX9 yX9_strike wsX9_strike) := goodIn_app (goodIn_of _ (by decide +kernel)) ggL_law_X9_strike
set_option maxRecDepth 20000 in
theorem ggL_law_X8_stand : GoodIn wsL_law wsX8_stand := goodIn_r _ [397, 15, 23, 280, 281, 2, 282, 149, 150, 151, 186, 187, 188, 371, 372, 373, 14, 374, 375, 190, 191, 192, 48, 193, 194, 195, 196, 44, 197, 198, 199, 200, 46, 201, 202, 203, 204, 205, 206, 207, 208, 209, 210, 211, 212, 213, 214, 215, 216, 217, 218, 49, 219, 220, 221, 222, 45, 223, 224, 225, 226, 227, 228, 398, 399, 400, 22, 401, 402, 386, 387, 388, 68, 389, 377, 378, 379, 380, 381, 382, 383, 329, 234, 235, 236, 237, 238, 232, 384, 325, 326, 327, 69, 328, 330, 331, 332, 18, 333, 55, 334, 335, 230, 231, 336, 240, 241, 242, 243, 337, 338, 339, 340, 341, 342, 343, 344, 345, 346, 347, 57, 385, 898, 899, 900, 901, 902, 903, 904, 943, 944, 945, 946, 947, 952, 953, 954, 955, 948, 949, 950, 951] (by decide +kernel) (by decide +kernel)
set_option maxRecDepth 20000 in
theorem gL_law_X8_stand : GoodIn wsL_law (wsV RL 54 RX8 yX8_stand wsX8_stand) := goodIn_app (goodIn_of _ (by decide +kernel)) ggL_law_X8_stand
set_option maxRecDepth 20000 in
theorem ggL_law_X9_stand : GoodIn wsL_law wsX9_stand := goodIn_r _ [406, 296, 297, 5, 298, 163, 164, 165, 250, 251, 252, 407, 408, 409, 410, 253, 254, 255, 256, 181, 114, 249, 115, 120, 257, 258, 259, 352, 353, 354, 355, 260, 261, 262, 263, 116, 356, 357, 358, 359, 118, 360, 361, 362, 363, 364, 365, 366, 117, 119, 905, 906, 907, 908, 909, 910, 911, 912, 913, 914, 915, 916, 917, 918, 919, 920, 921, 922, 923, 924, 925, 926, 927, 928, 929, 930, 931, 932, 933, 934, 935, 936, 937, 938, 939, 940, 941, 942] (by decide +kernel) (by decide +kernel)
set_option maxRecDepth 20000 in
theorem gL_law_X9_stand : GoodIn wsL_law (wsV RL 57 RX9 yX9_stand wsX9_stand) := goodIn_app (goodIn_of _ (by decide +kernel)) ggL_law_X9_stand
set_option maxRecDepth 20000 in
theorem ggL_law_X8_wins : GoodIn wsL_law wsX8_wins := goodIn_r _ [414, 23, 280, 281, 2, 282, 149, 150, 151, 186, 187, 188, 415, 416, 417, 22, 418, 68, 66, 419, 372, 373, 14, 374, 375, 190, 191, 192, 48, 193, 194, 195, 196, 44, 197, 198, 199, 200, 46, 201, 202, 203, 204, 205, 206, 207, 208, 209, 210, 211, 212, 213, 214, 215, 216, 217, 218, 49, 219, 220, 221, 222, 45, 223, 224, 225, 226, 227, 228, 420, 421, 422, 423, 69, 424, 380, 381, 382, 383, 329, 234, 235, 236, 237, 238, 232, 334, 335, 230, 231, 336, 240, 241, 242, 243, 425, 426, 427, 18, 428, 55, 429, 345, 346, 347, 57, 430, 431, 432, 433, 341, 434, 342, 343, 435, 436, 437, 438, 439, 440, 441, 67, 442, 443, 444, 445, 344, 446, 447, 448, 449, 450, 898, 899, 900, 901, 902, 903, 904, 952, 953, 954, 955, 943, 944, 945, 946, 947, 948, 949, 950, 951] (by decide +kernel) (by decide +kernel)
set_option maxRecDepth 20000 in
theorem gL_law_X8_wins : GoodIn wsL_law (wsV RL 58 RX8 yX8_wins wsX8_wins) := goodIn_app (goodIn_of _ (by decide +kernel)) ggL_law_X8_wins
set_option maxRecDepth 20000 in
theorem ggL_law_X9_wins : GoodIn wsL_law wsX9_wins := goodIn_r _ [454, 123, 125, 124, 296, 297, 5, 298, 163, 164, 165, 250, 251, 252, 455, 456, 457, 458, 121, 122, 253, 254, 255, 256, 181, 114, 249, 115, 120, 257, 258, 259, 459, 460, 461, 462, 260, 261, 262, 263, 116, 356, 357, 358, 359, 118, 360, 361, 362, 363, 364, 365, 366, 117, 119, 463, 464, 465, 466, 467, 468, 469, 470, 471, 472, 473, 474, 475, 476, 477, 478, 905, 906, 907, 908, 909, 910, 911, 912, 913, 914, 915, 916, 917, 918, 919, 920, 921, 922, 923, 924, 925, 926, 927, 928, 929, 930, 931, 932, 933, 934, 935, 936, 937, 938, 939, 940, 941, 942] (by decide +kernel) (by decide +kernel)
set_option maxRecDepth 20000 in
theorem gL_law_X9_wins : GoodIn wsL_law (wsV RL 61 RX9 yX9_wins wsX9_wins) := goodIn_app (goodIn_of _ (by decide +kernel)) ggL_law_X9_wins
set_option maxRecDepth 20000 in
theorem ggL_law_X8_rally : GoodIn wsL_law wsX8_rally := goodIn_r _ [482, 27, 149, 150, 2, 151, 483, 484, 485, 26, 486, 73, 487, 488, 489, 490, 491, 492, 493, 494, 74, 898, 899, 900, 901, 902, 903, 904, 956, 957] (by decide +kernel) (by decide +kernel)
set_option maxRecDepth 20000 in
theorem gL_law_X8_rally : GoodIn wsL_law (wsV RL 62 RX8 yX8_rally wsX8_rally) := goodIn_app (goodIn_of _ (by decide +kernel)) ggL_law_X8_rally
set_option maxRecDepth 20000 in
theorem ggL_law_X9_rally : GoodIn wsL_law wsX9_rally := goodIn_r _ [498, 126, 499, 163, 164, 5, 165, 500, 501, 502, 503, 504, 505, 506, 507, 905, 906, 907, 908, 909, 910, 911, 912, 913, 914, 915, 916, 917, 918, 919, 920, 921, 922, 923, 924, 925, 926, 927, 928, 929, 930, 931, 932, 933, 934, 935, 936, 937, 938, 939, 940, 941, 942] (by decide +kernel) (by decide +kernel)
set_option maxRecDepth 20000 in
theorem gL_law_X9_rally : GoodIn wsL_law (wsV RL 65 RX9 yX9_rally wsX9_rally) := goodIn_app (goodIn_of _ (by decide +kernel)) ggL_law_X9_rally
set_option maxRecDepth 20000 in
theorem ggL_law_X8_three : GoodIn wsL_law wsX8_three := goodIn_r _ [511, 27, 149, 150, 2, 151, 512, 513, 514, 26, 515, 74, 73, 487, 488, 489, 490, 516, 484, 485, 486, 898, 899, 900, 901, 902, 903, 904, 956, 957] (by decide +kernel) (by decide +kernel)
set_option maxRecDepth 20000 in
theorem gL_law_X8_three : GoodIn wsL_law (wsV RL 66 RX8 yX8_three wsX8_three) := goodIn_app (goodIn_of _ (by decide +kernel)) ggL_law_X8_three
set_option maxRecDepth 20000 in
theorem ggL_law_X9_three : GoodIn wsL_law wsX9_three := goodIn_r _ [520, 126, 499, 163, 164, 5, 165, 504, 505, 506, 507, 500, 501, 502, 503, 905, 906, 907, 908, 909, 910, 911, 912, 913, 914, 915, 916, 917, 918, 919, 920, 921, 922, 923, 924, 925, 926, 927, 928, 929, 930, 931, 932, 933, 934, 935, 936, 937, 938, 939, 940, 941, 942] (by decide +kernel) (by decide +kernel)
set_option maxRecDepth 20000 in
theorem gL_law_X9_three : GoodIn wsL_law (wsV RL 69 RX9 yX9_three wsX9_three) := goodIn_app (goodIn_of _ (by decide +kernel)) ggL_law_X9_three
set_option maxRecDepth 20000 in
theorem ggL_law_X8_again : GoodIn wsL_law wsX8_again := goodIn_r _ [524, 27, 525, 526, 527, 26, 528, 73, 74, 898, 899, 900, 901, 902, 903, 904, 956, 957] (by decide +kernel) (by decide +kernel)
set_option maxRecDepth 20000 in
theorem gL_law_X8_again : GoodIn wsL_law (wsV RL 70 RX8 yX8_again wsX8_again) := goodIn_app (goodIn_of _ (by decide +kernel)) ggL_law_X8_again
set_option maxRecDepth 20000 in
theorem ggL_law_X9_again : GoodIn wsL_law wsX9_again := goodIn_r _ [532, 126, 499, 905, 906, 907, 908, 909, 910, 911, 912, 913, 914, 915, 916, 917, 918, 919, 920, 921, 922, 923, 924, 925, 926, 927, 928, 929, 930, 931, 932, 933, 934, 935, 936, 937, 938, 939, 940, 941, 942] (by decide +kernel) (by decide +kernel)
set_option maxRecDepth 20000 in
theorem gL_law_X9_again : GoodIn wsL_law (wsV RL 74 RX9 yX9_again wsX9_again) := goodIn_app (goodIn_of _ (by decide +kernel)) ggL_law_X9_again
set_option maxRecDepth 20000 in
theorem ggL_law_X8_note : GoodIn wsL_law wsX8_note := goodIn_r _ [536, 31, 149, 150, 2, 151, 537, 538, 539, 30, 540, 82, 78, 79, 80, 81, 898, 899, 900, 901, 902, 903, 904, 958, 959, 960, 961, 962] (by decide +kernel) (by decide +kernel)
set_option maxRecDepth 20000 in
theorem gL_law_X8_note : GoodIn wsL_law (wsV RL 75 RX8 yX8_note wsX8_note) := goodIn_app (goodIn_of _ (by decide +kernel)) ggL_law_X8_note
set_option maxRecDepth 20000 in
theorem ggL_law_X9_note : GoodIn wsL_law wsX9_note := goodIn_r _ [544, 545, 127, 128, 163, 164, 5, 165, 905, 906, 907, 908, 909, 910, 911, 912, 913, 914, 915, 916, 917, 918, 919, 920, 921, 922, 923, 924, 925, 926, 927, 928, 929, 930, 931, 932, 933, 934, 935, 936, 937, 938, 939, 940, 941, 942] (by decide +kernel) (by decide +kernel)
set_option maxRecDepth 20000 in
theorem gL_law_X9_note : GoodIn wsL_law (wsV RL 79 RX9 yX9_note wsX9_note) := goodIn_app (goodIn_of _ (by decide +kernel)) ggL_law_X9_note
set_option maxRecDepth 20000 in
theorem ggL_law_X8_tally : GoodIn wsL_law wsX8_tally := goodIn_r _ [549, 31, 550, 551, 2, 552, 149, 150, 151, 146, 147, 148, 553, 554, 555, 30, 556, 78, 79, 80, 81, 898, 899, 900, 901, 902, 903, 904, 958, 959, 960, 961, 962] (by decide +kernel) (by decide +kernel)
set_option maxRecDepth 20000 in
theorem gL_law_X8_tally : GoodIn wsL_law (wsV RL 80 RX8 yX8_tally wsX8_tally) := goodIn_app (goodIn_of _ (by decide +kernel)) ggL_law_X8_tally
set_option maxRecDepth 20000 in
theorem ggL_law_X9_tally : GoodIn wsL_law wsX9_tally := goodIn_r _ [560, 163, 164, 5, 165, 160, 161, 162, 561, 562, 563, 564, 545, 127, 128, 905, 906, 907, 908, 909, 910, 911, 912, 913, 914, 915, 916, 917, 918, 919, 920, 921, 922, 923, 924, 925, 926, 927, 928, 929, 930, 931, 932, 933, 934, 935, 936, 937, 938, 939, 940, 941, 942] (by decide +kernel) (by decide +kernel)
set_option maxRecDepth 20000 in
theorem gL_law_X9_tally : GoodIn wsL_law (wsV RL 83 RX9 yX9_tally wsX9_tally) := goodIn_app (goodIn_of _ (by decide +kernel)) ggL_law_X9_tally
set_option maxRecDepth 20000 in
theorem ggL_law_X8_habit : GoodIn wsL_law wsX8_habit := goodIn_r _ [568, 31, 550, 551, 2, 552, 149, 150, 151, 146, 147, 148, 569, 570, 571, 30, 572, 79, 80, 81, 573, 574, 198, 199, 200, 78, 575, 576, 577, 578, 579, 580, 581, 582, 583, 584, 898, 899, 900, 901, 902, 903, 904, 958, 959, 960, 961, 962] (by decide +kernel) (by decide +kernel)
set_option maxRecDepth 20000 in
theorem gL_law_X8_habit : GoodIn wsL_law (wsV RL 84 RX8 yX8_habit wsX8_habit) := goodIn_app (goodIn_of _ (by decide +kernel)) ggL_law_X8_habit
set_option maxRecDepth 20000 in
theorem ggL_law_X9_habit : GoodIn wsL_law wsX9_habit := goodIn_r _ [588, 163, 164, 5, 165, 160, 161, 162, 589, 590, 591, 592, 593, 594, 595, 596, 597, 561, 562, 563, 564, 545, 127, 128, 598, 599, 600, 601, 129, 602, 603, 604, 605, 905, 906, 907, 908, 909, 910, 911, 912, 913, 914, 915, 916, 917, 918, 919, 920, 921, 922, 923, 924, 925, 926, 927, 928, 929, 930, 931, 932, 933, 934, 935, 936, 937, 938, 939, 940, 941, 942] (by decide +kernel) (by decide +kernel)
set_option maxRecDepth 20000 in
theorem gL_law_X9_habit : GoodIn wsL_law (wsV RL 87 RX9 yX9_habit wsX9_habit) := goodIn_app (goodIn_of _ (by decide +kernel)) ggL_law_X9_habit
