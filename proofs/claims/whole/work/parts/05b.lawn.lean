set_option maxRecDepth 20000 in
theorem ggL_law_X8_init : GoodIn wsL_law wsX8_init := goodIn_r _ [9, 10, 11, 12, 13, 14, 15, 16, 17, 18, 19, 20, 21, 22, 23, 24, 25, 26, 27, 28, 29, 30, 31, 32, 33, 34, 35, 36, 37, 38, 39, 40, 41, 42, 43, 44, 45, 46, 47, 48, 49, 50, 51, 52, 53, 54, 55, 56, 57, 58, 59, 60, 61, 62, 63, 64, 65, 66, 67, 68, 69, 70, 71, 72, 73, 74, 75, 76, 77, 78, 79, 80, 938, 939, 940, 941, 891, 892, 893, 894, 895, 896, 897, 898, 899, 900, 901, 902, 903, 904, 905, 942, 943, 944, 945, 946, 947, 948, 949, 950, 951, 952, 953, 954, 955, 956, 957, 958, 959, 960, 961, 962, 963, 964] (by decide +kernel) (by decide +kernel)
set_option maxRecDepth 20000 in
theorem gL_law_X8_init : GoodIn wsL_law (wsX8_init) := ggL_law_X8_init
set_option maxRecDepth 20000 in
theorem ggL_law_X9_init : GoodIn wsL_law wsX9_init := goodIn_r _ [83, 84, 11, 12, 29, 85, 86, 87, 88, 89, 90, 91, 92, 93, 94, 95, 96, 97, 98, 99, 100, 101, 102, 103, 104, 105, 106, 107, 906, 907, 908, 909, 910, 911, 912, 913, 914, 915, 916, 917, 918, 919, 920, 921, 922, 923, 924, 925, 926, 927, 928, 929, 930, 931, 932, 933, 934, 935, 936, 937] (by decide +kernel) (by decide +kernel)
set_option maxRecDepth 20000 in
theorem gL_law_X9_init : GoodIn wsL_law (wsX9_init) := ggL_law_X9_init
set_option maxRecDepth 20000 in
theorem ggL_law_X8_feed : GoodIn wsL_law wsX8_feed := goodIn_r _ [111, 16, 112, 113, 114, 115, 15, 116, 117, 51, 891, 892, 893, 894, 895, 896, 897, 898, 899, 900, 901, 902, 903, 904, 905, 938, 939, 940, 941] (by decide +kernel) (by decide +kernel)
set_option maxRecDepth 20000 in
theorem gL_law_X8_feed : GoodIn wsL_law (wsV RL 15 RX8 yX8_feed wsX8_feed) := goodIn_app (goodIn_of _ (by decide +kernel)) ggL_law_X8_feed
set_option maxRecDepth 20000 in
theorem ggL_law_X9_feed : GoodIn wsL_law wsX9_feed := goodIn_r _ [121, 122, 85, 123, 124, 125, 5, 126, 906, 907, 908, 909, 910, 911, 912, 913, 914, 915, 916, 917, 918, 919, 920, 921, 922, 923, 924, 925, 926, 927, 928, 929, 930, 931, 932, 933, 934, 935, 936, 937] (by decide +kernel) (by decide +kernel)
set_option maxRecDepth 20000 in
theorem gL_law_X9_feed : GoodIn wsL_law (wsV RL 19 RX9 yX9_feed wsX9_feed) := goodIn_app (goodIn_of _ (by decide +kernel)) ggL_law_X9_feed
set_option maxRecDepth 20000 in
theorem ggL_law_X8_recipe : GoodIn wsL_law wsX8_recipe := goodIn_r _ [130, 131, 16, 34, 112, 132, 133, 134, 15, 135, 136, 137, 138, 139, 140, 141, 142, 143, 144, 145, 146, 117, 147, 148, 149, 150, 151, 152, 153, 154, 51, 155, 156, 157, 158, 159, 160, 161, 162, 163, 164, 165, 166, 167, 168, 169, 36, 170, 171, 172, 173, 174, 175, 70, 176, 177, 178, 179, 891, 892, 893, 894, 895, 896, 897, 898, 899, 900, 901, 902, 903, 904, 905, 938, 939, 940, 941, 953, 954, 955, 956, 957] (by decide +kernel) (by decide +kernel)
set_option maxRecDepth 20000 in
theorem gL_law_X8_recipe : GoodIn wsL_law (wsV RL 20 RX8 yX8_recipe wsX8_recipe) := goodIn_app (goodIn_of _ (by decide +kernel)) ggL_law_X8_recipe
set_option maxRecDepth 20000 in
theorem ggL_law_X9_recipe : GoodIn wsL_law wsX9_recipe := goodIn_r _ [183, 184, 185, 122, 186, 187, 188, 5, 189, 86, 87, 88, 89, 90, 190, 191, 192, 193, 194, 195, 196, 197, 85, 198, 199, 200, 201, 124, 125, 126, 202, 203, 204, 205, 206, 207, 208, 906, 907, 908, 909, 910, 911, 912, 913, 914, 915, 916, 917, 918, 919, 920, 921, 922, 923, 924, 925, 926, 927, 928, 929, 930, 931, 932, 933, 934, 935, 936, 937] (by decide +kernel) (by decide +kernel)
set_option maxRecDepth 20000 in
theorem gL_law_X9_recipe : GoodIn wsL_law (wsV RL 24 RX9 yX9_recipe wsX9_recipe) := goodIn_app (goodIn_of _ (by decide +kernel)) ggL_law_X9_recipe
set_option maxRecDepth 20000 in
theorem ggL_law_X8_recipeTold : GoodIn wsL_law wsX8_recipeTold := goodIn_r _ [212, 213, 214, 215, 216, 217, 218, 219, 220, 2, 221, 131, 34, 953, 954, 955, 956, 957, 891, 892, 893, 894, 895, 896, 897, 898, 899, 900, 901, 902, 903, 904, 905] (by decide +kernel) (by decide +kernel)
set_option maxRecDepth 20000 in
theorem gL_law_X8_recipeTold : GoodIn wsL_law (wsV RL 25 RX8 yX8_recipeTold wsX8_recipeTold) := goodIn_app (goodIn_of _ (by decide +kernel)) ggL_law_X8_recipeTold
set_option maxRecDepth 20000 in
theorem ggL_law_X9_recipeTold : GoodIn wsL_law wsX9_recipeTold := goodIn_r _ [225, 86, 87, 88, 89, 90, 226, 227, 228, 5, 229, 184, 124, 125, 126, 906, 907, 908, 909, 910, 911, 912, 913, 914, 915, 916, 917, 918, 919, 920, 921, 922, 923, 924, 925, 926, 927, 928, 929, 930, 931, 932, 933, 934, 935, 936, 937] (by decide +kernel) (by decide +kernel)
set_option maxRecDepth 20000 in
theorem gL_law_X9_recipeTold : GoodIn wsL_law (wsV RL 29 RX9 yX9_recipeTold wsX9_recipeTold) := goodIn_app (goodIn_of _ (by decide +kernel)) ggL_law_X9_recipeTold
set_option maxRecDepth 20000 in
theorem ggL_law_X8_make : GoodIn wsL_law wsX8_make := goodIn_r _ [233, 234, 235, 37, 20, 236, 237, 218, 219, 220, 2, 221, 131, 34, 238, 239, 240, 19, 241, 242, 243, 244, 245, 246, 247, 248, 249, 250, 27, 251, 252, 253, 254, 255, 256, 257, 258, 259, 260, 261, 262, 263, 264, 265, 266, 267, 268, 269, 270, 271, 272, 273, 274, 275, 276, 277, 168, 169, 36, 170, 171, 172, 173, 174, 175, 70, 176, 177, 178, 179, 278, 279, 280, 281, 282, 283, 284, 285, 64, 65, 286, 287, 288, 289, 891, 892, 893, 894, 895, 896, 897, 898, 899, 900, 901, 902, 903, 904, 905, 945, 946, 947, 948, 949, 950, 951, 952, 942, 953, 954, 955, 956, 957] (by decide +kernel) (by decide +kernel)
set_option maxRecDepth 20000 in
theorem gL_law_X8_make : GoodIn wsL_law (wsV RL 30 RX8 yX8_make wsX8_make) := goodIn_app (goodIn_of _ (by decide +kernel)) ggL_law_X8_make
set_option maxRecDepth 20000 in
theorem ggL_law_X9_make : GoodIn wsL_law wsX9_make := goodIn_r _ [293, 294, 295, 226, 227, 228, 5, 229, 184, 124, 125, 126, 296, 297, 298, 299, 300, 91, 86, 92, 87, 93, 88, 95, 96, 94, 89, 106, 97, 98, 301, 302, 303, 304, 305, 306, 307, 308, 309, 310, 311, 312, 313, 314, 315, 90, 316, 317, 318, 319, 320, 321, 322, 906, 907, 908, 909, 910, 911, 912, 913, 914, 915, 916, 917, 918, 919, 920, 921, 922, 923, 924, 925, 926, 927, 928, 929, 930, 931, 932, 933, 934, 935, 936, 937] (by decide +kernel) (by decide +kernel)
set_option maxRecDepth 20000 in
theorem gL_law_X9_make : GoodIn wsL_law (wsV RL 33 RX9 yX9_make wsX9_make) := goodIn_app (goodIn_of _ (by decide +kernel)) ggL_law_X9_make
set_option maxRecDepth 20000 in
theorem ggL_law_X8_wild : GoodIn wsL_law wsX8_wild := goodIn_r _ [326, 43, 235, 37, 327, 328, 329, 330, 2, 331, 332, 333, 165, 334, 335, 336, 337, 45, 338, 79, 339, 340, 341, 342, 343, 344, 345, 346, 347, 348, 349, 350, 351, 352, 249, 250, 27, 251, 252, 253, 254, 255, 256, 257, 353, 283, 284, 285, 64, 65, 286, 287, 288, 289, 891, 892, 893, 894, 895, 896, 897, 898, 899, 900, 901, 902, 903, 904, 905, 962, 963, 964, 945, 946, 947, 948, 949, 950, 951, 952] (by decide +kernel) (by decide +kernel)
set_option maxRecDepth 20000 in
theorem gL_law_X8_wild : GoodIn wsL_law (wsV RL 34 RX8 yX8_wild wsX8_wild) := goodIn_app (goodIn_of _ (by decide +kernel)) ggL_law_X8_wild
set_option maxRecDepth 20000 in
theorem ggL_law_X9_wild : GoodIn wsL_law wsX9_wild := goodIn_r _ [357, 103, 104, 105, 295, 91, 92, 93, 94, 95, 96, 97, 98, 124, 125, 5, 126, 358, 359, 360, 906, 907, 908, 909, 910, 911, 912, 913, 914, 915, 916, 917, 918, 919, 920, 921, 922, 923, 924, 925, 926, 927, 928, 929, 930, 931, 932, 933, 934, 935, 936, 937] (by decide +kernel) (by decide +kernel)
set_option maxRecDepth 20000 in
theorem gL_law_X9_wild : GoodIn wsL_law (wsV RL 38 RX9 yX9_wild wsX9_wild) := goodIn_app (goodIn_of _ (by decide +kernel)) ggL_law_X9_wild
set_option maxRecDepth 20000 in
theorem ggL_law_X8_taskTold : GoodIn wsL_law wsX8_taskTold := goodIn_r _ [364, 365, 366, 367, 368, 236, 237, 369, 370, 371, 2, 372, 235, 37, 945, 946, 947, 948, 949, 950, 951, 952, 891, 892, 893, 894, 895, 896, 897, 898, 899, 900, 901, 902, 903, 904, 905] (by decide +kernel) (by decide +kernel)
set_option maxRecDepth 20000 in
theorem gL_law_X8_taskTold : GoodIn wsL_law (wsV RL 39 RX8 yX8_taskTold wsX8_taskTold) := goodIn_app (goodIn_of _ (by decide +kernel)) ggL_law_X8_taskTold
set_option maxRecDepth 20000 in
theorem ggL_law_X9_taskTold : GoodIn wsL_law wsX9_taskTold := goodIn_r _ [376, 91, 92, 93, 94, 95, 96, 377, 378, 379, 5, 380, 295, 124, 125, 126, 906, 907, 908, 909, 910, 911, 912, 913, 914, 915, 916, 917, 918, 919, 920, 921, 922, 923, 924, 925, 926, 927, 928, 929, 930, 931, 932, 933, 934, 935, 936, 937] (by decide +kernel) (by decide +kernel)
set_option maxRecDepth 20000 in
theorem gL_law_X9_taskTold : GoodIn wsL_law (wsV RL 42 RX9 yX9_taskTold wsX9_taskTold) := goodIn_app (goodIn_of _ (by decide +kernel)) ggL_law_X9_taskTold
set_option maxRecDepth 20000 in
theorem ggL_law_X8_clauseTold : GoodIn wsL_law wsX8_clauseTold := goodIn_r _ [384, 367, 385, 386, 369, 370, 371, 2, 372, 235, 37, 945, 946, 947, 948, 949, 950, 951, 952, 891, 892, 893, 894, 895, 896, 897, 898, 899, 900, 901, 902, 903, 904, 905] (by decide +kernel) (by decide +kernel)
set_option maxRecDepth 20000 in
theorem gL_law_X8_clauseTold : GoodIn wsL_law (wsV RL 43 RX8 yX8_clauseTold wsX8_clauseTold) := goodIn_app (goodIn_of _ (by decide +kernel)) ggL_law_X8_clauseTold
set_option maxRecDepth 20000 in
theorem ggL_law_X9_clauseTold : GoodIn wsL_law wsX9_clauseTold := goodIn_r _ [390, 93, 97, 98, 377, 378, 379, 5, 380, 295, 124, 125, 126, 906, 907, 908, 909, 910, 911, 912, 913, 914, 915, 916, 917, 918, 919, 920, 921, 922, 923, 924, 925, 926, 927, 928, 929, 930, 931, 932, 933, 934, 935, 936, 937] (by decide +kernel) (by decide +kernel)
set_option maxRecDepth 20000 in
theorem gL_law_X9_clauseTold : GoodIn wsL_law (wsV RL 46 RX9 yX9_clauseTold wsX9_clauseTold) := goodIn_app (goodIn_of _ (by decide +kernel)) ggL_law_X9_clauseTold
set_option maxRecDepth 20000 in
theorem ggL_law_X8_solves : GoodIn wsL_law wsX8_solves := goodIn_r _ [394, 366, 369, 370, 371, 2, 372, 235, 37, 349, 350, 351, 395, 396, 397, 27, 398, 254, 399, 400, 401, 402, 252, 403, 404, 405, 406, 64, 65, 407, 343, 344, 345, 346, 347, 348, 408, 409, 410, 411, 412, 164, 165, 166, 945, 946, 947, 948, 949, 950, 951, 952, 891, 892, 893, 894, 895, 896, 897, 898, 899, 900, 901, 902, 903, 904, 905] (by decide +kernel) (by decide +kernel)
set_option maxRecDepth 20000 in
theorem gL_law_X8_solves : GoodIn wsL_law (wsV RL 47 RX8 yX8_solves wsX8_solves) := goodIn_app (goodIn_of _ (by decide +kernel)) ggL_law_X8_solves
set_option maxRecDepth 20000 in
theorem ggL_law_X9_solves : GoodIn wsL_law wsX9_solves := goodIn_r _ [416, 377, 378, 379, 5, 380, 295, 124, 125, 126, 417, 418, 419, 420, 92, 421, 422, 423, 424, 93, 91, 425, 426, 427, 428, 97, 98, 358, 359, 360, 429, 430, 431, 432, 206, 207, 208, 906, 907, 908, 909, 910, 911, 912, 913, 914, 915, 916, 917, 918, 919, 920, 921, 922, 923, 924, 925, 926, 927, 928, 929, 930, 931, 932, 933, 934, 935, 936, 937] (by decide +kernel) (by decide +kernel)
set_option maxRecDepth 20000 in
theorem gL_law_X9_solves : GoodIn wsL_law (wsV RL 50 RX9 yX9_solves wsX9_solves) := goodIn_app (goodIn_of _ (by decide +kernel)) ggL_law_X9_solves
set_option maxRecDepth 20000 in
theorem ggL_law_X8_answers : GoodIn wsL_law wsX8_answers := goodIn_r _ [436, 366, 369, 370, 371, 2, 372, 235, 37, 349, 350, 351, 437, 438, 439, 27, 440, 441, 442, 443, 444, 253, 445, 446, 447, 448, 449, 396, 397, 398, 254, 399, 400, 401, 402, 252, 403, 404, 405, 406, 64, 65, 407, 343, 344, 345, 346, 347, 348, 408, 409, 410, 411, 412, 164, 165, 166, 945, 946, 947, 948, 949, 950, 951, 952, 891, 892, 893, 894, 895, 896, 897, 898, 899, 900, 901, 902, 903, 904, 905] (by decide +kernel) (by decide +kernel)
set_option maxRecDepth 20000 in
theorem gL_law_X8_answers : GoodIn wsL_law (wsV RL 51 RX8 yX8_answers wsX8_answers) := goodIn_app (goodIn_of _ (by decide +kernel)) ggL_law_X8_answers
set_option maxRecDepth 20000 in
theorem ggL_law_X9_answers : GoodIn wsL_law wsX9_answers := goodIn_r _ [453, 377, 378, 379, 5, 380, 295, 124, 125, 126, 417, 418, 419, 420, 92, 454, 455, 456, 457, 458, 459, 460, 461, 421, 422, 423, 424, 93, 91, 425, 426, 427, 428, 97, 98, 358, 359, 360, 429, 430, 431, 432, 206, 207, 208, 906, 907, 908, 909, 910, 911, 912, 913, 914, 915, 916, 917, 918, 919, 920, 921, 922, 923, 924, 925, 926, 927, 928, 929, 930, 931, 932, 933, 934, 935, 936, 937] (by decide +kernel) (by decide +kernel)
set_option maxRecDepth 20000 in
theorem gL_law_X9_answers : GoodIn wsL_law (wsV RL 54 RX9 yX9_answers wsX9_answers) := goodIn_app (goodIn_of _ (by decide +kernel)) ggL_law_X9_answers
set_option maxRecDepth 20000 in
theorem ggL_law_X8_answer : GoodIn wsL_law wsX8_answer := goodIn_r _ [465, 369, 370, 371, 2, 372, 235, 37, 466, 442, 443, 27, 444, 253, 467, 446, 447, 448, 449, 396, 397, 398, 254, 399, 400, 401, 402, 252, 403, 404, 405, 406, 64, 65, 407, 343, 344, 345, 346, 347, 348, 408, 409, 410, 411, 412, 164, 165, 166, 891, 892, 893, 894, 895, 896, 897, 898, 899, 900, 901, 902, 903, 904, 905, 945, 946, 947, 948, 949, 950, 951, 952] (by decide +kernel) (by decide +kernel)
set_option maxRecDepth 20000 in
theorem gL_law_X8_answer : GoodIn wsL_law (wsV RL 55 RX8 yX8_answer wsX8_answer) := goodIn_app (goodIn_of _ (by decide +kernel)) ggL_law_X8_answer
set_option maxRecDepth 20000 in
theorem ggL_law_X9_answer : GoodIn wsL_law wsX9_answer := goodIn_r _ [471, 92, 377, 378, 379, 5, 380, 295, 124, 125, 126, 458, 459, 460, 461, 421, 422, 423, 424, 93, 91, 425, 426, 427, 428, 97, 98, 358, 359, 360, 429, 430, 431, 432, 206, 207, 208, 906, 907, 908, 909, 910, 911, 912, 913, 914, 915, 916, 917, 918, 919, 920, 921, 922, 923, 924, 925, 926, 927, 928, 929, 930, 931, 932, 933, 934, 935, 936, 937] (by decide +kernel) (by decide +kernel)
set_option maxRecDepth 20000 in
theorem gL_law_X9_answer : GoodIn wsL_law (wsV RL 58 RX9 yX9_answer wsX9_answer) := goodIn_app (goodIn_of _ (by decide +kernel)) ggL_law_X9_answer
set_option maxRecDepth 20000 in
theorem ggL_law_X8_nearest : GoodIn wsL_law wsX8_nearest := goodIn_r _ [475, 366, 369, 370, 371, 2, 372, 235, 37, 349, 350, 351, 466, 442, 443, 27, 444, 253, 342, 343, 344, 345, 346, 347, 348, 467, 446, 447, 448, 449, 396, 397, 398, 254, 399, 400, 401, 402, 252, 403, 404, 405, 406, 64, 65, 407, 408, 409, 410, 411, 412, 164, 165, 166, 945, 946, 947, 948, 949, 950, 951, 952, 891, 892, 893, 894, 895, 896, 897, 898, 899, 900, 901, 902, 903, 904, 905] (by decide +kernel) (by decide +kernel)
set_option maxRecDepth 20000 in
theorem gL_law_X8_nearest : GoodIn wsL_law (wsV RL 59 RX8 yX8_nearest wsX8_nearest) := goodIn_app (goodIn_of _ (by decide +kernel)) ggL_law_X8_nearest
set_option maxRecDepth 20000 in
theorem ggL_law_X9_nearest : GoodIn wsL_law wsX9_nearest := goodIn_r _ [479, 92, 377, 378, 379, 5, 380, 295, 124, 125, 126, 417, 418, 419, 420, 458, 459, 460, 461, 421, 422, 423, 424, 93, 91, 425, 426, 427, 428, 97, 98, 358, 359, 360, 429, 430, 431, 432, 206, 207, 208, 906, 907, 908, 909, 910, 911, 912, 913, 914, 915, 916, 917, 918, 919, 920, 921, 922, 923, 924, 925, 926, 927, 928, 929, 930, 931, 932, 933, 934, 935, 936, 937] (by decide +kernel) (by decide +kernel)
set_option maxRecDepth 20000 in
theorem gL_law_X9_nearest : GoodIn wsL_law (wsV RL 62 RX9 yX9_nearest wsX9_nearest) := goodIn_app (goodIn_of _ (by decide +kernel)) ggL_law_X9_nearest
set_option maxRecDepth 20000 in
theorem ggL_law_X8_hint : GoodIn wsL_law wsX8_hint := goodIn_r _ [483, 32, 366, 369, 370, 371, 2, 372, 235, 37, 484, 485, 486, 27, 487, 253, 488, 489, 490, 491, 441, 442, 443, 444, 445, 446, 447, 448, 449, 396, 397, 398, 254, 399, 400, 401, 402, 252, 403, 404, 405, 406, 64, 65, 407, 343, 344, 345, 346, 347, 348, 408, 409, 410, 411, 412, 164, 165, 166, 891, 892, 893, 894, 895, 896, 897, 898, 899, 900, 901, 902, 903, 904, 905, 945, 946, 947, 948, 949, 950, 951, 952] (by decide +kernel) (by decide +kernel)
set_option maxRecDepth 20000 in
theorem gL_law_X8_hint : GoodIn wsL_law (wsV RL 63 RX8 yX8_hint wsX8_hint) := goodIn_app (goodIn_of _ (by decide +kernel)) ggL_law_X8_hint
set_option maxRecDepth 20000 in
theorem ggL_law_X9_hint : GoodIn wsL_law wsX9_hint := goodIn_r _ [495, 92, 377, 378, 379, 5, 380, 295, 124, 125, 126, 454, 455, 456, 457, 458, 459, 460, 461, 421, 422, 423, 424, 93, 91, 425, 426, 427, 428, 97, 98, 358, 359, 360, 429, 430, 431, 432, 206, 207, 208, 906, 907, 908, 909, 910, 911, 912, 913, 914, 915, 916, 917, 918, 919, 920, 921, 922, 923, 924, 925, 926, 927, 928, 929, 930, 931, 932, 933, 934, 935, 936, 937] (by decide +kernel) (by decide +kernel)
set_option maxRecDepth 20000 in
theorem gL_law_X9_hint : GoodIn wsL_law (wsV RL 67 RX9 yX9_hint wsX9_hint) := goodIn_app (goodIn_of _ (by decide +kernel)) ggL_law_X9_hint
set_option maxRecDepth 20000 in
theorem ggL_law_X8_needed : GoodIn wsL_law wsX8_needed := goodIn_r _ [499, 369, 370, 371, 2, 372, 235, 37, 466, 442, 443, 27, 444, 253, 395, 396, 397, 398, 254, 399, 400, 401, 402, 252, 403, 404, 405, 406, 64, 65, 407, 343, 344, 345, 346, 347, 348, 408, 409, 410, 411, 412, 164, 165, 166, 891, 892, 893, 894, 895, 896, 897, 898, 899, 900, 901, 902, 903, 904, 905, 945, 946, 947, 948, 949, 950, 951, 952] (by decide +kernel) (by decide +kernel)
set_option maxRecDepth 20000 in
theorem gL_law_X8_needed : GoodIn wsL_law (wsV RL 68 RX8 yX8_needed wsX8_needed) := goodIn_app (goodIn_of _ (by decide +kernel)) ggL_law_X8_needed
set_option maxRecDepth 20000 in
theorem ggL_law_X9_needed : GoodIn wsL_law wsX9_needed := goodIn_r _ [503, 92, 93, 91, 377, 378, 379, 5, 380, 295, 124, 125, 126, 425, 426, 427, 428, 97, 98, 358, 359, 360, 429, 430, 431, 432, 206, 207, 208, 906, 907, 908, 909, 910, 911, 912, 913, 914, 915, 916, 917, 918, 919, 920, 921, 922, 923, 924, 925, 926, 927, 928, 929, 930, 931, 932, 933, 934, 935, 936, 937] (by decide +kernel) (by decide +kernel)
set_option maxRecDepth 20000 in
theorem gL_law_X9_needed : GoodIn wsL_law (wsV RL 71 RX9 yX9_needed wsX9_needed) := goodIn_app (goodIn_of _ (by decide +kernel)) ggL_law_X9_needed
set_option maxRecDepth 20000 in
theorem ggL_law_X8_lean : GoodIn wsL_law wsX8_lean := goodIn_r _ [507, 366, 368, 369, 370, 371, 2, 372, 235, 37, 508, 509, 510, 27, 511, 254, 64, 65, 945, 946, 947, 948, 949, 950, 951, 952, 891, 892, 893, 894, 895, 896, 897, 898, 899, 900, 901, 902, 903, 904, 905] (by decide +kernel) (by decide +kernel)
set_option maxRecDepth 20000 in
theorem gL_law_X8_lean : GoodIn wsL_law (wsV RL 72 RX8 yX8_lean wsX8_lean) := goodIn_app (goodIn_of _ (by decide +kernel)) ggL_law_X8_lean
set_option maxRecDepth 20000 in
theorem ggL_law_X9_lean : GoodIn wsL_law wsX9_lean := goodIn_r _ [515, 92, 94, 377, 378, 379, 5, 380, 295, 124, 125, 126, 516, 517, 518, 519, 93, 97, 98, 906, 907, 908, 909, 910, 911, 912, 913, 914, 915, 916, 917, 918, 919, 920, 921, 922, 923, 924, 925, 926, 927, 928, 929, 930, 931, 932, 933, 934, 935, 936, 937] (by decide +kernel) (by decide +kernel)
set_option maxRecDepth 20000 in
theorem gL_law_X9_lean : GoodIn wsL_law (wsV RL 75 RX9 yX9_lean wsX9_lean) := goodIn_app (goodIn_of _ (by decide +kernel)) ggL_law_X9_lean
set_option maxRecDepth 20000 in
theorem ggL_law_X8_leans : GoodIn wsL_law wsX8_leans := goodIn_r _ [523, 524, 216, 218, 219, 220, 2, 221, 131, 34, 525, 526, 527, 36, 528, 171, 172, 173, 174, 175, 70, 176, 177, 178, 179, 529, 168, 169, 170, 530, 531, 532, 533, 534, 143, 535, 536, 537, 538, 953, 954, 955, 956, 957, 891, 892, 893, 894, 895, 896, 897, 898, 899, 900, 901, 902, 903, 904, 905] (by decide +kernel) (by decide +kernel)
set_option maxRecDepth 20000 in
theorem gL_law_X8_leans : GoodIn wsL_law (wsV RL 76 RX8 yX8_leans wsX8_leans) := goodIn_app (goodIn_of _ (by decide +kernel)) ggL_law_X8_leans
set_option maxRecDepth 20000 in
theorem ggL_law_X9_leans : GoodIn wsL_law wsX9_leans := goodIn_r _ [542, 89, 543, 226, 227, 228, 5, 229, 184, 124, 125, 126, 544, 545, 546, 547, 90, 320, 321, 322, 316, 317, 318, 319, 548, 549, 550, 906, 907, 908, 909, 910, 911, 912, 913, 914, 915, 916, 917, 918, 919, 920, 921, 922, 923, 924, 925, 926, 927, 928, 929, 930, 931, 932, 933, 934, 935, 936, 937] (by decide +kernel) (by decide +kernel)
set_option maxRecDepth 20000 in
theorem gL_law_X9_leans : GoodIn wsL_law (wsV RL 80 RX9 yX9_leans wsX9_leans) := goodIn_app (goodIn_of _ (by decide +kernel)) ggL_law_X9_leans
set_option maxRecDepth 20000 in
theorem ggL_law_X8_pairs : GoodIn wsL_law wsX8_pairs := goodIn_r _ [554, 524, 218, 219, 220, 2, 221, 131, 34, 555, 556, 557, 36, 558, 171, 172, 173, 174, 175, 70, 176, 177, 178, 179, 559, 560, 561, 562, 529, 168, 169, 170, 563, 530, 531, 532, 533, 534, 143, 535, 536, 537, 538, 891, 892, 893, 894, 895, 896, 897, 898, 899, 900, 901, 902, 903, 904, 905, 953, 954, 955, 956, 957] (by decide +kernel) (by decide +kernel)
set_option maxRecDepth 20000 in
theorem gL_law_X8_pairs : GoodIn wsL_law (wsV RL 81 RX8 yX8_pairs wsX8_pairs) := goodIn_app (goodIn_of _ (by decide +kernel)) ggL_law_X8_pairs
set_option maxRecDepth 20000 in
theorem ggL_law_X9_pairs : GoodIn wsL_law wsX9_pairs := goodIn_r _ [567, 543, 89, 90, 226, 227, 228, 5, 229, 184, 124, 125, 126, 320, 321, 322, 316, 317, 318, 319, 548, 549, 550, 906, 907, 908, 909, 910, 911, 912, 913, 914, 915, 916, 917, 918, 919, 920, 921, 922, 923, 924, 925, 926, 927, 928, 929, 930, 931, 932, 933, 934, 935, 936, 937] (by decide +kernel) (by decide +kernel)
set_option maxRecDepth 20000 in
theorem gL_law_X9_pairs : GoodIn wsL_law (wsV RL 84 RX9 yX9_pairs wsX9_pairs) := goodIn_app (goodIn_of _ (by decide +kernel)) ggL_law_X9_pairs
set_option maxRecDepth 20000 in
theorem ggL_law_X8_balance : GoodIn wsL_law wsX8_balance := goodIn_r _ [571, 216, 217, 533, 534, 143, 535, 218, 219, 220, 2, 221, 131, 34, 572, 573, 574, 36, 575, 576, 171, 70, 577, 164, 165, 166, 578, 526, 527, 528, 172, 173, 174, 175, 176, 177, 178, 179, 579, 168, 169, 170, 953, 954, 955, 956, 957, 891, 892, 893, 894, 895, 896, 897, 898, 899, 900, 901, 902, 903, 904, 905] (by decide +kernel) (by decide +kernel)
set_option maxRecDepth 20000 in
theorem gL_law_X8_balance : GoodIn wsL_law (wsV RL 85 RX8 yX8_balance wsX8_balance) := goodIn_app (goodIn_of _ (by decide +kernel)) ggL_law_X8_balance
set_option maxRecDepth 20000 in
theorem ggL_law_X9_balance : GoodIn wsL_law wsX9_balance := goodIn_r _ [583, 89, 90, 86, 226, 227, 228, 5, 229, 184, 124, 125, 126, 206, 207, 208, 544, 545, 546, 547, 320, 321, 322, 316, 317, 318, 319, 906, 907, 908, 909, 910, 911, 912, 913, 914, 915, 916, 917, 918, 919, 920, 921, 922, 923, 924, 925, 926, 927, 928, 929, 930, 931, 932, 933, 934, 935, 936, 937] (by decide +kernel) (by decide +kernel)
set_option maxRecDepth 20000 in
theorem gL_law_X9_balance : GoodIn wsL_law (wsV RL 88 RX9 yX9_balance wsX9_balance) := goodIn_app (goodIn_of _ (by decide +kernel)) ggL_law_X9_balance
set_option maxRecDepth 20000 in
theorem ggL_law_X8_find : GoodIn wsL_law wsX8_find := goodIn_r _ [587, 24, 588, 589, 369, 370, 371, 2, 372, 235, 37, 590, 591, 592, 593, 594, 595, 23, 596, 597, 598, 599, 142, 143, 144, 600, 601, 602, 27, 603, 253, 604, 509, 510, 511, 254, 64, 65, 605, 606, 607, 608, 609, 446, 447, 448, 449, 396, 397, 398, 399, 400, 401, 402, 252, 403, 404, 405, 406, 407, 343, 344, 345, 346, 347, 348, 408, 409, 410, 411, 412, 164, 165, 166, 610, 611, 612, 613, 614, 615, 442, 443, 444, 616, 617, 618, 619, 620, 621, 622, 623, 624, 625, 626, 627, 628, 629, 630, 631, 632, 633, 634, 635, 636, 891, 892, 893, 894, 895, 896, 897, 898, 899, 900, 901, 902, 903, 904, 905, 943, 944, 945, 946, 947, 948, 949, 950, 951, 952] (by decide +kernel) (by decide +kernel)
set_option maxRecDepth 20000 in
theorem gL_law_X8_find : GoodIn wsL_law (wsV RL 89 RX8 yX8_find wsX8_find) := goodIn_app (goodIn_of _ (by decide +kernel)) ggL_law_X8_find
set_option maxRecDepth 20000 in
theorem ggL_law_X9_find : GoodIn wsL_law wsX9_find := goodIn_r _ [640, 641, 94, 377, 378, 379, 5, 380, 295, 124, 125, 126, 642, 643, 644, 645, 646, 647, 648, 649, 92, 516, 517, 518, 519, 93, 97, 98, 458, 459, 460, 461, 421, 422, 423, 424, 91, 425, 426, 427, 428, 358, 359, 360, 429, 430, 431, 432, 206, 207, 208, 650, 651, 652, 653, 654, 655, 656, 657, 658, 659, 660, 661, 662, 663, 664, 665, 666, 667, 668, 906, 907, 908, 909, 910, 911, 912, 913, 914, 915, 916, 917, 918, 919, 920, 921, 922, 923, 924, 925, 926, 927, 928, 929, 930, 931, 932, 933, 934, 935, 936, 937] (by decide +kernel) (by decide +kernel)
set_option maxRecDepth 20000 in
theorem gL_law_X9_find : GoodIn wsL_law (wsV RL 93 RX9 yX9_find wsX9_find) := goodIn_app (goodIn_of _ (by decide +kernel)) ggL_law_X9_find
set_option maxRecDepth 20000 in
theorem ggL_law_X8_heap : GoodIn wsL_law wsX8_heap := goodIn_r _ [672, 20, 28, 24, 588, 218, 219, 220, 2, 221, 131, 34, 673, 674, 675, 234, 590, 591, 592, 238, 239, 240, 19, 241, 242, 243, 244, 245, 246, 247, 248, 249, 250, 27, 251, 252, 253, 254, 255, 256, 257, 258, 259, 260, 261, 262, 263, 264, 265, 266, 267, 268, 269, 270, 271, 272, 273, 274, 275, 276, 277, 168, 169, 36, 170, 171, 172, 173, 174, 175, 70, 176, 177, 178, 179, 278, 279, 280, 281, 282, 283, 284, 285, 64, 65, 437, 438, 439, 440, 441, 442, 443, 444, 445, 446, 447, 448, 449, 396, 397, 398, 399, 400, 401, 402, 403, 404, 405, 406, 407, 343, 344, 345, 346, 347, 348, 408, 409, 410, 411, 412, 164, 165, 166, 593, 594, 595, 23, 596, 597, 598, 599, 142, 143, 144, 600, 601, 602, 603, 604, 509, 510, 511, 605, 606, 607, 608, 609, 610, 611, 612, 613, 614, 615, 616, 617, 618, 619, 620, 621, 622, 623, 624, 625, 626, 627, 628, 629, 630, 631, 632, 633, 634, 635, 636, 891, 892, 893, 894, 895, 896, 897, 898, 899, 900, 901, 902, 903, 904, 905, 943, 944, 942, 953, 954, 955, 956, 957, 945, 946, 947, 948, 949, 950, 951, 952] (by decide +kernel) (by decide +kernel)
set_option maxRecDepth 20000 in
theorem gL_law_X8_heap : GoodIn wsL_law (wsV RL 94 RX8 yX8_heap wsX8_heap) := goodIn_app (goodIn_of _ (by decide +kernel)) ggL_law_X8_heap
set_option maxRecDepth 20000 in
theorem ggL_law_X9_heap : GoodIn wsL_law wsX9_heap := goodIn_r _ [679, 94, 226, 227, 228, 5, 229, 184, 124, 125, 126, 680, 681, 682, 294, 683, 296, 297, 298, 299, 300, 91, 86, 92, 87, 93, 88, 95, 96, 89, 106, 97, 98, 301, 302, 303, 304, 305, 306, 307, 308, 309, 310, 311, 312, 313, 314, 315, 90, 316, 317, 318, 319, 320, 321, 322, 454, 455, 456, 457, 458, 459, 460, 461, 421, 422, 423, 424, 425, 426, 427, 428, 358, 359, 360, 429, 430, 431, 432, 206, 207, 208, 642, 643, 644, 645, 641, 646, 647, 648, 649, 516, 517, 518, 519, 650, 651, 652, 653, 654, 655, 656, 657, 658, 659, 660, 661, 662, 663, 664, 665, 666, 667, 668, 906, 907, 908, 909, 910, 911, 912, 913, 914, 915, 916, 917, 918, 919, 920, 921, 922, 923, 924, 925, 926, 927, 928, 929, 930, 931, 932, 933, 934, 935, 936, 937] (by decide +kernel) (by decide +kernel)
set_option maxRecDepth 20000 in
theorem gL_law_X9_heap : GoodIn wsL_law (wsV RL 98 RX9 yX9_heap wsX9_heap) := goodIn_app (goodIn_of _ (by decide +kernel)) ggL_law_X9_heap
set_option maxRecDepth 20000 in
theorem ggL_law_X8_apart : GoodIn wsL_law wsX8_apart := goodIn_r _ [687, 20, 28, 30, 31, 218, 219, 220, 2, 221, 131, 34, 673, 674, 675, 234, 238, 239, 240, 19, 241, 242, 243, 244, 245, 246, 247, 248, 249, 250, 27, 251, 252, 253, 254, 255, 256, 257, 258, 259, 260, 261, 262, 263, 264, 265, 266, 267, 268, 269, 270, 271, 272, 273, 274, 275, 276, 277, 168, 169, 36, 170, 171, 172, 173, 174, 175, 70, 176, 177, 178, 179, 278, 279, 280, 281, 282, 283, 284, 285, 64, 65, 688, 689, 690, 691, 604, 509, 510, 511, 692, 693, 694, 695, 891, 892, 893, 894, 895, 896, 897, 898, 899, 900, 901, 902, 903, 904, 905, 942, 953, 954, 955, 956, 957, 945, 946, 947, 948, 949, 950, 951, 952] (by decide +kernel) (by decide +kernel)
set_option maxRecDepth 20000 in
theorem gL_law_X8_apart : GoodIn wsL_law (wsV RL 99 RX8 yX8_apart wsX8_apart) := goodIn_app (goodIn_of _ (by decide +kernel)) ggL_law_X8_apart
set_option maxRecDepth 20000 in
theorem ggL_law_X9_apart : GoodIn wsL_law wsX9_apart := goodIn_r _ [699, 107, 226, 227, 228, 5, 229, 184, 124, 125, 126, 680, 681, 682, 294, 683, 700, 701, 702, 703, 92, 296, 297, 298, 299, 300, 91, 86, 87, 93, 88, 95, 96, 94, 89, 106, 97, 98, 301, 302, 303, 304, 305, 306, 307, 308, 309, 310, 311, 312, 313, 314, 315, 90, 316, 317, 318, 319, 320, 321, 322, 516, 517, 518, 519, 704, 705, 706, 707, 906, 907, 908, 909, 910, 911, 912, 913, 914, 915, 916, 917, 918, 919, 920, 921, 922, 923, 924, 925, 926, 927, 928, 929, 930, 931, 932, 933, 934, 935, 936, 937] (by decide +kernel) (by decide +kernel)
set_option maxRecDepth 20000 in
theorem gL_law_X9_apart : GoodIn wsL_law (wsV RL 103 RX9 yX9_apart wsX9_apart) := goodIn_app (goodIn_of _ (by decide +kernel)) ggL_law_X9_apart
set_option maxRecDepth 20000 in
theorem ggL_law_X8_twin : GoodIn wsL_law wsX8_twin := goodIn_r _ [711, 43, 366, 235, 37, 365, 367, 385, 386, 368, 369, 370, 371, 2, 372, 329, 330, 331, 335, 336, 337, 45, 338, 79, 349, 350, 351, 712, 713, 714, 715, 716, 80, 352, 249, 250, 27, 251, 252, 253, 254, 255, 256, 257, 717, 718, 719, 720, 353, 283, 284, 285, 64, 65, 286, 287, 288, 289, 891, 892, 893, 894, 895, 896, 897, 898, 899, 900, 901, 902, 903, 904, 905, 945, 946, 947, 948, 949, 950, 951, 952, 962, 963, 964] (by decide +kernel) (by decide +kernel)
set_option maxRecDepth 20000 in
theorem gL_law_X8_twin : GoodIn wsL_law (wsV RL 104 RX8 yX8_twin wsX8_twin) := goodIn_app (goodIn_of _ (by decide +kernel)) ggL_law_X8_twin
set_option maxRecDepth 20000 in
theorem ggL_law_X9_twin : GoodIn wsL_law wsX9_twin := goodIn_r _ [724, 103, 92, 104, 105, 295, 91, 93, 94, 95, 96, 97, 98, 377, 378, 379, 5, 380, 124, 125, 126, 725, 726, 727, 728, 906, 907, 908, 909, 910, 911, 912, 913, 914, 915, 916, 917, 918, 919, 920, 921, 922, 923, 924, 925, 926, 927, 928, 929, 930, 931, 932, 933, 934, 935, 936, 937] (by decide +kernel) (by decide +kernel)
set_option maxRecDepth 20000 in
theorem gL_law_X9_twin : GoodIn wsL_law (wsV RL 107 RX9 yX9_twin wsX9_twin) := goodIn_app (goodIn_of _ (by decide +kernel)) ggL_law_X9_twin
set_option maxRecDepth 20000 in
theorem ggL_law_X8_claim : GoodIn wsL_law wsX8_claim := goodIn_r _ [732, 733, 39, 369, 370, 371, 2, 372, 235, 37, 734, 735, 736, 41, 737, 738, 739, 740, 741, 891, 892, 893, 894, 895, 896, 897, 898, 899, 900, 901, 902, 903, 904, 905, 958, 959, 960, 961] (by decide +kernel) (by decide +kernel)
set_option maxRecDepth 20000 in
theorem gL_law_X8_claim : GoodIn wsL_law (wsV RL 108 RX8 yX8_claim wsX8_claim) := goodIn_app (goodIn_of _ (by decide +kernel)) ggL_law_X8_claim
set_option maxRecDepth 20000 in
theorem ggL_law_X9_claim : GoodIn wsL_law wsX9_claim := goodIn_r _ [745, 746, 99, 100, 101, 102, 377, 378, 379, 5, 380, 295, 124, 125, 126, 906, 907, 908, 909, 910, 911, 912, 913, 914, 915, 916, 917, 918, 919, 920, 921, 922, 923, 924, 925, 926, 927, 928, 929, 930, 931, 932, 933, 934, 935, 936, 937] (by decide +kernel) (by decide +kernel)
set_option maxRecDepth 20000 in
theorem gL_law_X9_claim : GoodIn wsL_law (wsV RL 111 RX9 yX9_claim wsX9_claim) := goodIn_app (goodIn_of _ (by decide +kernel)) ggL_law_X9_claim
set_option maxRecDepth 20000 in
theorem ggL_law_X8_tries : GoodIn wsL_law wsX8_tries := goodIn_r _ [750, 751, 752, 24, 753, 588, 589, 754, 755, 756, 2, 757, 733, 39, 590, 591, 592, 369, 370, 371, 372, 235, 37, 593, 594, 595, 23, 596, 597, 598, 599, 142, 143, 144, 600, 601, 602, 27, 603, 253, 604, 509, 510, 511, 254, 64, 65, 605, 606, 607, 608, 609, 446, 447, 448, 449, 396, 397, 398, 399, 400, 401, 402, 252, 403, 404, 405, 406, 407, 343, 344, 345, 346, 347, 348, 408, 409, 410, 411, 412, 164, 165, 166, 610, 611, 612, 613, 614, 615, 442, 443, 444, 616, 617, 618, 619, 620, 621, 622, 623, 624, 625, 626, 627, 628, 629, 630, 631, 758, 759, 760, 41, 761, 740, 741, 958, 959, 960, 961, 891, 892, 893, 894, 895, 896, 897, 898, 899, 900, 901, 902, 903, 904, 905, 943, 944, 945, 946, 947, 948, 949, 950, 951, 952] (by decide +kernel) (by decide +kernel)
set_option maxRecDepth 20000 in
theorem gL_law_X8_tries : GoodIn wsL_law (wsV RL 112 RX8 yX8_tries wsX8_tries) := goodIn_app (goodIn_of _ (by decide +kernel)) ggL_law_X8_tries
set_option maxRecDepth 20000 in
theorem ggL_law_X9_tries : GoodIn wsL_law wsX9_tries := goodIn_r _ [765, 101, 99, 100, 641, 102, 766, 767, 768, 5, 769, 746, 124, 125, 126, 642, 643, 644, 645, 646, 647, 648, 649, 92, 516, 517, 518, 519, 93, 97, 98, 458, 459, 460, 461, 421, 422, 423, 424, 91, 425, 426, 427, 428, 358, 359, 360, 429, 430, 431, 432, 206, 207, 208, 650, 651, 652, 653, 654, 655, 656, 657, 658, 659, 660, 661, 662, 663, 664, 665, 666, 667, 668, 906, 907, 908, 909, 910, 911, 912, 913, 914, 915, 916, 917, 918, 919, 920, 921, 922, 923, 924, 925, 926, 927, 928, 929, 930, 931, 932, 933, 934, 935, 936, 937] (by decide +kernel) (by decide +kernel)
set_option maxRecDepth 20000 in
theorem gL_law_X9_tries : GoodIn wsL_law (wsV RL 115 RX9 yX9_tries wsX9_tries) := goodIn_app (goodIn_of _ (by decide +kernel)) ggL_law_X9_tries
set_option maxRecDepth 20000 in
theorem ggL_law_X8_claimTold : GoodIn wsL_law wsX8_claimTold := goodIn_r _ [773, 752, 753, 751, 774, 754, 755, 756, 2, 757, 733, 39, 958, 959, 960, 961, 891, 892, 893, 894, 895, 896, 897, 898, 899, 900, 901, 902, 903, 904, 905] (by decide +kernel) (by decide +kernel)
set_option maxRecDepth 20000 in
theorem gL_law_X8_claimTold : GoodIn wsL_law (wsV RL 116 RX8 yX8_claimTold wsX8_claimTold) := goodIn_app (goodIn_of _ (by decide +kernel)) ggL_law_X8_claimTold
set_option maxRecDepth 20000 in
theorem ggL_law_X9_claimTold : GoodIn wsL_law wsX9_claimTold := goodIn_r _ [778, 99, 100, 101, 102, 766, 767, 768, 5, 769, 746, 124, 125, 126, 906, 907, 908, 909, 910, 911, 912, 913, 914, 915, 916, 917, 918, 919, 920, 921, 922, 923, 924, 925, 926, 927, 928, 929, 930, 931, 932, 933, 934, 935, 936, 937] (by decide +kernel) (by decide +kernel)
set_option maxRecDepth 20000 in
theorem gL_law_X9_claimTold : GoodIn wsL_law (wsV RL 119 RX9 yX9_claimTold wsX9_claimTold) := goodIn_app (goodIn_of _ (by decide +kernel)) ggL_law_X9_claimTold
set_option maxRecDepth 20000 in
theorem ggL_law_X8_kindTold : GoodIn wsL_law wsX8_kindTold := goodIn_r _ [782, 332, 333, 165, 334, 783, 621, 622, 623, 164, 166, 784] (by decide +kernel) (by decide +kernel)
set_option maxRecDepth 20000 in
theorem gL_law_X8_kindTold : GoodIn wsL_law (wsV RL 120 RX8 yX8_kindTold wsX8_kindTold) := goodIn_app (goodIn_of _ (by decide +kernel)) ggL_law_X8_kindTold
set_option maxRecDepth 20000 in
theorem ggL_law_X9_kindTold : GoodIn wsL_law wsX9_kindTold := goodIn_r _ [788, 124, 125, 5, 126, 666, 667, 668, 206, 207, 208] (by decide +kernel) (by decide +kernel)
set_option maxRecDepth 20000 in
theorem gL_law_X9_kindTold : GoodIn wsL_law (wsV RL 123 RX9 yX9_kindTold wsX9_kindTold) := goodIn_app (goodIn_of _ (by decide +kernel)) ggL_law_X9_kindTold
set_option maxRecDepth 20000 in
theorem ggL_law_X8_count : GoodIn wsL_law wsX8_count := goodIn_r _ [792, 235, 131, 733, 16, 112, 891, 892, 893, 894, 895, 896, 897, 898, 899, 900, 901, 902, 903, 904, 905, 938, 939, 940, 941] (by decide +kernel) (by decide +kernel)
set_option maxRecDepth 20000 in
theorem gL_law_X8_count : GoodIn wsL_law (wsV RL 124 RX8 yX8_count wsX8_count) := goodIn_app (goodIn_of _ (by decide +kernel)) ggL_law_X8_count
set_option maxRecDepth 20000 in
theorem ggL_law_X9_count : GoodIn wsL_law wsX9_count := goodIn_r _ [796, 295, 184, 746, 122, 906, 907, 908, 909, 910, 911, 912, 913, 914, 915, 916, 917, 918, 919, 920, 921, 922, 923, 924, 925, 926, 927, 928, 929, 930, 931, 932, 933, 934, 935, 936, 937] (by decide +kernel) (by decide +kernel)
set_option maxRecDepth 20000 in
theorem gL_law_X9_count : GoodIn wsL_law (wsV RL 127 RX9 yX9_count wsX9_count) := goodIn_app (goodIn_of _ (by decide +kernel)) ggL_law_X9_count
set_option maxRecDepth 20000 in
theorem ggL_law_X8_image : GoodIn wsL_law wsX8_image := goodIn_r _ [800, 235, 46, 891, 892, 893, 894, 895, 896, 897, 898, 899, 900, 901, 902, 903, 904, 905] (by decide +kernel) (by decide +kernel)
set_option maxRecDepth 20000 in
theorem gL_law_X8_image : GoodIn wsL_law (wsV RL 128 RX8 yX8_image wsX8_image) := goodIn_app (goodIn_of _ (by decide +kernel)) ggL_law_X8_image
set_option maxRecDepth 20000 in
theorem ggL_law_X9_image : GoodIn wsL_law wsX9_image := goodIn_r _ [804, 805, 295, 806, 906, 907, 908, 909, 910, 911, 912, 913, 914, 915, 916, 917, 918, 919, 920, 921, 922, 923, 924, 925, 926, 927, 928, 929, 930, 931, 932, 933, 934, 935, 936, 937] (by decide +kernel) (by decide +kernel)
set_option maxRecDepth 20000 in
theorem gL_law_X9_image : GoodIn wsL_law (wsV RL 131 RX9 yX9_image wsX9_image) := goodIn_app (goodIn_of _ (by decide +kernel)) ggL_law_X9_image
set_option maxRecDepth 20000 in
theorem ggL_law_X8_back : GoodIn wsL_law wsX8_back := goodIn_r _ [810, 46, 235, 811, 142, 143, 144, 733, 39, 752, 812, 813, 814, 41, 815, 738, 739, 740, 741, 891, 892, 893, 894, 895, 896, 897, 898, 899, 900, 901, 902, 903, 904, 905, 958, 959, 960, 961] (by decide +kernel) (by decide +kernel)
set_option maxRecDepth 20000 in
theorem gL_law_X8_back : GoodIn wsL_law (wsV RL 132 RX8 yX8_back wsX8_back) := goodIn_app (goodIn_of _ (by decide +kernel)) ggL_law_X8_back
set_option maxRecDepth 20000 in
theorem ggL_law_X9_back : GoodIn wsL_law wsX9_back := goodIn_r _ [819, 805, 806, 295, 746, 99, 100, 101, 102, 906, 907, 908, 909, 910, 911, 912, 913, 914, 915, 916, 917, 918, 919, 920, 921, 922, 923, 924, 925, 926, 927, 928, 929, 930, 931, 932, 933, 934, 935, 936, 937] (by decide +kernel) (by decide +kernel)
set_option maxRecDepth 20000 in
theorem gL_law_X9_back : GoodIn wsL_law (wsV RL 135 RX9 yX9_back wsX9_back) := goodIn_app (goodIn_of _ (by decide +kernel)) ggL_law_X9_back
set_option maxRecDepth 20000 in
theorem ggL_law_X8_sheet : GoodIn wsL_law wsX8_sheet := goodIn_r _ [823, 43, 329, 330, 2, 331, 824, 825, 826, 45, 827, 79, 716, 80, 828, 489, 490, 491, 891, 892, 893, 894, 895, 896, 897, 898, 899, 900, 901, 902, 903, 904, 905, 962, 963, 964] (by decide +kernel) (by decide +kernel)
set_option maxRecDepth 20000 in
theorem gL_law_X8_sheet : GoodIn wsL_law (wsV RL 136 RX8 yX8_sheet wsX8_sheet) := goodIn_app (goodIn_of _ (by decide +kernel)) ggL_law_X8_sheet
set_option maxRecDepth 20000 in
theorem ggL_law_X9_sheet : GoodIn wsL_law wsX9_sheet := goodIn_r _ [832, 103, 104, 105, 124, 125, 5, 126, 906, 907, 908, 909, 910, 911, 912, 913, 914, 915, 916, 917, 918, 919, 920, 921, 922, 923, 924, 925, 926, 927, 928, 929, 930, 931, 932, 933, 934, 935, 936, 937] (by decide +kernel) (by decide +kernel)
set_option maxRecDepth 20000 in
theorem gL_law_X9_sheet : GoodIn wsL_law (wsV RL 139 RX9 yX9_sheet wsX9_sheet) := goodIn_app (goodIn_of _ (by decide +kernel)) ggL_law_X9_sheet
set_option maxRecDepth 20000 in
theorem ggL_law_X8_cell : GoodIn wsL_law wsX8_cell := goodIn_r _ [836, 43, 327, 328, 329, 330, 2, 331, 335, 336, 337, 45, 338, 79, 837, 838, 839, 840, 891, 892, 893, 894, 895, 896, 897, 898, 899, 900, 901, 902, 903, 904, 905, 962, 963, 964] (by decide +kernel) (by decide +kernel)
set_option maxRecDepth 20000 in
theorem gL_law_X8_cell : GoodIn wsL_law (wsV RL 140 RX8 yX8_cell wsX8_cell) := goodIn_app (goodIn_of _ (by decide +kernel)) ggL_law_X8_cell
set_option maxRecDepth 20000 in
theorem ggL_law_X9_cell : GoodIn wsL_law wsX9_cell := goodIn_r _ [844, 103, 104, 105, 124, 125, 5, 126, 906, 907, 908, 909, 910, 911, 912, 913, 914, 915, 916, 917, 918, 919, 920, 921, 922, 923, 924, 925, 926, 927, 928, 929, 930, 931, 932, 933, 934, 935, 936, 937] (by decide +kernel) (by decide +kernel)
set_option maxRecDepth 20000 in
theorem gL_law_X9_cell : GoodIn wsL_law (wsV RL 143 RX9 yX9_cell wsX9_cell) := goodIn_app (goodIn_of _ (by decide +kernel)) ggL_law_X9_cell
set_option maxRecDepth 20000 in
theorem ggL_law_X8_copy : GoodIn wsL_law wsX8_copy := goodIn_r _ [848, 43, 849, 328, 850, 851, 852, 853, 329, 330, 2, 331, 335, 336, 337, 45, 338, 79, 854, 855, 856, 857, 716, 891, 892, 893, 894, 895, 896, 897, 898, 899, 900, 901, 902, 903, 904, 905, 962, 963, 964] (by decide +kernel) (by decide +kernel)
set_option maxRecDepth 20000 in
theorem gL_law_X8_copy : GoodIn wsL_law (wsV RL 144 RX8 yX8_copy wsX8_copy) := goodIn_app (goodIn_of _ (by decide +kernel)) ggL_law_X8_copy
set_option maxRecDepth 20000 in
theorem ggL_law_X9_copy : GoodIn wsL_law wsX9_copy := goodIn_r _ [861, 103, 104, 105, 124, 125, 5, 126, 906, 907, 908, 909, 910, 911, 912, 913, 914, 915, 916, 917, 918, 919, 920, 921, 922, 923, 924, 925, 926, 927, 928, 929, 930, 931, 932, 933, 934, 935, 936, 937] (by decide +kernel) (by decide +kernel)
set_option maxRecDepth 20000 in
theorem gL_law_X9_copy : GoodIn wsL_law (wsV RL 147 RX9 yX9_copy wsX9_copy) := goodIn_app (goodIn_of _ (by decide +kernel)) ggL_law_X9_copy
set_option maxRecDepth 20000 in
theorem ggL_law_X8_claims : GoodIn wsL_law wsX8_claims := goodIn_r _ [865, 43, 849, 328, 329, 330, 2, 331, 335, 336, 337, 45, 338, 79, 854, 855, 856, 857, 716, 866, 730, 731, 732, 733, 39, 369, 370, 371, 372, 235, 37, 734, 735, 736, 41, 737, 738, 739, 740, 741, 891, 892, 893, 894, 895, 896, 897, 898, 899, 900, 901, 902, 903, 904, 905, 962, 963, 964, 958, 959, 960, 961] (by decide +kernel) (by decide +kernel)
set_option maxRecDepth 20000 in
theorem gL_law_X8_claims : GoodIn wsL_law (wsV RL 148 RX8 yX8_claims wsX8_claims) := goodIn_app (goodIn_of _ (by decide +kernel)) ggL_law_X8_claims
set_option maxRecDepth 20000 in
theorem ggL_law_X9_claims : GoodIn wsL_law wsX9_claims := goodIn_r _ [870, 103, 104, 105, 124, 125, 5, 126, 871, 743, 744, 745, 746, 99, 100, 101, 102, 377, 378, 379, 380, 295, 906, 907, 908, 909, 910, 911, 912, 913, 914, 915, 916, 917, 918, 919, 920, 921, 922, 923, 924, 925, 926, 927, 928, 929, 930, 931, 932, 933, 934, 935, 936, 937] (by decide +kernel) (by decide +kernel)
set_option maxRecDepth 20000 in
theorem gL_law_X9_claims : GoodIn wsL_law (wsV RL 151 RX9 yX9_claims wsX9_claims) := goodIn_app (goodIn_of _ (by decide +kernel)) ggL_law_X9_claims
set_option maxRecDepth 20000 in
theorem ggL_law_X8_taken : GoodIn wsL_law wsX8_taken := goodIn_r _ [875, 216, 753, 369, 370, 371, 2, 372, 235, 37, 876, 877, 878, 365, 879, 880, 165, 881, 882, 218, 219, 220, 221, 131, 34, 754, 755, 756, 757, 733, 39, 953, 954, 955, 956, 957, 958, 959, 960, 961, 891, 892, 893, 894, 895, 896, 897, 898, 899, 900, 901, 902, 903, 904, 905, 945, 946, 947, 948, 949, 950, 951, 952] (by decide +kernel) (by decide +kernel)
set_option maxRecDepth 20000 in
theorem gL_law_X8_taken : GoodIn wsL_law (wsV RL 152 RX8 yX8_taken wsX8_taken) := goodIn_app (goodIn_of _ (by decide +kernel)) ggL_law_X8_taken
set_option maxRecDepth 20000 in
theorem ggL_law_X9_taken : GoodIn wsL_law wsX9_taken := goodIn_r _ [886, 91, 89, 100, 124, 125, 5, 126, 887, 794, 795, 796, 295, 184, 746, 122, 888, 889, 890, 906, 907, 908, 909, 910, 911, 912, 913, 914, 915, 916, 917, 918, 919, 920, 921, 922, 923, 924, 925, 926, 927, 928, 929, 930, 931, 932, 933, 934, 935, 936, 937] (by decide +kernel) (by decide +kernel)
set_option maxRecDepth 20000 in
theorem gL_law_X9_taken : GoodIn wsL_law (wsV RL 155 RX9 yX9_taken wsX9_taken) := goodIn_app (goodIn_of _ (by decide +kernel)) ggL_law_X9_taken
