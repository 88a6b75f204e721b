set_option maxRecDepth 20000 in
theorem ggL_law_X8_init : GoodIn wsL_law wsX8_init := goodIn_r _ [8, 9, 10, 11, 12, 13, 14, 15, 16, 17, 18, 19, 20, 21, 22, 23, 24, 25, 26, 27, 28, 29, 30, 31, 32, 33, 34, 35, 36, 37, 38, 39, 40, 41, 42, 43, 44, 45, 46, 47, 48, 49, 50, 51, 52, 53, 54, 55, 56, 57, 58, 59, 60, 61, 62, 63, 64, 65, 66, 67, 68, 69, 70, 71, 72, 73, 74, 75, 76, 77, 78, 79, 80, 81, 82, 83, 84, 85, 86, 87, 88, 89, 90, 91, 92, 93, 94, 95, 96, 97, 98, 99, 100, 101, 102, 103, 934, 935, 879, 880, 881, 882, 883, 884, 885, 886, 887, 888, 889, 936, 937, 938, 939, 940, 941, 942, 943, 944, 945, 946, 947, 948, 949, 950, 951, 952, 953, 954, 955, 956, 957, 958, 959, 960, 961, 962, 963, 964, 965, 966] (by decide +kernel) (by decide +kernel)
set_option maxRecDepth 20000 in
theorem gL_law_X8_init : GoodIn wsL_law (wsX8_init) := ggL_law_X8_init
set_option maxRecDepth 20000 in
theorem ggL_law_X9_init : GoodIn wsL_law wsX9_init := goodIn_r _ [106, 107, 10, 11, 45, 108, 109, 110, 111, 112, 113, 114, 115, 116, 117, 118, 119, 120, 121, 122, 123, 124, 125, 126, 127, 128, 129, 130, 131, 132, 133, 134, 135, 136, 137, 5, 138, 139, 140, 141, 142, 143, 144, 145, 146, 147, 148, 149, 150, 151, 152, 153, 154, 890, 891, 892, 893, 894, 895, 896, 897, 898, 899, 900, 901, 902, 903, 904, 905, 906, 907, 908, 909, 910, 911, 912, 913, 914, 915, 916, 917, 918, 919, 920, 921, 922, 923, 924, 925, 926, 927, 928, 929, 930, 931, 932, 933] (by decide +kernel) (by decide +kernel)
set_option maxRecDepth 20000 in
theorem gL_law_X9_init : GoodIn wsL_law (wsX9_init) := ggL_law_X9_init
set_option maxRecDepth 20000 in
theorem ggL_law_X8_letter : GoodIn wsL_law wsX8_letter := goodIn_r _ [158, 15, 159, 160, 161, 14, 162, 163, 46, 879, 880, 881, 882, 883, 884, 885, 886, 887, 888, 889, 934, 935] (by decide +kernel) (by decide +kernel)
set_option maxRecDepth 20000 in
theorem gL_law_X8_letter : GoodIn wsL_law (wsV RL 13 RX8 yX8_letter wsX8_letter) := goodIn_app (goodIn_of _ (by decide +kernel)) ggL_law_X8_letter
set_option maxRecDepth 20000 in
theorem ggL_law_X9_letter : GoodIn wsL_law wsX9_letter := goodIn_r _ [167, 168, 169, 119, 170, 171, 5, 172, 890, 891, 892, 893, 894, 895, 896, 897, 898, 899, 900, 901, 902, 903, 904, 905, 906, 907, 908, 909, 910, 911, 912, 913, 914, 915, 916, 917, 918, 919, 920, 921, 922, 923, 924, 925, 926, 927, 928, 929, 930, 931, 932, 933] (by decide +kernel) (by decide +kernel)
set_option maxRecDepth 20000 in
theorem gL_law_X9_letter : GoodIn wsL_law (wsV RL 17 RX9 yX9_letter wsX9_letter) := goodIn_app (goodIn_of _ (by decide +kernel)) ggL_law_X9_letter
set_option maxRecDepth 20000 in
theorem ggL_law_X8_blank : GoodIn wsL_law wsX8_blank := goodIn_r _ [176, 15, 177, 178, 179, 14, 180, 163, 879, 880, 881, 882, 883, 884, 885, 886, 887, 888, 889, 934, 935] (by decide +kernel) (by decide +kernel)
set_option maxRecDepth 20000 in
theorem gL_law_X8_blank : GoodIn wsL_law (wsV RL 18 RX8 yX8_blank wsX8_blank) := goodIn_app (goodIn_of _ (by decide +kernel)) ggL_law_X8_blank
set_option maxRecDepth 20000 in
theorem ggL_law_X9_blank : GoodIn wsL_law wsX9_blank := goodIn_r _ [184, 169, 890, 891, 892, 893, 894, 895, 896, 897, 898, 899, 900, 901, 902, 903, 904, 905, 906, 907, 908, 909, 910, 911, 912, 913, 914, 915, 916, 917, 918, 919, 920, 921, 922, 923, 924, 925, 926, 927, 928, 929, 930, 931, 932, 933] (by decide +kernel) (by decide +kernel)
set_option maxRecDepth 20000 in
theorem gL_law_X9_blank : GoodIn wsL_law (wsV RL 22 RX9 yX9_blank wsX9_blank) := goodIn_app (goodIn_of _ (by decide +kernel)) ggL_law_X9_blank
set_option maxRecDepth 20000 in
theorem ggL_law_X8_fault : GoodIn wsL_law wsX8_fault := goodIn_r _ [188, 15, 19, 189, 190, 191, 14, 192, 163, 46, 193, 194, 195, 18, 196, 51, 197, 198, 199, 200, 201, 22, 202, 203, 204, 205, 206, 207, 208, 209, 210, 211, 212, 213, 2, 214, 215, 216, 217, 218, 219, 220, 221, 222, 223, 224, 225, 55, 56, 226, 227, 228, 229, 230, 231, 232, 233, 234, 235, 236, 237, 238, 239, 240, 241, 242, 243, 244, 245, 246, 247, 248, 879, 880, 881, 882, 883, 884, 885, 886, 887, 888, 889, 934, 935, 936, 937, 938, 939, 940, 941, 942] (by decide +kernel) (by decide +kernel)
set_option maxRecDepth 20000 in
theorem gL_law_X8_fault : GoodIn wsL_law (wsV RL 23 RX8 yX8_fault wsX8_fault) := goodIn_app (goodIn_of _ (by decide +kernel)) ggL_law_X8_fault
set_option maxRecDepth 20000 in
theorem ggL_law_X9_fault : GoodIn wsL_law wsX9_fault := goodIn_r _ [252, 253, 254, 255, 5, 256, 257, 258, 169, 259, 260, 261, 262, 119, 263, 264, 170, 171, 172, 265, 266, 267, 268, 120, 121, 269, 270, 271, 272, 273, 890, 891, 892, 893, 894, 895, 896, 897, 898, 899, 900, 901, 902, 903, 904, 905, 906, 907, 908, 909, 910, 911, 912, 913, 914, 915, 916, 917, 918, 919, 920, 921, 922, 923, 924, 925, 926, 927, 928, 929, 930, 931, 932, 933] (by decide +kernel) (by decide +kernel)
set_option maxRecDepth 20000 in
theorem gL_law_X9_fault : GoodIn wsL_law (wsV RL 26 RX9 yX9_fault wsX9_fault) := goodIn_app (goodIn_of _ (by decide +kernel)) ggL_law_X9_fault
set_option maxRecDepth 20000 in
theorem ggL_law_X8_part : GoodIn wsL_law wsX8_part := goodIn_r _ [277, 15, 19, 23, 37, 28, 24, 278, 189, 190, 191, 14, 192, 163, 46, 193, 194, 195, 18, 196, 51, 197, 198, 199, 200, 201, 22, 202, 203, 204, 205, 206, 207, 208, 209, 210, 211, 212, 213, 2, 214, 215, 216, 217, 218, 219, 220, 221, 222, 223, 224, 225, 55, 56, 226, 227, 228, 229, 230, 231, 232, 233, 234, 235, 236, 237, 238, 239, 240, 241, 242, 243, 244, 245, 246, 247, 248, 279, 280, 281, 282, 283, 284, 285, 286, 287, 288, 289, 290, 291, 292, 293, 36, 294, 92, 295, 296, 297, 298, 27, 299, 300, 301, 177, 178, 179, 180, 879, 880, 881, 882, 883, 884, 885, 886, 887, 888, 889, 934, 935, 936, 937, 938, 939, 940, 941, 942, 947, 948, 949, 950, 951, 952, 953, 954, 955, 956, 957, 958, 943, 944, 945] (by decide +kernel) (by decide +kernel)
set_option maxRecDepth 20000 in
theorem gL_law_X8_part : GoodIn wsL_law (wsV RL 27 RX8 yX8_part wsX8_part) := goodIn_app (goodIn_of _ (by decide +kernel)) ggL_law_X8_part
set_option maxRecDepth 20000 in
theorem ggL_law_X9_part : GoodIn wsL_law wsX9_part := goodIn_r _ [305, 169, 258, 306, 119, 257, 307, 120, 122, 121, 123, 308, 309, 310, 253, 254, 255, 5, 256, 259, 260, 261, 262, 263, 264, 170, 171, 172, 265, 266, 267, 268, 269, 270, 271, 272, 273, 311, 312, 313, 890, 891, 892, 893, 894, 895, 896, 897, 898, 899, 900, 901, 902, 903, 904, 905, 906, 907, 908, 909, 910, 911, 912, 913, 914, 915, 916, 917, 918, 919, 920, 921, 922, 923, 924, 925, 926, 927, 928, 929, 930, 931, 932, 933] (by decide +kernel) (by decide +kernel)
set_option maxRecDepth 20000 in
theorem gL_law_X9_part : GoodIn wsL_law (wsV RL 30 RX9 yX9_part wsX9_part) := goodIn_app (goodIn_of _ (by decide +kernel)) ggL_law_X9_part
set_option maxRecDepth 20000 in
theorem ggL_law_X8_chord : GoodIn wsL_law wsX8_chord := goodIn_r _ [317, 23, 33, 28, 318, 319, 320, 22, 321, 204, 322, 323, 324, 32, 325, 326, 327, 328, 329, 66, 330, 331, 332, 333, 334, 335, 336, 70, 71, 72, 337, 338, 339, 27, 340, 300, 60, 61, 341, 342, 343, 344, 345, 346, 347, 348, 349, 350, 351, 352, 353, 354, 235, 236, 237, 238, 239, 240, 879, 880, 881, 882, 883, 884, 885, 886, 887, 888, 889, 939, 940, 941, 942, 946, 943, 944, 945] (by decide +kernel) (by decide +kernel)
set_option maxRecDepth 20000 in
theorem gL_law_X8_chord : GoodIn wsL_law (wsV RL 31 RX8 yX8_chord wsX8_chord) := goodIn_app (goodIn_of _ (by decide +kernel)) ggL_law_X8_chord
set_option maxRecDepth 20000 in
theorem ggL_law_X9_chord : GoodIn wsL_law wsX9_chord := goodIn_r _ [358, 359, 360, 361, 5, 362, 307, 170, 171, 172, 363, 364, 365, 366, 122, 123, 367, 368, 369, 370, 371, 372, 373, 374, 310, 306, 375, 376, 377, 129, 126, 378, 127, 379, 380, 381, 382, 383, 125, 124, 384, 385, 386, 387, 388, 389, 390, 391, 392, 393, 394, 395, 396, 397, 398, 399, 110, 400, 401, 402, 403, 404, 405, 406, 407, 408, 409, 410, 411, 412, 413, 414, 415, 416, 417, 418, 115, 116, 419, 420, 421, 422, 118, 423, 424, 425, 426, 427, 428, 429, 430, 431, 432, 433, 434, 435, 436, 437, 438, 128, 439, 440, 441, 442, 143, 144, 145, 146, 108, 443, 444, 445, 446, 308, 130, 447, 448, 449, 450, 451, 452, 453, 454, 455, 456, 890, 891, 892, 893, 894, 895, 896, 897, 898, 899, 900, 901, 902, 903, 904, 905, 906, 907, 908, 909, 910, 911, 912, 913, 914, 915, 916, 917, 918, 919, 920, 921, 922, 923, 924, 925, 926, 927, 928, 929, 930, 931, 932, 933] (by decide +kernel) (by decide +kernel)
set_option maxRecDepth 20000 in
theorem gL_law_X9_chord : GoodIn wsL_law (wsV RL 35 RX9 yX9_chord wsX9_chord) := goodIn_app (goodIn_of _ (by decide +kernel)) ggL_law_X9_chord
set_option maxRecDepth 20000 in
theorem ggL_law_X8_as : GoodIn wsL_law wsX8_as := goodIn_r _ [460, 23, 318, 319, 320, 22, 321, 204, 461, 462, 2, 463, 464, 465, 466, 879, 880, 881, 882, 883, 884, 885, 886, 887, 888, 889, 939, 940, 941, 942] (by decide +kernel) (by decide +kernel)
set_option maxRecDepth 20000 in
theorem gL_law_X8_as : GoodIn wsL_law (wsV RL 36 RX8 yX8_as wsX8_as) := goodIn_app (goodIn_of _ (by decide +kernel)) ggL_law_X8_as
set_option maxRecDepth 20000 in
theorem ggL_law_X9_as : GoodIn wsL_law wsX9_as := goodIn_r _ [470, 471, 122, 359, 360, 361, 5, 362, 307, 170, 171, 172, 890, 891, 892, 893, 894, 895, 896, 897, 898, 899, 900, 901, 902, 903, 904, 905, 906, 907, 908, 909, 910, 911, 912, 913, 914, 915, 916, 917, 918, 919, 920, 921, 922, 923, 924, 925, 926, 927, 928, 929, 930, 931, 932, 933] (by decide +kernel) (by decide +kernel)
set_option maxRecDepth 20000 in
theorem gL_law_X9_as : GoodIn wsL_law (wsV RL 39 RX9 yX9_as wsX9_as) := goodIn_app (goodIn_of _ (by decide +kernel)) ggL_law_X9_as
set_option maxRecDepth 20000 in
theorem ggL_law_X8_tone : GoodIn wsL_law wsX8_tone := goodIn_r _ [475, 476, 477, 2, 478, 479, 213, 214, 480, 74, 32, 75, 76] (by decide +kernel) (by decide +kernel)
set_option maxRecDepth 20000 in
theorem gL_law_X8_tone : GoodIn wsL_law (wsV RL 40 RX8 yX8_tone wsX8_tone) := goodIn_app (goodIn_of _ (by decide +kernel)) ggL_law_X8_tone
set_option maxRecDepth 20000 in
theorem ggL_law_X9_tone : GoodIn wsL_law wsX9_tone := goodIn_r _ [484, 485, 486, 170, 171, 5, 172, 147, 148, 149, 150, 109, 890, 891, 892, 893, 894, 895, 896, 897, 898, 899, 900, 901, 902, 903, 904, 905, 906, 907, 908, 909, 910, 911, 912, 913, 914, 915, 916, 917, 918, 919, 920, 921, 922, 923, 924, 925, 926, 927, 928, 929, 930, 931, 932, 933] (by decide +kernel) (by decide +kernel)
set_option maxRecDepth 20000 in
theorem gL_law_X9_tone : GoodIn wsL_law (wsV RL 43 RX9 yX9_tone wsX9_tone) := goodIn_app (goodIn_of _ (by decide +kernel)) ggL_law_X9_tone
set_option maxRecDepth 20000 in
theorem ggL_law_X8_press : GoodIn wsL_law wsX8_press := goodIn_r _ [490, 23, 37, 476, 477, 2, 478, 479, 213, 214, 491, 492, 32, 493, 494, 70, 71, 72, 291, 292, 293, 36, 294, 92, 295, 495, 335, 336, 879, 880, 881, 882, 883, 884, 885, 886, 887, 888, 889, 939, 940, 941, 942, 947, 948, 949, 950, 951, 952, 953, 954, 955, 956, 957, 958] (by decide +kernel) (by decide +kernel)
set_option maxRecDepth 20000 in
theorem gL_law_X8_press : GoodIn wsL_law (wsV RL 44 RX8 yX8_press wsX8_press) := goodIn_app (goodIn_of _ (by decide +kernel)) ggL_law_X8_press
set_option maxRecDepth 20000 in
theorem ggL_law_X9_press : GoodIn wsL_law wsX9_press := goodIn_r _ [499, 485, 486, 306, 108, 310, 170, 171, 5, 172, 500, 501, 502, 503, 307, 143, 144, 145, 146, 439, 440, 441, 442, 890, 891, 892, 893, 894, 895, 896, 897, 898, 899, 900, 901, 902, 903, 904, 905, 906, 907, 908, 909, 910, 911, 912, 913, 914, 915, 916, 917, 918, 919, 920, 921, 922, 923, 924, 925, 926, 927, 928, 929, 930, 931, 932, 933] (by decide +kernel) (by decide +kernel)
set_option maxRecDepth 20000 in
theorem gL_law_X9_press : GoodIn wsL_law (wsV RL 47 RX9 yX9_press wsX9_press) := goodIn_app (goodIn_of _ (by decide +kernel)) ggL_law_X9_press
