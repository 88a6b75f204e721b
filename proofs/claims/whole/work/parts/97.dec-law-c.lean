set_option maxRecDepth 20000 in
theorem ggL_law_X8_leastShift : GoodIn wsL_law wsX8_leastShift := goodIn_r _ [724, 23, 725, 726, 37, 539, 540, 541, 36, 542, 543, 544, 545, 546, 547, 548, 92, 85, 86, 90, 549, 550, 551, 552, 553, 554, 32, 555, 556, 557, 558, 559, 84, 465, 2, 466, 560, 561, 562, 563, 564, 83, 565, 566, 567, 568, 74, 75, 76, 569, 570, 571, 572, 87, 573, 288, 289, 290, 93, 574, 575, 576, 577, 578, 579, 71, 72, 580, 581, 582, 583, 584, 585, 586, 587, 588, 589, 590, 327, 328, 329, 66, 591, 592, 593, 594, 595, 596, 597, 598, 599, 600, 879, 880, 881, 882, 883, 884, 885, 886, 887, 888, 889, 939, 940, 941, 942, 947, 948, 949, 950, 951, 952, 953, 954, 955, 956, 957, 958, 965, 966, 946] (by decide +kernel) (by decide +kernel)
set_option maxRecDepth 20000 in
theorem gL_law_X8_leastShift : GoodIn wsL_law (wsV RL 85 RX8 yX8_leastShift wsX8_leastShift) := goodIn_app (goodIn_of _ (by decide +kernel)) ggL_law_X8_leastShift
set_option maxRecDepth 20000 in
theorem ggL_law_X9_leastShift : GoodIn wsL_law wsX9_leastShift := goodIn_r _ [730, 731, 378, 500, 501, 502, 5, 503, 307, 717, 718, 719, 720, 306, 310, 380, 381, 382, 383, 125, 124, 384, 385, 386, 387, 123, 122, 388, 389, 390, 391, 392, 393, 394, 395, 396, 397, 398, 399, 110, 400, 401, 402, 403, 404, 405, 406, 407, 408, 409, 410, 411, 412, 413, 414, 415, 416, 417, 418, 115, 116, 419, 420, 421, 422, 118, 423, 424, 425, 426, 890, 891, 892, 893, 894, 895, 896, 897, 898, 899, 900, 901, 902, 903, 904, 905, 906, 907, 908, 909, 910, 911, 912, 913, 914, 915, 916, 917, 918, 919, 920, 921, 922, 923, 924, 925, 926, 927, 928, 929, 930, 931, 932, 933] (by decide +kernel) (by decide +kernel)
set_option maxRecDepth 20000 in
theorem gL_law_X9_leastShift : GoodIn wsL_law (wsV RL 88 RX9 yX9_leastShift wsX9_leastShift) := goodIn_app (goodIn_of _ (by decide +kernel)) ggL_law_X9_leastShift
set_option maxRecDepth 20000 in
theorem ggL_law_X8_free : GoodIn wsL_law wsX8_free := goodIn_r _ [735, 23, 37, 736, 737, 738, 36, 739, 661, 657, 658, 659, 660, 295, 89, 662, 663, 664, 665, 93, 544, 590, 327, 328, 32, 329, 66, 556, 557, 558, 559, 84, 465, 2, 466, 560, 561, 562, 563, 564, 83, 565, 566, 567, 568, 74, 75, 76, 569, 570, 571, 572, 87, 573, 288, 289, 290, 574, 575, 576, 577, 578, 579, 71, 72, 580, 581, 582, 583, 584, 585, 586, 587, 588, 589, 591, 592, 593, 594, 666, 667, 668, 669, 670, 671, 672, 91, 673, 674, 675, 676, 677, 678, 679, 680, 681, 682, 684, 335, 336, 70, 879, 880, 881, 882, 883, 884, 885, 886, 887, 888, 889, 939, 940, 941, 942, 947, 948, 949, 950, 951, 952, 953, 954, 955, 956, 957, 958, 946, 965, 966] (by decide +kernel) (by decide +kernel)
set_option maxRecDepth 20000 in
theorem gL_law_X8_free : GoodIn wsL_law (wsV RL 89 RX8 yX8_free wsX8_free) := goodIn_app (goodIn_of _ (by decide +kernel)) ggL_law_X8_free
set_option maxRecDepth 20000 in
theorem ggL_law_X9_free : GoodIn wsL_law wsX9_free := goodIn_r _ [743, 500, 501, 502, 5, 503, 307, 744, 745, 746, 747, 378, 380, 381, 382, 383, 125, 124, 384, 385, 386, 387, 123, 122, 388, 389, 390, 391, 392, 393, 394, 395, 396, 397, 398, 399, 110, 400, 401, 402, 403, 404, 405, 406, 407, 408, 409, 410, 411, 412, 413, 414, 415, 416, 417, 418, 115, 116, 419, 420, 421, 422, 118, 423, 424, 425, 426, 439, 440, 441, 442, 143, 144, 145, 146, 108, 890, 891, 892, 893, 894, 895, 896, 897, 898, 899, 900, 901, 902, 903, 904, 905, 906, 907, 908, 909, 910, 911, 912, 913, 914, 915, 916, 917, 918, 919, 920, 921, 922, 923, 924, 925, 926, 927, 928, 929, 930, 931, 932, 933] (by decide +kernel) (by decide +kernel)
set_option maxRecDepth 20000 in
theorem gL_law_X9_free : GoodIn wsL_law (wsV RL 92 RX9 yX9_free wsX9_free) := goodIn_app (goodIn_of _ (by decide +kernel)) ggL_law_X9_free
set_option maxRecDepth 20000 in
theorem ggL_law_X8_see : GoodIn wsL_law wsX8_see := goodIn_r _ [751, 23, 28, 318, 319, 320, 22, 321, 204, 752, 753, 754, 27, 755, 300, 345, 60, 61, 879, 880, 881, 882, 883, 884, 885, 886, 887, 888, 889, 943, 944, 945, 939, 940, 941, 942] (by decide +kernel) (by decide +kernel)
set_option maxRecDepth 20000 in
theorem gL_law_X8_see : GoodIn wsL_law (wsV RL 93 RX8 yX8_see wsX8_see) := goodIn_app (goodIn_of _ (by decide +kernel)) ggL_law_X8_see
set_option maxRecDepth 20000 in
theorem ggL_law_X9_see : GoodIn wsL_law wsX9_see := goodIn_r _ [759, 760, 308, 130, 359, 360, 361, 5, 362, 307, 170, 171, 172, 890, 891, 892, 893, 894, 895, 896, 897, 898, 899, 900, 901, 902, 903, 904, 905, 906, 907, 908, 909, 910, 911, 912, 913, 914, 915, 916, 917, 918, 919, 920, 921, 922, 923, 924, 925, 926, 927, 928, 929, 930, 931, 932, 933] (by decide +kernel) (by decide +kernel)
set_option maxRecDepth 20000 in
theorem gL_law_X9_see : GoodIn wsL_law (wsV RL 97 RX9 yX9_see wsX9_see) := goodIn_app (goodIn_of _ (by decide +kernel)) ggL_law_X9_see
set_option maxRecDepth 20000 in
theorem ggL_law_X8_forget : GoodIn wsL_law wsX8_forget := goodIn_r _ [764, 28, 296, 297, 298, 27, 299, 300, 879, 880, 881, 882, 883, 884, 885, 886, 887, 888, 889, 943, 944, 945] (by decide +kernel) (by decide +kernel)
set_option maxRecDepth 20000 in
theorem gL_law_X8_forget : GoodIn wsL_law (wsV RL 98 RX8 yX8_forget wsX8_forget) := goodIn_app (goodIn_of _ (by decide +kernel)) ggL_law_X8_forget
set_option maxRecDepth 20000 in
theorem ggL_law_X9_forget : GoodIn wsL_law wsX9_forget := goodIn_r _ [768, 308, 890, 891, 892, 893, 894, 895, 896, 897, 898, 899, 900, 901, 902, 903, 904, 905, 906, 907, 908, 909, 910, 911, 912, 913, 914, 915, 916, 917, 918, 919, 920, 921, 922, 923, 924, 925, 926, 927, 928, 929, 930, 931, 932, 933] (by decide +kernel) (by decide +kernel)
set_option maxRecDepth 20000 in
theorem gL_law_X9_forget : GoodIn wsL_law (wsV RL 101 RX9 yX9_forget wsX9_forget) := goodIn_app (goodIn_of _ (by decide +kernel)) ggL_law_X9_forget
set_option maxRecDepth 20000 in
theorem ggL_law_X8_drawn : GoodIn wsL_law wsX8_drawn := goodIn_r _ [772, 23, 41, 773, 774, 775, 40, 776, 777, 778, 779, 780, 102, 781, 563, 564, 83, 565, 566, 567, 568, 74, 32, 75, 76, 782, 783, 784, 785, 786, 787, 788, 789, 790, 791, 792, 793, 103, 794, 327, 328, 329, 66, 795, 678, 679, 680, 681, 71, 72, 682, 581, 582, 583, 879, 880, 881, 882, 883, 884, 885, 886, 887, 888, 889, 939, 940, 941, 942, 959, 960, 961, 962, 963, 964, 965, 966, 946] (by decide +kernel) (by decide +kernel)
set_option maxRecDepth 20000 in
theorem gL_law_X8_drawn : GoodIn wsL_law (wsV RL 102 RX8 yX8_drawn wsX8_drawn) := goodIn_app (goodIn_of _ (by decide +kernel)) ggL_law_X8_drawn
set_option maxRecDepth 20000 in
theorem ggL_law_X9_drawn : GoodIn wsL_law wsX9_drawn := goodIn_r _ [799, 800, 486, 801, 306, 802, 170, 171, 5, 172, 500, 501, 502, 503, 307, 803, 804, 805, 806, 807, 808, 809, 810, 811, 812, 813, 814, 419, 420, 421, 422, 118, 423, 424, 425, 426, 115, 392, 393, 394, 395, 396, 397, 398, 399, 110, 890, 891, 892, 893, 894, 895, 896, 897, 898, 899, 900, 901, 902, 903, 904, 905, 906, 907, 908, 909, 910, 911, 912, 913, 914, 915, 916, 917, 918, 919, 920, 921, 922, 923, 924, 925, 926, 927, 928, 929, 930, 931, 932, 933] (by decide +kernel) (by decide +kernel)
set_option maxRecDepth 20000 in
theorem gL_law_X9_drawn : GoodIn wsL_law (wsV RL 105 RX9 yX9_drawn wsX9_drawn) := goodIn_app (goodIn_of _ (by decide +kernel)) ggL_law_X9_drawn
set_option maxRecDepth 20000 in
theorem ggL_law_X8_image : GoodIn wsL_law wsX8_image := goodIn_r _ [818, 23, 24, 29, 28, 283, 284, 285, 22, 286, 203, 204, 55, 287, 288, 289, 290, 56, 819, 820, 821, 27, 822, 300, 60, 823, 61, 879, 880, 881, 882, 883, 884, 885, 886, 887, 888, 889, 939, 940, 941, 942, 943, 944, 945] (by decide +kernel) (by decide +kernel)
set_option maxRecDepth 20000 in
theorem gL_law_X8_image : GoodIn wsL_law (wsV RL 106 RX8 yX8_image wsX8_image) := goodIn_app (goodIn_of _ (by decide +kernel)) ggL_law_X8_image
set_option maxRecDepth 20000 in
theorem ggL_law_X9_image : GoodIn wsL_law wsX9_image := goodIn_r _ [827, 122, 131, 123, 132, 130, 133, 307, 828, 306, 829, 308, 830, 309, 134, 500, 501, 502, 5, 503, 311, 312, 313, 890, 891, 892, 893, 894, 895, 896, 897, 898, 899, 900, 901, 902, 903, 904, 905, 906, 907, 908, 909, 910, 911, 912, 913, 914, 915, 916, 917, 918, 919, 920, 921, 922, 923, 924, 925, 926, 927, 928, 929, 930, 931, 932, 933] (by decide +kernel) (by decide +kernel)
set_option maxRecDepth 20000 in
theorem gL_law_X9_image : GoodIn wsL_law (wsV RL 109 RX9 yX9_image wsX9_image) := goodIn_app (goodIn_of _ (by decide +kernel)) ggL_law_X9_image
set_option maxRecDepth 20000 in
theorem ggL_law_X8_restore : GoodIn wsL_law wsX8_restore := goodIn_r _ [834, 24, 23, 28, 29, 37, 283, 284, 285, 22, 286, 203, 204, 55, 287, 288, 289, 290, 56, 819, 820, 821, 27, 822, 300, 60, 823, 61, 291, 292, 293, 36, 294, 92, 295, 879, 880, 881, 882, 883, 884, 885, 886, 887, 888, 889, 939, 940, 941, 942, 943, 944, 945, 947, 948, 949, 950, 951, 952, 953, 954, 955, 956, 957, 958] (by decide +kernel) (by decide +kernel)
set_option maxRecDepth 20000 in
theorem gL_law_X8_restore : GoodIn wsL_law (wsV RL 110 RX8 yX8_restore wsX8_restore) := goodIn_app (goodIn_of _ (by decide +kernel)) ggL_law_X8_restore
set_option maxRecDepth 20000 in
theorem ggL_law_X9_restore : GoodIn wsL_law wsX9_restore := goodIn_r _ [838, 134, 309, 131, 122, 132, 123, 133, 130, 828, 307, 829, 306, 830, 308, 310, 311, 312, 5, 313, 890, 891, 892, 893, 894, 895, 896, 897, 898, 899, 900, 901, 902, 903, 904, 905, 906, 907, 908, 909, 910, 911, 912, 913, 914, 915, 916, 917, 918, 919, 920, 921, 922, 923, 924, 925, 926, 927, 928, 929, 930, 931, 932, 933] (by decide +kernel) (by decide +kernel)
set_option maxRecDepth 20000 in
theorem gL_law_X9_restore : GoodIn wsL_law (wsV RL 113 RX9 yX9_restore wsX9_restore) := goodIn_app (goodIn_of _ (by decide +kernel)) ggL_law_X9_restore
set_option maxRecDepth 20000 in
theorem ggL_law_X8_count : GoodIn wsL_law wsX8_count := goodIn_r _ [842, 23, 28, 15, 278, 725, 495, 335, 32, 336, 70, 71, 72, 843, 844, 845, 22, 846, 204, 56, 511, 235, 236, 237, 238, 239, 240, 879, 880, 881, 882, 883, 884, 885, 886, 887, 888, 889, 939, 940, 941, 942, 943, 944, 945, 934, 935] (by decide +kernel) (by decide +kernel)
set_option maxRecDepth 20000 in
theorem gL_law_X8_count : GoodIn wsL_law (wsV RL 114 RX8 yX8_count wsX8_count) := goodIn_app (goodIn_of _ (by decide +kernel)) ggL_law_X8_count
set_option maxRecDepth 20000 in
theorem ggL_law_X9_count : GoodIn wsL_law wsX9_count := goodIn_r _ [850, 851, 852, 853, 5, 854, 307, 306, 308, 169, 309, 731, 500, 501, 502, 503, 439, 440, 441, 442, 143, 144, 145, 146, 108, 855, 856, 857, 858, 123, 454, 455, 456, 890, 891, 892, 893, 894, 895, 896, 897, 898, 899, 900, 901, 902, 903, 904, 905, 906, 907, 908, 909, 910, 911, 912, 913, 914, 915, 916, 917, 918, 919, 920, 921, 922, 923, 924, 925, 926, 927, 928, 929, 930, 931, 932, 933] (by decide +kernel) (by decide +kernel)
set_option maxRecDepth 20000 in
theorem gL_law_X9_count : GoodIn wsL_law (wsV RL 117 RX9 yX9_count wsX9_count) := goodIn_app (goodIn_of _ (by decide +kernel)) ggL_law_X9_count
set_option maxRecDepth 20000 in
theorem ggL_law_X8_digest : GoodIn wsL_law wsX8_digest := goodIn_r _ [862, 863, 23, 864, 37, 15, 865, 315, 316, 2, 317, 33, 28, 318, 319, 320, 22, 321, 204, 322, 323, 324, 32, 325, 326, 327, 328, 329, 66, 330, 331, 332, 333, 334, 335, 336, 70, 71, 72, 337, 338, 339, 27, 340, 300, 60, 61, 341, 342, 343, 344, 345, 346, 347, 348, 349, 350, 351, 352, 353, 354, 235, 236, 237, 238, 239, 240, 653, 654, 655, 36, 656, 91, 657, 658, 659, 660, 295, 89, 661, 662, 663, 664, 665, 93, 544, 590, 556, 557, 558, 559, 84, 465, 466, 560, 561, 562, 563, 564, 83, 565, 566, 567, 568, 74, 75, 76, 569, 570, 571, 572, 87, 573, 288, 289, 290, 574, 575, 576, 577, 578, 579, 580, 581, 582, 583, 584, 585, 586, 587, 588, 589, 591, 592, 593, 594, 666, 667, 668, 669, 670, 671, 672, 673, 674, 675, 676, 677, 678, 679, 680, 681, 682, 683, 684, 697, 698, 699, 700, 90, 545, 546, 547, 548, 92, 85, 86, 543, 549, 550, 551, 552, 553, 554, 555, 595, 596, 597, 598, 599, 600, 866, 634, 635, 636, 539, 540, 541, 542, 637, 638, 639, 640, 641, 642, 643, 644, 867, 840, 841, 842, 278, 725, 495, 843, 844, 845, 846, 56, 511, 879, 880, 881, 882, 883, 884, 885, 886, 887, 888, 889, 939, 940, 941, 942, 934, 935, 946, 943, 944, 945, 947, 948, 949, 950, 951, 952, 953, 954, 955, 956, 957, 958, 965, 966] (by decide +kernel) (by decide +kernel)
set_option maxRecDepth 20000 in
theorem gL_law_X8_digest : GoodIn wsL_law (wsV RL 118 RX8 yX8_digest wsX8_digest) := goodIn_app (goodIn_of _ (by decide +kernel)) ggL_law_X8_digest
set_option maxRecDepth 20000 in
theorem ggL_law_X9_digest : GoodIn wsL_law wsX9_digest := goodIn_r _ [871, 872, 873, 307, 169, 119, 363, 364, 365, 5, 366, 122, 123, 367, 368, 369, 370, 371, 372, 373, 374, 310, 306, 375, 376, 377, 129, 126, 378, 127, 379, 380, 381, 382, 383, 125, 124, 384, 385, 386, 387, 388, 389, 390, 391, 392, 393, 394, 395, 396, 397, 398, 399, 110, 400, 401, 402, 403, 404, 405, 406, 407, 408, 409, 410, 411, 412, 413, 414, 415, 416, 417, 418, 115, 116, 419, 420, 421, 422, 118, 423, 424, 425, 426, 427, 428, 429, 430, 431, 432, 433, 434, 435, 436, 437, 438, 128, 439, 440, 441, 442, 143, 144, 145, 146, 108, 443, 444, 445, 446, 308, 130, 447, 448, 449, 450, 451, 452, 453, 454, 455, 456, 874, 875, 876, 877, 878, 689, 690, 691, 692, 705, 706, 707, 708, 605, 606, 607, 608, 851, 852, 853, 854, 309, 731, 500, 501, 502, 503, 855, 856, 857, 858, 890, 891, 892, 893, 894, 895, 896, 897, 898, 899, 900, 901, 902, 903, 904, 905, 906, 907, 908, 909, 910, 911, 912, 913, 914, 915, 916, 917, 918, 919, 920, 921, 922, 923, 924, 925, 926, 927, 928, 929, 930, 931, 932, 933] (by decide +kernel) (by decide +kernel)
set_option maxRecDepth 20000 in
theorem gL_law_X9_digest : GoodIn wsL_law (wsV RL 122 RX9 yX9_digest wsX9_digest) := goodIn_app (goodIn_of _ (by decide +kernel)) ggL_law_X9_digest
