set_option maxRecDepth 20000 in
theorem ggL_law_X9_init : GoodIn wsL_law wsX9_init := goodIn_r _ [8, 9, 10, 11, 12, 13, 14, 15, 16, 17, 18, 19, 20, 21, 22, 23, 24, 25, 26, 27, 28, 29, 30, 31, 32, 33, 34, 35, 36, 37, 38, 39, 40, 41, 42, 43, 44, 45, 46, 47, 48, 49, 50, 51, 52, 53, 54, 55, 56, 57, 58, 59, 60, 61, 62, 63, 64, 65, 66, 67, 68, 69, 70, 71, 72, 73, 74, 75, 76, 77, 78, 79, 80, 81, 82, 83, 84, 85, 86, 87, 88, 89, 899, 900, 901, 902, 903, 904, 850, 851, 852, 853, 854, 855, 856, 857, 858, 859, 860, 905, 906, 907, 908, 909, 910, 911, 912, 913, 914, 915, 916, 917, 918, 919, 920, 921, 922, 923, 924, 925, 926, 927, 928] (by decide +kernel) (by decide +kernel)
set_option maxRecDepth 20000 in
theorem gL_law_X9_init : GoodIn wsL_law (wsX9_init) := ggL_law_X9_init
set_option maxRecDepth 20000 in
theorem ggL_law_X10_init : GoodIn wsL_law wsX10_init := goodIn_r _ [92, 93, 10, 11, 50, 94, 95, 96, 97, 98, 99, 100, 101, 102, 103, 104, 105, 106, 107, 108, 109, 110, 111, 112, 113, 114, 115, 116, 117, 118, 119, 120, 121, 122, 861, 862, 863, 864, 865, 866, 867, 868, 869, 870, 871, 872, 873, 874, 875, 876, 877, 878, 879, 880, 881, 882, 883, 884, 885, 886, 887, 888, 889, 890, 891, 892, 893, 894, 895, 896, 897, 898] (by decide +kernel) (by decide +kernel)
set_option maxRecDepth 20000 in
theorem gL_law_X10_init : GoodIn wsL_law (wsX10_init) := ggL_law_X10_init
set_option maxRecDepth 20000 in
theorem ggL_law_X9_feed : GoodIn wsL_law wsX9_feed := goodIn_r _ [126, 127, 15, 128, 129, 130, 131, 2, 132, 133, 134, 135, 14, 136, 137, 51, 850, 851, 852, 853, 854, 855, 856, 857, 858, 859, 860, 899, 900, 901, 902, 903, 904] (by decide +kernel) (by decide +kernel)
set_option maxRecDepth 20000 in
theorem gL_law_X9_feed : GoodIn wsL_law (wsV RL 13 RX9 yX9_feed wsX9_feed) := goodIn_app (goodIn_of _ (by decide +kernel)) ggL_law_X9_feed
set_option maxRecDepth 20000 in
theorem ggL_law_X10_feed : GoodIn wsL_law wsX10_feed := goodIn_r _ [141, 142, 143, 144, 145, 100, 146, 147, 5, 148, 861, 862, 863, 864, 865, 866, 867, 868, 869, 870, 871, 872, 873, 874, 875, 876, 877, 878, 879, 880, 881, 882, 883, 884, 885, 886, 887, 888, 889, 890, 891, 892, 893, 894, 895, 896, 897, 898] (by decide +kernel) (by decide +kernel)
set_option maxRecDepth 20000 in
theorem gL_law_X10_feed : GoodIn wsL_law (wsV RL 17 RX10 yX10_feed wsX10_feed) := goodIn_app (goodIn_of _ (by decide +kernel)) ggL_law_X10_feed
set_option maxRecDepth 20000 in
theorem ggL_law_X9_parties : GoodIn wsL_law wsX9_parties := goodIn_r _ [152, 15, 43, 153, 44, 128, 42, 19, 154, 21, 155, 156, 157, 158, 159, 14, 160, 161, 162, 137, 163, 164, 165, 41, 166, 167, 168, 169, 170, 171, 172, 173, 174, 51, 175, 176, 177, 178, 179, 180, 181, 182, 183, 184, 185, 186, 187, 188, 189, 190, 191, 192, 193, 194, 195, 196, 197, 198, 199, 200, 201, 202, 203, 204, 205, 206, 207, 208, 209, 84, 210, 211, 212, 213, 214, 215, 216, 217, 218, 219, 220, 221, 222, 223, 224, 225, 226, 227, 228, 229, 230, 231, 232, 233, 850, 851, 852, 853, 854, 855, 856, 857, 858, 859, 860, 899, 900, 901, 902, 903, 904, 905, 906, 927, 928, 922, 923, 924, 925, 926] (by decide +kernel) (by decide +kernel)
set_option maxRecDepth 20000 in
theorem gL_law_X9_parties : GoodIn wsL_law (wsV RL 18 RX9 yX9_parties wsX9_parties) := goodIn_app (goodIn_of _ (by decide +kernel)) ggL_law_X9_parties
set_option maxRecDepth 20000 in
theorem ggL_law_X10_parties : GoodIn wsL_law wsX10_parties := goodIn_r _ [237, 101, 238, 239, 240, 144, 241, 122, 102, 94, 103, 95, 104, 96, 105, 97, 106, 98, 107, 99, 242, 120, 243, 244, 245, 5, 246, 100, 247, 248, 249, 250, 251, 252, 253, 254, 255, 256, 257, 258, 259, 260, 261, 262, 263, 264, 265, 266, 146, 147, 148, 267, 268, 269, 270, 271, 272, 273, 274, 275, 276, 861, 862, 863, 864, 865, 866, 867, 868, 869, 870, 871, 872, 873, 874, 875, 876, 877, 878, 879, 880, 881, 882, 883, 884, 885, 886, 887, 888, 889, 890, 891, 892, 893, 894, 895, 896, 897, 898] (by decide +kernel) (by decide +kernel)
set_option maxRecDepth 20000 in
theorem gL_law_X10_parties : GoodIn wsL_law (wsV RL 22 RX10 yX10_parties wsX10_parties) := goodIn_app (goodIn_of _ (by decide +kernel)) ggL_law_X10_parties
set_option maxRecDepth 20000 in
theorem ggL_law_X9_fault : GoodIn wsL_law wsX9_fault := goodIn_r _ [280, 44, 850, 851, 852, 853, 854, 855, 856, 857, 858, 859, 860] (by decide +kernel) (by decide +kernel)
set_option maxRecDepth 20000 in
theorem gL_law_X9_fault : GoodIn wsL_law (wsV RL 23 RX9 yX9_fault wsX9_fault) := goodIn_app (goodIn_of _ (by decide +kernel)) ggL_law_X9_fault
set_option maxRecDepth 20000 in
theorem ggL_law_X10_fault : GoodIn wsL_law wsX10_fault := goodIn_r _ [284, 101, 861, 862, 863, 864, 865, 866, 867, 868, 869, 870, 871, 872, 873, 874, 875, 876, 877, 878, 879, 880, 881, 882, 883, 884, 885, 886, 887, 888, 889, 890, 891, 892, 893, 894, 895, 896, 897, 898] (by decide +kernel) (by decide +kernel)
set_option maxRecDepth 20000 in
theorem gL_law_X10_fault : GoodIn wsL_law (wsV RL 26 RX10 yX10_fault wsX10_fault) := goodIn_app (goodIn_of _ (by decide +kernel)) ggL_law_X10_fault
set_option maxRecDepth 20000 in
theorem ggL_law_X9_told : GoodIn wsL_law wsX9_told := goodIn_r _ [288, 42, 289, 156, 34, 15, 128, 38, 290, 19, 154, 127, 291, 292, 293, 41, 294, 168, 295, 296, 297, 298, 206, 207, 208, 209, 84, 299, 300, 301, 302, 169, 170, 303, 304, 305, 33, 306, 307, 308, 309, 310, 311, 312, 313, 314, 315, 316, 317, 318, 319, 320, 321, 322, 323, 324, 325, 326, 327, 328, 329, 330, 331, 332, 333, 334, 335, 336, 70, 69, 337, 338, 339, 340, 341, 342, 343, 344, 345, 224, 346, 347, 348, 349, 350, 351, 352, 353, 354, 355, 356, 357, 850, 851, 852, 853, 854, 855, 856, 857, 858, 859, 860, 922, 923, 924, 925, 926, 899, 900, 901, 902, 903, 904, 914, 915, 916, 917, 918, 919, 920, 921, 905, 906, 912, 913] (by decide +kernel) (by decide +kernel)
set_option maxRecDepth 20000 in
theorem gL_law_X9_told : GoodIn wsL_law (wsV RL 27 RX9 yX9_told wsX9_told) := goodIn_app (goodIn_of _ (by decide +kernel)) ggL_law_X9_told
set_option maxRecDepth 20000 in
theorem ggL_law_X10_told : GoodIn wsL_law wsX10_told := goodIn_r _ [361, 241, 122, 144, 362, 242, 143, 363, 364, 365, 5, 366, 94, 95, 367, 368, 369, 370, 371, 372, 373, 374, 96, 375, 376, 377, 378, 379, 380, 381, 382, 383, 384, 385, 386, 271, 272, 273, 387, 388, 389, 390, 391, 392, 393, 394, 395, 396, 397, 861, 862, 863, 864, 865, 866, 867, 868, 869, 870, 871, 872, 873, 874, 875, 876, 877, 878, 879, 880, 881, 882, 883, 884, 885, 886, 887, 888, 889, 890, 891, 892, 893, 894, 895, 896, 897, 898] (by decide +kernel) (by decide +kernel)
set_option maxRecDepth 20000 in
theorem gL_law_X10_told : GoodIn wsL_law (wsV RL 30 RX10 yX10_told wsX10_told) := goodIn_app (goodIn_of _ (by decide +kernel)) ggL_law_X10_told
set_option maxRecDepth 20000 in
theorem ggL_law_X9_colour : GoodIn wsL_law wsX9_colour := goodIn_r _ [401, 42, 402, 130, 131, 2, 132, 403, 404, 405, 41, 406, 169, 170, 850, 851, 852, 853, 854, 855, 856, 857, 858, 859, 860, 922, 923, 924, 925, 926] (by decide +kernel) (by decide +kernel)
set_option maxRecDepth 20000 in
theorem gL_law_X9_colour : GoodIn wsL_law (wsV RL 31 RX9 yX9_colour wsX9_colour) := goodIn_app (goodIn_of _ (by decide +kernel)) ggL_law_X9_colour
set_option maxRecDepth 20000 in
theorem ggL_law_X10_colour : GoodIn wsL_law wsX10_colour := goodIn_r _ [410, 411, 412, 413, 5, 414, 415, 146, 147, 148, 416, 417, 418, 419, 371, 372, 373, 374, 241, 96, 94, 95, 271, 272, 273, 861, 862, 863, 864, 865, 866, 867, 868, 869, 870, 871, 872, 873, 874, 875, 876, 877, 878, 879, 880, 881, 882, 883, 884, 885, 886, 887, 888, 889, 890, 891, 892, 893, 894, 895, 896, 897, 898] (by decide +kernel) (by decide +kernel)
set_option maxRecDepth 20000 in
theorem gL_law_X10_colour : GoodIn wsL_law (wsV RL 34 RX10 yX10_colour wsX10_colour) := goodIn_app (goodIn_of _ (by decide +kernel)) ggL_law_X10_colour
set_option maxRecDepth 20000 in
theorem ggL_law_X9_step : GoodIn wsL_law wsX9_step := goodIn_r _ [423, 42, 402, 127, 424, 425, 426, 41, 427, 168, 130, 131, 2, 132, 428, 207, 208, 209, 84, 850, 851, 852, 853, 854, 855, 856, 857, 858, 859, 860, 922, 923, 924, 925, 926] (by decide +kernel) (by decide +kernel)
set_option maxRecDepth 20000 in
theorem gL_law_X9_step : GoodIn wsL_law (wsV RL 35 RX9 yX9_step wsX9_step) := goodIn_app (goodIn_of _ (by decide +kernel)) ggL_law_X9_step
set_option maxRecDepth 20000 in
theorem ggL_law_X10_step : GoodIn wsL_law wsX10_step := goodIn_r _ [432, 411, 94, 95, 96, 97, 98, 99, 108, 109, 143, 433, 434, 435, 5, 436, 122, 146, 147, 148, 437, 438, 439, 440, 241, 861, 862, 863, 864, 865, 866, 867, 868, 869, 870, 871, 872, 873, 874, 875, 876, 877, 878, 879, 880, 881, 882, 883, 884, 885, 886, 887, 888, 889, 890, 891, 892, 893, 894, 895, 896, 897, 898] (by decide +kernel) (by decide +kernel)
set_option maxRecDepth 20000 in
theorem gL_law_X10_step : GoodIn wsL_law (wsV RL 39 RX10 yX10_step wsX10_step) := goodIn_app (goodIn_of _ (by decide +kernel)) ggL_law_X10_step
set_option maxRecDepth 20000 in
theorem ggL_law_X9_holds : GoodIn wsL_law wsX9_holds := goodIn_r _ [444, 42, 402, 127, 424, 425, 426, 41, 427, 168, 130, 131, 2, 132, 428, 207, 208, 209, 84, 850, 851, 852, 853, 854, 855, 856, 857, 858, 859, 860, 922, 923, 924, 925, 926] (by decide +kernel) (by decide +kernel)
set_option maxRecDepth 20000 in
theorem gL_law_X9_holds : GoodIn wsL_law (wsV RL 40 RX9 yX9_holds wsX9_holds) := goodIn_app (goodIn_of _ (by decide +kernel)) ggL_law_X9_holds
set_option maxRecDepth 20000 in
theorem ggL_law_X10_holds : GoodIn wsL_law wsX10_holds := goodIn_r _ [448, 411, 142, 143, 433, 434, 435, 5, 436, 122, 146, 147, 148, 387, 388, 389, 390, 94, 95, 861, 862, 863, 864, 865, 866, 867, 868, 869, 870, 871, 872, 873, 874, 875, 876, 877, 878, 879, 880, 881, 882, 883, 884, 885, 886, 887, 888, 889, 890, 891, 892, 893, 894, 895, 896, 897, 898] (by decide +kernel) (by decide +kernel)
set_option maxRecDepth 20000 in
theorem gL_law_X10_holds : GoodIn wsL_law (wsV RL 43 RX10 yX10_holds wsX10_holds) := goodIn_app (goodIn_of _ (by decide +kernel)) ggL_law_X10_holds
set_option maxRecDepth 20000 in
theorem ggL_law_X9_resolve : GoodIn wsL_law wsX9_resolve := goodIn_r _ [452, 42, 402, 453, 129, 19, 156, 424, 425, 426, 41, 427, 168, 130, 131, 2, 132, 454, 203, 204, 205, 206, 207, 208, 209, 84, 210, 211, 212, 213, 455, 187, 188, 189, 167, 456, 457, 458, 18, 459, 460, 55, 461, 462, 463, 464, 465, 219, 220, 221, 222, 223, 224, 225, 850, 851, 852, 853, 854, 855, 856, 857, 858, 859, 860, 922, 923, 924, 925, 926, 905, 906] (by decide +kernel) (by decide +kernel)
set_option maxRecDepth 20000 in
theorem gL_law_X9_resolve : GoodIn wsL_law (wsV RL 44 RX9 yX9_resolve wsX9_resolve) := goodIn_app (goodIn_of _ (by decide +kernel)) ggL_law_X9_resolve
set_option maxRecDepth 20000 in
theorem ggL_law_X10_resolve : GoodIn wsL_law wsX10_resolve := goodIn_r _ [469, 411, 470, 145, 122, 433, 434, 435, 5, 436, 146, 147, 148, 412, 413, 414, 415, 471, 472, 473, 474, 94, 95, 271, 272, 273, 475, 476, 477, 478, 241, 479, 480, 481, 482, 242, 110, 483, 484, 485, 486, 96, 97, 98, 99, 861, 862, 863, 864, 865, 866, 867, 868, 869, 870, 871, 872, 873, 874, 875, 876, 877, 878, 879, 880, 881, 882, 883, 884, 885, 886, 887, 888, 889, 890, 891, 892, 893, 894, 895, 896, 897, 898] (by decide +kernel) (by decide +kernel)
set_option maxRecDepth 20000 in
theorem gL_law_X10_resolve : GoodIn wsL_law (wsV RL 48 RX10 yX10_resolve wsX10_resolve) := goodIn_app (goodIn_of _ (by decide +kernel)) ggL_law_X10_resolve
set_option maxRecDepth 20000 in
theorem ggL_law_X9_seek : GoodIn wsL_law wsX9_seek := goodIn_r _ [490, 42, 156, 19, 491, 492, 493, 41, 494, 168, 495, 187, 188, 189, 167, 496, 497, 498, 499, 206, 207, 208, 209, 84, 500, 501, 502, 503, 504, 505, 506, 507, 508, 203, 204, 205, 210, 211, 212, 213, 509, 510, 511, 512, 513, 219, 220, 221, 222, 223, 224, 225, 295, 296, 297, 298, 456, 457, 458, 18, 459, 460, 55, 461, 462, 463, 464, 850, 851, 852, 853, 854, 855, 856, 857, 858, 859, 860, 922, 923, 924, 925, 926, 905, 906] (by decide +kernel) (by decide +kernel)
set_option maxRecDepth 20000 in
theorem gL_law_X9_seek : GoodIn wsL_law (wsV RL 49 RX9 yX9_seek wsX9_seek) := goodIn_app (goodIn_of _ (by decide +kernel)) ggL_law_X9_seek
set_option maxRecDepth 20000 in
theorem ggL_law_X10_seek : GoodIn wsL_law wsX10_seek := goodIn_r _ [517, 122, 518, 475, 476, 477, 5, 478, 241, 519, 520, 521, 522, 94, 95, 471, 472, 473, 474, 271, 272, 273, 523, 524, 525, 526, 483, 484, 485, 486, 96, 97, 98, 99, 479, 480, 481, 482, 242, 110, 861, 862, 863, 864, 865, 866, 867, 868, 869, 870, 871, 872, 873, 874, 875, 876, 877, 878, 879, 880, 881, 882, 883, 884, 885, 886, 887, 888, 889, 890, 891, 892, 893, 894, 895, 896, 897, 898] (by decide +kernel) (by decide +kernel)
set_option maxRecDepth 20000 in
theorem gL_law_X10_seek : GoodIn wsL_law (wsV RL 52 RX10 yX10_seek wsX10_seek) := goodIn_app (goodIn_of _ (by decide +kernel)) ggL_law_X10_seek
set_option maxRecDepth 20000 in
theorem ggL_law_X9_undo : GoodIn wsL_law wsX9_undo := goodIn_r _ [530, 19, 154, 453, 42, 156, 531, 532, 533, 18, 534, 460, 55, 850, 851, 852, 853, 854, 855, 856, 857, 858, 859, 860, 905, 906, 922, 923, 924, 925, 926] (by decide +kernel) (by decide +kernel)
set_option maxRecDepth 20000 in
theorem gL_law_X9_undo : GoodIn wsL_law (wsV RL 53 RX9 yX9_undo wsX9_undo) := goodIn_app (goodIn_of _ (by decide +kernel)) ggL_law_X9_undo
set_option maxRecDepth 20000 in
theorem ggL_law_X10_undo : GoodIn wsL_law wsX10_undo := goodIn_r _ [538, 242, 470, 110, 122, 861, 862, 863, 864, 865, 866, 867, 868, 869, 870, 871, 872, 873, 874, 875, 876, 877, 878, 879, 880, 881, 882, 883, 884, 885, 886, 887, 888, 889, 890, 891, 892, 893, 894, 895, 896, 897, 898] (by decide +kernel) (by decide +kernel)
set_option maxRecDepth 20000 in
theorem gL_law_X10_undo : GoodIn wsL_law (wsV RL 56 RX10 yX10_undo wsX10_undo) := goodIn_app (goodIn_of _ (by decide +kernel)) ggL_law_X10_undo
set_option maxRecDepth 20000 in
theorem ggL_law_X9_sentence : GoodIn wsL_law wsX9_sentence := goodIn_r _ [542, 42, 402, 127, 25, 424, 425, 426, 41, 427, 168, 543, 544, 2, 545, 130, 131, 132, 546, 547, 548, 24, 549, 60, 550, 551, 552, 553, 554, 555, 556, 207, 208, 209, 84, 557, 300, 301, 302, 169, 170, 558, 314, 315, 316, 317, 318, 319, 320, 321, 559, 560, 561, 562, 563, 404, 405, 406, 564, 565, 566, 567, 568, 569, 570, 571, 572, 850, 851, 852, 853, 854, 855, 856, 857, 858, 859, 860, 922, 923, 924, 925, 926, 907, 908] (by decide +kernel) (by decide +kernel)
set_option maxRecDepth 20000 in
theorem gL_law_X9_sentence : GoodIn wsL_law (wsV RL 57 RX9 yX9_sentence wsX9_sentence) := goodIn_app (goodIn_of _ (by decide +kernel)) ggL_law_X9_sentence
set_option maxRecDepth 20000 in
theorem ggL_law_X10_sentence : GoodIn wsL_law wsX10_sentence := goodIn_r _ [576, 411, 142, 143, 112, 433, 434, 435, 5, 436, 122, 146, 147, 148, 577, 578, 579, 580, 581, 582, 583, 584, 241, 99, 416, 417, 418, 419, 371, 372, 373, 374, 96, 94, 95, 271, 272, 273, 585, 586, 587, 588, 367, 368, 369, 370, 589, 590, 591, 592, 97, 98, 861, 862, 863, 864, 865, 866, 867, 868, 869, 870, 871, 872, 873, 874, 875, 876, 877, 878, 879, 880, 881, 882, 883, 884, 885, 886, 887, 888, 889, 890, 891, 892, 893, 894, 895, 896, 897, 898] (by decide +kernel) (by decide +kernel)
set_option maxRecDepth 20000 in
theorem gL_law_X10_sentence : GoodIn wsL_law (wsV RL 60 RX10 yX10_sentence wsX10_sentence) := goodIn_app (goodIn_of _ (by decide +kernel)) ggL_law_X10_sentence
set_option maxRecDepth 20000 in
theorem ggL_law_X9_about : GoodIn wsL_law wsX9_about := goodIn_r _ [596, 42, 402, 127, 25, 30, 424, 425, 426, 41, 427, 168, 543, 544, 2, 545, 130, 131, 132, 546, 547, 548, 24, 549, 60, 550, 551, 552, 553, 554, 555, 556, 207, 208, 209, 84, 557, 300, 301, 302, 169, 170, 558, 314, 315, 316, 317, 318, 319, 320, 321, 559, 560, 561, 562, 563, 404, 405, 406, 564, 597, 598, 599, 600, 569, 570, 571, 572, 601, 323, 324, 325, 326, 327, 328, 602, 603, 604, 605, 606, 607, 608, 609, 610, 611, 612, 29, 613, 64, 614, 615, 566, 567, 568, 616, 617, 618, 619, 620, 621, 622, 623, 65, 850, 851, 852, 853, 854, 855, 856, 857, 858, 859, 860, 922, 923, 924, 925, 926, 907, 908, 909, 910, 911] (by decide +kernel) (by decide +kernel)
set_option maxRecDepth 20000 in
theorem gL_law_X9_about : GoodIn wsL_law (wsV RL 61 RX9 yX9_about wsX9_about) := goodIn_app (goodIn_of _ (by decide +kernel)) ggL_law_X9_about
set_option maxRecDepth 20000 in
theorem ggL_law_X10_about : GoodIn wsL_law wsX10_about := goodIn_r _ [627, 411, 580, 143, 433, 434, 435, 5, 436, 122, 146, 147, 148, 577, 578, 579, 581, 582, 583, 584, 241, 99, 112, 416, 417, 418, 419, 371, 372, 373, 374, 96, 94, 95, 271, 272, 273, 585, 586, 587, 588, 367, 368, 369, 370, 589, 590, 591, 592, 97, 98, 628, 629, 630, 631, 632, 633, 634, 635, 636, 637, 638, 639, 640, 641, 642, 643, 644, 645, 646, 647, 861, 862, 863, 864, 865, 866, 867, 868, 869, 870, 871, 872, 873, 874, 875, 876, 877, 878, 879, 880, 881, 882, 883, 884, 885, 886, 887, 888, 889, 890, 891, 892, 893, 894, 895, 896, 897, 898] (by decide +kernel) (by decide +kernel)
set_option maxRecDepth 20000 in
theorem gL_law_X10_about : GoodIn wsL_law (wsV RL 64 RX10 yX10_about wsX10_about) := goodIn_app (goodIn_of _ (by decide +kernel)) ggL_law_X10_about
set_option maxRecDepth 20000 in
theorem ggL_law_X9_between : GoodIn wsL_law wsX9_between := goodIn_r _ [651, 127, 42, 453, 25, 34, 543, 544, 2, 545, 130, 131, 132, 291, 292, 293, 41, 294, 168, 295, 296, 297, 298, 206, 207, 208, 209, 84, 546, 547, 548, 24, 549, 60, 550, 551, 552, 553, 554, 555, 556, 557, 300, 301, 302, 169, 170, 558, 314, 315, 316, 317, 318, 319, 320, 321, 559, 560, 561, 562, 563, 404, 405, 406, 564, 652, 653, 654, 33, 655, 310, 656, 570, 571, 572, 307, 308, 309, 311, 312, 313, 602, 603, 604, 605, 606, 607, 608, 609, 569, 299, 850, 851, 852, 853, 854, 855, 856, 857, 858, 859, 860, 922, 923, 924, 925, 926, 907, 908] (by decide +kernel) (by decide +kernel)
set_option maxRecDepth 20000 in
theorem gL_law_X9_between : GoodIn wsL_law (wsV RL 65 RX9 yX9_between wsX9_between) := goodIn_app (goodIn_of _ (by decide +kernel)) ggL_law_X9_between
set_option maxRecDepth 20000 in
theorem ggL_law_X10_between : GoodIn wsL_law wsX10_between := goodIn_r _ [660, 143, 470, 112, 577, 578, 5, 579, 580, 146, 147, 148, 363, 364, 365, 366, 122, 94, 95, 581, 582, 583, 584, 241, 99, 416, 417, 418, 419, 371, 372, 373, 374, 96, 271, 272, 273, 585, 586, 587, 588, 367, 368, 369, 370, 589, 590, 591, 592, 97, 98, 375, 376, 377, 378, 383, 384, 385, 386, 387, 388, 389, 390, 632, 633, 634, 635, 861, 862, 863, 864, 865, 866, 867, 868, 869, 870, 871, 872, 873, 874, 875, 876, 877, 878, 879, 880, 881, 882, 883, 884, 885, 886, 887, 888, 889, 890, 891, 892, 893, 894, 895, 896, 897, 898] (by decide +kernel) (by decide +kernel)
set_option maxRecDepth 20000 in
theorem gL_law_X10_between : GoodIn wsL_law (wsV RL 68 RX10 yX10_between wsX10_between) := goodIn_app (goodIn_of _ (by decide +kernel)) ggL_law_X10_between
set_option maxRecDepth 20000 in
theorem ggL_law_X9_saysMore : GoodIn wsL_law wsX9_saysMore := goodIn_r _ [664, 42, 402, 127, 25, 26, 424, 425, 426, 41, 427, 168, 543, 544, 2, 545, 130, 131, 132, 546, 547, 548, 24, 549, 60, 550, 551, 552, 553, 554, 555, 556, 207, 208, 209, 84, 557, 300, 301, 302, 169, 170, 558, 314, 315, 316, 317, 318, 319, 320, 321, 559, 560, 561, 562, 563, 404, 405, 406, 564, 665, 666, 667, 668, 569, 570, 571, 572, 850, 851, 852, 853, 854, 855, 856, 857, 858, 859, 860, 922, 923, 924, 925, 926, 907, 908] (by decide +kernel) (by decide +kernel)
set_option maxRecDepth 20000 in
theorem gL_law_X9_saysMore : GoodIn wsL_law (wsV RL 69 RX9 yX9_saysMore wsX9_saysMore) := goodIn_app (goodIn_of _ (by decide +kernel)) ggL_law_X9_saysMore
set_option maxRecDepth 20000 in
theorem ggL_law_X10_saysMore : GoodIn wsL_law wsX10_saysMore := goodIn_r _ [672, 411, 143, 113, 112, 433, 434, 435, 5, 436, 122, 146, 147, 148, 577, 578, 579, 580, 581, 582, 583, 584, 241, 99, 416, 417, 418, 419, 371, 372, 373, 374, 96, 94, 95, 271, 272, 273, 585, 586, 587, 588, 367, 368, 369, 370, 589, 590, 591, 592, 97, 98, 861, 862, 863, 864, 865, 866, 867, 868, 869, 870, 871, 872, 873, 874, 875, 876, 877, 878, 879, 880, 881, 882, 883, 884, 885, 886, 887, 888, 889, 890, 891, 892, 893, 894, 895, 896, 897, 898] (by decide +kernel) (by decide +kernel)
set_option maxRecDepth 20000 in
theorem gL_law_X10_saysMore : GoodIn wsL_law (wsV RL 72 RX10 yX10_saysMore wsX10_saysMore) := goodIn_app (goodIn_of _ (by decide +kernel)) ggL_law_X10_saysMore
set_option maxRecDepth 20000 in
theorem ggL_law_X9_needless : GoodIn wsL_law wsX9_needless := goodIn_r _ [676, 42, 453, 291, 292, 293, 41, 294, 168, 295, 296, 297, 298, 206, 207, 208, 209, 84, 677, 678, 679, 680, 167, 850, 851, 852, 853, 854, 855, 856, 857, 858, 859, 860, 922, 923, 924, 925, 926] (by decide +kernel) (by decide +kernel)
set_option maxRecDepth 20000 in
theorem gL_law_X9_needless : GoodIn wsL_law (wsV RL 73 RX9 yX9_needless wsX9_needless) := goodIn_app (goodIn_of _ (by decide +kernel)) ggL_law_X9_needless
set_option maxRecDepth 20000 in
theorem ggL_law_X10_needless : GoodIn wsL_law wsX10_needless := goodIn_r _ [684, 470, 122, 114, 241, 97, 98, 363, 364, 365, 5, 366, 94, 95, 861, 862, 863, 864, 865, 866, 867, 868, 869, 870, 871, 872, 873, 874, 875, 876, 877, 878, 879, 880, 881, 882, 883, 884, 885, 886, 887, 888, 889, 890, 891, 892, 893, 894, 895, 896, 897, 898] (by decide +kernel) (by decide +kernel)
set_option maxRecDepth 20000 in
theorem gL_law_X10_needless : GoodIn wsL_law (wsV RL 76 RX10 yX10_needless wsX10_needless) := goodIn_app (goodIn_of _ (by decide +kernel)) ggL_law_X10_needless
set_option maxRecDepth 20000 in
theorem ggL_law_X9_sum : GoodIn wsL_law wsX9_sum := goodIn_r _ [688, 127, 38, 290, 129, 130, 131, 2, 132, 689, 690, 691, 692, 693, 694, 37, 695, 696, 74, 75, 76, 850, 851, 852, 853, 854, 855, 856, 857, 858, 859, 860, 914, 915, 916, 917, 918, 919, 920, 921] (by decide +kernel) (by decide +kernel)
set_option maxRecDepth 20000 in
theorem gL_law_X9_sum : GoodIn wsL_law (wsV RL 77 RX9 yX9_sum wsX9_sum) := goodIn_app (goodIn_of _ (by decide +kernel)) ggL_law_X9_sum
set_option maxRecDepth 20000 in
theorem ggL_law_X10_sum : GoodIn wsL_law wsX10_sum := goodIn_r _ [700, 701, 702, 143, 362, 145, 115, 116, 117, 118, 703, 704, 5, 705, 706, 707, 146, 147, 148, 861, 862, 863, 864, 865, 866, 867, 868, 869, 870, 871, 872, 873, 874, 875, 876, 877, 878, 879, 880, 881, 882, 883, 884, 885, 886, 887, 888, 889, 890, 891, 892, 893, 894, 895, 896, 897, 898] (by decide +kernel) (by decide +kernel)
set_option maxRecDepth 20000 in
theorem gL_law_X10_sum : GoodIn wsL_law (wsV RL 81 RX10 yX10_sum wsX10_sum) := goodIn_app (goodIn_of _ (by decide +kernel)) ggL_law_X10_sum
set_option maxRecDepth 20000 in
theorem ggL_law_X9_weigh : GoodIn wsL_law wsX9_weigh := goodIn_r _ [711, 38, 290, 402, 127, 712, 130, 131, 2, 132, 850, 851, 852, 853, 854, 855, 856, 857, 858, 859, 860, 914, 915, 916, 917, 918, 919, 920, 921] (by decide +kernel) (by decide +kernel)
set_option maxRecDepth 20000 in
theorem gL_law_X9_weigh : GoodIn wsL_law (wsV RL 82 RX9 yX9_weigh wsX9_weigh) := goodIn_app (goodIn_of _ (by decide +kernel)) ggL_law_X9_weigh
set_option maxRecDepth 20000 in
theorem ggL_law_X10_weigh : GoodIn wsL_law wsX10_weigh := goodIn_r _ [716, 362, 411, 717, 143, 118, 146, 147, 5, 148, 861, 862, 863, 864, 865, 866, 867, 868, 869, 870, 871, 872, 873, 874, 875, 876, 877, 878, 879, 880, 881, 882, 883, 884, 885, 886, 887, 888, 889, 890, 891, 892, 893, 894, 895, 896, 897, 898] (by decide +kernel) (by decide +kernel)
set_option maxRecDepth 20000 in
theorem gL_law_X10_weigh : GoodIn wsL_law (wsV RL 85 RX10 yX10_weigh wsX10_weigh) := goodIn_app (goodIn_of _ (by decide +kernel)) ggL_law_X10_weigh
set_option maxRecDepth 20000 in
theorem ggL_law_X9_weighed : GoodIn wsL_law wsX9_weighed := goodIn_r _ [721, 127, 38, 130, 131, 2, 132, 722, 723, 724, 37, 725, 696, 74, 76, 726, 727, 728, 729, 75, 850, 851, 852, 853, 854, 855, 856, 857, 858, 859, 860, 914, 915, 916, 917, 918, 919, 920, 921] (by decide +kernel) (by decide +kernel)
set_option maxRecDepth 20000 in
theorem gL_law_X9_weighed : GoodIn wsL_law (wsV RL 86 RX9 yX9_weighed wsX9_weighed) := goodIn_app (goodIn_of _ (by decide +kernel)) ggL_law_X9_weighed
set_option maxRecDepth 20000 in
theorem ggL_law_X10_weighed : GoodIn wsL_law wsX10_weighed := goodIn_r _ [733, 734, 143, 146, 147, 5, 148, 735, 736, 737, 738, 362, 117, 116, 115, 118, 861, 862, 863, 864, 865, 866, 867, 868, 869, 870, 871, 872, 873, 874, 875, 876, 877, 878, 879, 880, 881, 882, 883, 884, 885, 886, 887, 888, 889, 890, 891, 892, 893, 894, 895, 896, 897, 898] (by decide +kernel) (by decide +kernel)
set_option maxRecDepth 20000 in
theorem gL_law_X10_weighed : GoodIn wsL_law (wsV RL 89 RX10 yX10_weighed wsX10_weighed) := goodIn_app (goodIn_of _ (by decide +kernel)) ggL_law_X10_weighed
set_option maxRecDepth 20000 in
theorem ggL_law_X9_sums : GoodIn wsL_law wsX9_sums := goodIn_r _ [742, 38, 127, 743, 744, 745, 37, 746, 747, 723, 724, 725, 696, 74, 76, 748, 749, 750, 751, 752, 753, 754, 755, 75, 756, 757, 758, 759, 760, 727, 728, 729, 850, 851, 852, 853, 854, 855, 856, 857, 858, 859, 860, 914, 915, 916, 917, 918, 919, 920, 921] (by decide +kernel) (by decide +kernel)
set_option maxRecDepth 20000 in
theorem gL_law_X9_sums : GoodIn wsL_law (wsV RL 90 RX9 yX9_sums wsX9_sums) := goodIn_app (goodIn_of _ (by decide +kernel)) ggL_law_X9_sums
set_option maxRecDepth 20000 in
theorem ggL_law_X10_sums : GoodIn wsL_law wsX10_sums := goodIn_r _ [764, 143, 765, 766, 767, 5, 768, 735, 736, 737, 738, 362, 117, 116, 115, 118, 769, 770, 771, 772, 773, 774, 775, 776, 777, 778, 779, 780, 861, 862, 863, 864, 865, 866, 867, 868, 869, 870, 871, 872, 873, 874, 875, 876, 877, 878, 879, 880, 881, 882, 883, 884, 885, 886, 887, 888, 889, 890, 891, 892, 893, 894, 895, 896, 897, 898] (by decide +kernel) (by decide +kernel)
set_option maxRecDepth 20000 in
theorem gL_law_X10_sums : GoodIn wsL_law (wsV RL 93 RX10 yX10_sums wsX10_sums) := goodIn_app (goodIn_of _ (by decide +kernel)) ggL_law_X10_sums
set_option maxRecDepth 20000 in
theorem ggL_law_X9_seekWeights : GoodIn wsL_law wsX9_seekWeights := goodIn_r _ [784, 38, 290, 453, 130, 131, 2, 132, 785, 786, 787, 37, 788, 77, 76, 696, 789, 462, 463, 464, 790, 791, 792, 793, 79, 80, 74, 794, 345, 224, 346, 795, 223, 225, 796, 797, 798, 799, 800, 801, 802, 78, 803, 804, 805, 806, 850, 851, 852, 853, 854, 855, 856, 857, 858, 859, 860, 914, 915, 916, 917, 918, 919, 920, 921] (by decide +kernel) (by decide +kernel)
set_option maxRecDepth 20000 in
theorem gL_law_X9_seekWeights : GoodIn wsL_law (wsV RL 94 RX9 yX9_seekWeights wsX9_seekWeights) := goodIn_app (goodIn_of _ (by decide +kernel)) ggL_law_X9_seekWeights
set_option maxRecDepth 20000 in
theorem ggL_law_X10_seekWeights : GoodIn wsL_law wsX10_seekWeights := goodIn_r _ [810, 362, 811, 470, 118, 119, 146, 147, 5, 148, 274, 275, 276, 812, 813, 814, 815, 765, 766, 767, 768, 735, 736, 737, 738, 117, 116, 115, 816, 817, 818, 819, 861, 862, 863, 864, 865, 866, 867, 868, 869, 870, 871, 872, 873, 874, 875, 876, 877, 878, 879, 880, 881, 882, 883, 884, 885, 886, 887, 888, 889, 890, 891, 892, 893, 894, 895, 896, 897, 898] (by decide +kernel) (by decide +kernel)
set_option maxRecDepth 20000 in
theorem gL_law_X10_seekWeights : GoodIn wsL_law (wsV RL 97 RX10 yX10_seekWeights wsX10_seekWeights) := goodIn_app (goodIn_of _ (by decide +kernel)) ggL_law_X10_seekWeights
set_option maxRecDepth 20000 in
theorem ggL_law_X9_clear : GoodIn wsL_law wsX9_clear := goodIn_r _ [823, 38, 290, 850, 851, 852, 853, 854, 855, 856, 857, 858, 859, 860, 914, 915, 916, 917, 918, 919, 920, 921] (by decide +kernel) (by decide +kernel)
set_option maxRecDepth 20000 in
theorem gL_law_X9_clear : GoodIn wsL_law (wsV RL 98 RX9 yX9_clear wsX9_clear) := goodIn_app (goodIn_of _ (by decide +kernel)) ggL_law_X9_clear
set_option maxRecDepth 20000 in
theorem ggL_law_X10_clear : GoodIn wsL_law wsX10_clear := goodIn_r _ [827, 362, 861, 862, 863, 864, 865, 866, 867, 868, 869, 870, 871, 872, 873, 874, 875, 876, 877, 878, 879, 880, 881, 882, 883, 884, 885, 886, 887, 888, 889, 890, 891, 892, 893, 894, 895, 896, 897, 898] (by decide +kernel) (by decide +kernel)
set_option maxRecDepth 20000 in
theorem gL_law_X10_clear : GoodIn wsL_law (wsV RL 101 RX10 yX10_clear wsX10_clear) := goodIn_app (goodIn_of _ (by decide +kernel)) ggL_law_X10_clear
set_option maxRecDepth 20000 in
theorem ggL_law_X9_keep : GoodIn wsL_law wsX9_keep := goodIn_r _ [831, 402, 21, 832, 42, 155, 19, 154, 156, 130, 131, 2, 132, 833, 834, 835, 41, 836, 84, 168, 837, 462, 463, 464, 167, 169, 170, 850, 851, 852, 853, 854, 855, 856, 857, 858, 859, 860, 927, 928, 905, 906, 922, 923, 924, 925, 926] (by decide +kernel) (by decide +kernel)
set_option maxRecDepth 20000 in
theorem gL_law_X9_keep : GoodIn wsL_law (wsV RL 102 RX9 yX9_keep wsX9_keep) := goodIn_app (goodIn_of _ (by decide +kernel)) ggL_law_X9_keep
set_option maxRecDepth 20000 in
theorem ggL_law_X10_keep : GoodIn wsL_law wsX10_keep := goodIn_r _ [841, 411, 120, 122, 121, 94, 95, 96, 97, 98, 99, 242, 146, 147, 5, 148, 861, 862, 863, 864, 865, 866, 867, 868, 869, 870, 871, 872, 873, 874, 875, 876, 877, 878, 879, 880, 881, 882, 883, 884, 885, 886, 887, 888, 889, 890, 891, 892, 893, 894, 895, 896, 897, 898] (by decide +kernel) (by decide +kernel)
set_option maxRecDepth 20000 in
theorem gL_law_X10_keep : GoodIn wsL_law (wsV RL 105 RX10 yX10_keep wsX10_keep) := goodIn_app (goodIn_of _ (by decide +kernel)) ggL_law_X10_keep
set_option maxRecDepth 20000 in
theorem ggL_law_X9_goBack : GoodIn wsL_law wsX9_goBack := goodIn_r _ [845, 402, 21, 155, 453, 42, 832, 19, 154, 156, 130, 131, 2, 132, 833, 834, 835, 41, 836, 84, 168, 837, 462, 463, 464, 167, 169, 170, 850, 851, 852, 853, 854, 855, 856, 857, 858, 859, 860, 927, 928, 905, 906, 922, 923, 924, 925, 926] (by decide +kernel) (by decide +kernel)
set_option maxRecDepth 20000 in
theorem gL_law_X9_goBack : GoodIn wsL_law (wsV RL 106 RX9 yX9_goBack wsX9_goBack) := goodIn_app (goodIn_of _ (by decide +kernel)) ggL_law_X9_goBack
set_option maxRecDepth 20000 in
theorem ggL_law_X10_goBack : GoodIn wsL_law wsX10_goBack := goodIn_r _ [849, 411, 120, 470, 122, 94, 121, 95, 96, 97, 98, 99, 242, 146, 147, 5, 148, 861, 862, 863, 864, 865, 866, 867, 868, 869, 870, 871, 872, 873, 874, 875, 876, 877, 878, 879, 880, 881, 882, 883, 884, 885, 886, 887, 888, 889, 890, 891, 892, 893, 894, 895, 896, 897, 898] (by decide +kernel) (by decide +kernel)
set_option maxRecDepth 20000 in
theorem gL_law_X10_goBack : GoodIn wsL_law (wsV RL 109 RX10 yX10_goBack wsX10_goBack) := goodIn_app (goodIn_of _ (by decide +kernel)) ggL_law_X10_goBack
theorem dL_law_0 : decode cL_law 0 = .ok (.new 7, 3) := by decide +kernel
theorem dL_law_3 : decode cL_law 3 = .ok (.dup, 1) := by decide +kernel
theorem dL_law_4 : decode cL_law 4 = .ok (.invokespecial 9, 3) := by decide +kernel
theorem dL_law_7 : decode cL_law 7 = .ok (.astore_n 1, 1) := by decide +kernel
theorem dL_law_8 : decode cL_law 8 = .ok (.new 10, 3) := by decide +kernel
theorem dL_law_11 : decode cL_law 11 = .ok (.dup, 1) := by decide +kernel
theorem dL_law_12 : decode cL_law 12 = .ok (.invokespecial 12, 3) := by decide +kernel
theorem dL_law_15 : decode cL_law 15 = .ok (.astore_n 2, 1) := by decide +kernel
theorem dL_law_16 : decode cL_law 16 = .ok (.iconst 0, 1) := by decide +kernel
theorem dL_law_17 : decode cL_law 17 = .ok (.istore_n 3, 1) := by decide +kernel
theorem dL_law_18 : decode cL_law 18 = .ok (.iload_n 3, 1) := by decide +kernel
theorem dL_law_19 : decode cL_law 19 = .ok (.aload_n 0, 1) := by decide +kernel
theorem dL_law_20 : decode cL_law 20 = .ok (.arraylength, 1) := by decide +kernel
theorem dL_law_21 : decode cL_law 21 = .ok (.bipush 7, 2) := by decide +kernel
theorem dL_law_23 : decode cL_law 23 = .ok (.isub, 1) := by decide +kernel
theorem dL_law_24 : decode cL_law 24 = .ok (.if_icmp .gt 753, 3) := by decide +kernel
theorem dL_law_27 : decode cL_law 27 = .ok (.aload_n 0, 1) := by decide +kernel
theorem dL_law_28 : decode cL_law 28 = .ok (.iload_n 3, 1) := by decide +kernel
theorem dL_law_29 : decode cL_law 29 = .ok (.iaload, 1) := by decide +kernel
theorem dL_law_30 : decode cL_law 30 = .ok (.bipush 31, 2) := by decide +kernel
theorem dL_law_32 : decode cL_law 32 = .ok (.iand, 1) := by decide +kernel
theorem dL_law_33 : decode cL_law 33 = .ok (.tableswitch 738 0 22 #[107, 130, 143, 156, 179, 202, 235, 268, 311, 324, 337, 380, 423, 446, 489, 502, 577, 610, 643, 666, 679, 692, 715], 107) := by decide +kernel
theorem dL_law_140 : decode cL_law 140 = .ok (.aload_n 1, 1) := by decide +kernel
theorem dL_law_141 : decode cL_law 141 = .ok (.aload_n 0, 1) := by decide +kernel
theorem dL_law_142 : decode cL_law 142 = .ok (.iload_n 3, 1) := by decide +kernel
theorem dL_law_143 : decode cL_law 143 = .ok (.iconst 1, 1) := by decide +kernel
theorem dL_law_144 : decode cL_law 144 = .ok (.iadd, 1) := by decide +kernel
theorem dL_law_145 : decode cL_law 145 = .ok (.iaload, 1) := by decide +kernel
theorem dL_law_146 : decode cL_law 146 = .ok (.invokevirtual 13, 3) := by decide +kernel
theorem dL_law_149 : decode cL_law 149 = .ok (.aload_n 2, 1) := by decide +kernel
theorem dL_law_150 : decode cL_law 150 = .ok (.aload_n 0, 1) := by decide +kernel
theorem dL_law_151 : decode cL_law 151 = .ok (.iload_n 3, 1) := by decide +kernel
theorem dL_law_152 : decode cL_law 152 = .ok (.iconst 1, 1) := by decide +kernel
theorem dL_law_153 : decode cL_law 153 = .ok (.iadd, 1) := by decide +kernel
theorem dL_law_154 : decode cL_law 154 = .ok (.iaload, 1) := by decide +kernel
theorem dL_law_155 : decode cL_law 155 = .ok (.invokevirtual 17, 3) := by decide +kernel
theorem dL_law_158 : decode cL_law 158 = .ok (.if_icmp .eq 613, 3) := by decide +kernel
theorem dL_law_161 : decode cL_law 161 = .ok (.iconst 0, 1) := by decide +kernel
theorem dL_law_162 : decode cL_law 162 = .ok (.ireturn, 1) := by decide +kernel
theorem dL_law_163 : decode cL_law 163 = .ok (.aload_n 1, 1) := by decide +kernel
theorem dL_law_164 : decode cL_law 164 = .ok (.invokevirtual 18, 3) := by decide +kernel
theorem dL_law_167 : decode cL_law 167 = .ok (.aload_n 2, 1) := by decide +kernel
theorem dL_law_168 : decode cL_law 168 = .ok (.invokevirtual 22, 3) := by decide +kernel
theorem dL_law_171 : decode cL_law 171 = .ok (.if_icmp .eq 600, 3) := by decide +kernel
theorem dL_law_174 : decode cL_law 174 = .ok (.iconst 0, 1) := by decide +kernel
theorem dL_law_175 : decode cL_law 175 = .ok (.ireturn, 1) := by decide +kernel
theorem dL_law_176 : decode cL_law 176 = .ok (.aload_n 1, 1) := by decide +kernel
theorem dL_law_177 : decode cL_law 177 = .ok (.invokevirtual 23, 3) := by decide +kernel
theorem dL_law_180 : decode cL_law 180 = .ok (.aload_n 2, 1) := by decide +kernel
theorem dL_law_181 : decode cL_law 181 = .ok (.invokevirtual 26, 3) := by decide +kernel
theorem dL_law_184 : decode cL_law 184 = .ok (.if_icmp .eq 587, 3) := by decide +kernel
theorem dL_law_187 : decode cL_law 187 = .ok (.iconst 0, 1) := by decide +kernel
theorem dL_law_188 : decode cL_law 188 = .ok (.ireturn, 1) := by decide +kernel
theorem dL_law_189 : decode cL_law 189 = .ok (.aload_n 1, 1) := by decide +kernel
theorem dL_law_190 : decode cL_law 190 = .ok (.aload_n 0, 1) := by decide +kernel
theorem dL_law_191 : decode cL_law 191 = .ok (.iload_n 3, 1) := by decide +kernel
theorem dL_law_192 : decode cL_law 192 = .ok (.iconst 1, 1) := by decide +kernel
theorem dL_law_193 : decode cL_law 193 = .ok (.iadd, 1) := by decide +kernel
theorem dL_law_194 : decode cL_law 194 = .ok (.iaload, 1) := by decide +kernel
theorem dL_law_195 : decode cL_law 195 = .ok (.invokevirtual 27, 3) := by decide +kernel
theorem dL_law_198 : decode cL_law 198 = .ok (.aload_n 2, 1) := by decide +kernel
theorem dL_law_199 : decode cL_law 199 = .ok (.aload_n 0, 1) := by decide +kernel
theorem dL_law_200 : decode cL_law 200 = .ok (.iload_n 3, 1) := by decide +kernel
theorem dL_law_201 : decode cL_law 201 = .ok (.iconst 1, 1) := by decide +kernel
theorem dL_law_202 : decode cL_law 202 = .ok (.iadd, 1) := by decide +kernel
theorem dL_law_203 : decode cL_law 203 = .ok (.iaload, 1) := by decide +kernel
theorem dL_law_204 : decode cL_law 204 = .ok (.invokevirtual 30, 3) := by decide +kernel
theorem dL_law_207 : decode cL_law 207 = .ok (.if_icmp .eq 564, 3) := by decide +kernel
theorem dL_law_210 : decode cL_law 210 = .ok (.iconst 0, 1) := by decide +kernel
theorem dL_law_211 : decode cL_law 211 = .ok (.ireturn, 1) := by decide +kernel
theorem dL_law_212 : decode cL_law 212 = .ok (.aload_n 1, 1) := by decide +kernel
theorem dL_law_213 : decode cL_law 213 = .ok (.aload_n 0, 1) := by decide +kernel
theorem dL_law_214 : decode cL_law 214 = .ok (.iload_n 3, 1) := by decide +kernel
theorem dL_law_215 : decode cL_law 215 = .ok (.iconst 1, 1) := by decide +kernel
theorem dL_law_216 : decode cL_law 216 = .ok (.iadd, 1) := by decide +kernel
theorem dL_law_217 : decode cL_law 217 = .ok (.iaload, 1) := by decide +kernel
theorem dL_law_218 : decode cL_law 218 = .ok (.invokevirtual 31, 3) := by decide +kernel
theorem dL_law_221 : decode cL_law 221 = .ok (.aload_n 2, 1) := by decide +kernel
theorem dL_law_222 : decode cL_law 222 = .ok (.aload_n 0, 1) := by decide +kernel
theorem dL_law_223 : decode cL_law 223 = .ok (.iload_n 3, 1) := by decide +kernel
theorem dL_law_224 : decode cL_law 224 = .ok (.iconst 1, 1) := by decide +kernel
theorem dL_law_225 : decode cL_law 225 = .ok (.iadd, 1) := by decide +kernel
theorem dL_law_226 : decode cL_law 226 = .ok (.iaload, 1) := by decide +kernel
theorem dL_law_227 : decode cL_law 227 = .ok (.invokevirtual 34, 3) := by decide +kernel
theorem dL_law_230 : decode cL_law 230 = .ok (.if_icmp .eq 541, 3) := by decide +kernel
theorem dL_law_233 : decode cL_law 233 = .ok (.iconst 0, 1) := by decide +kernel
theorem dL_law_234 : decode cL_law 234 = .ok (.ireturn, 1) := by decide +kernel
theorem dL_law_235 : decode cL_law 235 = .ok (.aload_n 1, 1) := by decide +kernel
theorem dL_law_236 : decode cL_law 236 = .ok (.aload_n 0, 1) := by decide +kernel
theorem dL_law_237 : decode cL_law 237 = .ok (.iload_n 3, 1) := by decide +kernel
theorem dL_law_238 : decode cL_law 238 = .ok (.iconst 1, 1) := by decide +kernel
theorem dL_law_239 : decode cL_law 239 = .ok (.iadd, 1) := by decide +kernel
theorem dL_law_240 : decode cL_law 240 = .ok (.iaload, 1) := by decide +kernel
theorem dL_law_241 : decode cL_law 241 = .ok (.aload_n 0, 1) := by decide +kernel
theorem dL_law_242 : decode cL_law 242 = .ok (.iload_n 3, 1) := by decide +kernel
theorem dL_law_243 : decode cL_law 243 = .ok (.iconst 2, 1) := by decide +kernel
theorem dL_law_244 : decode cL_law 244 = .ok (.iadd, 1) := by decide +kernel
theorem dL_law_245 : decode cL_law 245 = .ok (.iaload, 1) := by decide +kernel
theorem dL_law_246 : decode cL_law 246 = .ok (.invokevirtual 35, 3) := by decide +kernel
theorem dL_law_249 : decode cL_law 249 = .ok (.aload_n 2, 1) := by decide +kernel
theorem dL_law_250 : decode cL_law 250 = .ok (.aload_n 0, 1) := by decide +kernel
theorem dL_law_251 : decode cL_law 251 = .ok (.iload_n 3, 1) := by decide +kernel
theorem dL_law_252 : decode cL_law 252 = .ok (.iconst 1, 1) := by decide +kernel
theorem dL_law_253 : decode cL_law 253 = .ok (.iadd, 1) := by decide +kernel
theorem dL_law_254 : decode cL_law 254 = .ok (.iaload, 1) := by decide +kernel
theorem dL_law_255 : decode cL_law 255 = .ok (.aload_n 0, 1) := by decide +kernel
theorem dL_law_256 : decode cL_law 256 = .ok (.iload_n 3, 1) := by decide +kernel
theorem dL_law_257 : decode cL_law 257 = .ok (.iconst 2, 1) := by decide +kernel
theorem dL_law_258 : decode cL_law 258 = .ok (.iadd, 1) := by decide +kernel
theorem dL_law_259 : decode cL_law 259 = .ok (.iaload, 1) := by decide +kernel
theorem dL_law_260 : decode cL_law 260 = .ok (.invokevirtual 39, 3) := by decide +kernel
theorem dL_law_263 : decode cL_law 263 = .ok (.if_icmp .eq 508, 3) := by decide +kernel
theorem dL_law_266 : decode cL_law 266 = .ok (.iconst 0, 1) := by decide +kernel
theorem dL_law_267 : decode cL_law 267 = .ok (.ireturn, 1) := by decide +kernel
theorem dL_law_268 : decode cL_law 268 = .ok (.aload_n 1, 1) := by decide +kernel
theorem dL_law_269 : decode cL_law 269 = .ok (.aload_n 0, 1) := by decide +kernel
theorem dL_law_270 : decode cL_law 270 = .ok (.iload_n 3, 1) := by decide +kernel
theorem dL_law_271 : decode cL_law 271 = .ok (.iconst 1, 1) := by decide +kernel
theorem dL_law_272 : decode cL_law 272 = .ok (.iadd, 1) := by decide +kernel
theorem dL_law_273 : decode cL_law 273 = .ok (.iaload, 1) := by decide +kernel
theorem dL_law_274 : decode cL_law 274 = .ok (.aload_n 0, 1) := by decide +kernel
theorem dL_law_275 : decode cL_law 275 = .ok (.iload_n 3, 1) := by decide +kernel
theorem dL_law_276 : decode cL_law 276 = .ok (.iconst 2, 1) := by decide +kernel
theorem dL_law_277 : decode cL_law 277 = .ok (.iadd, 1) := by decide +kernel
theorem dL_law_278 : decode cL_law 278 = .ok (.iaload, 1) := by decide +kernel
theorem dL_law_279 : decode cL_law 279 = .ok (.invokevirtual 40, 3) := by decide +kernel
theorem dL_law_282 : decode cL_law 282 = .ok (.aload_n 2, 1) := by decide +kernel
theorem dL_law_283 : decode cL_law 283 = .ok (.aload_n 0, 1) := by decide +kernel
theorem dL_law_284 : decode cL_law 284 = .ok (.iload_n 3, 1) := by decide +kernel
theorem dL_law_285 : decode cL_law 285 = .ok (.iconst 1, 1) := by decide +kernel
theorem dL_law_286 : decode cL_law 286 = .ok (.iadd, 1) := by decide +kernel
theorem dL_law_287 : decode cL_law 287 = .ok (.iaload, 1) := by decide +kernel
theorem dL_law_288 : decode cL_law 288 = .ok (.aload_n 0, 1) := by decide +kernel
theorem dL_law_289 : decode cL_law 289 = .ok (.iload_n 3, 1) := by decide +kernel
theorem dL_law_290 : decode cL_law 290 = .ok (.iconst 2, 1) := by decide +kernel
theorem dL_law_291 : decode cL_law 291 = .ok (.iadd, 1) := by decide +kernel
theorem dL_law_292 : decode cL_law 292 = .ok (.iaload, 1) := by decide +kernel
theorem dL_law_293 : decode cL_law 293 = .ok (.invokevirtual 43, 3) := by decide +kernel
theorem dL_law_296 : decode cL_law 296 = .ok (.if_icmp .eq 475, 3) := by decide +kernel
theorem dL_law_299 : decode cL_law 299 = .ok (.iconst 0, 1) := by decide +kernel
theorem dL_law_300 : decode cL_law 300 = .ok (.ireturn, 1) := by decide +kernel
theorem dL_law_301 : decode cL_law 301 = .ok (.aload_n 1, 1) := by decide +kernel
theorem dL_law_302 : decode cL_law 302 = .ok (.aload_n 0, 1) := by decide +kernel
theorem dL_law_303 : decode cL_law 303 = .ok (.iload_n 3, 1) := by decide +kernel
theorem dL_law_304 : decode cL_law 304 = .ok (.iconst 1, 1) := by decide +kernel
theorem dL_law_305 : decode cL_law 305 = .ok (.iadd, 1) := by decide +kernel
theorem dL_law_306 : decode cL_law 306 = .ok (.iaload, 1) := by decide +kernel
theorem dL_law_307 : decode cL_law 307 = .ok (.aload_n 0, 1) := by decide +kernel
theorem dL_law_308 : decode cL_law 308 = .ok (.iload_n 3, 1) := by decide +kernel
theorem dL_law_309 : decode cL_law 309 = .ok (.iconst 2, 1) := by decide +kernel
theorem dL_law_310 : decode cL_law 310 = .ok (.iadd, 1) := by decide +kernel
theorem dL_law_311 : decode cL_law 311 = .ok (.iaload, 1) := by decide +kernel
theorem dL_law_312 : decode cL_law 312 = .ok (.aload_n 0, 1) := by decide +kernel
theorem dL_law_313 : decode cL_law 313 = .ok (.iload_n 3, 1) := by decide +kernel
theorem dL_law_314 : decode cL_law 314 = .ok (.iconst 3, 1) := by decide +kernel
theorem dL_law_315 : decode cL_law 315 = .ok (.iadd, 1) := by decide +kernel
theorem dL_law_316 : decode cL_law 316 = .ok (.iaload, 1) := by decide +kernel
theorem dL_law_317 : decode cL_law 317 = .ok (.invokevirtual 44, 3) := by decide +kernel
theorem dL_law_320 : decode cL_law 320 = .ok (.aload_n 2, 1) := by decide +kernel
theorem dL_law_321 : decode cL_law 321 = .ok (.aload_n 0, 1) := by decide +kernel
theorem dL_law_322 : decode cL_law 322 = .ok (.iload_n 3, 1) := by decide +kernel
theorem dL_law_323 : decode cL_law 323 = .ok (.iconst 1, 1) := by decide +kernel
theorem dL_law_324 : decode cL_law 324 = .ok (.iadd, 1) := by decide +kernel
theorem dL_law_325 : decode cL_law 325 = .ok (.iaload, 1) := by decide +kernel
theorem dL_law_326 : decode cL_law 326 = .ok (.aload_n 0, 1) := by decide +kernel
theorem dL_law_327 : decode cL_law 327 = .ok (.iload_n 3, 1) := by decide +kernel
theorem dL_law_328 : decode cL_law 328 = .ok (.iconst 2, 1) := by decide +kernel
theorem dL_law_329 : decode cL_law 329 = .ok (.iadd, 1) := by decide +kernel
theorem dL_law_330 : decode cL_law 330 = .ok (.iaload, 1) := by decide +kernel
theorem dL_law_331 : decode cL_law 331 = .ok (.aload_n 0, 1) := by decide +kernel
theorem dL_law_332 : decode cL_law 332 = .ok (.iload_n 3, 1) := by decide +kernel
theorem dL_law_333 : decode cL_law 333 = .ok (.iconst 3, 1) := by decide +kernel
theorem dL_law_334 : decode cL_law 334 = .ok (.iadd, 1) := by decide +kernel
theorem dL_law_335 : decode cL_law 335 = .ok (.iaload, 1) := by decide +kernel
theorem dL_law_336 : decode cL_law 336 = .ok (.invokevirtual 48, 3) := by decide +kernel
theorem dL_law_339 : decode cL_law 339 = .ok (.if_icmp .eq 432, 3) := by decide +kernel
theorem dL_law_342 : decode cL_law 342 = .ok (.iconst 0, 1) := by decide +kernel
theorem dL_law_343 : decode cL_law 343 = .ok (.ireturn, 1) := by decide +kernel
theorem dL_law_344 : decode cL_law 344 = .ok (.aload_n 1, 1) := by decide +kernel
theorem dL_law_345 : decode cL_law 345 = .ok (.invokevirtual 49, 3) := by decide +kernel
theorem dL_law_348 : decode cL_law 348 = .ok (.aload_n 2, 1) := by decide +kernel
theorem dL_law_349 : decode cL_law 349 = .ok (.invokevirtual 52, 3) := by decide +kernel
theorem dL_law_352 : decode cL_law 352 = .ok (.if_icmp .eq 419, 3) := by decide +kernel
theorem dL_law_355 : decode cL_law 355 = .ok (.iconst 0, 1) := by decide +kernel
theorem dL_law_356 : decode cL_law 356 = .ok (.ireturn, 1) := by decide +kernel
theorem dL_law_357 : decode cL_law 357 = .ok (.aload_n 1, 1) := by decide +kernel
theorem dL_law_358 : decode cL_law 358 = .ok (.invokevirtual 53, 3) := by decide +kernel
theorem dL_law_361 : decode cL_law 361 = .ok (.aload_n 2, 1) := by decide +kernel
theorem dL_law_362 : decode cL_law 362 = .ok (.invokevirtual 56, 3) := by decide +kernel
theorem dL_law_365 : decode cL_law 365 = .ok (.if_icmp .eq 406, 3) := by decide +kernel
theorem dL_law_368 : decode cL_law 368 = .ok (.iconst 0, 1) := by decide +kernel
theorem dL_law_369 : decode cL_law 369 = .ok (.ireturn, 1) := by decide +kernel
theorem dL_law_370 : decode cL_law 370 = .ok (.aload_n 1, 1) := by decide +kernel
theorem dL_law_371 : decode cL_law 371 = .ok (.aload_n 0, 1) := by decide +kernel
theorem dL_law_372 : decode cL_law 372 = .ok (.iload_n 3, 1) := by decide +kernel
theorem dL_law_373 : decode cL_law 373 = .ok (.iconst 1, 1) := by decide +kernel
theorem dL_law_374 : decode cL_law 374 = .ok (.iadd, 1) := by decide +kernel
theorem dL_law_375 : decode cL_law 375 = .ok (.iaload, 1) := by decide +kernel
theorem dL_law_376 : decode cL_law 376 = .ok (.aload_n 0, 1) := by decide +kernel
theorem dL_law_377 : decode cL_law 377 = .ok (.iload_n 3, 1) := by decide +kernel
theorem dL_law_378 : decode cL_law 378 = .ok (.iconst 2, 1) := by decide +kernel
theorem dL_law_379 : decode cL_law 379 = .ok (.iadd, 1) := by decide +kernel
theorem dL_law_380 : decode cL_law 380 = .ok (.iaload, 1) := by decide +kernel
theorem dL_law_381 : decode cL_law 381 = .ok (.aload_n 0, 1) := by decide +kernel
theorem dL_law_382 : decode cL_law 382 = .ok (.iload_n 3, 1) := by decide +kernel
theorem dL_law_383 : decode cL_law 383 = .ok (.iconst 3, 1) := by decide +kernel
theorem dL_law_384 : decode cL_law 384 = .ok (.iadd, 1) := by decide +kernel
theorem dL_law_385 : decode cL_law 385 = .ok (.iaload, 1) := by decide +kernel
theorem dL_law_386 : decode cL_law 386 = .ok (.invokevirtual 57, 3) := by decide +kernel
theorem dL_law_389 : decode cL_law 389 = .ok (.aload_n 2, 1) := by decide +kernel
