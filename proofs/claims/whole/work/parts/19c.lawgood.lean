set_option maxRecDepth 20000 in
theorem ggL_law_X4_rule : GoodIn wsL_law wsX4_rule := goodIn_r _ [231, 16, 82, 83, 2, 84, 840, 841, 842, 843, 844, 845, 846, 847, 848, 849, 867, 868, 869, 870, 871, 872, 873, 874, 875, 876] (by decide +kernel) (by decide +kernel)
set_option maxRecDepth 20000 in
theorem gL_law_X4_rule : GoodIn wsL_law (wsV RL 35 RX4 yX4_rule wsX4_rule) := goodIn_app (goodIn_of _ (by decide +kernel)) ggL_law_X4_rule
set_option maxRecDepth 20000 in
theorem ggL_law_X5_rule : GoodIn wsL_law wsX5_rule := goodIn_r _ [235, 236, 237, 238, 67, 98, 99, 5, 100, 850, 851, 852, 853, 854, 855, 856, 857, 858, 859, 860, 861, 862, 863, 864, 865, 866] (by decide +kernel) (by decide +kernel)
set_option maxRecDepth 20000 in
theorem gL_law_X5_rule : GoodIn wsL_law (wsV RL 38 RX5 yX5_rule wsX5_rule) := goodIn_app (goodIn_of _ (by decide +kernel)) ggL_law_X5_rule
set_option maxRecDepth 20000 in
theorem ggL_law_X4_type : GoodIn wsL_law wsX4_type := goodIn_r _ [242, 30, 82, 83, 2, 84, 243, 29, 244, 245, 57, 246, 840, 841, 842, 843, 844, 845, 846, 847, 848, 849, 883, 884, 885] (by decide +kernel) (by decide +kernel)
set_option maxRecDepth 20000 in
theorem gL_law_X4_type : GoodIn wsL_law (wsV RL 39 RX4 yX4_type wsX4_type) := goodIn_app (goodIn_of _ (by decide +kernel)) ggL_law_X4_type
set_option maxRecDepth 20000 in
theorem ggL_law_X5_type : GoodIn wsL_law wsX5_type := goodIn_r _ [250, 251, 252, 253, 68, 98, 99, 5, 100, 850, 851, 852, 853, 854, 855, 856, 857, 858, 859, 860, 861, 862, 863, 864, 865, 866] (by decide +kernel) (by decide +kernel)
set_option maxRecDepth 20000 in
theorem gL_law_X5_type : GoodIn wsL_law (wsV RL 42 RX5 yX5_type wsX5_type) := goodIn_app (goodIn_of _ (by decide +kernel)) ggL_law_X5_type
set_option maxRecDepth 20000 in
theorem ggL_law_X4_court : GoodIn wsL_law wsX4_court := goodIn_r _ [257, 30, 23, 16, 20, 258, 29, 259, 260, 261, 262, 15, 263, 264, 92, 265, 266, 267, 268, 269, 270, 271, 272, 273, 246, 57, 83, 2, 84, 274, 275, 276, 277, 278, 279, 280, 281, 282, 283, 284, 285, 286, 287, 288, 289, 290, 291, 292, 293, 294, 295, 296, 297, 298, 299, 300, 301, 302, 303, 304, 305, 306, 307, 308, 309, 310, 311, 312, 313, 314, 315, 316, 317, 318, 319, 320, 321, 322, 323, 324, 325, 326, 327, 328, 329, 330, 331, 332, 333, 334, 335, 336, 337, 338, 339, 340, 341, 342, 343, 344, 345, 346, 347, 348, 349, 350, 351, 352, 353, 354, 355, 356, 357, 358, 359, 360, 361, 362, 363, 364, 365, 366, 367, 368, 369, 370, 371, 372, 373, 374, 375, 89, 90, 91, 38, 39, 41, 42, 376, 377, 378, 379, 380, 381, 382, 383, 120, 189, 190, 384, 385, 386, 387, 388, 389, 390, 44, 45, 46, 85, 19, 86, 87, 88, 840, 841, 842, 843, 844, 845, 846, 847, 848, 849, 883, 884, 885, 867, 868, 869, 870, 871, 872, 873, 874, 875, 876, 877, 878, 879, 880, 881, 882] (by decide +kernel) (by decide +kernel)
set_option maxRecDepth 20000 in
theorem gL_law_X4_court : GoodIn wsL_law (wsV RL 43 RX4 yX4_court wsX4_court) := goodIn_app (goodIn_of _ (by decide +kernel)) ggL_law_X4_court
set_option maxRecDepth 20000 in
theorem ggL_law_X5_court : GoodIn wsL_law wsX5_court := goodIn_r _ [394, 395, 396, 253, 67, 69, 397, 398, 399, 5, 400, 401, 402, 68, 403, 404, 405, 406, 98, 99, 100, 407, 408, 409, 410, 411, 412, 413, 414, 198, 199, 200, 201, 101, 102, 103, 104, 105, 850, 851, 852, 853, 854, 855, 856, 857, 858, 859, 860, 861, 862, 863, 864, 865, 866] (by decide +kernel) (by decide +kernel)
set_option maxRecDepth 20000 in
theorem gL_law_X5_court : GoodIn wsL_law (wsV RL 47 RX5 yX5_court wsX5_court) := goodIn_app (goodIn_of _ (by decide +kernel)) ggL_law_X5_court
set_option maxRecDepth 20000 in
theorem ggL_law_X4_count : GoodIn wsL_law wsX4_count := goodIn_r _ [418, 16, 20, 419, 15, 420, 421, 92, 41, 128, 129, 130, 131, 132, 133, 134, 422, 423, 424, 425, 117, 118, 119, 42, 120, 121, 2, 122, 123, 124, 426, 427, 428, 429, 430, 431, 432, 433, 206, 207, 208, 434, 435, 436, 45, 265, 840, 841, 842, 843, 844, 845, 846, 847, 848, 849, 867, 868, 869, 870, 871, 872, 873, 874, 875, 876, 877, 878, 879, 880, 881, 882] (by decide +kernel) (by decide +kernel)
set_option maxRecDepth 20000 in
theorem gL_law_X4_count : GoodIn wsL_law (wsV RL 48 RX4 yX4_count wsX4_count) := goodIn_app (goodIn_of _ (by decide +kernel)) ggL_law_X4_count
set_option maxRecDepth 20000 in
theorem ggL_law_X5_count : GoodIn wsL_law wsX5_count := goodIn_r _ [440, 67, 105, 441, 442, 443, 5, 444, 163, 164, 165, 166, 159, 160, 161, 162, 445, 446, 447, 448, 449, 450, 451, 452, 453, 454, 455, 456, 213, 214, 215, 216, 850, 851, 852, 853, 854, 855, 856, 857, 858, 859, 860, 861, 862, 863, 864, 865, 866] (by decide +kernel) (by decide +kernel)
set_option maxRecDepth 20000 in
theorem gL_law_X5_count : GoodIn wsL_law (wsV RL 51 RX5 yX5_count wsX5_count) := goodIn_app (goodIn_of _ (by decide +kernel)) ggL_law_X5_count
set_option maxRecDepth 20000 in
theorem ggL_law_X4_trust : GoodIn wsL_law wsX4_trust := goodIn_r _ [460, 16, 20, 110, 111, 112, 2, 113, 82, 83, 84, 183, 184, 185, 186, 15, 187, 188, 41, 189, 190, 461, 19, 462, 463, 50, 464, 465, 388, 389, 390, 51, 52, 53, 88, 466, 320, 284, 321, 380, 381, 382, 42, 383, 120, 125, 126, 127, 121, 122, 123, 124, 128, 129, 130, 131, 132, 133, 134, 840, 841, 842, 843, 844, 845, 846, 847, 848, 849, 867, 868, 869, 870, 871, 872, 873, 874, 875, 876, 877, 878, 879, 880, 881, 882] (by decide +kernel) (by decide +kernel)
set_option maxRecDepth 20000 in
theorem gL_law_X4_trust : GoodIn wsL_law (wsV RL 52 RX4 yX4_trust wsX4_trust) := goodIn_app (goodIn_of _ (by decide +kernel)) ggL_law_X4_trust
set_option maxRecDepth 20000 in
theorem ggL_law_X5_trust : GoodIn wsL_law wsX5_trust := goodIn_r _ [470, 67, 151, 152, 153, 5, 154, 98, 99, 100, 198, 199, 200, 201, 163, 164, 165, 166, 159, 160, 161, 162, 471, 472, 473, 474, 105, 71, 167, 168, 169, 170, 850, 851, 852, 853, 854, 855, 856, 857, 858, 859, 860, 861, 862, 863, 864, 865, 866] (by decide +kernel) (by decide +kernel)
set_option maxRecDepth 20000 in
theorem gL_law_X5_trust : GoodIn wsL_law (wsV RL 55 RX5 yX5_trust wsX5_trust) := goodIn_app (goodIn_of _ (by decide +kernel)) ggL_law_X5_trust
set_option maxRecDepth 20000 in
theorem ggL_law_X4_seal : GoodIn wsL_law wsX4_seal := goodIn_r _ [478, 16, 20, 110, 111, 112, 2, 113, 82, 83, 84, 183, 184, 185, 186, 15, 187, 188, 41, 189, 190, 191, 192, 193, 42, 461, 19, 462, 463, 50, 464, 465, 388, 389, 390, 51, 52, 53, 88, 466, 320, 284, 321, 380, 381, 382, 383, 120, 840, 841, 842, 843, 844, 845, 846, 847, 848, 849, 867, 868, 869, 870, 871, 872, 873, 874, 875, 876, 877, 878, 879, 880, 881, 882] (by decide +kernel) (by decide +kernel)
set_option maxRecDepth 20000 in
theorem gL_law_X4_seal : GoodIn wsL_law (wsV RL 56 RX4 yX4_seal wsX4_seal) := goodIn_app (goodIn_of _ (by decide +kernel)) ggL_law_X4_seal
set_option maxRecDepth 20000 in
theorem ggL_law_X5_seal : GoodIn wsL_law wsX5_seal := goodIn_r _ [482, 67, 151, 152, 153, 5, 154, 98, 99, 100, 198, 199, 200, 201, 163, 164, 165, 166, 159, 160, 161, 162, 471, 472, 473, 474, 105, 71, 850, 851, 852, 853, 854, 855, 856, 857, 858, 859, 860, 861, 862, 863, 864, 865, 866] (by decide +kernel) (by decide +kernel)
set_option maxRecDepth 20000 in
theorem gL_law_X5_seal : GoodIn wsL_law (wsV RL 59 RX5 yX5_seal wsX5_seal) := goodIn_app (goodIn_of _ (by decide +kernel)) ggL_law_X5_seal
