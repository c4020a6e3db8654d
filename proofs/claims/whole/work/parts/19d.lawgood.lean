set_option maxRecDepth 20000 in
theorem ggL_law_X4_days : GoodIn wsL_law wsX4_days := goodIn_r _ [486, 16, 20, 82, 83, 2, 84, 487, 488, 489, 461, 19, 462, 463, 50, 464, 465, 388, 389, 390, 51, 52, 53, 88, 466, 320, 284, 321, 490, 15, 491, 492, 92, 42, 38, 265, 43, 45, 493, 494, 495, 496, 124, 497, 498, 499, 500, 425, 117, 118, 119, 41, 120, 121, 122, 123, 501, 502, 503, 504, 39, 142, 143, 144, 145, 505, 506, 128, 129, 130, 131, 132, 133, 134, 507, 434, 435, 436, 508, 509, 510, 511, 44, 419, 420, 421, 840, 841, 842, 843, 844, 845, 846, 847, 848, 849, 867, 868, 869, 870, 871, 872, 873, 874, 875, 876, 877, 878, 879, 880, 881, 882] (by decide +kernel) (by decide +kernel)
set_option maxRecDepth 20000 in
theorem gL_law_X4_days : GoodIn wsL_law (wsV RL 60 RX4 yX4_days wsX4_days) := goodIn_app (goodIn_of _ (by decide +kernel)) ggL_law_X4_days
set_option maxRecDepth 20000 in
theorem ggL_law_X5_days : GoodIn wsL_law wsX5_days := goodIn_r _ [515, 516, 67, 98, 99, 5, 100, 517, 518, 519, 236, 471, 472, 473, 474, 105, 71, 520, 521, 522, 523, 70, 524, 525, 526, 527, 159, 160, 161, 162, 528, 529, 530, 531, 171, 172, 173, 174, 175, 176, 177, 178, 163, 164, 165, 166, 532, 533, 534, 535, 441, 442, 443, 444, 850, 851, 852, 853, 854, 855, 856, 857, 858, 859, 860, 861, 862, 863, 864, 865, 866] (by decide +kernel) (by decide +kernel)
set_option maxRecDepth 20000 in
theorem gL_law_X5_days : GoodIn wsL_law (wsV RL 63 RX5 yX5_days wsX5_days) := goodIn_app (goodIn_of _ (by decide +kernel)) ggL_law_X5_days
set_option maxRecDepth 20000 in
theorem ggL_law_X4_drift : GoodIn wsL_law wsX4_drift := goodIn_r _ [539, 16, 20, 82, 83, 2, 84, 461, 19, 462, 463, 50, 464, 465, 388, 389, 390, 51, 52, 53, 88, 466, 320, 284, 321, 540, 15, 541, 542, 46, 543, 544, 545, 490, 491, 492, 92, 42, 38, 265, 43, 45, 493, 494, 495, 496, 124, 497, 498, 499, 500, 425, 117, 118, 119, 41, 120, 121, 122, 123, 501, 502, 503, 504, 39, 142, 143, 144, 145, 505, 506, 128, 129, 130, 131, 132, 133, 134, 507, 434, 435, 436, 508, 509, 510, 511, 44, 419, 420, 421, 840, 841, 842, 843, 844, 845, 846, 847, 848, 849, 867, 868, 869, 870, 871, 872, 873, 874, 875, 876, 877, 878, 879, 880, 881, 882] (by decide +kernel) (by decide +kernel)
set_option maxRecDepth 20000 in
theorem gL_law_X4_drift : GoodIn wsL_law (wsV RL 64 RX4 yX4_drift wsX4_drift) := goodIn_app (goodIn_of _ (by decide +kernel)) ggL_law_X4_drift
set_option maxRecDepth 20000 in
theorem ggL_law_X5_drift : GoodIn wsL_law wsX5_drift := goodIn_r _ [549, 516, 67, 550, 551, 552, 553, 98, 99, 5, 100, 471, 472, 473, 474, 105, 71, 520, 521, 522, 523, 70, 524, 525, 526, 527, 159, 160, 161, 162, 528, 529, 530, 531, 171, 172, 173, 174, 175, 176, 177, 178, 163, 164, 165, 166, 532, 533, 534, 535, 441, 442, 443, 444, 850, 851, 852, 853, 854, 855, 856, 857, 858, 859, 860, 861, 862, 863, 864, 865, 866] (by decide +kernel) (by decide +kernel)
set_option maxRecDepth 20000 in
theorem gL_law_X5_drift : GoodIn wsL_law (wsV RL 67 RX5 yX5_drift wsX5_drift) := goodIn_app (goodIn_of _ (by decide +kernel)) ggL_law_X5_drift
set_option maxRecDepth 20000 in
theorem ggL_law_X4_undo : GoodIn wsL_law wsX4_undo := goodIn_r _ [557, 20, 16, 558, 19, 559, 560, 464, 88, 50, 465, 388, 389, 390, 51, 52, 53, 840, 841, 842, 843, 844, 845, 846, 847, 848, 849, 877, 878, 879, 880, 881, 882, 867, 868, 869, 870, 871, 872, 873, 874, 875, 876] (by decide +kernel) (by decide +kernel)
set_option maxRecDepth 20000 in
theorem gL_law_X4_undo : GoodIn wsL_law (wsV RL 68 RX4 yX4_undo wsX4_undo) := goodIn_app (goodIn_of _ (by decide +kernel)) ggL_law_X4_undo
set_option maxRecDepth 20000 in
theorem ggL_law_X5_undo : GoodIn wsL_law wsX5_undo := goodIn_r _ [564, 105, 67, 71, 850, 851, 852, 853, 854, 855, 856, 857, 858, 859, 860, 861, 862, 863, 864, 865, 866] (by decide +kernel) (by decide +kernel)
set_option maxRecDepth 20000 in
theorem gL_law_X5_undo : GoodIn wsL_law (wsV RL 71 RX5 yX5_undo wsX5_undo) := goodIn_app (goodIn_of _ (by decide +kernel)) ggL_law_X5_undo
set_option maxRecDepth 20000 in
theorem ggL_law_X4_seed : GoodIn wsL_law wsX4_seed := goodIn_r _ [568, 16, 840, 841, 842, 843, 844, 845, 846, 847, 848, 849, 867, 868, 869, 870, 871, 872, 873, 874, 875, 876] (by decide +kernel) (by decide +kernel)
set_option maxRecDepth 20000 in
theorem gL_law_X4_seed : GoodIn wsL_law (wsV RL 72 RX4 yX4_seed wsX4_seed) := goodIn_app (goodIn_of _ (by decide +kernel)) ggL_law_X4_seed
set_option maxRecDepth 20000 in
theorem ggL_law_X5_seed : GoodIn wsL_law wsX5_seed := goodIn_r _ [572, 67, 850, 851, 852, 853, 854, 855, 856, 857, 858, 859, 860, 861, 862, 863, 864, 865, 866] (by decide +kernel) (by decide +kernel)
set_option maxRecDepth 20000 in
theorem gL_law_X5_seed : GoodIn wsL_law (wsV RL 75 RX5 yX5_seed wsX5_seed) := goodIn_app (goodIn_of _ (by decide +kernel)) ggL_law_X5_seed
set_option maxRecDepth 20000 in
theorem ggL_law_X4_ahead : GoodIn wsL_law wsX4_ahead := goodIn_r _ [576, 23, 16, 183, 184, 2, 185, 82, 83, 84, 487, 488, 489, 384, 15, 385, 386, 38, 387, 388, 389, 390, 39, 41, 42, 92, 44, 45, 265, 46, 577, 578, 579, 580, 490, 491, 492, 43, 493, 494, 495, 496, 124, 497, 498, 499, 500, 425, 117, 118, 119, 120, 121, 122, 123, 501, 502, 503, 504, 142, 143, 144, 145, 505, 506, 128, 129, 130, 131, 132, 133, 134, 507, 434, 435, 436, 508, 509, 510, 511, 206, 207, 208, 840, 841, 842, 843, 844, 845, 846, 847, 848, 849, 867, 868, 869, 870, 871, 872, 873, 874, 875, 876] (by decide +kernel) (by decide +kernel)
set_option maxRecDepth 20000 in
theorem gL_law_X4_ahead : GoodIn wsL_law (wsV RL 76 RX4 yX4_ahead wsX4_ahead) := goodIn_app (goodIn_of _ (by decide +kernel)) ggL_law_X4_ahead
set_option maxRecDepth 20000 in
theorem ggL_law_X5_ahead : GoodIn wsL_law wsX5_ahead := goodIn_r _ [584, 585, 198, 199, 5, 200, 201, 98, 99, 100, 517, 518, 519, 236, 586, 587, 588, 589, 72, 67, 590, 591, 592, 593, 520, 521, 522, 523, 70, 524, 525, 526, 527, 159, 160, 161, 162, 528, 529, 530, 531, 171, 172, 173, 174, 175, 176, 177, 178, 163, 164, 165, 166, 532, 533, 534, 535, 213, 214, 215, 216, 594, 595, 596, 597, 850, 851, 852, 853, 854, 855, 856, 857, 858, 859, 860, 861, 862, 863, 864, 865, 866] (by decide +kernel) (by decide +kernel)
set_option maxRecDepth 20000 in
theorem gL_law_X5_ahead : GoodIn wsL_law (wsV RL 80 RX5 yX5_ahead wsX5_ahead) := goodIn_app (goodIn_of _ (by decide +kernel)) ggL_law_X5_ahead
set_option maxRecDepth 20000 in
theorem ggL_law_X4_rankAhead : GoodIn wsL_law wsX4_rankAhead := goodIn_r _ [601, 23, 16, 110, 111, 112, 2, 113, 82, 83, 84, 487, 488, 489, 384, 15, 385, 386, 38, 387, 388, 389, 390, 39, 41, 42, 92, 44, 45, 265, 46, 577, 578, 579, 580, 490, 491, 492, 43, 493, 494, 495, 496, 124, 497, 498, 499, 500, 425, 117, 118, 119, 120, 121, 122, 123, 501, 502, 503, 504, 142, 143, 144, 145, 505, 506, 128, 129, 130, 131, 132, 133, 134, 507, 434, 435, 436, 508, 509, 510, 511, 125, 126, 127, 840, 841, 842, 843, 844, 845, 846, 847, 848, 849, 867, 868, 869, 870, 871, 872, 873, 874, 875, 876] (by decide +kernel) (by decide +kernel)
set_option maxRecDepth 20000 in
theorem gL_law_X4_rankAhead : GoodIn wsL_law (wsV RL 81 RX4 yX4_rankAhead wsX4_rankAhead) := goodIn_app (goodIn_of _ (by decide +kernel)) ggL_law_X4_rankAhead
set_option maxRecDepth 20000 in
theorem ggL_law_X5_rankAhead : GoodIn wsL_law wsX5_rankAhead := goodIn_r _ [605, 585, 151, 152, 153, 5, 154, 67, 98, 99, 100, 517, 518, 519, 236, 586, 587, 588, 589, 72, 590, 591, 592, 593, 520, 521, 522, 523, 70, 524, 525, 526, 527, 159, 160, 161, 162, 528, 529, 530, 531, 171, 172, 173, 174, 175, 176, 177, 178, 163, 164, 165, 166, 532, 533, 534, 535, 167, 168, 169, 170, 594, 595, 596, 597, 850, 851, 852, 853, 854, 855, 856, 857, 858, 859, 860, 861, 862, 863, 864, 865, 866] (by decide +kernel) (by decide +kernel)
set_option maxRecDepth 20000 in
theorem gL_law_X5_rankAhead : GoodIn wsL_law (wsV RL 84 RX5 yX5_rankAhead wsX5_rankAhead) := goodIn_app (goodIn_of _ (by decide +kernel)) ggL_law_X5_rankAhead
