set_option maxRecDepth 20000 in
theorem ggL_law_X4_rivals : GoodIn wsL_law wsX4_rivals := goodIn_r _ [707, 16, 82, 83, 2, 84, 840, 841, 842, 843, 844, 845, 846, 847, 848, 849, 867, 868, 869, 870, 871, 872, 873, 874, 875, 876] (by decide +kernel) (by decide +kernel)
set_option maxRecDepth 20000 in
theorem gL_law_X4_rivals : GoodIn wsL_law (wsV RL 110 RX4 yX4_rivals wsX4_rivals) := goodIn_app (goodIn_of _ (by decide +kernel)) ggL_law_X4_rivals
set_option maxRecDepth 20000 in
theorem ggL_law_X5_rivals : GoodIn wsL_law wsX5_rivals := goodIn_r _ [711, 67, 98, 99, 5, 100, 155, 156, 157, 158, 159, 160, 161, 162, 163, 164, 165, 166, 850, 851, 852, 853, 854, 855, 856, 857, 858, 859, 860, 861, 862, 863, 864, 865, 866] (by decide +kernel) (by decide +kernel)
set_option maxRecDepth 20000 in
theorem gL_law_X5_rivals : GoodIn wsL_law (wsV RL 113 RX5 yX5_rivals wsX5_rivals) := goodIn_app (goodIn_of _ (by decide +kernel)) ggL_law_X5_rivals
set_option maxRecDepth 20000 in
theorem ggL_law_X4_from : GoodIn wsL_law wsX4_from := goodIn_r _ [715, 16, 23, 183, 184, 2, 185, 82, 83, 84, 487, 488, 489, 384, 15, 385, 386, 38, 387, 388, 389, 390, 39, 41, 42, 92, 44, 45, 265, 46, 716, 717, 718, 120, 383, 189, 190, 380, 381, 382, 622, 623, 624, 429, 430, 431, 432, 433, 206, 207, 208, 580, 490, 491, 492, 43, 493, 494, 495, 496, 124, 497, 498, 499, 500, 425, 117, 118, 119, 121, 122, 123, 501, 502, 503, 504, 142, 143, 144, 145, 505, 506, 128, 129, 130, 131, 132, 133, 134, 507, 434, 435, 436, 508, 509, 510, 511, 840, 841, 842, 843, 844, 845, 846, 847, 848, 849, 867, 868, 869, 870, 871, 872, 873, 874, 875, 876] (by decide +kernel) (by decide +kernel)
set_option maxRecDepth 20000 in
theorem gL_law_X4_from : GoodIn wsL_law (wsV RL 114 RX4 yX4_from wsX4_from) := goodIn_app (goodIn_of _ (by decide +kernel)) ggL_law_X4_from
set_option maxRecDepth 20000 in
theorem ggL_law_X5_from : GoodIn wsL_law wsX5_from := goodIn_r _ [722, 585, 67, 198, 199, 5, 200, 201, 98, 99, 100, 517, 518, 519, 236, 586, 587, 588, 589, 72, 453, 454, 455, 456, 213, 214, 215, 216, 163, 164, 165, 166, 159, 160, 161, 162, 520, 521, 522, 523, 70, 524, 525, 526, 527, 528, 529, 530, 531, 171, 172, 173, 174, 175, 176, 177, 178, 532, 533, 534, 535, 594, 595, 596, 597, 850, 851, 852, 853, 854, 855, 856, 857, 858, 859, 860, 861, 862, 863, 864, 865, 866] (by decide +kernel) (by decide +kernel)
set_option maxRecDepth 20000 in
theorem gL_law_X5_from : GoodIn wsL_law (wsV RL 117 RX5 yX5_from wsX5_from) := goodIn_app (goodIn_of _ (by decide +kernel)) ggL_law_X5_from
set_option maxRecDepth 20000 in
theorem ggL_law_X4_image : GoodIn wsL_law wsX4_image := goodIn_r _ [726, 21, 16, 22, 20, 727, 384, 15, 385, 386, 38, 387, 388, 389, 390, 39, 41, 42, 92, 44, 45, 265, 46, 728, 19, 729, 730, 50, 465, 51, 52, 53, 464, 88, 840, 841, 842, 843, 844, 845, 846, 847, 848, 849, 867, 868, 869, 870, 871, 872, 873, 874, 875, 876, 877, 878, 879, 880, 881, 882] (by decide +kernel) (by decide +kernel)
set_option maxRecDepth 20000 in
theorem gL_law_X4_image : GoodIn wsL_law (wsV RL 118 RX4 yX4_image wsX4_image) := goodIn_app (goodIn_of _ (by decide +kernel)) ggL_law_X4_image
set_option maxRecDepth 20000 in
theorem ggL_law_X5_image : GoodIn wsL_law wsX5_image := goodIn_r _ [734, 73, 67, 71, 105, 735, 736, 850, 851, 852, 853, 854, 855, 856, 857, 858, 859, 860, 861, 862, 863, 864, 865, 866] (by decide +kernel) (by decide +kernel)
set_option maxRecDepth 20000 in
theorem gL_law_X5_image : GoodIn wsL_law (wsV RL 121 RX5 yX5_image wsX5_image) := goodIn_app (goodIn_of _ (by decide +kernel)) ggL_law_X5_image
set_option maxRecDepth 20000 in
theorem ggL_law_X4_restore : GoodIn wsL_law wsX4_restore := goodIn_r _ [740, 727, 16, 21, 20, 22, 384, 15, 385, 386, 38, 387, 388, 389, 390, 39, 41, 42, 92, 44, 45, 265, 46, 728, 19, 729, 730, 50, 465, 51, 52, 53, 464, 88, 840, 841, 842, 843, 844, 845, 846, 847, 848, 849, 867, 868, 869, 870, 871, 872, 873, 874, 875, 876, 877, 878, 879, 880, 881, 882] (by decide +kernel) (by decide +kernel)
set_option maxRecDepth 20000 in
theorem gL_law_X4_restore : GoodIn wsL_law (wsV RL 122 RX4 yX4_restore wsX4_restore) := goodIn_app (goodIn_of _ (by decide +kernel)) ggL_law_X4_restore
set_option maxRecDepth 20000 in
theorem ggL_law_X5_restore : GoodIn wsL_law wsX5_restore := goodIn_r _ [744, 736, 67, 73, 71, 735, 105, 850, 851, 852, 853, 854, 855, 856, 857, 858, 859, 860, 861, 862, 863, 864, 865, 866] (by decide +kernel) (by decide +kernel)
set_option maxRecDepth 20000 in
theorem gL_law_X5_restore : GoodIn wsL_law (wsV RL 125 RX5 yX5_restore wsX5_restore) := goodIn_app (goodIn_of _ (by decide +kernel)) ggL_law_X5_restore
set_option maxRecDepth 20000 in
theorem ggL_law_X4_told : GoodIn wsL_law wsX4_told := goodIn_r _ [748, 32, 183, 184, 2, 185, 82, 83, 84, 749, 750, 751, 752, 753, 754, 755, 34, 756, 757, 62, 758, 759, 760, 761, 762, 763, 764, 765, 766, 767, 768, 769, 770, 23, 16, 384, 15, 385, 386, 38, 387, 388, 389, 390, 39, 41, 42, 92, 44, 45, 265, 46, 490, 491, 492, 43, 493, 494, 495, 496, 124, 497, 498, 499, 500, 425, 117, 118, 119, 120, 121, 122, 123, 501, 502, 503, 504, 142, 143, 144, 145, 505, 506, 128, 129, 130, 131, 132, 133, 134, 507, 434, 435, 436, 508, 509, 510, 511, 206, 207, 208, 840, 841, 842, 843, 844, 845, 846, 847, 848, 849, 886, 887, 888, 867, 868, 869, 870, 871, 872, 873, 874, 875, 876] (by decide +kernel) (by decide +kernel)
set_option maxRecDepth 20000 in
theorem gL_law_X4_told : GoodIn wsL_law (wsV RL 126 RX4 yX4_told wsX4_told) := goodIn_app (goodIn_of _ (by decide +kernel)) ggL_law_X4_told
set_option maxRecDepth 20000 in
theorem ggL_law_X5_told : GoodIn wsL_law wsX5_told := goodIn_r _ [774, 671, 76, 198, 199, 5, 200, 201, 98, 99, 100, 775, 776, 777, 778, 779, 780, 781, 782, 783, 784, 785, 74, 75, 586, 587, 588, 589, 72, 67, 520, 521, 522, 523, 70, 524, 525, 526, 527, 159, 160, 161, 162, 528, 529, 530, 531, 171, 172, 173, 174, 175, 176, 177, 178, 163, 164, 165, 166, 532, 533, 534, 535, 213, 214, 215, 216, 594, 595, 596, 597, 850, 851, 852, 853, 854, 855, 856, 857, 858, 859, 860, 861, 862, 863, 864, 865, 866] (by decide +kernel) (by decide +kernel)
set_option maxRecDepth 20000 in
theorem gL_law_X5_told : GoodIn wsL_law (wsV RL 129 RX5 yX5_told wsX5_told) := goodIn_app (goodIn_of _ (by decide +kernel)) ggL_law_X5_told
set_option maxRecDepth 20000 in
theorem ggL_law_X4_film : GoodIn wsL_law wsX4_film := goodIn_r _ [789, 32, 23, 16, 183, 184, 2, 185, 82, 83, 84, 487, 488, 489, 749, 750, 751, 752, 753, 754, 755, 34, 756, 757, 62, 758, 759, 760, 761, 762, 763, 764, 765, 766, 384, 15, 385, 386, 38, 387, 388, 389, 390, 39, 41, 42, 92, 44, 45, 265, 46, 490, 491, 492, 43, 493, 494, 495, 496, 124, 497, 498, 499, 500, 425, 117, 118, 119, 120, 121, 122, 123, 501, 502, 503, 504, 142, 143, 144, 145, 505, 506, 128, 129, 130, 131, 132, 133, 134, 507, 434, 435, 436, 508, 509, 510, 511, 206, 207, 208, 790, 791, 792, 61, 840, 841, 842, 843, 844, 845, 846, 847, 848, 849, 886, 887, 888, 867, 868, 869, 870, 871, 872, 873, 874, 875, 876] (by decide +kernel) (by decide +kernel)
set_option maxRecDepth 20000 in
theorem gL_law_X4_film : GoodIn wsL_law (wsV RL 130 RX4 yX4_film wsX4_film) := goodIn_app (goodIn_of _ (by decide +kernel)) ggL_law_X4_film
set_option maxRecDepth 20000 in
theorem ggL_law_X5_film : GoodIn wsL_law wsX5_film := goodIn_r _ [796, 797, 76, 198, 199, 5, 200, 201, 98, 99, 100, 517, 518, 519, 236, 775, 776, 777, 778, 779, 780, 781, 782, 783, 784, 785, 74, 75, 586, 587, 588, 589, 72, 67, 520, 521, 522, 523, 70, 524, 525, 526, 527, 159, 160, 161, 162, 528, 529, 530, 531, 171, 172, 173, 174, 175, 176, 177, 178, 163, 164, 165, 166, 532, 533, 534, 535, 213, 214, 215, 216, 594, 595, 596, 597, 850, 851, 852, 853, 854, 855, 856, 857, 858, 859, 860, 861, 862, 863, 864, 865, 866] (by decide +kernel) (by decide +kernel)
set_option maxRecDepth 20000 in
theorem gL_law_X5_film : GoodIn wsL_law (wsV RL 134 RX5 yX5_film wsX5_film) := goodIn_app (goodIn_of _ (by decide +kernel)) ggL_law_X5_film
