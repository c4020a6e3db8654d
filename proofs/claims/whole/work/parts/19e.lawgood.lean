set_option maxRecDepth 20000 in
theorem ggL_law_X4_leaks : GoodIn wsL_law wsX4_leaks := goodIn_r _ [609, 23, 16, 82, 83, 2, 84, 487, 488, 489, 384, 15, 385, 386, 38, 387, 388, 389, 390, 39, 41, 42, 92, 44, 45, 265, 46, 577, 578, 579, 580, 490, 491, 492, 43, 493, 494, 495, 496, 124, 497, 498, 499, 500, 425, 117, 118, 119, 120, 121, 122, 123, 501, 502, 503, 504, 142, 143, 144, 145, 505, 506, 128, 129, 130, 131, 132, 133, 134, 507, 434, 435, 436, 508, 509, 510, 511, 840, 841, 842, 843, 844, 845, 846, 847, 848, 849, 867, 868, 869, 870, 871, 872, 873, 874, 875, 876] (by decide +kernel) (by decide +kernel)
set_option maxRecDepth 20000 in
theorem gL_law_X4_leaks : GoodIn wsL_law (wsV RL 85 RX4 yX4_leaks wsX4_leaks) := goodIn_app (goodIn_of _ (by decide +kernel)) ggL_law_X4_leaks
set_option maxRecDepth 20000 in
theorem ggL_law_X5_leaks : GoodIn wsL_law wsX5_leaks := goodIn_r _ [613, 585, 98, 99, 5, 100, 517, 518, 519, 236, 586, 587, 588, 589, 72, 67, 614, 615, 616, 617, 441, 442, 443, 444, 163, 164, 165, 166, 159, 160, 161, 162, 590, 591, 592, 593, 520, 521, 522, 523, 70, 524, 525, 526, 527, 528, 529, 530, 531, 171, 172, 173, 174, 175, 176, 177, 178, 532, 533, 534, 535, 594, 595, 596, 597, 850, 851, 852, 853, 854, 855, 856, 857, 858, 859, 860, 861, 862, 863, 864, 865, 866] (by decide +kernel) (by decide +kernel)
set_option maxRecDepth 20000 in
theorem gL_law_X5_leaks : GoodIn wsL_law (wsV RL 88 RX5 yX5_leaks wsX5_leaks) := goodIn_app (goodIn_of _ (by decide +kernel)) ggL_law_X5_leaks
set_option maxRecDepth 20000 in
theorem ggL_law_X4_out : GoodIn wsL_law wsX4_out := goodIn_r _ [621, 23, 16, 183, 184, 2, 185, 82, 83, 84, 487, 488, 489, 384, 15, 385, 386, 38, 387, 388, 389, 390, 39, 41, 42, 92, 44, 45, 265, 46, 622, 623, 624, 429, 430, 431, 432, 433, 206, 207, 208, 580, 490, 491, 492, 43, 493, 494, 495, 496, 124, 497, 498, 499, 500, 425, 117, 118, 119, 120, 121, 122, 123, 501, 502, 503, 504, 142, 143, 144, 145, 505, 506, 128, 129, 130, 131, 132, 133, 134, 507, 434, 435, 436, 508, 509, 510, 511, 840, 841, 842, 843, 844, 845, 846, 847, 848, 849, 867, 868, 869, 870, 871, 872, 873, 874, 875, 876] (by decide +kernel) (by decide +kernel)
set_option maxRecDepth 20000 in
theorem gL_law_X4_out : GoodIn wsL_law (wsV RL 89 RX4 yX4_out wsX4_out) := goodIn_app (goodIn_of _ (by decide +kernel)) ggL_law_X4_out
set_option maxRecDepth 20000 in
theorem ggL_law_X5_out : GoodIn wsL_law wsX5_out := goodIn_r _ [628, 198, 199, 5, 200, 201, 98, 99, 100, 517, 518, 519, 236, 586, 587, 588, 589, 72, 67, 453, 454, 455, 456, 213, 214, 215, 216, 163, 164, 165, 166, 159, 160, 161, 162, 520, 521, 522, 523, 70, 524, 525, 526, 527, 528, 529, 530, 531, 171, 172, 173, 174, 175, 176, 177, 178, 532, 533, 534, 535, 594, 595, 596, 597, 850, 851, 852, 853, 854, 855, 856, 857, 858, 859, 860, 861, 862, 863, 864, 865, 866] (by decide +kernel) (by decide +kernel)
set_option maxRecDepth 20000 in
theorem gL_law_X5_out : GoodIn wsL_law (wsV RL 92 RX5 yX5_out wsX5_out) := goodIn_app (goodIn_of _ (by decide +kernel)) ggL_law_X5_out
set_option maxRecDepth 20000 in
theorem ggL_law_X4_cool : GoodIn wsL_law wsX4_cool := goodIn_r _ [632, 23, 16, 82, 83, 2, 84, 384, 15, 385, 386, 38, 387, 388, 389, 390, 39, 41, 42, 92, 44, 45, 265, 46, 633, 634, 635, 580, 490, 491, 492, 43, 493, 494, 495, 496, 124, 497, 498, 499, 500, 425, 117, 118, 119, 120, 121, 122, 123, 501, 502, 503, 504, 142, 143, 144, 145, 505, 506, 128, 129, 130, 131, 132, 133, 134, 507, 434, 435, 436, 508, 509, 510, 511, 840, 841, 842, 843, 844, 845, 846, 847, 848, 849, 867, 868, 869, 870, 871, 872, 873, 874, 875, 876] (by decide +kernel) (by decide +kernel)
set_option maxRecDepth 20000 in
theorem gL_law_X4_cool : GoodIn wsL_law (wsV RL 93 RX4 yX4_cool wsX4_cool) := goodIn_app (goodIn_of _ (by decide +kernel)) ggL_law_X4_cool
set_option maxRecDepth 20000 in
theorem ggL_law_X5_cool : GoodIn wsL_law wsX5_cool := goodIn_r _ [639, 238, 98, 99, 5, 100, 586, 587, 588, 589, 72, 67, 614, 615, 616, 617, 441, 442, 443, 444, 163, 164, 165, 166, 159, 160, 161, 162, 590, 591, 592, 593, 520, 521, 522, 523, 70, 524, 525, 526, 527, 528, 529, 530, 531, 171, 172, 173, 174, 175, 176, 177, 178, 532, 533, 534, 535, 594, 595, 596, 597, 850, 851, 852, 853, 854, 855, 856, 857, 858, 859, 860, 861, 862, 863, 864, 865, 866] (by decide +kernel) (by decide +kernel)
set_option maxRecDepth 20000 in
theorem gL_law_X5_cool : GoodIn wsL_law (wsV RL 96 RX5 yX5_cool wsX5_cool) := goodIn_app (goodIn_of _ (by decide +kernel)) ggL_law_X5_cool
set_option maxRecDepth 20000 in
theorem ggL_law_X4_thick : GoodIn wsL_law wsX4_thick := goodIn_r _ [643, 23, 16, 82, 83, 2, 84, 487, 488, 489, 384, 15, 385, 386, 38, 387, 388, 389, 390, 39, 41, 42, 92, 44, 45, 265, 46, 509, 510, 511, 633, 634, 635, 580, 490, 491, 492, 43, 493, 494, 495, 496, 124, 497, 498, 499, 500, 425, 117, 118, 119, 120, 121, 122, 123, 501, 502, 503, 504, 142, 143, 144, 145, 505, 506, 128, 129, 130, 131, 132, 133, 134, 507, 434, 435, 436, 508, 840, 841, 842, 843, 844, 845, 846, 847, 848, 849, 867, 868, 869, 870, 871, 872, 873, 874, 875, 876] (by decide +kernel) (by decide +kernel)
set_option maxRecDepth 20000 in
theorem gL_law_X4_thick : GoodIn wsL_law (wsV RL 97 RX4 yX4_thick wsX4_thick) := goodIn_app (goodIn_of _ (by decide +kernel)) ggL_law_X4_thick
set_option maxRecDepth 20000 in
theorem ggL_law_X5_thick : GoodIn wsL_law wsX5_thick := goodIn_r _ [647, 238, 67, 98, 99, 5, 100, 517, 518, 519, 236, 586, 587, 588, 589, 72, 532, 533, 534, 535, 614, 615, 616, 617, 441, 442, 443, 444, 163, 164, 165, 166, 159, 160, 161, 162, 590, 591, 592, 593, 520, 521, 522, 523, 70, 524, 525, 526, 527, 528, 529, 530, 531, 171, 172, 173, 174, 175, 176, 177, 178, 594, 595, 596, 597, 850, 851, 852, 853, 854, 855, 856, 857, 858, 859, 860, 861, 862, 863, 864, 865, 866] (by decide +kernel) (by decide +kernel)
set_option maxRecDepth 20000 in
theorem gL_law_X5_thick : GoodIn wsL_law (wsV RL 100 RX5 yX5_thick wsX5_thick) := goodIn_app (goodIn_of _ (by decide +kernel)) ggL_law_X5_thick
set_option maxRecDepth 20000 in
theorem ggL_law_X4_renew : GoodIn wsL_law wsX4_renew := goodIn_r _ [651, 183, 184, 2, 185, 82, 83, 84, 487, 488, 489, 652, 653, 654, 655, 16, 206, 15, 207, 208, 92, 41, 656, 657, 658, 659, 660, 661, 662, 663, 664, 665, 666, 23, 384, 385, 386, 38, 387, 388, 389, 390, 39, 42, 44, 45, 265, 46, 380, 381, 382, 383, 120, 189, 190, 577, 578, 579, 580, 490, 491, 492, 43, 493, 494, 495, 496, 124, 497, 498, 499, 500, 425, 117, 118, 119, 121, 122, 123, 501, 502, 503, 504, 142, 143, 144, 145, 505, 506, 128, 129, 130, 131, 132, 133, 134, 507, 434, 435, 436, 508, 509, 510, 511, 840, 841, 842, 843, 844, 845, 846, 847, 848, 849, 867, 868, 869, 870, 871, 872, 873, 874, 875, 876] (by decide +kernel) (by decide +kernel)
set_option maxRecDepth 20000 in
theorem gL_law_X4_renew : GoodIn wsL_law (wsV RL 101 RX4 yX4_renew wsX4_renew) := goodIn_app (goodIn_of _ (by decide +kernel)) ggL_law_X4_renew
set_option maxRecDepth 20000 in
theorem ggL_law_X5_renew : GoodIn wsL_law wsX5_renew := goodIn_r _ [670, 585, 671, 67, 198, 199, 5, 200, 201, 98, 99, 100, 517, 518, 519, 236, 586, 587, 588, 589, 72, 213, 214, 215, 216, 163, 164, 165, 166, 159, 160, 161, 162, 672, 673, 674, 590, 591, 592, 593, 520, 521, 522, 523, 70, 524, 525, 526, 527, 528, 529, 530, 531, 171, 172, 173, 174, 175, 176, 177, 178, 532, 533, 534, 535, 594, 595, 596, 597, 850, 851, 852, 853, 854, 855, 856, 857, 858, 859, 860, 861, 862, 863, 864, 865, 866] (by decide +kernel) (by decide +kernel)
set_option maxRecDepth 20000 in
theorem gL_law_X5_renew : GoodIn wsL_law (wsV RL 105 RX5 yX5_renew wsX5_renew) := goodIn_app (goodIn_of _ (by decide +kernel)) ggL_law_X5_renew
set_option maxRecDepth 20000 in
theorem ggL_law_X4_table : GoodIn wsL_law wsX4_table := goodIn_r _ [678, 16, 26, 82, 83, 2, 84, 487, 488, 489, 679, 680, 681, 682, 25, 23, 683, 388, 389, 390, 384, 15, 385, 386, 38, 387, 39, 41, 42, 92, 44, 45, 265, 46, 633, 634, 635, 580, 490, 491, 492, 43, 493, 494, 495, 496, 124, 497, 498, 499, 500, 425, 117, 118, 119, 120, 121, 122, 123, 501, 502, 503, 504, 142, 143, 144, 145, 505, 506, 128, 129, 130, 131, 132, 133, 134, 507, 434, 435, 436, 508, 509, 510, 511, 684, 685, 686, 687, 688, 689, 690, 691, 840, 841, 842, 843, 844, 845, 846, 847, 848, 849, 867, 868, 869, 870, 871, 872, 873, 874, 875, 876] (by decide +kernel) (by decide +kernel)
set_option maxRecDepth 20000 in
theorem gL_law_X4_table : GoodIn wsL_law (wsV RL 106 RX4 yX4_table wsX4_table) := goodIn_app (goodIn_of _ (by decide +kernel)) ggL_law_X4_table
set_option maxRecDepth 20000 in
theorem ggL_law_X5_table : GoodIn wsL_law wsX5_table := goodIn_r _ [695, 696, 67, 98, 99, 5, 100, 517, 518, 519, 236, 586, 587, 588, 589, 72, 697, 698, 699, 700, 701, 702, 703, 614, 615, 616, 617, 441, 442, 443, 444, 163, 164, 165, 166, 159, 160, 161, 162, 590, 591, 592, 593, 520, 521, 522, 523, 70, 524, 525, 526, 527, 528, 529, 530, 531, 171, 172, 173, 174, 175, 176, 177, 178, 532, 533, 534, 535, 594, 595, 596, 597, 850, 851, 852, 853, 854, 855, 856, 857, 858, 859, 860, 861, 862, 863, 864, 865, 866] (by decide +kernel) (by decide +kernel)
set_option maxRecDepth 20000 in
theorem gL_law_X5_table : GoodIn wsL_law (wsV RL 109 RX5 yX5_table wsX5_table) := goodIn_app (goodIn_of _ (by decide +kernel)) ggL_law_X5_table
