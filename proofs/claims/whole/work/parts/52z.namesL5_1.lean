set_option maxRecDepth 20000 in
theorem ggL_law_X7_init : GoodIn wsL_law wsX7_init := goodIn_r _ [8, 9, 10, 11, 12, 13, 14, 15, 16, 17, 18, 19, 20, 21, 22, 23, 24, 25, 26, 27, 28, 29, 30, 31, 32, 33, 34, 35, 36, 37, 38, 39, 40, 41, 42, 43, 44, 45, 46, 47, 48, 49, 50, 51, 52, 53, 54, 55, 56, 57, 58, 59, 60, 61, 62, 63, 64, 65, 66, 67, 68, 69, 70, 71, 72, 73, 74, 75, 76, 77, 78, 79, 80, 81, 82, 83, 84, 85, 86, 87, 88, 89, 90, 91, 92, 712, 675, 676, 677, 678, 679, 680, 681, 682, 713, 714, 715, 716, 717, 718, 719, 720, 721, 722, 723, 724, 725, 726, 727, 728, 729, 730, 731, 732, 733, 734, 735] (by decide +kernel) (by decide +kernel)
set_option maxRecDepth 20000 in
theorem gL_law_X7_init : GoodIn wsL_law (wsX7_init) := ggL_law_X7_init
set_option maxRecDepth 20000 in
theorem ggL_law_X8_init : GoodIn wsL_law wsX8_init := goodIn_r _ [95, 96, 10, 11, 42, 97, 98, 99, 100, 69, 101, 102, 78, 103, 104, 105, 106, 107, 108, 109, 110, 111, 112, 113, 683, 684, 685, 686, 687, 688, 689, 690, 691, 692, 693, 694, 695, 696, 697, 698, 699, 700, 701, 702, 703, 704, 705, 706, 707, 708, 709, 710, 711] (by decide +kernel) (by decide +kernel)
set_option maxRecDepth 20000 in
theorem gL_law_X8_init : GoodIn wsL_law (wsX8_init) := ggL_law_X8_init
set_option maxRecDepth 20000 in
theorem ggL_law_X7_cloud : GoodIn wsL_law wsX7_cloud := goodIn_r _ [117, 19, 118, 119, 36, 120, 121, 2, 122, 123, 124, 125, 18, 126, 53, 52, 675, 676, 677, 678, 679, 680, 681, 682, 713, 714] (by decide +kernel) (by decide +kernel)
set_option maxRecDepth 20000 in
theorem gL_law_X7_cloud : GoodIn wsL_law (wsV RL 13 RX7 yX7_cloud wsX7_cloud) := goodIn_app (goodIn_of _ (by decide +kernel)) ggL_law_X7_cloud
set_option maxRecDepth 20000 in
theorem ggL_law_X8_cloud : GoodIn wsL_law wsX8_cloud := goodIn_r _ [130, 98, 99, 131, 132, 5, 133, 134, 135, 136, 137, 138, 139, 683, 684, 685, 686, 687, 688, 689, 690, 691, 692, 693, 694, 695, 696, 697, 698, 699, 700, 701, 702, 703, 704, 705, 706, 707, 708, 709, 710, 711] (by decide +kernel) (by decide +kernel)
set_option maxRecDepth 20000 in
theorem gL_law_X8_cloud : GoodIn wsL_law (wsV RL 17 RX8 yX8_cloud wsX8_cloud) := goodIn_app (goodIn_of _ (by decide +kernel)) ggL_law_X8_cloud
set_option maxRecDepth 20000 in
theorem ggL_law_X7_rules : GoodIn wsL_law wsX7_rules := goodIn_r _ [143, 23, 144, 36, 145, 146, 147, 2, 148, 675, 676, 677, 678, 679, 680, 681, 682, 715, 716, 717, 718, 719, 720, 721] (by decide +kernel) (by decide +kernel)
set_option maxRecDepth 20000 in
theorem gL_law_X7_rules : GoodIn wsL_law (wsV RL 18 RX7 yX7_rules wsX7_rules) := goodIn_app (goodIn_of _ (by decide +kernel)) ggL_law_X7_rules
set_option maxRecDepth 20000 in
theorem ggL_law_X8_rules : GoodIn wsL_law wsX8_rules := goodIn_r _ [152, 100, 131, 132, 5, 133, 134, 135, 136, 137, 138, 139, 683, 684, 685, 686, 687, 688, 689, 690, 691, 692, 693, 694, 695, 696, 697, 698, 699, 700, 701, 702, 703, 704, 705, 706, 707, 708, 709, 710, 711] (by decide +kernel) (by decide +kernel)
set_option maxRecDepth 20000 in
theorem gL_law_X8_rules : GoodIn wsL_law (wsV RL 22 RX8 yX8_rules wsX8_rules) := goodIn_app (goodIn_of _ (by decide +kernel)) ggL_law_X8_rules
set_option maxRecDepth 20000 in
theorem ggL_law_X7_swap : GoodIn wsL_law wsX7_swap := goodIn_r _ [156, 15, 36, 157, 158, 2, 159, 160, 161, 162, 14, 163, 43, 675, 676, 677, 678, 679, 680, 681, 682, 712] (by decide +kernel) (by decide +kernel)
set_option maxRecDepth 20000 in
theorem gL_law_X7_swap : GoodIn wsL_law (wsV RL 23 RX7 yX7_swap wsX7_swap) := goodIn_app (goodIn_of _ (by decide +kernel)) ggL_law_X7_swap
set_option maxRecDepth 20000 in
theorem ggL_law_X8_swap : GoodIn wsL_law wsX8_swap := goodIn_r _ [167, 168, 169, 5, 170, 131, 132, 133, 171, 172, 173, 174, 97, 134, 135, 136, 137, 138, 139, 683, 684, 685, 686, 687, 688, 689, 690, 691, 692, 693, 694, 695, 696, 697, 698, 699, 700, 701, 702, 703, 704, 705, 706, 707, 708, 709, 710, 711] (by decide +kernel) (by decide +kernel)
set_option maxRecDepth 20000 in
theorem gL_law_X8_swap : GoodIn wsL_law (wsV RL 27 RX8 yX8_swap wsX8_swap) := goodIn_app (goodIn_of _ (by decide +kernel)) ggL_law_X8_swap
set_option maxRecDepth 20000 in
theorem ggL_law_X7_value : GoodIn wsL_law wsX7_value := goodIn_r _ [178, 15, 179, 157, 158, 2, 159, 675, 676, 677, 678, 679, 680, 681, 682, 712] (by decide +kernel) (by decide +kernel)
set_option maxRecDepth 20000 in
theorem gL_law_X7_value : GoodIn wsL_law (wsV RL 28 RX7 yX7_value wsX7_value) := goodIn_app (goodIn_of _ (by decide +kernel)) ggL_law_X7_value
set_option maxRecDepth 20000 in
theorem ggL_law_X8_value : GoodIn wsL_law wsX8_value := goodIn_r _ [183, 97, 168, 169, 5, 170, 131, 132, 133, 683, 684, 685, 686, 687, 688, 689, 690, 691, 692, 693, 694, 695, 696, 697, 698, 699, 700, 701, 702, 703, 704, 705, 706, 707, 708, 709, 710, 711] (by decide +kernel) (by decide +kernel)
set_option maxRecDepth 20000 in
theorem gL_law_X8_value : GoodIn wsL_law (wsV RL 31 RX8 yX8_value wsX8_value) := goodIn_app (goodIn_of _ (by decide +kernel)) ggL_law_X8_value
set_option maxRecDepth 20000 in
theorem ggL_law_X7_bed : GoodIn wsL_law wsX7_bed := goodIn_r _ [187, 15, 188, 189, 2, 190, 157, 158, 159, 191, 192, 193, 14, 194, 43, 675, 676, 677, 678, 679, 680, 681, 682, 712] (by decide +kernel) (by decide +kernel)
set_option maxRecDepth 20000 in
theorem gL_law_X7_bed : GoodIn wsL_law (wsV RL 32 RX7 yX7_bed wsX7_bed) := goodIn_app (goodIn_of _ (by decide +kernel)) ggL_law_X7_bed
set_option maxRecDepth 20000 in
theorem ggL_law_X8_bed : GoodIn wsL_law wsX8_bed := goodIn_r _ [198, 131, 132, 5, 133, 168, 169, 170, 199, 200, 201, 202, 97, 683, 684, 685, 686, 687, 688, 689, 690, 691, 692, 693, 694, 695, 696, 697, 698, 699, 700, 701, 702, 703, 704, 705, 706, 707, 708, 709, 710, 711] (by decide +kernel) (by decide +kernel)
set_option maxRecDepth 20000 in
theorem gL_law_X8_bed : GoodIn wsL_law (wsV RL 35 RX8 yX8_bed wsX8_bed) := goodIn_app (goodIn_of _ (by decide +kernel)) ggL_law_X8_bed
set_option maxRecDepth 20000 in
theorem ggL_law_X7_lands : GoodIn wsL_law wsX7_lands := goodIn_r _ [206, 19, 118, 207, 208, 2, 209, 188, 189, 190, 157, 158, 159, 210, 211, 212, 213, 214, 215, 216, 217, 218, 219, 220, 221, 222, 223, 675, 676, 677, 678, 679, 680, 681, 682, 713, 714] (by decide +kernel) (by decide +kernel)
set_option maxRecDepth 20000 in
theorem gL_law_X7_lands : GoodIn wsL_law (wsV RL 36 RX7 yX7_lands wsX7_lands) := goodIn_app (goodIn_of _ (by decide +kernel)) ggL_law_X7_lands
set_option maxRecDepth 20000 in
theorem ggL_law_X8_lands : GoodIn wsL_law wsX8_lands := goodIn_r _ [227, 228, 229, 98, 230, 231, 5, 232, 131, 132, 133, 168, 169, 170, 233, 234, 235, 236, 683, 684, 685, 686, 687, 688, 689, 690, 691, 692, 693, 694, 695, 696, 697, 698, 699, 700, 701, 702, 703, 704, 705, 706, 707, 708, 709, 710, 711] (by decide +kernel) (by decide +kernel)
set_option maxRecDepth 20000 in
theorem gL_law_X8_lands : GoodIn wsL_law (wsV RL 39 RX8 yX8_lands wsX8_lands) := goodIn_app (goodIn_of _ (by decide +kernel)) ggL_law_X8_lands
set_option maxRecDepth 20000 in
theorem ggL_law_X7_mean : GoodIn wsL_law wsX7_mean := goodIn_r _ [240, 207, 208, 2, 209, 241, 242, 243, 244, 19, 118, 15, 210, 211, 212, 213, 214, 215, 216, 217, 218, 219, 220, 191, 192, 193, 14, 194, 43, 675, 676, 677, 678, 679, 680, 681, 682, 713, 714, 712] (by decide +kernel) (by decide +kernel)
set_option maxRecDepth 20000 in
theorem gL_law_X7_mean : GoodIn wsL_law (wsV RL 40 RX7 yX7_mean wsX7_mean) := goodIn_app (goodIn_of _ (by decide +kernel)) ggL_law_X7_mean
