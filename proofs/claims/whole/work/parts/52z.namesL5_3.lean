set_option maxRecDepth 20000 in
theorem ggL_law_X7_luck : GoodIn wsL_law wsX7_luck := goodIn_r _ [509, 15, 510, 511, 512, 14, 513, 43, 514, 515, 215, 516, 675, 676, 677, 678, 679, 680, 681, 682, 712] (by decide +kernel) (by decide +kernel)
set_option maxRecDepth 20000 in
theorem gL_law_X7_luck : GoodIn wsL_law (wsV RL 75 RX7 yX7_luck wsX7_luck) := goodIn_app (goodIn_of _ (by decide +kernel)) ggL_law_X7_luck
set_option maxRecDepth 20000 in
theorem ggL_law_X8_luck : GoodIn wsL_law wsX8_luck := goodIn_r _ [520, 97, 683, 684, 685, 686, 687, 688, 689, 690, 691, 692, 693, 694, 695, 696, 697, 698, 699, 700, 701, 702, 703, 704, 705, 706, 707, 708, 709, 710, 711] (by decide +kernel) (by decide +kernel)
set_option maxRecDepth 20000 in
theorem gL_law_X8_luck : GoodIn wsL_law (wsV RL 78 RX8 yX8_luck wsX8_luck) := goodIn_app (goodIn_of _ (by decide +kernel)) ggL_law_X8_luck
set_option maxRecDepth 20000 in
theorem ggL_law_X7_luckier : GoodIn wsL_law wsX7_luckier := goodIn_r _ [524, 15, 525, 526, 527, 14, 528, 529, 511, 512, 513, 43, 514, 515, 215, 516, 530, 161, 162, 163, 675, 676, 677, 678, 679, 680, 681, 682, 712] (by decide +kernel) (by decide +kernel)
set_option maxRecDepth 20000 in
theorem gL_law_X7_luckier : GoodIn wsL_law (wsV RL 79 RX7 yX7_luckier wsX7_luckier) := goodIn_app (goodIn_of _ (by decide +kernel)) ggL_law_X7_luckier
set_option maxRecDepth 20000 in
theorem ggL_law_X8_luckier : GoodIn wsL_law wsX8_luckier := goodIn_r _ [534, 535, 518, 519, 5, 520, 97, 171, 172, 173, 174, 683, 684, 685, 686, 687, 688, 689, 690, 691, 692, 693, 694, 695, 696, 697, 698, 699, 700, 701, 702, 703, 704, 705, 706, 707, 708, 709, 710, 711] (by decide +kernel) (by decide +kernel)
set_option maxRecDepth 20000 in
theorem gL_law_X8_luckier : GoodIn wsL_law (wsV RL 82 RX8 yX8_luckier wsX8_luckier) := goodIn_app (goodIn_of _ (by decide +kernel)) ggL_law_X8_luckier
set_option maxRecDepth 20000 in
theorem ggL_law_X7_game : GoodIn wsL_law wsX7_game := goodIn_r _ [539, 540, 541, 542, 37, 269, 270, 2, 271, 543, 544, 545, 546, 10, 11, 547, 548, 549, 550, 551, 552, 553, 554, 555, 556, 736, 737, 738, 739, 740, 741, 742, 743, 744, 745, 675, 676, 677, 678, 679, 680, 681, 682] (by decide +kernel) (by decide +kernel)
set_option maxRecDepth 20000 in
theorem gL_law_X7_game : GoodIn wsL_law (wsV RL 83 RX7 yX7_game wsX7_game) := goodIn_app (goodIn_of _ (by decide +kernel)) ggL_law_X7_game
set_option maxRecDepth 20000 in
theorem ggL_law_X8_game : GoodIn wsL_law wsX8_game := goodIn_r _ [560, 561, 562, 563, 564, 565, 566, 567, 106, 568, 569, 131, 132, 5, 133, 683, 684, 685, 686, 687, 688, 689, 690, 691, 692, 693, 694, 695, 696, 697, 698, 699, 700, 701, 702, 703, 704, 705, 706, 707, 708, 709, 710, 711] (by decide +kernel) (by decide +kernel)
set_option maxRecDepth 20000 in
theorem gL_law_X8_game : GoodIn wsL_law (wsV RL 86 RX8 yX8_game wsX8_game) := goodIn_app (goodIn_of _ (by decide +kernel)) ggL_law_X8_game
set_option maxRecDepth 20000 in
theorem ggL_law_X7_dart : GoodIn wsL_law wsX7_dart := goodIn_r _ [573, 37, 574, 575, 207, 208, 2, 209, 576, 577, 578, 542, 579, 551, 552, 580, 581, 582, 583, 454, 455, 456, 457, 31, 458, 266, 267, 268, 272, 273, 274, 275, 36, 23, 27, 35, 276, 277, 278, 22, 279, 62, 61, 280, 63, 281, 282, 283, 284, 285, 58, 59, 60, 211, 212, 213, 214, 215, 216, 217, 218, 219, 220, 286, 287, 288, 14, 289, 290, 192, 193, 194, 43, 291, 292, 293, 26, 294, 73, 70, 295, 296, 297, 298, 299, 300, 301, 302, 30, 303, 83, 304, 305, 306, 34, 307, 92, 91, 308, 309, 310, 311, 312, 313, 314, 388, 389, 390, 391, 392, 393, 394, 395, 80, 79, 81, 84, 396, 397, 398, 399, 82, 400, 401, 402, 403, 404, 342, 343, 344, 64, 405, 406, 407, 408, 584, 585, 586, 587, 540, 541, 19, 588, 589, 15, 590, 591, 592, 546, 10, 11, 547, 548, 549, 550, 553, 554, 555, 556, 593, 594, 595, 596, 597, 598, 599, 600, 601, 18, 602, 53, 52, 210, 191, 603, 604, 605, 606, 607, 608, 609, 610, 611, 612, 613, 614, 615, 616, 617, 675, 676, 677, 678, 679, 680, 681, 682, 736, 737, 738, 739, 740, 741, 742, 743, 744, 745, 726, 727, 728, 729, 730, 731, 715, 716, 717, 718, 719, 720, 721, 713, 714, 712, 722, 723, 724, 725, 732, 733, 734, 735] (by decide +kernel) (by decide +kernel)
set_option maxRecDepth 20000 in
theorem gL_law_X7_dart : GoodIn wsL_law (wsV RL 87 RX7 yX7_dart wsX7_dart) := goodIn_app (goodIn_of _ (by decide +kernel)) ggL_law_X7_dart
set_option maxRecDepth 20000 in
theorem ggL_law_X8_dart : GoodIn wsL_law wsX8_dart := goodIn_r _ [621, 561, 562, 104, 106, 564, 228, 229, 568, 566, 567, 230, 231, 5, 232, 131, 132, 133, 422, 423, 424, 425, 139, 426, 427, 428, 429, 98, 103, 99, 358, 359, 360, 361, 100, 233, 234, 235, 236, 199, 200, 201, 202, 97, 430, 431, 432, 433, 105, 434, 435, 436, 437, 438, 439, 440, 441, 622, 623, 624, 625, 569, 107, 563, 108, 109, 110, 112, 113, 626, 627, 628, 629, 630, 631, 632, 633, 634, 635, 636, 565, 683, 684, 685, 686, 687, 688, 689, 690, 691, 692, 693, 694, 695, 696, 697, 698, 699, 700, 701, 702, 703, 704, 705, 706, 707, 708, 709, 710, 711] (by decide +kernel) (by decide +kernel)
set_option maxRecDepth 20000 in
theorem gL_law_X8_dart : GoodIn wsL_law (wsV RL 90 RX8 yX8_dart wsX8_dart) := goodIn_app (goodIn_of _ (by decide +kernel)) ggL_law_X8_dart
set_option maxRecDepth 20000 in
theorem ggL_law_X7_about : GoodIn wsL_law wsX7_about := goodIn_r _ [640, 37, 641, 642, 643, 542, 644, 550, 551, 552, 554, 555, 556, 645, 577, 578, 579, 675, 676, 677, 678, 679, 680, 681, 682, 736, 737, 738, 739, 740, 741, 742, 743, 744, 745] (by decide +kernel) (by decide +kernel)
set_option maxRecDepth 20000 in
theorem gL_law_X7_about : GoodIn wsL_law (wsV RL 91 RX7 yX7_about wsX7_about) := goodIn_app (goodIn_of _ (by decide +kernel)) ggL_law_X7_about
set_option maxRecDepth 20000 in
theorem ggL_law_X8_about : GoodIn wsL_law wsX8_about := goodIn_r _ [649, 561, 131, 132, 5, 133, 650, 651, 652, 653, 564, 106, 566, 562, 569, 568, 683, 684, 685, 686, 687, 688, 689, 690, 691, 692, 693, 694, 695, 696, 697, 698, 699, 700, 701, 702, 703, 704, 705, 706, 707, 708, 709, 710, 711] (by decide +kernel) (by decide +kernel)
set_option maxRecDepth 20000 in
theorem gL_law_X8_about : GoodIn wsL_law (wsV RL 94 RX8 yX8_about wsX8_about) := goodIn_app (goodIn_of _ (by decide +kernel)) ggL_law_X8_about
set_option maxRecDepth 20000 in
theorem ggL_law_X7_undo : GoodIn wsL_law wsX7_undo := goodIn_r _ [657, 37, 658, 574, 675, 676, 677, 678, 679, 680, 681, 682, 736, 737, 738, 739, 740, 741, 742, 743, 744, 745] (by decide +kernel) (by decide +kernel)
set_option maxRecDepth 20000 in
theorem gL_law_X7_undo : GoodIn wsL_law (wsV RL 95 RX7 yX7_undo wsX7_undo) := goodIn_app (goodIn_of _ (by decide +kernel)) ggL_law_X7_undo
set_option maxRecDepth 20000 in
theorem ggL_law_X8_undo : GoodIn wsL_law wsX8_undo := goodIn_r _ [662, 561, 569, 107, 563, 108, 564, 109, 566, 110, 567, 106, 112, 113, 568, 562, 683, 684, 685, 686, 687, 688, 689, 690, 691, 692, 693, 694, 695, 696, 697, 698, 699, 700, 701, 702, 703, 704, 705, 706, 707, 708, 709, 710, 711] (by decide +kernel) (by decide +kernel)
set_option maxRecDepth 20000 in
theorem gL_law_X8_undo : GoodIn wsL_law (wsV RL 98 RX8 yX8_undo wsX8_undo) := goodIn_app (goodIn_of _ (by decide +kernel)) ggL_law_X8_undo
set_option maxRecDepth 20000 in
theorem ggL_law_X7_digest : GoodIn wsL_law wsX7_digest := goodIn_r _ [666, 667, 668, 15, 179, 19, 118, 119, 37, 145, 146, 147, 2, 148, 23, 144, 510, 511, 512, 14, 513, 43, 514, 515, 215, 516, 641, 642, 643, 542, 644, 550, 551, 552, 554, 555, 556, 645, 577, 578, 579, 675, 676, 677, 678, 679, 680, 681, 682, 712, 713, 714, 715, 716, 717, 718, 719, 720, 721, 736, 737, 738, 739, 740, 741, 742, 743, 744, 745] (by decide +kernel) (by decide +kernel)
set_option maxRecDepth 20000 in
theorem gL_law_X7_digest : GoodIn wsL_law (wsV RL 99 RX7 yX7_digest wsX7_digest) := goodIn_app (goodIn_of _ (by decide +kernel)) ggL_law_X7_digest
set_option maxRecDepth 20000 in
theorem ggL_law_X8_digest : GoodIn wsL_law wsX8_digest := goodIn_r _ [672, 673, 674, 97, 98, 100, 99, 561, 535, 518, 519, 5, 520, 650, 651, 652, 653, 564, 106, 566, 562, 569, 568, 683, 684, 685, 686, 687, 688, 689, 690, 691, 692, 693, 694, 695, 696, 697, 698, 699, 700, 701, 702, 703, 704, 705, 706, 707, 708, 709, 710, 711] (by decide +kernel) (by decide +kernel)
set_option maxRecDepth 20000 in
theorem gL_law_X8_digest : GoodIn wsL_law (wsV RL 103 RX8 yX8_digest wsX8_digest) := goodIn_app (goodIn_of _ (by decide +kernel)) ggL_law_X8_digest
