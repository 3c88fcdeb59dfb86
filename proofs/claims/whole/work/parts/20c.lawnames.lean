set_option maxRecDepth 20000 in
theorem ggL_law_X8_clear : GoodIn wsL_law wsX8_clear := goodIn_r _ [524, 125, 100, 512, 513, 514, 5, 515, 99, 508, 509, 510, 511, 367, 101, 980, 981, 982, 983, 984, 985, 986, 987, 988, 989, 990, 991, 992, 993, 994, 995, 996, 997, 998, 999, 1000, 1001, 1002, 1003] (by decide +kernel) (by decide +kernel)
set_option maxRecDepth 20000 in
theorem gL_law_X8_clear : GoodIn wsL_law (wsV RL 59 RX8 yX8_clear wsX8_clear) := goodIn_app (goodIn_of _ (by decide +kernel)) ggL_law_X8_clear
set_option maxRecDepth 20000 in
theorem ggL_law_X7_night : GoodIn wsL_law wsX7_night := goodIn_r _ [528, 24, 495, 19, 529, 493, 28, 113, 114, 2, 115, 530, 531, 532, 23, 533, 534, 415, 416, 417, 66, 535, 382, 383, 384, 357, 484, 485, 486, 27, 487, 76, 488, 489, 490, 165, 166, 167, 491, 492, 494, 536, 537, 538, 539, 414, 540, 541, 542, 543, 544, 545, 546, 466, 467, 468, 18, 469, 57, 53, 54, 470, 411, 412, 413, 151, 471, 378, 379, 380, 150, 449, 450, 451, 452, 453, 454, 547, 548, 549, 550, 970, 971, 972, 973, 974, 975, 976, 977, 978, 979, 1022, 1023, 1024, 1025, 1010, 1011, 1012, 1013, 1014, 1015, 1016, 1017, 1018, 1019, 1020, 1021, 1026, 1027, 1028] (by decide +kernel) (by decide +kernel)
set_option maxRecDepth 20000 in
theorem gL_law_X7_night : GoodIn wsL_law (wsV RL 60 RX7 yX7_night wsX7_night) := goodIn_app (goodIn_of _ (by decide +kernel)) ggL_law_X7_night
set_option maxRecDepth 20000 in
theorem ggL_law_X8_night : GoodIn wsL_law wsX8_night := goodIn_r _ [554, 125, 100, 99, 127, 128, 5, 129, 555, 556, 557, 558, 512, 513, 514, 515, 508, 509, 510, 511, 367, 101, 559, 560, 561, 562, 563, 564, 565, 566, 476, 477, 478, 479, 96, 97, 459, 460, 461, 980, 981, 982, 983, 984, 985, 986, 987, 988, 989, 990, 991, 992, 993, 994, 995, 996, 997, 998, 999, 1000, 1001, 1002, 1003] (by decide +kernel) (by decide +kernel)
set_option maxRecDepth 20000 in
theorem gL_law_X8_night : GoodIn wsL_law (wsV RL 63 RX8 yX8_night wsX8_night) := goodIn_app (goodIn_of _ (by decide +kernel)) ggL_law_X8_night
set_option maxRecDepth 20000 in
theorem ggL_law_X7_undo : GoodIn wsL_law wsX7_undo := goodIn_r _ [570, 28, 24, 349, 571, 572, 573, 27, 574, 489, 488, 76, 491, 2, 492, 493, 494, 495, 970, 971, 972, 973, 974, 975, 976, 977, 978, 979, 1026, 1027, 1028, 1022, 1023, 1024, 1025] (by decide +kernel) (by decide +kernel)
set_option maxRecDepth 20000 in
theorem gL_law_X7_undo : GoodIn wsL_law (wsV RL 64 RX7 yX7_undo wsX7_undo) := goodIn_app (goodIn_of _ (by decide +kernel)) ggL_law_X7_undo
set_option maxRecDepth 20000 in
theorem ggL_law_X8_undo : GoodIn wsL_law wsX8_undo := goodIn_r _ [578, 125, 367, 100, 101, 980, 981, 982, 983, 984, 985, 986, 987, 988, 989, 990, 991, 992, 993, 994, 995, 996, 997, 998, 999, 1000, 1001, 1002, 1003] (by decide +kernel) (by decide +kernel)
set_option maxRecDepth 20000 in
theorem gL_law_X8_undo : GoodIn wsL_law (wsV RL 67 RX8 yX8_undo wsX8_undo) := goodIn_app (goodIn_of _ (by decide +kernel)) ggL_law_X8_undo
set_option maxRecDepth 20000 in
theorem ggL_law_X7_keep : GoodIn wsL_law wsX7_keep := goodIn_r _ [582, 24, 29, 31, 493, 113, 114, 2, 115, 583, 491, 492, 494, 495, 970, 971, 972, 973, 974, 975, 976, 977, 978, 979, 1022, 1023, 1024, 1025] (by decide +kernel) (by decide +kernel)
set_option maxRecDepth 20000 in
theorem gL_law_X7_keep : GoodIn wsL_law (wsV RL 68 RX7 yX7_keep wsX7_keep) := goodIn_app (goodIn_of _ (by decide +kernel)) ggL_law_X7_keep
set_option maxRecDepth 20000 in
theorem ggL_law_X8_keep : GoodIn wsL_law wsX8_keep := goodIn_r _ [587, 125, 102, 100, 103, 127, 128, 5, 129, 980, 981, 982, 983, 984, 985, 986, 987, 988, 989, 990, 991, 992, 993, 994, 995, 996, 997, 998, 999, 1000, 1001, 1002, 1003] (by decide +kernel) (by decide +kernel)
set_option maxRecDepth 20000 in
theorem gL_law_X8_keep : GoodIn wsL_law (wsV RL 71 RX8 yX8_keep wsX8_keep) := goodIn_app (goodIn_of _ (by decide +kernel)) ggL_law_X8_keep
set_option maxRecDepth 20000 in
theorem ggL_law_X7_back : GoodIn wsL_law wsX7_back := goodIn_r _ [591, 31, 29, 24, 28, 349, 493, 113, 114, 2, 115, 583, 491, 492, 494, 495, 970, 971, 972, 973, 974, 975, 976, 977, 978, 979, 1026, 1027, 1028, 1022, 1023, 1024, 1025] (by decide +kernel) (by decide +kernel)
set_option maxRecDepth 20000 in
theorem gL_law_X7_back : GoodIn wsL_law (wsV RL 72 RX7 yX7_back wsX7_back) := goodIn_app (goodIn_of _ (by decide +kernel)) ggL_law_X7_back
set_option maxRecDepth 20000 in
theorem ggL_law_X8_back : GoodIn wsL_law wsX8_back := goodIn_r _ [595, 125, 103, 100, 102, 367, 127, 128, 5, 129, 980, 981, 982, 983, 984, 985, 986, 987, 988, 989, 990, 991, 992, 993, 994, 995, 996, 997, 998, 999, 1000, 1001, 1002, 1003] (by decide +kernel) (by decide +kernel)
set_option maxRecDepth 20000 in
theorem gL_law_X8_back : GoodIn wsL_law (wsV RL 75 RX8 yX8_back wsX8_back) := goodIn_app (goodIn_of _ (by decide +kernel)) ggL_law_X8_back
set_option maxRecDepth 20000 in
theorem ggL_law_X7_through : GoodIn wsL_law wsX7_through := goodIn_r _ [599, 24, 19, 529, 600, 601, 2, 602, 113, 114, 115, 530, 531, 532, 23, 533, 534, 415, 416, 417, 66, 535, 382, 383, 384, 357, 603, 604, 605, 606, 414, 466, 467, 468, 18, 469, 57, 53, 54, 470, 411, 412, 413, 151, 471, 378, 379, 380, 150, 449, 450, 451, 452, 166, 453, 454, 165, 167, 607, 608, 609, 610, 611, 612, 613, 614, 615, 616, 617, 618, 970, 971, 972, 973, 974, 975, 976, 977, 978, 979, 1010, 1011, 1012, 1013, 1014, 1015, 1016, 1017, 1018, 1019, 1020, 1021, 1022, 1023, 1024, 1025] (by decide +kernel) (by decide +kernel)
set_option maxRecDepth 20000 in
theorem gL_law_X7_through : GoodIn wsL_law (wsV RL 76 RX7 yX7_through wsX7_through) := goodIn_app (goodIn_of _ (by decide +kernel)) ggL_law_X7_through
set_option maxRecDepth 20000 in
theorem ggL_law_X8_through : GoodIn wsL_law wsX8_through := goodIn_r _ [622, 125, 99, 566, 623, 624, 5, 625, 555, 556, 557, 558, 512, 513, 514, 515, 100, 626, 627, 628, 629, 476, 477, 478, 479, 96, 97, 459, 460, 461, 630, 631, 632, 633, 634, 635, 636, 637, 638, 980, 981, 982, 983, 984, 985, 986, 987, 988, 989, 990, 991, 992, 993, 994, 995, 996, 997, 998, 999, 1000, 1001, 1002, 1003] (by decide +kernel) (by decide +kernel)
set_option maxRecDepth 20000 in
theorem gL_law_X8_through : GoodIn wsL_law (wsV RL 79 RX8 yX8_through wsX8_through) := goodIn_app (goodIn_of _ (by decide +kernel)) ggL_law_X8_through
set_option maxRecDepth 20000 in
theorem ggL_law_X7_fails : GoodIn wsL_law wsX7_fails := goodIn_r _ [642, 19, 24, 529, 410, 411, 412, 18, 413, 151, 600, 601, 2, 602, 113, 114, 115, 530, 531, 532, 23, 533, 534, 415, 416, 417, 66, 535, 382, 383, 384, 357, 643, 644, 645, 646, 603, 604, 605, 606, 414, 466, 467, 468, 469, 57, 53, 54, 470, 471, 378, 379, 380, 150, 449, 450, 451, 452, 166, 453, 454, 165, 167, 607, 608, 609, 610, 611, 612, 613, 614, 615, 616, 617, 618, 970, 971, 972, 973, 974, 975, 976, 977, 978, 979, 1010, 1011, 1012, 1013, 1014, 1015, 1016, 1017, 1018, 1019, 1020, 1021, 1022, 1023, 1024, 1025] (by decide +kernel) (by decide +kernel)
set_option maxRecDepth 20000 in
theorem gL_law_X7_fails : GoodIn wsL_law (wsV RL 80 RX7 yX7_fails wsX7_fails) := goodIn_app (goodIn_of _ (by decide +kernel)) ggL_law_X7_fails
set_option maxRecDepth 20000 in
theorem ggL_law_X8_fails_ : GoodIn wsL_law wsX8_fails_ := goodIn_r _ [650, 125, 100, 566, 422, 423, 424, 5, 425, 99, 127, 128, 129, 623, 624, 625, 555, 556, 557, 558, 512, 513, 514, 515, 626, 627, 628, 629, 476, 477, 478, 479, 96, 97, 459, 460, 461, 630, 631, 632, 633, 634, 635, 636, 637, 638, 980, 981, 982, 983, 984, 985, 986, 987, 988, 989, 990, 991, 992, 993, 994, 995, 996, 997, 998, 999, 1000, 1001, 1002, 1003] (by decide +kernel) (by decide +kernel)
set_option maxRecDepth 20000 in
theorem gL_law_X8_fails_ : GoodIn wsL_law (wsV RL 83 RX8 yX8_fails_ wsX8_fails_) := goodIn_app (goodIn_of _ (by decide +kernel)) ggL_law_X8_fails_
set_option maxRecDepth 20000 in
theorem ggL_law_X7_loss : GoodIn wsL_law wsX7_loss := goodIn_r _ [654, 24, 19, 529, 546, 600, 601, 2, 602, 113, 114, 115, 530, 531, 532, 23, 533, 534, 415, 416, 417, 66, 535, 382, 383, 384, 357, 414, 655, 656, 657, 18, 658, 55, 471, 378, 379, 380, 150, 643, 644, 645, 646, 603, 604, 605, 606, 466, 467, 468, 469, 57, 53, 54, 470, 411, 412, 413, 151, 449, 450, 451, 452, 166, 453, 454, 165, 167, 607, 608, 609, 610, 611, 612, 613, 614, 615, 616, 617, 618, 970, 971, 972, 973, 974, 975, 976, 977, 978, 979, 1010, 1011, 1012, 1013, 1014, 1015, 1016, 1017, 1018, 1019, 1020, 1021, 1022, 1023, 1024, 1025] (by decide +kernel) (by decide +kernel)
set_option maxRecDepth 20000 in
theorem gL_law_X7_loss : GoodIn wsL_law (wsV RL 84 RX7 yX7_loss wsX7_loss) := goodIn_app (goodIn_of _ (by decide +kernel)) ggL_law_X7_loss
set_option maxRecDepth 20000 in
theorem ggL_law_X8_loss : GoodIn wsL_law wsX8_loss := goodIn_r _ [662, 125, 99, 100, 96, 566, 623, 624, 5, 625, 555, 556, 557, 558, 512, 513, 514, 515, 626, 627, 628, 629, 476, 477, 478, 479, 97, 459, 460, 461, 630, 631, 632, 633, 634, 635, 636, 637, 638, 980, 981, 982, 983, 984, 985, 986, 987, 988, 989, 990, 991, 992, 993, 994, 995, 996, 997, 998, 999, 1000, 1001, 1002, 1003] (by decide +kernel) (by decide +kernel)
set_option maxRecDepth 20000 in
theorem gL_law_X8_loss : GoodIn wsL_law (wsV RL 87 RX8 yX8_loss wsX8_loss) := goodIn_app (goodIn_of _ (by decide +kernel)) ggL_law_X8_loss
set_option maxRecDepth 20000 in
theorem ggL_law_X7_best : GoodIn wsL_law wsX7_best := goodIn_r _ [666, 39, 19, 24, 494, 667, 529, 600, 601, 2, 602, 113, 114, 115, 668, 669, 670, 38, 671, 87, 672, 673, 674, 675, 676, 68, 69, 70, 677, 678, 679, 680, 681, 682, 683, 684, 685, 686, 687, 86, 688, 411, 412, 18, 413, 151, 689, 690, 691, 692, 693, 694, 695, 696, 608, 609, 610, 611, 612, 697, 467, 468, 469, 57, 53, 54, 470, 471, 378, 379, 380, 150, 449, 450, 451, 452, 166, 453, 454, 165, 167, 607, 613, 614, 615, 616, 617, 618, 970, 971, 972, 973, 974, 975, 976, 977, 978, 979, 1022, 1023, 1024, 1025, 1032, 1033, 1034, 1035, 1010, 1011, 1012, 1013, 1014, 1015, 1016, 1017, 1018, 1019, 1020, 1021] (by decide +kernel) (by decide +kernel)
set_option maxRecDepth 20000 in
theorem gL_law_X7_best : GoodIn wsL_law (wsV RL 88 RX7 yX7_best wsX7_best) := goodIn_app (goodIn_of _ (by decide +kernel)) ggL_law_X7_best
set_option maxRecDepth 20000 in
theorem ggL_law_X8_best : GoodIn wsL_law wsX8_best := goodIn_r _ [701, 125, 99, 566, 623, 624, 5, 625, 702, 703, 704, 705, 706, 106, 107, 707, 708, 709, 710, 711, 712, 713, 714, 715, 716, 717, 100, 718, 719, 720, 397, 398, 399, 400, 476, 477, 478, 479, 96, 97, 459, 460, 461, 630, 631, 632, 633, 634, 635, 636, 637, 638, 980, 981, 982, 983, 984, 985, 986, 987, 988, 989, 990, 991, 992, 993, 994, 995, 996, 997, 998, 999, 1000, 1001, 1002, 1003] (by decide +kernel) (by decide +kernel)
set_option maxRecDepth 20000 in
theorem gL_law_X8_best : GoodIn wsL_law (wsV RL 91 RX8 yX8_best wsX8_best) := goodIn_app (goodIn_of _ (by decide +kernel)) ggL_law_X8_best
set_option maxRecDepth 20000 in
theorem ggL_law_X7_bestOf : GoodIn wsL_law wsX7_bestOf := goodIn_r _ [724, 19, 39, 24, 494, 725, 410, 411, 412, 18, 413, 151, 668, 669, 670, 38, 671, 87, 672, 673, 674, 675, 676, 68, 69, 70, 677, 678, 679, 680, 681, 682, 683, 684, 685, 686, 687, 86, 688, 689, 690, 691, 692, 693, 694, 695, 696, 608, 2, 609, 610, 611, 612, 697, 467, 468, 469, 57, 53, 54, 470, 471, 378, 379, 380, 150, 449, 450, 451, 452, 166, 453, 454, 165, 167, 970, 971, 972, 973, 974, 975, 976, 977, 978, 979, 1022, 1023, 1024, 1025, 1032, 1033, 1034, 1035, 1010, 1011, 1012, 1013, 1014, 1015, 1016, 1017, 1018, 1019, 1020, 1021] (by decide +kernel) (by decide +kernel)
set_option maxRecDepth 20000 in
theorem gL_law_X7_bestOf : GoodIn wsL_law (wsV RL 92 RX7 yX7_bestOf wsX7_bestOf) := goodIn_app (goodIn_of _ (by decide +kernel)) ggL_law_X7_bestOf
set_option maxRecDepth 20000 in
theorem ggL_law_X8_bestOf : GoodIn wsL_law wsX8_bestOf := goodIn_r _ [729, 125, 107, 422, 423, 424, 5, 425, 99, 127, 128, 129, 702, 703, 704, 705, 706, 106, 707, 708, 709, 710, 711, 712, 713, 714, 715, 716, 717, 100, 718, 719, 720, 397, 398, 399, 400, 476, 477, 478, 479, 96, 97, 459, 460, 461, 980, 981, 982, 983, 984, 985, 986, 987, 988, 989, 990, 991, 992, 993, 994, 995, 996, 997, 998, 999, 1000, 1001, 1002, 1003] (by decide +kernel) (by decide +kernel)
set_option maxRecDepth 20000 in
theorem gL_law_X8_bestOf : GoodIn wsL_law (wsV RL 95 RX8 yX8_bestOf wsX8_bestOf) := goodIn_app (goodIn_of _ (by decide +kernel)) ggL_law_X8_bestOf
set_option maxRecDepth 20000 in
theorem ggL_law_X7_drawn : GoodIn wsL_law wsX7_drawn := goodIn_r _ [733, 19, 348, 377, 378, 379, 18, 380, 150, 600, 601, 2, 602, 113, 114, 115, 734, 735, 736, 737, 24, 376, 381, 382, 383, 23, 384, 357, 613, 614, 615, 616, 617, 618, 970, 971, 972, 973, 974, 975, 976, 977, 978, 979, 1010, 1011, 1012, 1013, 1014, 1015, 1016, 1017, 1018, 1019, 1020, 1021, 1022, 1023, 1024, 1025] (by decide +kernel) (by decide +kernel)
set_option maxRecDepth 20000 in
theorem gL_law_X7_drawn : GoodIn wsL_law (wsV RL 96 RX7 yX7_drawn wsX7_drawn) := goodIn_app (goodIn_of _ (by decide +kernel)) ggL_law_X7_drawn
set_option maxRecDepth 20000 in
theorem ggL_law_X8_drawn : GoodIn wsL_law wsX8_drawn := goodIn_r _ [741, 125, 96, 393, 394, 395, 5, 396, 99, 127, 128, 129, 623, 624, 625, 742, 743, 744, 745, 397, 398, 399, 400, 100, 633, 634, 635, 636, 637, 638, 980, 981, 982, 983, 984, 985, 986, 987, 988, 989, 990, 991, 992, 993, 994, 995, 996, 997, 998, 999, 1000, 1001, 1002, 1003] (by decide +kernel) (by decide +kernel)
set_option maxRecDepth 20000 in
theorem gL_law_X8_drawn : GoodIn wsL_law (wsV RL 99 RX8 yX8_drawn wsX8_drawn) := goodIn_app (goodIn_of _ (by decide +kernel)) ggL_law_X8_drawn
set_option maxRecDepth 20000 in
theorem ggL_law_X7_alone : GoodIn wsL_law wsX7_alone := goodIn_r _ [749, 19, 529, 377, 378, 379, 18, 380, 150, 600, 601, 2, 602, 113, 114, 115, 750, 751, 752, 753, 151, 754, 755, 467, 468, 469, 57, 53, 54, 470, 411, 412, 413, 471, 449, 450, 451, 452, 166, 453, 454, 165, 167, 607, 608, 609, 610, 611, 612, 613, 614, 615, 616, 617, 618, 970, 971, 972, 973, 974, 975, 976, 977, 978, 979, 1010, 1011, 1012, 1013, 1014, 1015, 1016, 1017, 1018, 1019, 1020, 1021] (by decide +kernel) (by decide +kernel)
set_option maxRecDepth 20000 in
theorem gL_law_X7_alone : GoodIn wsL_law (wsV RL 100 RX7 yX7_alone wsX7_alone) := goodIn_app (goodIn_of _ (by decide +kernel)) ggL_law_X7_alone
set_option maxRecDepth 20000 in
theorem ggL_law_X8_alone : GoodIn wsL_law wsX8_alone := goodIn_r _ [759, 125, 566, 99, 393, 394, 395, 5, 396, 127, 128, 129, 623, 624, 625, 760, 761, 762, 763, 476, 477, 478, 479, 96, 97, 459, 460, 461, 630, 631, 632, 633, 634, 635, 636, 637, 638, 980, 981, 982, 983, 984, 985, 986, 987, 988, 989, 990, 991, 992, 993, 994, 995, 996, 997, 998, 999, 1000, 1001, 1002, 1003] (by decide +kernel) (by decide +kernel)
set_option maxRecDepth 20000 in
theorem gL_law_X8_alone : GoodIn wsL_law (wsV RL 103 RX8 yX8_alone wsX8_alone) := goodIn_app (goodIn_of _ (by decide +kernel)) ggL_law_X8_alone

