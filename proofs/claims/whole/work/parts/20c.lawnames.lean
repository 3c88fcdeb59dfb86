set_option maxRecDepth 20000 in
theorem ggL_law_X8_clear : GoodIn wsL_law wsX8_clear := goodIn_r _ [527, 128, 103, 515, 516, 517, 5, 518, 102, 511, 512, 513, 514, 370, 104, 985, 986, 987, 988, 989, 990, 991, 992, 993, 994, 995, 996, 997, 998, 999, 1000, 1001, 1002, 1003, 1004, 1005, 1006, 1007, 1008] (by decide +kernel) (by decide +kernel)
set_option maxRecDepth 20000 in
theorem gL_law_X8_clear : GoodIn wsL_law (wsV RL 59 RX8 yX8_clear wsX8_clear) := goodIn_app (goodIn_of _ (by decide +kernel)) ggL_law_X8_clear
set_option maxRecDepth 20000 in
theorem ggL_law_X7_night : GoodIn wsL_law wsX7_night := goodIn_r _ [531, 24, 498, 19, 532, 496, 28, 116, 117, 2, 118, 533, 534, 535, 23, 536, 537, 418, 419, 420, 66, 538, 385, 386, 387, 360, 487, 488, 489, 27, 490, 76, 491, 492, 493, 168, 169, 170, 494, 495, 497, 539, 540, 541, 542, 417, 543, 544, 545, 546, 547, 548, 549, 469, 470, 471, 18, 472, 57, 53, 54, 473, 414, 415, 416, 154, 474, 381, 382, 383, 153, 452, 453, 454, 455, 456, 457, 550, 551, 552, 553, 975, 976, 977, 978, 979, 980, 981, 982, 983, 984, 1027, 1028, 1029, 1030, 1015, 1016, 1017, 1018, 1019, 1020, 1021, 1022, 1023, 1024, 1025, 1026, 1031, 1032, 1033] (by decide +kernel) (by decide +kernel)
set_option maxRecDepth 20000 in
theorem gL_law_X7_night : GoodIn wsL_law (wsV RL 60 RX7 yX7_night wsX7_night) := goodIn_app (goodIn_of _ (by decide +kernel)) ggL_law_X7_night
set_option maxRecDepth 20000 in
theorem ggL_law_X8_night : GoodIn wsL_law wsX8_night := goodIn_r _ [557, 128, 103, 102, 130, 131, 5, 132, 558, 559, 560, 561, 515, 516, 517, 518, 511, 512, 513, 514, 370, 104, 562, 563, 564, 565, 566, 567, 568, 569, 479, 480, 481, 482, 99, 100, 462, 463, 464, 985, 986, 987, 988, 989, 990, 991, 992, 993, 994, 995, 996, 997, 998, 999, 1000, 1001, 1002, 1003, 1004, 1005, 1006, 1007, 1008] (by decide +kernel) (by decide +kernel)
set_option maxRecDepth 20000 in
theorem gL_law_X8_night : GoodIn wsL_law (wsV RL 63 RX8 yX8_night wsX8_night) := goodIn_app (goodIn_of _ (by decide +kernel)) ggL_law_X8_night
set_option maxRecDepth 20000 in
theorem ggL_law_X7_undo : GoodIn wsL_law wsX7_undo := goodIn_r _ [573, 28, 24, 352, 574, 575, 576, 27, 577, 492, 491, 76, 494, 2, 495, 496, 497, 498, 975, 976, 977, 978, 979, 980, 981, 982, 983, 984, 1031, 1032, 1033, 1027, 1028, 1029, 1030] (by decide +kernel) (by decide +kernel)
set_option maxRecDepth 20000 in
theorem gL_law_X7_undo : GoodIn wsL_law (wsV RL 64 RX7 yX7_undo wsX7_undo) := goodIn_app (goodIn_of _ (by decide +kernel)) ggL_law_X7_undo
set_option maxRecDepth 20000 in
theorem ggL_law_X8_undo : GoodIn wsL_law wsX8_undo := goodIn_r _ [581, 128, 370, 103, 104, 985, 986, 987, 988, 989, 990, 991, 992, 993, 994, 995, 996, 997, 998, 999, 1000, 1001, 1002, 1003, 1004, 1005, 1006, 1007, 1008] (by decide +kernel) (by decide +kernel)
set_option maxRecDepth 20000 in
theorem gL_law_X8_undo : GoodIn wsL_law (wsV RL 67 RX8 yX8_undo wsX8_undo) := goodIn_app (goodIn_of _ (by decide +kernel)) ggL_law_X8_undo
set_option maxRecDepth 20000 in
theorem ggL_law_X7_keep : GoodIn wsL_law wsX7_keep := goodIn_r _ [585, 24, 29, 31, 496, 116, 117, 2, 118, 586, 494, 495, 497, 498, 975, 976, 977, 978, 979, 980, 981, 982, 983, 984, 1027, 1028, 1029, 1030] (by decide +kernel) (by decide +kernel)
set_option maxRecDepth 20000 in
theorem gL_law_X7_keep : GoodIn wsL_law (wsV RL 68 RX7 yX7_keep wsX7_keep) := goodIn_app (goodIn_of _ (by decide +kernel)) ggL_law_X7_keep
set_option maxRecDepth 20000 in
theorem ggL_law_X8_keep : GoodIn wsL_law wsX8_keep := goodIn_r _ [590, 128, 105, 103, 106, 130, 131, 5, 132, 985, 986, 987, 988, 989, 990, 991, 992, 993, 994, 995, 996, 997, 998, 999, 1000, 1001, 1002, 1003, 1004, 1005, 1006, 1007, 1008] (by decide +kernel) (by decide +kernel)
set_option maxRecDepth 20000 in
theorem gL_law_X8_keep : GoodIn wsL_law (wsV RL 71 RX8 yX8_keep wsX8_keep) := goodIn_app (goodIn_of _ (by decide +kernel)) ggL_law_X8_keep
set_option maxRecDepth 20000 in
theorem ggL_law_X7_back : GoodIn wsL_law wsX7_back := goodIn_r _ [594, 31, 29, 24, 28, 352, 496, 116, 117, 2, 118, 586, 494, 495, 497, 498, 975, 976, 977, 978, 979, 980, 981, 982, 983, 984, 1031, 1032, 1033, 1027, 1028, 1029, 1030] (by decide +kernel) (by decide +kernel)
set_option maxRecDepth 20000 in
theorem gL_law_X7_back : GoodIn wsL_law (wsV RL 72 RX7 yX7_back wsX7_back) := goodIn_app (goodIn_of _ (by decide +kernel)) ggL_law_X7_back
set_option maxRecDepth 20000 in
theorem ggL_law_X8_back : GoodIn wsL_law wsX8_back := goodIn_r _ [598, 128, 106, 103, 105, 370, 130, 131, 5, 132, 985, 986, 987, 988, 989, 990, 991, 992, 993, 994, 995, 996, 997, 998, 999, 1000, 1001, 1002, 1003, 1004, 1005, 1006, 1007, 1008] (by decide +kernel) (by decide +kernel)
set_option maxRecDepth 20000 in
theorem gL_law_X8_back : GoodIn wsL_law (wsV RL 75 RX8 yX8_back wsX8_back) := goodIn_app (goodIn_of _ (by decide +kernel)) ggL_law_X8_back
set_option maxRecDepth 20000 in
theorem ggL_law_X7_through : GoodIn wsL_law wsX7_through := goodIn_r _ [602, 24, 19, 532, 603, 604, 2, 605, 116, 117, 118, 533, 534, 535, 23, 536, 537, 418, 419, 420, 66, 538, 385, 386, 387, 360, 606, 607, 608, 609, 417, 469, 470, 471, 18, 472, 57, 53, 54, 473, 414, 415, 416, 154, 474, 381, 382, 383, 153, 452, 453, 454, 455, 169, 456, 457, 168, 170, 610, 611, 612, 613, 614, 615, 616, 617, 618, 619, 620, 621, 975, 976, 977, 978, 979, 980, 981, 982, 983, 984, 1015, 1016, 1017, 1018, 1019, 1020, 1021, 1022, 1023, 1024, 1025, 1026, 1027, 1028, 1029, 1030] (by decide +kernel) (by decide +kernel)
set_option maxRecDepth 20000 in
theorem gL_law_X7_through : GoodIn wsL_law (wsV RL 76 RX7 yX7_through wsX7_through) := goodIn_app (goodIn_of _ (by decide +kernel)) ggL_law_X7_through
set_option maxRecDepth 20000 in
theorem ggL_law_X8_through : GoodIn wsL_law wsX8_through := goodIn_r _ [625, 128, 102, 569, 626, 627, 5, 628, 558, 559, 560, 561, 515, 516, 517, 518, 103, 629, 630, 631, 632, 479, 480, 481, 482, 99, 100, 462, 463, 464, 633, 634, 635, 636, 637, 638, 639, 640, 641, 985, 986, 987, 988, 989, 990, 991, 992, 993, 994, 995, 996, 997, 998, 999, 1000, 1001, 1002, 1003, 1004, 1005, 1006, 1007, 1008] (by decide +kernel) (by decide +kernel)
set_option maxRecDepth 20000 in
theorem gL_law_X8_through : GoodIn wsL_law (wsV RL 79 RX8 yX8_through wsX8_through) := goodIn_app (goodIn_of _ (by decide +kernel)) ggL_law_X8_through
set_option maxRecDepth 20000 in
theorem ggL_law_X7_fails : GoodIn wsL_law wsX7_fails := goodIn_r _ [645, 19, 24, 532, 413, 414, 415, 18, 416, 154, 603, 604, 2, 605, 116, 117, 118, 533, 534, 535, 23, 536, 537, 418, 419, 420, 66, 538, 385, 386, 387, 360, 646, 647, 648, 649, 606, 607, 608, 609, 417, 469, 470, 471, 472, 57, 53, 54, 473, 474, 381, 382, 383, 153, 452, 453, 454, 455, 169, 456, 457, 168, 170, 610, 611, 612, 613, 614, 615, 616, 617, 618, 619, 620, 621, 975, 976, 977, 978, 979, 980, 981, 982, 983, 984, 1015, 1016, 1017, 1018, 1019, 1020, 1021, 1022, 1023, 1024, 1025, 1026, 1027, 1028, 1029, 1030] (by decide +kernel) (by decide +kernel)
set_option maxRecDepth 20000 in
theorem gL_law_X7_fails : GoodIn wsL_law (wsV RL 80 RX7 yX7_fails wsX7_fails) := goodIn_app (goodIn_of _ (by decide +kernel)) ggL_law_X7_fails
set_option maxRecDepth 20000 in
theorem ggL_law_X8_fails_ : GoodIn wsL_law wsX8_fails_ := goodIn_r _ [653, 128, 103, 569, 425, 426, 427, 5, 428, 102, 130, 131, 132, 626, 627, 628, 558, 559, 560, 561, 515, 516, 517, 518, 629, 630, 631, 632, 479, 480, 481, 482, 99, 100, 462, 463, 464, 633, 634, 635, 636, 637, 638, 639, 640, 641, 985, 986, 987, 988, 989, 990, 991, 992, 993, 994, 995, 996, 997, 998, 999, 1000, 1001, 1002, 1003, 1004, 1005, 1006, 1007, 1008] (by decide +kernel) (by decide +kernel)
set_option maxRecDepth 20000 in
theorem gL_law_X8_fails_ : GoodIn wsL_law (wsV RL 83 RX8 yX8_fails_ wsX8_fails_) := goodIn_app (goodIn_of _ (by decide +kernel)) ggL_law_X8_fails_
set_option maxRecDepth 20000 in
theorem ggL_law_X7_loss : GoodIn wsL_law wsX7_loss := goodIn_r _ [657, 24, 19, 532, 549, 603, 604, 2, 605, 116, 117, 118, 533, 534, 535, 23, 536, 537, 418, 419, 420, 66, 538, 385, 386, 387, 360, 417, 658, 659, 660, 18, 661, 55, 474, 381, 382, 383, 153, 646, 647, 648, 649, 606, 607, 608, 609, 469, 470, 471, 472, 57, 53, 54, 473, 414, 415, 416, 154, 452, 453, 454, 455, 169, 456, 457, 168, 170, 610, 611, 612, 613, 614, 615, 616, 617, 618, 619, 620, 621, 975, 976, 977, 978, 979, 980, 981, 982, 983, 984, 1015, 1016, 1017, 1018, 1019, 1020, 1021, 1022, 1023, 1024, 1025, 1026, 1027, 1028, 1029, 1030] (by decide +kernel) (by decide +kernel)
set_option maxRecDepth 20000 in
theorem gL_law_X7_loss : GoodIn wsL_law (wsV RL 84 RX7 yX7_loss wsX7_loss) := goodIn_app (goodIn_of _ (by decide +kernel)) ggL_law_X7_loss
set_option maxRecDepth 20000 in
theorem ggL_law_X8_loss : GoodIn wsL_law wsX8_loss := goodIn_r _ [665, 128, 102, 103, 99, 569, 626, 627, 5, 628, 558, 559, 560, 561, 515, 516, 517, 518, 629, 630, 631, 632, 479, 480, 481, 482, 100, 462, 463, 464, 633, 634, 635, 636, 637, 638, 639, 640, 641, 985, 986, 987, 988, 989, 990, 991, 992, 993, 994, 995, 996, 997, 998, 999, 1000, 1001, 1002, 1003, 1004, 1005, 1006, 1007, 1008] (by decide +kernel) (by decide +kernel)
set_option maxRecDepth 20000 in
theorem gL_law_X8_loss : GoodIn wsL_law (wsV RL 87 RX8 yX8_loss wsX8_loss) := goodIn_app (goodIn_of _ (by decide +kernel)) ggL_law_X8_loss
set_option maxRecDepth 20000 in
theorem ggL_law_X7_best : GoodIn wsL_law wsX7_best := goodIn_r _ [669, 39, 670, 19, 532, 603, 604, 2, 605, 116, 117, 118, 671, 672, 673, 38, 674, 88, 675, 676, 89, 677, 90, 678, 679, 680, 68, 69, 70, 681, 682, 683, 684, 685, 686, 687, 688, 689, 690, 691, 87, 692, 414, 415, 18, 416, 154, 693, 694, 695, 696, 697, 698, 699, 700, 611, 612, 613, 614, 615, 701, 385, 386, 23, 387, 360, 702, 470, 471, 472, 57, 53, 54, 473, 474, 381, 382, 383, 153, 452, 453, 454, 455, 169, 456, 457, 168, 170, 610, 616, 617, 618, 619, 620, 621, 975, 976, 977, 978, 979, 980, 981, 982, 983, 984, 1037, 1038, 1039, 1040, 1041, 1042, 1015, 1016, 1017, 1018, 1019, 1020, 1021, 1022, 1023, 1024, 1025, 1026, 1027, 1028, 1029, 1030] (by decide +kernel) (by decide +kernel)
set_option maxRecDepth 20000 in
theorem gL_law_X7_best : GoodIn wsL_law (wsV RL 88 RX7 yX7_best wsX7_best) := goodIn_app (goodIn_of _ (by decide +kernel)) ggL_law_X7_best
set_option maxRecDepth 20000 in
theorem ggL_law_X8_best : GoodIn wsL_law wsX8_best := goodIn_r _ [706, 128, 102, 569, 626, 627, 5, 628, 707, 708, 709, 710, 711, 109, 110, 712, 713, 714, 715, 716, 717, 718, 719, 720, 721, 722, 103, 723, 724, 725, 400, 401, 402, 403, 479, 480, 481, 482, 99, 100, 462, 463, 464, 633, 634, 635, 636, 637, 638, 639, 640, 641, 985, 986, 987, 988, 989, 990, 991, 992, 993, 994, 995, 996, 997, 998, 999, 1000, 1001, 1002, 1003, 1004, 1005, 1006, 1007, 1008] (by decide +kernel) (by decide +kernel)
set_option maxRecDepth 20000 in
theorem gL_law_X8_best : GoodIn wsL_law (wsV RL 91 RX8 yX8_best wsX8_best) := goodIn_app (goodIn_of _ (by decide +kernel)) ggL_law_X8_best
set_option maxRecDepth 20000 in
theorem ggL_law_X7_bestOf : GoodIn wsL_law wsX7_bestOf := goodIn_r _ [729, 19, 39, 730, 413, 414, 415, 18, 416, 154, 671, 672, 673, 38, 674, 88, 675, 676, 89, 677, 90, 678, 679, 680, 68, 69, 70, 681, 682, 683, 684, 685, 686, 687, 688, 689, 690, 691, 87, 692, 693, 694, 695, 696, 697, 698, 699, 700, 611, 2, 612, 613, 614, 615, 701, 385, 386, 23, 387, 360, 702, 470, 471, 472, 57, 53, 54, 473, 474, 381, 382, 383, 153, 452, 453, 454, 455, 169, 456, 457, 168, 170, 975, 976, 977, 978, 979, 980, 981, 982, 983, 984, 1037, 1038, 1039, 1040, 1041, 1042, 1015, 1016, 1017, 1018, 1019, 1020, 1021, 1022, 1023, 1024, 1025, 1026, 1027, 1028, 1029, 1030] (by decide +kernel) (by decide +kernel)
set_option maxRecDepth 20000 in
theorem gL_law_X7_bestOf : GoodIn wsL_law (wsV RL 92 RX7 yX7_bestOf wsX7_bestOf) := goodIn_app (goodIn_of _ (by decide +kernel)) ggL_law_X7_bestOf
set_option maxRecDepth 20000 in
theorem ggL_law_X8_bestOf : GoodIn wsL_law wsX8_bestOf := goodIn_r _ [734, 128, 110, 425, 426, 427, 5, 428, 102, 130, 131, 132, 707, 708, 709, 710, 711, 109, 712, 713, 714, 715, 716, 717, 718, 719, 720, 721, 722, 103, 723, 724, 725, 400, 401, 402, 403, 479, 480, 481, 482, 99, 100, 462, 463, 464, 985, 986, 987, 988, 989, 990, 991, 992, 993, 994, 995, 996, 997, 998, 999, 1000, 1001, 1002, 1003, 1004, 1005, 1006, 1007, 1008] (by decide +kernel) (by decide +kernel)
set_option maxRecDepth 20000 in
theorem gL_law_X8_bestOf : GoodIn wsL_law (wsV RL 95 RX8 yX8_bestOf wsX8_bestOf) := goodIn_app (goodIn_of _ (by decide +kernel)) ggL_law_X8_bestOf
set_option maxRecDepth 20000 in
theorem ggL_law_X7_drawn : GoodIn wsL_law wsX7_drawn := goodIn_r _ [738, 19, 351, 380, 381, 382, 18, 383, 153, 603, 604, 2, 605, 116, 117, 118, 739, 740, 741, 742, 24, 379, 384, 385, 386, 23, 387, 360, 616, 617, 618, 619, 620, 621, 975, 976, 977, 978, 979, 980, 981, 982, 983, 984, 1015, 1016, 1017, 1018, 1019, 1020, 1021, 1022, 1023, 1024, 1025, 1026, 1027, 1028, 1029, 1030] (by decide +kernel) (by decide +kernel)
set_option maxRecDepth 20000 in
theorem gL_law_X7_drawn : GoodIn wsL_law (wsV RL 96 RX7 yX7_drawn wsX7_drawn) := goodIn_app (goodIn_of _ (by decide +kernel)) ggL_law_X7_drawn
set_option maxRecDepth 20000 in
theorem ggL_law_X8_drawn : GoodIn wsL_law wsX8_drawn := goodIn_r _ [746, 128, 99, 396, 397, 398, 5, 399, 102, 130, 131, 132, 626, 627, 628, 747, 748, 749, 750, 400, 401, 402, 403, 103, 636, 637, 638, 639, 640, 641, 985, 986, 987, 988, 989, 990, 991, 992, 993, 994, 995, 996, 997, 998, 999, 1000, 1001, 1002, 1003, 1004, 1005, 1006, 1007, 1008] (by decide +kernel) (by decide +kernel)
set_option maxRecDepth 20000 in
theorem gL_law_X8_drawn : GoodIn wsL_law (wsV RL 99 RX8 yX8_drawn wsX8_drawn) := goodIn_app (goodIn_of _ (by decide +kernel)) ggL_law_X8_drawn
set_option maxRecDepth 20000 in
theorem ggL_law_X7_alone : GoodIn wsL_law wsX7_alone := goodIn_r _ [754, 19, 532, 380, 381, 382, 18, 383, 153, 603, 604, 2, 605, 116, 117, 118, 755, 756, 757, 758, 154, 759, 760, 470, 471, 472, 57, 53, 54, 473, 414, 415, 416, 474, 452, 453, 454, 455, 169, 456, 457, 168, 170, 610, 611, 612, 613, 614, 615, 616, 617, 618, 619, 620, 621, 975, 976, 977, 978, 979, 980, 981, 982, 983, 984, 1015, 1016, 1017, 1018, 1019, 1020, 1021, 1022, 1023, 1024, 1025, 1026] (by decide +kernel) (by decide +kernel)
set_option maxRecDepth 20000 in
theorem gL_law_X7_alone : GoodIn wsL_law (wsV RL 100 RX7 yX7_alone wsX7_alone) := goodIn_app (goodIn_of _ (by decide +kernel)) ggL_law_X7_alone
set_option maxRecDepth 20000 in
theorem ggL_law_X8_alone : GoodIn wsL_law wsX8_alone := goodIn_r _ [764, 128, 569, 102, 396, 397, 398, 5, 399, 130, 131, 132, 626, 627, 628, 765, 766, 767, 768, 479, 480, 481, 482, 99, 100, 462, 463, 464, 633, 634, 635, 636, 637, 638, 639, 640, 641, 985, 986, 987, 988, 989, 990, 991, 992, 993, 994, 995, 996, 997, 998, 999, 1000, 1001, 1002, 1003, 1004, 1005, 1006, 1007, 1008] (by decide +kernel) (by decide +kernel)
set_option maxRecDepth 20000 in
theorem gL_law_X8_alone : GoodIn wsL_law (wsV RL 103 RX8 yX8_alone wsX8_alone) := goodIn_app (goodIn_of _ (by decide +kernel)) ggL_law_X8_alone

