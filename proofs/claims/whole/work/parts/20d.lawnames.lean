set_option maxRecDepth 20000 in
theorem ggL_law_X7_dread : GoodIn wsL_law wsX7_dread := goodIn_r _ [772, 19, 532, 380, 381, 382, 18, 383, 153, 603, 604, 2, 605, 116, 117, 118, 773, 774, 775, 776, 777, 659, 660, 661, 55, 474, 778, 756, 757, 758, 154, 759, 760, 470, 471, 472, 57, 53, 54, 473, 414, 415, 416, 452, 453, 454, 455, 169, 456, 457, 168, 170, 610, 611, 612, 613, 614, 615, 616, 617, 618, 619, 620, 621, 975, 976, 977, 978, 979, 980, 981, 982, 983, 984, 1015, 1016, 1017, 1018, 1019, 1020, 1021, 1022, 1023, 1024, 1025, 1026] (by decide +kernel) (by decide +kernel)
set_option maxRecDepth 20000 in
theorem gL_law_X7_dread : GoodIn wsL_law (wsV RL 104 RX7 yX7_dread wsX7_dread) := goodIn_app (goodIn_of _ (by decide +kernel)) ggL_law_X7_dread
set_option maxRecDepth 20000 in
theorem ggL_law_X8_dread : GoodIn wsL_law wsX8_dread := goodIn_r _ [782, 128, 569, 102, 396, 397, 398, 5, 399, 130, 131, 132, 626, 627, 628, 783, 784, 785, 786, 99, 765, 766, 767, 768, 479, 480, 481, 482, 100, 462, 463, 464, 633, 634, 635, 636, 637, 638, 639, 640, 641, 985, 986, 987, 988, 989, 990, 991, 992, 993, 994, 995, 996, 997, 998, 999, 1000, 1001, 1002, 1003, 1004, 1005, 1006, 1007, 1008] (by decide +kernel) (by decide +kernel)
set_option maxRecDepth 20000 in
theorem gL_law_X8_dread : GoodIn wsL_law (wsV RL 107 RX8 yX8_dread wsX8_dread) := goodIn_app (goodIn_of _ (by decide +kernel)) ggL_law_X8_dread
set_option maxRecDepth 20000 in
theorem ggL_law_X7_hires : GoodIn wsL_law wsX7_hires := goodIn_r _ [790, 19, 24, 380, 381, 382, 18, 383, 153, 384, 385, 386, 23, 387, 360, 791, 792, 793, 2, 794, 351, 773, 774, 775, 776, 777, 659, 660, 661, 55, 474, 778, 756, 757, 758, 154, 759, 760, 470, 471, 472, 57, 53, 54, 473, 414, 415, 416, 452, 453, 454, 455, 169, 456, 457, 168, 170, 975, 976, 977, 978, 979, 980, 981, 982, 983, 984, 1015, 1016, 1017, 1018, 1019, 1020, 1021, 1022, 1023, 1024, 1025, 1026, 1027, 1028, 1029, 1030] (by decide +kernel) (by decide +kernel)
set_option maxRecDepth 20000 in
theorem gL_law_X7_hires : GoodIn wsL_law (wsV RL 108 RX7 yX7_hires wsX7_hires) := goodIn_app (goodIn_of _ (by decide +kernel)) ggL_law_X7_hires
set_option maxRecDepth 20000 in
theorem ggL_law_X8_hires : GoodIn wsL_law wsX8_hires := goodIn_r _ [798, 128, 102, 396, 397, 398, 5, 399, 130, 131, 132, 400, 401, 402, 403, 103, 783, 784, 785, 786, 99, 765, 766, 767, 768, 569, 479, 480, 481, 482, 100, 462, 463, 464, 633, 634, 635, 985, 986, 987, 988, 989, 990, 991, 992, 993, 994, 995, 996, 997, 998, 999, 1000, 1001, 1002, 1003, 1004, 1005, 1006, 1007, 1008] (by decide +kernel) (by decide +kernel)
set_option maxRecDepth 20000 in
theorem gL_law_X8_hires : GoodIn wsL_law (wsV RL 111 RX8 yX8_hires wsX8_hires) := goodIn_app (goodIn_of _ (by decide +kernel)) ggL_law_X8_hires
set_option maxRecDepth 20000 in
theorem ggL_law_X7_rests : GoodIn wsL_law wsX7_rests := goodIn_r _ [802, 43, 19, 24, 497, 116, 117, 2, 118, 803, 804, 805, 42, 806, 807, 808, 809, 810, 811, 812, 813, 814, 611, 612, 613, 614, 615, 815, 774, 775, 18, 776, 777, 659, 660, 661, 55, 474, 381, 382, 383, 153, 778, 756, 757, 758, 154, 759, 760, 470, 471, 472, 57, 53, 54, 473, 414, 415, 416, 452, 453, 454, 455, 169, 456, 457, 168, 170, 816, 817, 818, 819, 820, 821, 822, 823, 824, 682, 683, 684, 685, 686, 687, 825, 826, 827, 828, 975, 976, 977, 978, 979, 980, 981, 982, 983, 984, 1027, 1028, 1029, 1030, 1043, 1044, 1045, 1046, 1047, 1015, 1016, 1017, 1018, 1019, 1020, 1021, 1022, 1023, 1024, 1025, 1026] (by decide +kernel) (by decide +kernel)
set_option maxRecDepth 20000 in
theorem gL_law_X7_rests : GoodIn wsL_law (wsV RL 112 RX7 yX7_rests wsX7_rests) := goodIn_app (goodIn_of _ (by decide +kernel)) ggL_law_X7_rests
set_option maxRecDepth 20000 in
theorem ggL_law_X8_rests : GoodIn wsL_law wsX8_rests := goodIn_r _ [832, 128, 102, 103, 130, 131, 5, 132, 833, 834, 835, 836, 837, 838, 839, 840, 569, 633, 634, 635, 400, 401, 402, 403, 783, 784, 785, 786, 99, 765, 766, 767, 768, 479, 480, 481, 482, 100, 462, 463, 464, 723, 724, 725, 985, 986, 987, 988, 989, 990, 991, 992, 993, 994, 995, 996, 997, 998, 999, 1000, 1001, 1002, 1003, 1004, 1005, 1006, 1007, 1008] (by decide +kernel) (by decide +kernel)
set_option maxRecDepth 20000 in
theorem gL_law_X8_rests : GoodIn wsL_law (wsV RL 115 RX8 yX8_rests wsX8_rests) := goodIn_app (goodIn_of _ (by decide +kernel)) ggL_law_X8_rests
set_option maxRecDepth 20000 in
theorem ggL_law_X7_fund : GoodIn wsL_law wsX7_fund := goodIn_r _ [844, 19, 532, 845, 791, 792, 793, 2, 794, 351, 24, 384, 385, 386, 23, 387, 360, 773, 774, 775, 18, 776, 777, 659, 660, 661, 55, 474, 381, 382, 383, 153, 778, 756, 757, 758, 154, 759, 760, 470, 471, 472, 57, 53, 54, 473, 414, 415, 416, 452, 453, 454, 455, 169, 456, 457, 168, 170, 610, 611, 612, 613, 614, 615, 975, 976, 977, 978, 979, 980, 981, 982, 983, 984, 1015, 1016, 1017, 1018, 1019, 1020, 1021, 1022, 1023, 1024, 1025, 1026, 1027, 1028, 1029, 1030] (by decide +kernel) (by decide +kernel)
set_option maxRecDepth 20000 in
theorem gL_law_X7_fund : GoodIn wsL_law (wsV RL 116 RX7 yX7_fund wsX7_fund) := goodIn_app (goodIn_of _ (by decide +kernel)) ggL_law_X7_fund
set_option maxRecDepth 20000 in
theorem ggL_law_X8_fund : GoodIn wsL_law wsX8_fund := goodIn_r _ [849, 128, 833, 834, 835, 5, 836, 102, 103, 837, 838, 839, 840, 569, 633, 634, 635, 400, 401, 402, 403, 783, 784, 785, 786, 99, 765, 766, 767, 768, 479, 480, 481, 482, 100, 462, 463, 464, 723, 724, 725, 985, 986, 987, 988, 989, 990, 991, 992, 993, 994, 995, 996, 997, 998, 999, 1000, 1001, 1002, 1003, 1004, 1005, 1006, 1007, 1008] (by decide +kernel) (by decide +kernel)
set_option maxRecDepth 20000 in
theorem gL_law_X8_fund : GoodIn wsL_law (wsV RL 119 RX8 yX8_fund wsX8_fund) := goodIn_app (goodIn_of _ (by decide +kernel)) ggL_law_X8_fund
set_option maxRecDepth 20000 in
theorem ggL_law_X7_rats : GoodIn wsL_law wsX7_rats := goodIn_r _ [853, 19, 854, 116, 117, 2, 118, 855, 856, 857, 18, 858, 61, 59, 60, 58, 859, 437, 438, 439, 155, 975, 976, 977, 978, 979, 980, 981, 982, 983, 984, 1015, 1016, 1017, 1018, 1019, 1020, 1021, 1022, 1023, 1024, 1025, 1026] (by decide +kernel) (by decide +kernel)
set_option maxRecDepth 20000 in
theorem gL_law_X7_rats : GoodIn wsL_law (wsV RL 120 RX7 yX7_rats wsX7_rats) := goodIn_app (goodIn_of _ (by decide +kernel)) ggL_law_X7_rats
set_option maxRecDepth 20000 in
theorem ggL_law_X8_rats : GoodIn wsL_law wsX8_rats := goodIn_r _ [863, 128, 102, 130, 131, 5, 132, 864, 865, 866, 867, 101, 985, 986, 987, 988, 989, 990, 991, 992, 993, 994, 995, 996, 997, 998, 999, 1000, 1001, 1002, 1003, 1004, 1005, 1006, 1007, 1008] (by decide +kernel) (by decide +kernel)
set_option maxRecDepth 20000 in
theorem gL_law_X8_rats : GoodIn wsL_law (wsV RL 123 RX8 yX8_rats wsX8_rats) := goodIn_app (goodIn_of _ (by decide +kernel)) ggL_law_X8_rats
set_option maxRecDepth 20000 in
theorem ggL_law_X7_shoe : GoodIn wsL_law wsX7_shoe := goodIn_r _ [871, 19, 872, 873, 377, 457, 168, 169, 170, 412, 376, 380, 381, 382, 18, 383, 153, 413, 414, 415, 416, 154, 116, 117, 2, 118, 603, 604, 605, 451, 452, 453, 454, 455, 456, 874, 875, 876, 613, 614, 615, 610, 611, 612, 616, 617, 618, 619, 620, 621, 975, 976, 977, 978, 979, 980, 981, 982, 983, 984, 1015, 1016, 1017, 1018, 1019, 1020, 1021, 1022, 1023, 1024, 1025, 1026] (by decide +kernel) (by decide +kernel)
set_option maxRecDepth 20000 in
theorem gL_law_X7_shoe : GoodIn wsL_law (wsV RL 124 RX7 yX7_shoe wsX7_shoe) := goodIn_app (goodIn_of _ (by decide +kernel)) ggL_law_X7_shoe
set_option maxRecDepth 20000 in
theorem ggL_law_X8_shoe : GoodIn wsL_law wsX8_shoe := goodIn_r _ [880, 128, 881, 882, 99, 100, 569, 396, 397, 398, 5, 399, 102, 130, 131, 132, 425, 426, 427, 428, 626, 627, 628, 462, 463, 464, 883, 884, 885, 633, 634, 635, 636, 637, 638, 639, 640, 641, 985, 986, 987, 988, 989, 990, 991, 992, 993, 994, 995, 996, 997, 998, 999, 1000, 1001, 1002, 1003, 1004, 1005, 1006, 1007, 1008] (by decide +kernel) (by decide +kernel)
set_option maxRecDepth 20000 in
theorem gL_law_X8_shoe : GoodIn wsL_law (wsV RL 128 RX8 yX8_shoe wsX8_shoe) := goodIn_app (goodIn_of _ (by decide +kernel)) ggL_law_X8_shoe
set_option maxRecDepth 20000 in
theorem ggL_law_X7_callOff : GoodIn wsL_law wsX7_callOff := goodIn_r _ [889, 873, 890, 891, 169, 892, 549, 116, 117, 2, 118, 603, 604, 605, 616, 617, 618, 619, 620, 621] (by decide +kernel) (by decide +kernel)
set_option maxRecDepth 20000 in
theorem gL_law_X7_callOff : GoodIn wsL_law (wsV RL 129 RX7 yX7_callOff wsX7_callOff) := goodIn_app (goodIn_of _ (by decide +kernel)) ggL_law_X7_callOff
set_option maxRecDepth 20000 in
theorem ggL_law_X8_callOff : GoodIn wsL_law wsX8_callOff := goodIn_r _ [896, 128, 882, 569, 130, 131, 5, 132, 626, 627, 628, 636, 637, 638, 639, 640, 641, 985, 986, 987, 988, 989, 990, 991, 992, 993, 994, 995, 996, 997, 998, 999, 1000, 1001, 1002, 1003, 1004, 1005, 1006, 1007, 1008] (by decide +kernel) (by decide +kernel)
set_option maxRecDepth 20000 in
theorem gL_law_X8_callOff : GoodIn wsL_law (wsV RL 132 RX8 yX8_callOff wsX8_callOff) := goodIn_app (goodIn_of _ (by decide +kernel)) ggL_law_X8_callOff
set_option maxRecDepth 20000 in
theorem ggL_law_X7_seen : GoodIn wsL_law wsX7_seen := goodIn_r _ [900, 19, 35, 353, 413, 414, 415, 18, 416, 154, 380, 381, 382, 383, 153, 901, 902, 903, 34, 904, 905, 81, 82, 975, 976, 977, 978, 979, 980, 981, 982, 983, 984, 1034, 1035, 1036, 1015, 1016, 1017, 1018, 1019, 1020, 1021, 1022, 1023, 1024, 1025, 1026] (by decide +kernel) (by decide +kernel)
set_option maxRecDepth 20000 in
theorem gL_law_X7_seen : GoodIn wsL_law (wsV RL 133 RX7 yX7_seen wsX7_seen) := goodIn_app (goodIn_of _ (by decide +kernel)) ggL_law_X7_seen
set_option maxRecDepth 20000 in
theorem ggL_law_X8_seen : GoodIn wsL_law wsX8_seen := goodIn_r _ [909, 128, 371, 107, 108, 425, 426, 427, 5, 428, 102, 130, 131, 132, 396, 397, 398, 399, 985, 986, 987, 988, 989, 990, 991, 992, 993, 994, 995, 996, 997, 998, 999, 1000, 1001, 1002, 1003, 1004, 1005, 1006, 1007, 1008] (by decide +kernel) (by decide +kernel)
set_option maxRecDepth 20000 in
theorem gL_law_X8_seen : GoodIn wsL_law (wsV RL 136 RX8 yX8_seen wsX8_seen) := goodIn_app (goodIn_of _ (by decide +kernel)) ggL_law_X8_seen
set_option maxRecDepth 20000 in
theorem ggL_law_X7_forget : GoodIn wsL_law wsX7_forget := goodIn_r _ [913, 35, 353, 975, 976, 977, 978, 979, 980, 981, 982, 983, 984, 1034, 1035, 1036] (by decide +kernel) (by decide +kernel)
set_option maxRecDepth 20000 in
theorem gL_law_X7_forget : GoodIn wsL_law (wsV RL 137 RX7 yX7_forget wsX7_forget) := goodIn_app (goodIn_of _ (by decide +kernel)) ggL_law_X7_forget
set_option maxRecDepth 20000 in
theorem ggL_law_X8_forget : GoodIn wsL_law wsX8_forget := goodIn_r _ [917, 128, 371, 985, 986, 987, 988, 989, 990, 991, 992, 993, 994, 995, 996, 997, 998, 999, 1000, 1001, 1002, 1003, 1004, 1005, 1006, 1007, 1008] (by decide +kernel) (by decide +kernel)
set_option maxRecDepth 20000 in
theorem gL_law_X8_forget : GoodIn wsL_law (wsV RL 140 RX8 yX8_forget wsX8_forget) := goodIn_app (goodIn_of _ (by decide +kernel)) ggL_law_X8_forget
set_option maxRecDepth 20000 in
theorem ggL_law_X7_teams : GoodIn wsL_law wsX7_teams := goodIn_r _ [921, 35, 19, 116, 117, 2, 118, 922, 923, 924, 34, 925, 926, 927, 928, 929, 930, 931, 932, 470, 471, 18, 472, 57, 53, 54, 473, 414, 415, 416, 154, 474, 381, 382, 383, 153, 452, 453, 454, 455, 169, 456, 457, 168, 170, 933, 934, 935, 936, 905, 81, 82, 937, 682, 683, 684, 685, 686, 687, 938, 939, 940, 941, 942, 975, 976, 977, 978, 979, 980, 981, 982, 983, 984, 1015, 1016, 1017, 1018, 1019, 1020, 1021, 1022, 1023, 1024, 1025, 1026, 1034, 1035, 1036] (by decide +kernel) (by decide +kernel)
set_option maxRecDepth 20000 in
theorem gL_law_X7_teams : GoodIn wsL_law (wsV RL 141 RX7 yX7_teams wsX7_teams) := goodIn_app (goodIn_of _ (by decide +kernel)) ggL_law_X7_teams
set_option maxRecDepth 20000 in
theorem ggL_law_X8_teams : GoodIn wsL_law wsX8_teams := goodIn_r _ [946, 128, 102, 130, 131, 5, 132, 712, 713, 714, 715, 716, 717, 718, 109, 947, 948, 949, 950, 371, 107, 108, 479, 480, 481, 482, 99, 100, 462, 463, 464, 951, 952, 953, 954, 985, 986, 987, 988, 989, 990, 991, 992, 993, 994, 995, 996, 997, 998, 999, 1000, 1001, 1002, 1003, 1004, 1005, 1006, 1007, 1008] (by decide +kernel) (by decide +kernel)
set_option maxRecDepth 20000 in
theorem gL_law_X8_teams : GoodIn wsL_law (wsV RL 144 RX8 yX8_teams wsX8_teams) := goodIn_app (goodIn_of _ (by decide +kernel)) ggL_law_X8_teams
set_option maxRecDepth 20000 in
theorem ggL_law_X7_teamOf : GoodIn wsL_law wsX7_teamOf := goodIn_r _ [958, 19, 35, 413, 414, 415, 18, 416, 154, 922, 923, 924, 34, 925, 926, 927, 928, 929, 930, 931, 932, 470, 471, 472, 57, 53, 54, 473, 474, 381, 382, 383, 153, 452, 2, 453, 454, 455, 169, 456, 457, 168, 170, 933, 934, 935, 936, 905, 81, 82, 937, 682, 683, 684, 685, 686, 687, 959, 960, 961, 962, 975, 976, 977, 978, 979, 980, 981, 982, 983, 984, 1015, 1016, 1017, 1018, 1019, 1020, 1021, 1022, 1023, 1024, 1025, 1026, 1034, 1035, 1036] (by decide +kernel) (by decide +kernel)
set_option maxRecDepth 20000 in
theorem gL_law_X7_teamOf : GoodIn wsL_law (wsV RL 145 RX7 yX7_teamOf wsX7_teamOf) := goodIn_app (goodIn_of _ (by decide +kernel)) ggL_law_X7_teamOf
set_option maxRecDepth 20000 in
theorem ggL_law_X8_teamOf : GoodIn wsL_law wsX8_teamOf := goodIn_r _ [966, 128, 102, 109, 425, 426, 427, 5, 428, 130, 131, 132, 712, 713, 714, 715, 716, 717, 718, 947, 948, 949, 950, 371, 107, 108, 479, 480, 481, 482, 99, 100, 462, 463, 464, 985, 986, 987, 988, 989, 990, 991, 992, 993, 994, 995, 996, 997, 998, 999, 1000, 1001, 1002, 1003, 1004, 1005, 1006, 1007, 1008] (by decide +kernel) (by decide +kernel)
set_option maxRecDepth 20000 in
theorem gL_law_X8_teamOf : GoodIn wsL_law (wsV RL 148 RX8 yX8_teamOf wsX8_teamOf) := goodIn_app (goodIn_of _ (by decide +kernel)) ggL_law_X8_teamOf
set_option maxRecDepth 20000 in
theorem ggL_law_X7_count : GoodIn wsL_law wsX7_count := goodIn_r _ [970, 19, 351, 532, 854, 845, 24, 496, 497, 498, 35, 353, 28, 352, 15, 115, 503, 504, 505, 23, 506, 66, 975, 976, 977, 978, 979, 980, 981, 982, 983, 984, 1015, 1016, 1017, 1018, 1019, 1020, 1021, 1022, 1023, 1024, 1025, 1026, 1027, 1028, 1029, 1030, 1034, 1035, 1036, 1031, 1032, 1033, 1009, 1010, 1011, 1012, 1013, 1014] (by decide +kernel) (by decide +kernel)
set_option maxRecDepth 20000 in
theorem gL_law_X7_count : GoodIn wsL_law (wsV RL 149 RX7 yX7_count wsX7_count) := goodIn_app (goodIn_of _ (by decide +kernel)) ggL_law_X7_count
set_option maxRecDepth 20000 in
theorem ggL_law_X8_count : GoodIn wsL_law wsX8_count := goodIn_r _ [974, 128, 102, 103, 371, 370, 129, 130, 131, 5, 132, 515, 516, 517, 518, 985, 986, 987, 988, 989, 990, 991, 992, 993, 994, 995, 996, 997, 998, 999, 1000, 1001, 1002, 1003, 1004, 1005, 1006, 1007, 1008] (by decide +kernel) (by decide +kernel)
set_option maxRecDepth 20000 in
theorem gL_law_X8_count : GoodIn wsL_law (wsV RL 152 RX8 yX8_count wsX8_count) := goodIn_app (goodIn_of _ (by decide +kernel)) ggL_law_X8_count

