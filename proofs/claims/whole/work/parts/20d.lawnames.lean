set_option maxRecDepth 20000 in
theorem ggL_law_X7_dread : GoodIn wsL_law wsX7_dread := goodIn_r _ [767, 19, 529, 377, 378, 379, 18, 380, 150, 600, 601, 2, 602, 113, 114, 115, 768, 769, 770, 771, 772, 656, 657, 658, 55, 471, 773, 751, 752, 753, 151, 754, 755, 467, 468, 469, 57, 53, 54, 470, 411, 412, 413, 449, 450, 451, 452, 166, 453, 454, 165, 167, 607, 608, 609, 610, 611, 612, 613, 614, 615, 616, 617, 618, 970, 971, 972, 973, 974, 975, 976, 977, 978, 979, 1010, 1011, 1012, 1013, 1014, 1015, 1016, 1017, 1018, 1019, 1020, 1021] (by decide +kernel) (by decide +kernel)
set_option maxRecDepth 20000 in
theorem gL_law_X7_dread : GoodIn wsL_law (wsV RL 104 RX7 yX7_dread wsX7_dread) := goodIn_app (goodIn_of _ (by decide +kernel)) ggL_law_X7_dread
set_option maxRecDepth 20000 in
theorem ggL_law_X8_dread : GoodIn wsL_law wsX8_dread := goodIn_r _ [777, 125, 566, 99, 393, 394, 395, 5, 396, 127, 128, 129, 623, 624, 625, 778, 779, 780, 781, 96, 760, 761, 762, 763, 476, 477, 478, 479, 97, 459, 460, 461, 630, 631, 632, 633, 634, 635, 636, 637, 638, 980, 981, 982, 983, 984, 985, 986, 987, 988, 989, 990, 991, 992, 993, 994, 995, 996, 997, 998, 999, 1000, 1001, 1002, 1003] (by decide +kernel) (by decide +kernel)
set_option maxRecDepth 20000 in
theorem gL_law_X8_dread : GoodIn wsL_law (wsV RL 107 RX8 yX8_dread wsX8_dread) := goodIn_app (goodIn_of _ (by decide +kernel)) ggL_law_X8_dread
set_option maxRecDepth 20000 in
theorem ggL_law_X7_hires : GoodIn wsL_law wsX7_hires := goodIn_r _ [785, 19, 24, 377, 378, 379, 18, 380, 150, 381, 382, 383, 23, 384, 357, 786, 787, 788, 2, 789, 348, 768, 769, 770, 771, 772, 656, 657, 658, 55, 471, 773, 751, 752, 753, 151, 754, 755, 467, 468, 469, 57, 53, 54, 470, 411, 412, 413, 449, 450, 451, 452, 166, 453, 454, 165, 167, 970, 971, 972, 973, 974, 975, 976, 977, 978, 979, 1010, 1011, 1012, 1013, 1014, 1015, 1016, 1017, 1018, 1019, 1020, 1021, 1022, 1023, 1024, 1025] (by decide +kernel) (by decide +kernel)
set_option maxRecDepth 20000 in
theorem gL_law_X7_hires : GoodIn wsL_law (wsV RL 108 RX7 yX7_hires wsX7_hires) := goodIn_app (goodIn_of _ (by decide +kernel)) ggL_law_X7_hires
set_option maxRecDepth 20000 in
theorem ggL_law_X8_hires : GoodIn wsL_law wsX8_hires := goodIn_r _ [793, 125, 99, 393, 394, 395, 5, 396, 127, 128, 129, 397, 398, 399, 400, 100, 778, 779, 780, 781, 96, 760, 761, 762, 763, 566, 476, 477, 478, 479, 97, 459, 460, 461, 630, 631, 632, 980, 981, 982, 983, 984, 985, 986, 987, 988, 989, 990, 991, 992, 993, 994, 995, 996, 997, 998, 999, 1000, 1001, 1002, 1003] (by decide +kernel) (by decide +kernel)
set_option maxRecDepth 20000 in
theorem gL_law_X8_hires : GoodIn wsL_law (wsV RL 111 RX8 yX8_hires wsX8_hires) := goodIn_app (goodIn_of _ (by decide +kernel)) ggL_law_X8_hires
set_option maxRecDepth 20000 in
theorem ggL_law_X7_rests : GoodIn wsL_law wsX7_rests := goodIn_r _ [797, 43, 19, 24, 494, 113, 114, 2, 115, 798, 799, 800, 42, 801, 802, 803, 804, 805, 806, 807, 808, 809, 608, 609, 610, 611, 612, 810, 769, 770, 18, 771, 772, 656, 657, 658, 55, 471, 378, 379, 380, 150, 773, 751, 752, 753, 151, 754, 755, 467, 468, 469, 57, 53, 54, 470, 411, 412, 413, 449, 450, 451, 452, 166, 453, 454, 165, 167, 811, 812, 813, 814, 815, 816, 817, 818, 819, 678, 679, 680, 681, 682, 683, 820, 821, 822, 823, 970, 971, 972, 973, 974, 975, 976, 977, 978, 979, 1022, 1023, 1024, 1025, 1036, 1037, 1038, 1039, 1040, 1010, 1011, 1012, 1013, 1014, 1015, 1016, 1017, 1018, 1019, 1020, 1021] (by decide +kernel) (by decide +kernel)
set_option maxRecDepth 20000 in
theorem gL_law_X7_rests : GoodIn wsL_law (wsV RL 112 RX7 yX7_rests wsX7_rests) := goodIn_app (goodIn_of _ (by decide +kernel)) ggL_law_X7_rests
set_option maxRecDepth 20000 in
theorem ggL_law_X8_rests : GoodIn wsL_law wsX8_rests := goodIn_r _ [827, 125, 99, 100, 127, 128, 5, 129, 828, 829, 830, 831, 832, 833, 834, 835, 566, 630, 631, 632, 397, 398, 399, 400, 778, 779, 780, 781, 96, 760, 761, 762, 763, 476, 477, 478, 479, 97, 459, 460, 461, 718, 719, 720, 980, 981, 982, 983, 984, 985, 986, 987, 988, 989, 990, 991, 992, 993, 994, 995, 996, 997, 998, 999, 1000, 1001, 1002, 1003] (by decide +kernel) (by decide +kernel)
set_option maxRecDepth 20000 in
theorem gL_law_X8_rests : GoodIn wsL_law (wsV RL 115 RX8 yX8_rests wsX8_rests) := goodIn_app (goodIn_of _ (by decide +kernel)) ggL_law_X8_rests
set_option maxRecDepth 20000 in
theorem ggL_law_X7_fund : GoodIn wsL_law wsX7_fund := goodIn_r _ [839, 19, 529, 840, 786, 787, 788, 2, 789, 348, 24, 381, 382, 383, 23, 384, 357, 768, 769, 770, 18, 771, 772, 656, 657, 658, 55, 471, 378, 379, 380, 150, 773, 751, 752, 753, 151, 754, 755, 467, 468, 469, 57, 53, 54, 470, 411, 412, 413, 449, 450, 451, 452, 166, 453, 454, 165, 167, 607, 608, 609, 610, 611, 612, 970, 971, 972, 973, 974, 975, 976, 977, 978, 979, 1010, 1011, 1012, 1013, 1014, 1015, 1016, 1017, 1018, 1019, 1020, 1021, 1022, 1023, 1024, 1025] (by decide +kernel) (by decide +kernel)
set_option maxRecDepth 20000 in
theorem gL_law_X7_fund : GoodIn wsL_law (wsV RL 116 RX7 yX7_fund wsX7_fund) := goodIn_app (goodIn_of _ (by decide +kernel)) ggL_law_X7_fund
set_option maxRecDepth 20000 in
theorem ggL_law_X8_fund : GoodIn wsL_law wsX8_fund := goodIn_r _ [844, 125, 828, 829, 830, 5, 831, 99, 100, 832, 833, 834, 835, 566, 630, 631, 632, 397, 398, 399, 400, 778, 779, 780, 781, 96, 760, 761, 762, 763, 476, 477, 478, 479, 97, 459, 460, 461, 718, 719, 720, 980, 981, 982, 983, 984, 985, 986, 987, 988, 989, 990, 991, 992, 993, 994, 995, 996, 997, 998, 999, 1000, 1001, 1002, 1003] (by decide +kernel) (by decide +kernel)
set_option maxRecDepth 20000 in
theorem gL_law_X8_fund : GoodIn wsL_law (wsV RL 119 RX8 yX8_fund wsX8_fund) := goodIn_app (goodIn_of _ (by decide +kernel)) ggL_law_X8_fund
set_option maxRecDepth 20000 in
theorem ggL_law_X7_rats : GoodIn wsL_law wsX7_rats := goodIn_r _ [848, 19, 849, 113, 114, 2, 115, 850, 851, 852, 18, 853, 61, 59, 60, 58, 854, 434, 435, 436, 152, 970, 971, 972, 973, 974, 975, 976, 977, 978, 979, 1010, 1011, 1012, 1013, 1014, 1015, 1016, 1017, 1018, 1019, 1020, 1021] (by decide +kernel) (by decide +kernel)
set_option maxRecDepth 20000 in
theorem gL_law_X7_rats : GoodIn wsL_law (wsV RL 120 RX7 yX7_rats wsX7_rats) := goodIn_app (goodIn_of _ (by decide +kernel)) ggL_law_X7_rats
set_option maxRecDepth 20000 in
theorem ggL_law_X8_rats : GoodIn wsL_law wsX8_rats := goodIn_r _ [858, 125, 99, 127, 128, 5, 129, 859, 860, 861, 862, 98, 980, 981, 982, 983, 984, 985, 986, 987, 988, 989, 990, 991, 992, 993, 994, 995, 996, 997, 998, 999, 1000, 1001, 1002, 1003] (by decide +kernel) (by decide +kernel)
set_option maxRecDepth 20000 in
theorem gL_law_X8_rats : GoodIn wsL_law (wsV RL 123 RX8 yX8_rats wsX8_rats) := goodIn_app (goodIn_of _ (by decide +kernel)) ggL_law_X8_rats
set_option maxRecDepth 20000 in
theorem ggL_law_X7_shoe : GoodIn wsL_law wsX7_shoe := goodIn_r _ [866, 19, 867, 868, 374, 454, 165, 166, 167, 409, 373, 377, 378, 379, 18, 380, 150, 410, 411, 412, 413, 151, 113, 114, 2, 115, 600, 601, 602, 448, 449, 450, 451, 452, 453, 869, 870, 871, 610, 611, 612, 607, 608, 609, 613, 614, 615, 616, 617, 618, 970, 971, 972, 973, 974, 975, 976, 977, 978, 979, 1010, 1011, 1012, 1013, 1014, 1015, 1016, 1017, 1018, 1019, 1020, 1021] (by decide +kernel) (by decide +kernel)
set_option maxRecDepth 20000 in
theorem gL_law_X7_shoe : GoodIn wsL_law (wsV RL 124 RX7 yX7_shoe wsX7_shoe) := goodIn_app (goodIn_of _ (by decide +kernel)) ggL_law_X7_shoe
set_option maxRecDepth 20000 in
theorem ggL_law_X8_shoe : GoodIn wsL_law wsX8_shoe := goodIn_r _ [875, 125, 876, 877, 96, 97, 566, 393, 394, 395, 5, 396, 99, 127, 128, 129, 422, 423, 424, 425, 623, 624, 625, 459, 460, 461, 878, 879, 880, 630, 631, 632, 633, 634, 635, 636, 637, 638, 980, 981, 982, 983, 984, 985, 986, 987, 988, 989, 990, 991, 992, 993, 994, 995, 996, 997, 998, 999, 1000, 1001, 1002, 1003] (by decide +kernel) (by decide +kernel)
set_option maxRecDepth 20000 in
theorem gL_law_X8_shoe : GoodIn wsL_law (wsV RL 128 RX8 yX8_shoe wsX8_shoe) := goodIn_app (goodIn_of _ (by decide +kernel)) ggL_law_X8_shoe
set_option maxRecDepth 20000 in
theorem ggL_law_X7_callOff : GoodIn wsL_law wsX7_callOff := goodIn_r _ [884, 868, 885, 886, 166, 887, 546, 113, 114, 2, 115, 600, 601, 602, 613, 614, 615, 616, 617, 618] (by decide +kernel) (by decide +kernel)
set_option maxRecDepth 20000 in
theorem gL_law_X7_callOff : GoodIn wsL_law (wsV RL 129 RX7 yX7_callOff wsX7_callOff) := goodIn_app (goodIn_of _ (by decide +kernel)) ggL_law_X7_callOff
set_option maxRecDepth 20000 in
theorem ggL_law_X8_callOff : GoodIn wsL_law wsX8_callOff := goodIn_r _ [891, 125, 877, 566, 127, 128, 5, 129, 623, 624, 625, 633, 634, 635, 636, 637, 638, 980, 981, 982, 983, 984, 985, 986, 987, 988, 989, 990, 991, 992, 993, 994, 995, 996, 997, 998, 999, 1000, 1001, 1002, 1003] (by decide +kernel) (by decide +kernel)
set_option maxRecDepth 20000 in
theorem gL_law_X8_callOff : GoodIn wsL_law (wsV RL 132 RX8 yX8_callOff wsX8_callOff) := goodIn_app (goodIn_of _ (by decide +kernel)) ggL_law_X8_callOff
set_option maxRecDepth 20000 in
theorem ggL_law_X7_seen : GoodIn wsL_law wsX7_seen := goodIn_r _ [895, 19, 35, 350, 410, 411, 412, 18, 413, 151, 377, 378, 379, 380, 150, 896, 897, 898, 34, 899, 900, 81, 82, 970, 971, 972, 973, 974, 975, 976, 977, 978, 979, 1029, 1030, 1031, 1010, 1011, 1012, 1013, 1014, 1015, 1016, 1017, 1018, 1019, 1020, 1021] (by decide +kernel) (by decide +kernel)
set_option maxRecDepth 20000 in
theorem gL_law_X7_seen : GoodIn wsL_law (wsV RL 133 RX7 yX7_seen wsX7_seen) := goodIn_app (goodIn_of _ (by decide +kernel)) ggL_law_X7_seen
set_option maxRecDepth 20000 in
theorem ggL_law_X8_seen : GoodIn wsL_law wsX8_seen := goodIn_r _ [904, 125, 368, 104, 105, 422, 423, 424, 5, 425, 99, 127, 128, 129, 393, 394, 395, 396, 980, 981, 982, 983, 984, 985, 986, 987, 988, 989, 990, 991, 992, 993, 994, 995, 996, 997, 998, 999, 1000, 1001, 1002, 1003] (by decide +kernel) (by decide +kernel)
set_option maxRecDepth 20000 in
theorem gL_law_X8_seen : GoodIn wsL_law (wsV RL 136 RX8 yX8_seen wsX8_seen) := goodIn_app (goodIn_of _ (by decide +kernel)) ggL_law_X8_seen
set_option maxRecDepth 20000 in
theorem ggL_law_X7_forget : GoodIn wsL_law wsX7_forget := goodIn_r _ [908, 35, 350, 970, 971, 972, 973, 974, 975, 976, 977, 978, 979, 1029, 1030, 1031] (by decide +kernel) (by decide +kernel)
set_option maxRecDepth 20000 in
theorem gL_law_X7_forget : GoodIn wsL_law (wsV RL 137 RX7 yX7_forget wsX7_forget) := goodIn_app (goodIn_of _ (by decide +kernel)) ggL_law_X7_forget
set_option maxRecDepth 20000 in
theorem ggL_law_X8_forget : GoodIn wsL_law wsX8_forget := goodIn_r _ [912, 125, 368, 980, 981, 982, 983, 984, 985, 986, 987, 988, 989, 990, 991, 992, 993, 994, 995, 996, 997, 998, 999, 1000, 1001, 1002, 1003] (by decide +kernel) (by decide +kernel)
set_option maxRecDepth 20000 in
theorem gL_law_X8_forget : GoodIn wsL_law (wsV RL 140 RX8 yX8_forget wsX8_forget) := goodIn_app (goodIn_of _ (by decide +kernel)) ggL_law_X8_forget
set_option maxRecDepth 20000 in
theorem ggL_law_X7_teams : GoodIn wsL_law wsX7_teams := goodIn_r _ [916, 35, 19, 113, 114, 2, 115, 917, 918, 919, 34, 920, 921, 922, 923, 924, 925, 926, 927, 467, 468, 18, 469, 57, 53, 54, 470, 411, 412, 413, 151, 471, 378, 379, 380, 150, 449, 450, 451, 452, 166, 453, 454, 165, 167, 928, 929, 930, 931, 900, 81, 82, 932, 678, 679, 680, 681, 682, 683, 933, 934, 935, 936, 937, 970, 971, 972, 973, 974, 975, 976, 977, 978, 979, 1010, 1011, 1012, 1013, 1014, 1015, 1016, 1017, 1018, 1019, 1020, 1021, 1029, 1030, 1031] (by decide +kernel) (by decide +kernel)
set_option maxRecDepth 20000 in
theorem gL_law_X7_teams : GoodIn wsL_law (wsV RL 141 RX7 yX7_teams wsX7_teams) := goodIn_app (goodIn_of _ (by decide +kernel)) ggL_law_X7_teams
set_option maxRecDepth 20000 in
theorem ggL_law_X8_teams : GoodIn wsL_law wsX8_teams := goodIn_r _ [941, 125, 99, 127, 128, 5, 129, 707, 708, 709, 710, 711, 712, 713, 106, 942, 943, 944, 945, 368, 104, 105, 476, 477, 478, 479, 96, 97, 459, 460, 461, 946, 947, 948, 949, 980, 981, 982, 983, 984, 985, 986, 987, 988, 989, 990, 991, 992, 993, 994, 995, 996, 997, 998, 999, 1000, 1001, 1002, 1003] (by decide +kernel) (by decide +kernel)
set_option maxRecDepth 20000 in
theorem gL_law_X8_teams : GoodIn wsL_law (wsV RL 144 RX8 yX8_teams wsX8_teams) := goodIn_app (goodIn_of _ (by decide +kernel)) ggL_law_X8_teams
set_option maxRecDepth 20000 in
theorem ggL_law_X7_teamOf : GoodIn wsL_law wsX7_teamOf := goodIn_r _ [953, 19, 35, 410, 411, 412, 18, 413, 151, 917, 918, 919, 34, 920, 921, 922, 923, 924, 925, 926, 927, 467, 468, 469, 57, 53, 54, 470, 471, 378, 379, 380, 150, 449, 2, 450, 451, 452, 166, 453, 454, 165, 167, 928, 929, 930, 931, 900, 81, 82, 932, 678, 679, 680, 681, 682, 683, 954, 955, 956, 957, 970, 971, 972, 973, 974, 975, 976, 977, 978, 979, 1010, 1011, 1012, 1013, 1014, 1015, 1016, 1017, 1018, 1019, 1020, 1021, 1029, 1030, 1031] (by decide +kernel) (by decide +kernel)
set_option maxRecDepth 20000 in
theorem gL_law_X7_teamOf : GoodIn wsL_law (wsV RL 145 RX7 yX7_teamOf wsX7_teamOf) := goodIn_app (goodIn_of _ (by decide +kernel)) ggL_law_X7_teamOf
set_option maxRecDepth 20000 in
theorem ggL_law_X8_teamOf : GoodIn wsL_law wsX8_teamOf := goodIn_r _ [961, 125, 99, 106, 422, 423, 424, 5, 425, 127, 128, 129, 707, 708, 709, 710, 711, 712, 713, 942, 943, 944, 945, 368, 104, 105, 476, 477, 478, 479, 96, 97, 459, 460, 461, 980, 981, 982, 983, 984, 985, 986, 987, 988, 989, 990, 991, 992, 993, 994, 995, 996, 997, 998, 999, 1000, 1001, 1002, 1003] (by decide +kernel) (by decide +kernel)
set_option maxRecDepth 20000 in
theorem gL_law_X8_teamOf : GoodIn wsL_law (wsV RL 148 RX8 yX8_teamOf wsX8_teamOf) := goodIn_app (goodIn_of _ (by decide +kernel)) ggL_law_X8_teamOf
set_option maxRecDepth 20000 in
theorem ggL_law_X7_count : GoodIn wsL_law wsX7_count := goodIn_r _ [965, 19, 348, 529, 849, 840, 24, 493, 494, 495, 35, 350, 28, 349, 15, 112, 500, 501, 502, 23, 503, 66, 970, 971, 972, 973, 974, 975, 976, 977, 978, 979, 1010, 1011, 1012, 1013, 1014, 1015, 1016, 1017, 1018, 1019, 1020, 1021, 1022, 1023, 1024, 1025, 1029, 1030, 1031, 1026, 1027, 1028, 1004, 1005, 1006, 1007, 1008, 1009] (by decide +kernel) (by decide +kernel)
set_option maxRecDepth 20000 in
theorem gL_law_X7_count : GoodIn wsL_law (wsV RL 149 RX7 yX7_count wsX7_count) := goodIn_app (goodIn_of _ (by decide +kernel)) ggL_law_X7_count
set_option maxRecDepth 20000 in
theorem ggL_law_X8_count : GoodIn wsL_law wsX8_count := goodIn_r _ [969, 125, 99, 100, 368, 367, 126, 127, 128, 5, 129, 512, 513, 514, 515, 980, 981, 982, 983, 984, 985, 986, 987, 988, 989, 990, 991, 992, 993, 994, 995, 996, 997, 998, 999, 1000, 1001, 1002, 1003] (by decide +kernel) (by decide +kernel)
set_option maxRecDepth 20000 in
theorem gL_law_X8_count : GoodIn wsL_law (wsV RL 152 RX8 yX8_count wsX8_count) := goodIn_app (goodIn_of _ (by decide +kernel)) ggL_law_X8_count

