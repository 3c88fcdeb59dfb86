set_option maxRecDepth 20000 in
theorem ggL_law_X7_init : GoodIn wsL_law wsX7_init := goodIn_r _ [8, 9, 10, 11, 12, 13, 14, 15, 16, 17, 18, 19, 20, 21, 22, 23, 24, 25, 26, 27, 28, 29, 30, 31, 32, 33, 34, 35, 36, 37, 38, 39, 40, 41, 42, 43, 44, 45, 46, 47, 48, 49, 50, 51, 52, 53, 54, 55, 56, 57, 58, 59, 60, 61, 62, 63, 64, 65, 66, 67, 68, 69, 70, 71, 72, 73, 74, 75, 76, 77, 78, 79, 80, 81, 82, 83, 84, 85, 86, 87, 88, 89, 90, 91, 92, 93, 1009, 1010, 1011, 1012, 1013, 1014, 975, 976, 977, 978, 979, 980, 981, 982, 983, 984, 1015, 1016, 1017, 1018, 1019, 1020, 1021, 1022, 1023, 1024, 1025, 1026, 1027, 1028, 1029, 1030, 1031, 1032, 1033, 1034, 1035, 1036, 1037, 1038, 1039, 1040, 1041, 1042, 1043, 1044, 1045, 1046, 1047] (by decide +kernel) (by decide +kernel)
set_option maxRecDepth 20000 in
theorem gL_law_X7_init : GoodIn wsL_law (wsX7_init) := ggL_law_X7_init
set_option maxRecDepth 20000 in
theorem ggL_law_X8_init : GoodIn wsL_law wsX8_init := goodIn_r _ [96, 97, 10, 11, 47, 98, 99, 100, 101, 102, 103, 104, 105, 30, 106, 107, 108, 109, 110, 985, 986, 987, 988, 989, 990, 991, 992, 993, 994, 995, 996, 997, 998, 999, 1000, 1001, 1002, 1003, 1004, 1005, 1006, 1007, 1008] (by decide +kernel) (by decide +kernel)
set_option maxRecDepth 20000 in
theorem gL_law_X8_init : GoodIn wsL_law (wsX8_init) := ggL_law_X8_init
set_option maxRecDepth 20000 in
theorem ggL_law_X7_write : GoodIn wsL_law wsX7_write := goodIn_r _ [114, 15, 115, 116, 117, 2, 118, 119, 120, 121, 14, 122, 123, 48, 975, 976, 977, 978, 979, 980, 981, 982, 983, 984, 1009, 1010, 1011, 1012, 1013, 1014] (by decide +kernel) (by decide +kernel)
set_option maxRecDepth 20000 in
theorem gL_law_X7_write : GoodIn wsL_law (wsV RL 13 RX7 yX7_write wsX7_write) := goodIn_app (goodIn_of _ (by decide +kernel)) ggL_law_X7_write
set_option maxRecDepth 20000 in
theorem ggL_law_X8_write : GoodIn wsL_law wsX8_write := goodIn_r _ [127, 128, 129, 98, 130, 131, 5, 132, 985, 986, 987, 988, 989, 990, 991, 992, 993, 994, 995, 996, 997, 998, 999, 1000, 1001, 1002, 1003, 1004, 1005, 1006, 1007, 1008] (by decide +kernel) (by decide +kernel)
set_option maxRecDepth 20000 in
theorem gL_law_X8_write : GoodIn wsL_law (wsV RL 17 RX8 yX8_write wsX8_write) := goodIn_app (goodIn_of _ (by decide +kernel)) ggL_law_X8_write
set_option maxRecDepth 20000 in
theorem ggL_law_X7_erase : GoodIn wsL_law wsX7_erase := goodIn_r _ [136, 15, 115, 975, 976, 977, 978, 979, 980, 981, 982, 983, 984, 1009, 1010, 1011, 1012, 1013, 1014] (by decide +kernel) (by decide +kernel)
set_option maxRecDepth 20000 in
theorem gL_law_X7_erase : GoodIn wsL_law (wsV RL 18 RX7 yX7_erase wsX7_erase) := goodIn_app (goodIn_of _ (by decide +kernel)) ggL_law_X7_erase
set_option maxRecDepth 20000 in
theorem ggL_law_X8_erase : GoodIn wsL_law wsX8_erase := goodIn_r _ [140, 128, 129, 985, 986, 987, 988, 989, 990, 991, 992, 993, 994, 995, 996, 997, 998, 999, 1000, 1001, 1002, 1003, 1004, 1005, 1006, 1007, 1008] (by decide +kernel) (by decide +kernel)
set_option maxRecDepth 20000 in
theorem gL_law_X8_erase : GoodIn wsL_law (wsV RL 22 RX8 yX8_erase wsX8_erase) := goodIn_app (goodIn_of _ (by decide +kernel)) ggL_law_X8_erase
set_option maxRecDepth 20000 in
theorem ggL_law_X7_fault : GoodIn wsL_law wsX7_fault := goodIn_r _ [144, 145, 146, 147, 2, 148, 20, 19, 15, 149, 150, 151, 18, 152, 53, 54, 55, 56, 57, 58, 59, 60, 153, 154, 155, 61, 156, 157, 158, 14, 159, 160, 161, 123, 162, 163, 164, 165, 166, 167, 168, 169, 170, 171, 172, 173, 174, 175, 176, 177, 178, 48, 179, 180, 181, 182, 183, 184, 185, 186, 187, 188, 189, 190, 191, 192, 193, 194, 195, 196, 49, 197, 198, 199, 200, 201, 202, 203, 204, 205, 206, 207, 208, 209, 210, 211, 212, 213, 214, 215, 216, 217, 218, 219, 220, 221, 222, 223, 224, 225, 226, 227, 228, 229, 230, 231, 232, 233, 234, 235, 236, 237, 238, 239, 240, 241, 242, 243, 244, 245, 246, 247, 248, 249, 250, 251, 252, 253, 254, 255, 256, 257, 258, 68, 69, 70, 259, 260, 261, 262, 263, 264, 265, 266, 267, 268, 269, 270, 271, 272, 273, 274, 275, 276, 277, 278, 279, 280, 281, 282, 283, 284, 285, 975, 976, 977, 978, 979, 980, 981, 982, 983, 984, 1015, 1016, 1017, 1018, 1019, 1020, 1021, 1022, 1023, 1024, 1025, 1026, 1009, 1010, 1011, 1012, 1013, 1014] (by decide +kernel) (by decide +kernel)
set_option maxRecDepth 20000 in
theorem gL_law_X7_fault : GoodIn wsL_law (wsV RL 23 RX7 yX7_fault wsX7_fault) := goodIn_app (goodIn_of _ (by decide +kernel)) ggL_law_X7_fault
set_option maxRecDepth 20000 in
theorem ggL_law_X8_fault : GoodIn wsL_law wsX8_fault := goodIn_r _ [289, 128, 290, 291, 292, 293, 5, 294, 295, 296, 297, 298, 299, 300, 301, 302, 303, 99, 100, 101, 102, 304, 305, 306, 307, 308, 309, 310, 311, 312, 129, 98, 130, 131, 132, 313, 314, 315, 316, 317, 318, 319, 320, 321, 322, 323, 324, 325, 326, 327, 328, 329, 330, 331, 332, 333, 334, 335, 336, 337, 338, 339, 340, 341, 342, 343, 344, 345, 346, 985, 986, 987, 988, 989, 990, 991, 992, 993, 994, 995, 996, 997, 998, 999, 1000, 1001, 1002, 1003, 1004, 1005, 1006, 1007, 1008] (by decide +kernel) (by decide +kernel)
set_option maxRecDepth 20000 in
theorem gL_law_X8_fault : GoodIn wsL_law (wsV RL 26 RX8 yX8_fault wsX8_fault) := goodIn_app (goodIn_of _ (by decide +kernel)) ggL_law_X8_fault
set_option maxRecDepth 20000 in
theorem ggL_law_X7_house : GoodIn wsL_law wsX7_house := goodIn_r _ [350, 19, 20, 15, 115, 24, 351, 28, 352, 35, 353, 31, 354, 145, 146, 147, 2, 148, 149, 150, 151, 18, 152, 53, 54, 55, 56, 57, 58, 59, 60, 153, 154, 155, 61, 156, 157, 158, 14, 159, 160, 161, 123, 162, 163, 164, 165, 166, 167, 168, 169, 170, 171, 172, 173, 174, 175, 176, 177, 178, 48, 179, 180, 181, 182, 183, 184, 185, 186, 187, 188, 189, 190, 191, 192, 193, 194, 195, 196, 49, 197, 198, 199, 200, 201, 202, 203, 204, 205, 206, 207, 208, 209, 210, 211, 212, 213, 214, 215, 216, 217, 218, 219, 220, 221, 222, 223, 224, 225, 226, 227, 228, 229, 230, 231, 232, 233, 234, 235, 236, 237, 238, 239, 240, 241, 242, 243, 244, 245, 246, 247, 248, 249, 250, 251, 252, 253, 254, 255, 256, 257, 258, 68, 69, 70, 259, 260, 261, 262, 263, 264, 265, 266, 267, 268, 269, 270, 271, 272, 273, 274, 275, 276, 277, 278, 279, 280, 281, 282, 283, 284, 285, 355, 356, 357, 23, 358, 359, 360, 361, 362, 363, 364, 365, 66, 67, 975, 976, 977, 978, 979, 980, 981, 982, 983, 984, 1009, 1010, 1011, 1012, 1013, 1014, 1015, 1016, 1017, 1018, 1019, 1020, 1021, 1022, 1023, 1024, 1025, 1026, 1031, 1032, 1033, 1034, 1035, 1036, 1027, 1028, 1029, 1030] (by decide +kernel) (by decide +kernel)
set_option maxRecDepth 20000 in
theorem gL_law_X7_house : GoodIn wsL_law (wsV RL 27 RX7 yX7_house wsX7_house) := goodIn_app (goodIn_of _ (by decide +kernel)) ggL_law_X7_house
set_option maxRecDepth 20000 in
theorem ggL_law_X8_house : GoodIn wsL_law wsX8_house := goodIn_r _ [369, 128, 290, 99, 100, 101, 102, 103, 129, 370, 371, 106, 296, 291, 292, 293, 5, 294, 295, 297, 298, 299, 300, 301, 302, 303, 304, 305, 306, 307, 308, 309, 310, 311, 312, 98, 130, 131, 132, 313, 314, 315, 316, 317, 318, 319, 320, 321, 322, 323, 324, 325, 326, 327, 328, 329, 330, 331, 332, 333, 334, 335, 336, 337, 338, 339, 340, 341, 342, 343, 344, 345, 346, 985, 986, 987, 988, 989, 990, 991, 992, 993, 994, 995, 996, 997, 998, 999, 1000, 1001, 1002, 1003, 1004, 1005, 1006, 1007, 1008] (by decide +kernel) (by decide +kernel)
set_option maxRecDepth 20000 in
theorem gL_law_X8_house : GoodIn wsL_law (wsV RL 30 RX8 yX8_house wsX8_house) := goodIn_app (goodIn_of _ (by decide +kernel)) ggL_law_X8_house
set_option maxRecDepth 20000 in
theorem ggL_law_X7_mouse : GoodIn wsL_law wsX7_mouse := goodIn_r _ [375, 19, 376, 377, 378, 379, 24, 380, 381, 382, 18, 383, 153, 384, 385, 386, 23, 387, 360, 388, 389, 390, 391, 66, 975, 976, 977, 978, 979, 980, 981, 982, 983, 984, 1015, 1016, 1017, 1018, 1019, 1020, 1021, 1022, 1023, 1024, 1025, 1026, 1027, 1028, 1029, 1030] (by decide +kernel) (by decide +kernel)
set_option maxRecDepth 20000 in
theorem gL_law_X7_mouse : GoodIn wsL_law (wsV RL 31 RX7 yX7_mouse wsX7_mouse) := goodIn_app (goodIn_of _ (by decide +kernel)) ggL_law_X7_mouse
set_option maxRecDepth 20000 in
theorem ggL_law_X8_mouse : GoodIn wsL_law wsX8_mouse := goodIn_r _ [395, 128, 99, 396, 397, 398, 5, 399, 102, 130, 131, 132, 400, 401, 402, 403, 103, 404, 405, 406, 407, 985, 986, 987, 988, 989, 990, 991, 992, 993, 994, 995, 996, 997, 998, 999, 1000, 1001, 1002, 1003, 1004, 1005, 1006, 1007, 1008] (by decide +kernel) (by decide +kernel)
set_option maxRecDepth 20000 in
theorem gL_law_X8_mouse : GoodIn wsL_law (wsV RL 35 RX8 yX8_mouse wsX8_mouse) := goodIn_app (goodIn_of _ (by decide +kernel)) ggL_law_X8_mouse
set_option maxRecDepth 20000 in
theorem ggL_law_X7_step : GoodIn wsL_law wsX7_step := goodIn_r _ [411, 19, 412, 24, 413, 414, 415, 18, 416, 154, 417, 418, 419, 23, 420, 66, 975, 976, 977, 978, 979, 980, 981, 982, 983, 984, 1015, 1016, 1017, 1018, 1019, 1020, 1021, 1022, 1023, 1024, 1025, 1026, 1027, 1028, 1029, 1030] (by decide +kernel) (by decide +kernel)
set_option maxRecDepth 20000 in
theorem gL_law_X7_step : GoodIn wsL_law (wsV RL 36 RX7 yX7_step wsX7_step) := goodIn_app (goodIn_of _ (by decide +kernel)) ggL_law_X7_step
set_option maxRecDepth 20000 in
theorem ggL_law_X8_step : GoodIn wsL_law wsX8_step := goodIn_r _ [424, 128, 100, 103, 425, 426, 427, 5, 428, 102, 130, 131, 132, 985, 986, 987, 988, 989, 990, 991, 992, 993, 994, 995, 996, 997, 998, 999, 1000, 1001, 1002, 1003, 1004, 1005, 1006, 1007, 1008] (by decide +kernel) (by decide +kernel)
set_option maxRecDepth 20000 in
theorem gL_law_X8_step : GoodIn wsL_law (wsV RL 39 RX8 yX8_step wsX8_step) := goodIn_app (goodIn_of _ (by decide +kernel)) ggL_law_X8_step
set_option maxRecDepth 20000 in
theorem ggL_law_X7_rat : GoodIn wsL_law wsX7_rat := goodIn_r _ [432, 19, 433, 434, 435, 436, 437, 438, 18, 439, 155, 975, 976, 977, 978, 979, 980, 981, 982, 983, 984, 1015, 1016, 1017, 1018, 1019, 1020, 1021, 1022, 1023, 1024, 1025, 1026] (by decide +kernel) (by decide +kernel)
set_option maxRecDepth 20000 in
theorem gL_law_X7_rat : GoodIn wsL_law (wsV RL 40 RX7 yX7_rat wsX7_rat) := goodIn_app (goodIn_of _ (by decide +kernel)) ggL_law_X7_rat
set_option maxRecDepth 20000 in
theorem ggL_law_X8_rat : GoodIn wsL_law wsX8_rat := goodIn_r _ [443, 128, 102, 101, 130, 131, 5, 132, 985, 986, 987, 988, 989, 990, 991, 992, 993, 994, 995, 996, 997, 998, 999, 1000, 1001, 1002, 1003, 1004, 1005, 1006, 1007, 1008] (by decide +kernel) (by decide +kernel)
set_option maxRecDepth 20000 in
theorem gL_law_X8_rat : GoodIn wsL_law (wsV RL 43 RX8 yX8_rat wsX8_rat) := goodIn_app (goodIn_of _ (by decide +kernel)) ggL_law_X8_rat
set_option maxRecDepth 20000 in
theorem ggL_law_X7_as : GoodIn wsL_law wsX7_as := goodIn_r _ [447, 19, 376, 377, 380, 381, 382, 18, 383, 153, 116, 117, 2, 118, 448, 449, 450, 451, 452, 453, 454, 455, 169, 456, 457, 168, 170, 975, 976, 977, 978, 979, 980, 981, 982, 983, 984, 1015, 1016, 1017, 1018, 1019, 1020, 1021, 1022, 1023, 1024, 1025, 1026] (by decide +kernel) (by decide +kernel)
set_option maxRecDepth 20000 in
theorem gL_law_X7_as : GoodIn wsL_law (wsV RL 44 RX7 yX7_as wsX7_as) := goodIn_app (goodIn_of _ (by decide +kernel)) ggL_law_X7_as
set_option maxRecDepth 20000 in
theorem ggL_law_X8_as : GoodIn wsL_law wsX8_as := goodIn_r _ [461, 128, 99, 396, 397, 398, 5, 399, 102, 130, 131, 132, 462, 463, 464, 985, 986, 987, 988, 989, 990, 991, 992, 993, 994, 995, 996, 997, 998, 999, 1000, 1001, 1002, 1003, 1004, 1005, 1006, 1007, 1008] (by decide +kernel) (by decide +kernel)
set_option maxRecDepth 20000 in
theorem gL_law_X8_as : GoodIn wsL_law (wsV RL 47 RX8 yX8_as wsX8_as) := goodIn_app (goodIn_of _ (by decide +kernel)) ggL_law_X8_as
set_option maxRecDepth 20000 in
theorem ggL_law_X7_danger : GoodIn wsL_law wsX7_danger := goodIn_r _ [468, 19, 413, 414, 415, 18, 416, 154, 380, 381, 382, 383, 153, 469, 470, 471, 472, 57, 53, 54, 473, 474, 452, 2, 453, 454, 455, 169, 456, 457, 168, 170, 975, 976, 977, 978, 979, 980, 981, 982, 983, 984, 1015, 1016, 1017, 1018, 1019, 1020, 1021, 1022, 1023, 1024, 1025, 1026] (by decide +kernel) (by decide +kernel)
set_option maxRecDepth 20000 in
theorem gL_law_X7_danger : GoodIn wsL_law (wsV RL 48 RX7 yX7_danger wsX7_danger) := goodIn_app (goodIn_of _ (by decide +kernel)) ggL_law_X7_danger
set_option maxRecDepth 20000 in
theorem ggL_law_X8_danger : GoodIn wsL_law wsX8_danger := goodIn_r _ [478, 128, 425, 426, 427, 5, 428, 102, 130, 131, 132, 396, 397, 398, 399, 479, 480, 481, 482, 99, 100, 462, 463, 464, 985, 986, 987, 988, 989, 990, 991, 992, 993, 994, 995, 996, 997, 998, 999, 1000, 1001, 1002, 1003, 1004, 1005, 1006, 1007, 1008] (by decide +kernel) (by decide +kernel)
set_option maxRecDepth 20000 in
theorem gL_law_X8_danger : GoodIn wsL_law (wsV RL 51 RX8 yX8_danger wsX8_danger) := goodIn_app (goodIn_of _ (by decide +kernel)) ggL_law_X8_danger
set_option maxRecDepth 20000 in
theorem ggL_law_X7_put : GoodIn wsL_law wsX7_put := goodIn_r _ [486, 19, 24, 28, 413, 414, 415, 18, 416, 154, 380, 381, 382, 383, 153, 384, 385, 386, 23, 387, 360, 487, 488, 489, 27, 490, 76, 491, 492, 493, 168, 169, 170, 494, 2, 495, 496, 497, 498, 499, 500, 501, 502, 66, 503, 504, 505, 506, 975, 976, 977, 978, 979, 980, 981, 982, 983, 984, 1015, 1016, 1017, 1018, 1019, 1020, 1021, 1022, 1023, 1024, 1025, 1026, 1027, 1028, 1029, 1030, 1031, 1032, 1033] (by decide +kernel) (by decide +kernel)
set_option maxRecDepth 20000 in
theorem gL_law_X7_put : GoodIn wsL_law (wsV RL 52 RX7 yX7_put wsX7_put) := goodIn_app (goodIn_of _ (by decide +kernel)) ggL_law_X7_put
set_option maxRecDepth 20000 in
theorem ggL_law_X8_put : GoodIn wsL_law wsX8_put := goodIn_r _ [510, 128, 103, 425, 426, 427, 5, 428, 102, 130, 131, 132, 396, 397, 398, 399, 400, 401, 402, 403, 511, 512, 513, 514, 370, 104, 515, 516, 517, 518, 985, 986, 987, 988, 989, 990, 991, 992, 993, 994, 995, 996, 997, 998, 999, 1000, 1001, 1002, 1003, 1004, 1005, 1006, 1007, 1008] (by decide +kernel) (by decide +kernel)
set_option maxRecDepth 20000 in
theorem gL_law_X8_put : GoodIn wsL_law (wsV RL 55 RX8 yX8_put wsX8_put) := goodIn_app (goodIn_of _ (by decide +kernel)) ggL_law_X8_put
set_option maxRecDepth 20000 in
theorem ggL_law_X7_clear : GoodIn wsL_law wsX7_clear := goodIn_r _ [522, 28, 24, 487, 488, 489, 27, 490, 76, 491, 492, 493, 168, 169, 170, 494, 2, 495, 496, 497, 498, 503, 504, 505, 23, 506, 66, 523, 363, 364, 365, 67, 68, 69, 70, 975, 976, 977, 978, 979, 980, 981, 982, 983, 984, 1031, 1032, 1033, 1027, 1028, 1029, 1030] (by decide +kernel) (by decide +kernel)
set_option maxRecDepth 20000 in
theorem gL_law_X7_clear : GoodIn wsL_law (wsV RL 56 RX7 yX7_clear wsX7_clear) := goodIn_app (goodIn_of _ (by decide +kernel)) ggL_law_X7_clear

