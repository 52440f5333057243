set_option maxRecDepth 20000 in
theorem gL_law_X7_worst : GoodIn wsL_law (wsV RL 132 RX7 yX7_worst wsX7_worst) := goodIn_app (goodIn_of _ (by decide +kernel)) ggL_law_X7_worst
set_option maxRecDepth 20000 in
theorem ggL_law_X8_worst : GoodIn wsL_law wsX8_worst := goodIn_r _ [795, 172, 769, 175, 176, 5, 177, 770, 771, 772, 773, 148, 174, 210, 211, 212, 213, 115, 214, 215, 216, 217, 114, 229, 230, 231, 232, 119, 124, 796, 797, 798, 799, 774, 775, 776, 777, 149, 778, 779, 780, 781, 977, 978, 979, 980, 981, 982, 983, 984, 985, 986, 987, 988, 989, 990, 991, 992, 993, 994, 995, 996, 997, 998, 999, 1000, 1001, 1002, 1003, 1004, 1005, 1006, 1007, 1008, 1009, 1010, 1011, 1012, 1013, 1014, 1015, 1016, 1017, 1018] (by decide +kernel) (by decide +kernel)
set_option maxRecDepth 20000 in
theorem gL_law_X8_worst : GoodIn wsL_law (wsV RL 135 RX8 yX8_worst wsX8_worst) := goodIn_app (goodIn_of _ (by decide +kernel)) ggL_law_X8_worst
set_option maxRecDepth 20000 in
theorem ggL_law_X7_clear : GoodIn wsL_law wsX7_clear := goodIn_r _ [803, 20, 753, 754, 2, 755, 155, 156, 157, 756, 757, 758, 19, 759, 76, 507, 75, 508, 804, 805, 762, 806, 789, 368, 369, 807, 787, 788, 790, 761, 763, 764, 791, 286, 287, 288, 289, 290, 291, 967, 968, 969, 970, 971, 972, 973, 974, 975, 976, 1026, 1027, 1028, 1029, 1030, 1031, 1032, 1033, 1034, 1035, 1019, 1020, 1021, 1022, 1023, 1024, 1025] (by decide +kernel) (by decide +kernel)
set_option maxRecDepth 20000 in
theorem gL_law_X7_clear : GoodIn wsL_law (wsV RL 136 RX7 yX7_clear wsX7_clear) := goodIn_app (goodIn_of _ (by decide +kernel)) ggL_law_X7_clear
set_option maxRecDepth 20000 in
theorem ggL_law_X8_clear : GoodIn wsL_law wsX8_clear := goodIn_r _ [811, 172, 769, 812, 114, 115, 148, 175, 176, 5, 177, 770, 771, 772, 773, 174, 210, 211, 212, 213, 214, 215, 216, 217, 229, 230, 231, 232, 119, 124, 796, 797, 798, 799, 774, 775, 776, 777, 149, 778, 779, 780, 781, 977, 978, 979, 980, 981, 982, 983, 984, 985, 986, 987, 988, 989, 990, 991, 992, 993, 994, 995, 996, 997, 998, 999, 1000, 1001, 1002, 1003, 1004, 1005, 1006, 1007, 1008, 1009, 1010, 1011, 1012, 1013, 1014, 1015, 1016, 1017, 1018] (by decide +kernel) (by decide +kernel)
set_option maxRecDepth 20000 in
theorem gL_law_X8_clear : GoodIn wsL_law (wsV RL 139 RX8 yX8_clear wsX8_clear) := goodIn_app (goodIn_of _ (by decide +kernel)) ggL_law_X8_clear
set_option maxRecDepth 20000 in
theorem ggL_law_X7_offer : GoodIn wsL_law wsX7_offer := goodIn_r _ [816, 23, 16, 817, 33, 222, 818, 155, 156, 2, 157, 240, 241, 242, 243, 244, 245, 159, 160, 161, 19, 162, 163, 73, 75, 164, 61, 62, 63, 165, 166, 167, 601, 602, 603, 32, 604, 89, 605, 606, 286, 287, 288, 289, 290, 291, 607, 608, 609, 610, 87, 611, 534, 535, 536, 90, 58, 59, 368, 369, 612, 247, 248, 15, 249, 50, 613, 255, 256, 257, 258, 614, 379, 380, 28, 381, 382, 383, 384, 385, 386, 82, 387, 388, 389, 390, 391, 392, 283, 284, 285, 393, 394, 395, 396, 397, 398, 399, 400, 401, 402, 403, 404, 405, 81, 406, 407, 408, 409, 302, 303, 410, 411, 412, 413, 414, 415, 416, 417, 418, 419, 420, 46, 421, 422, 423, 424, 425, 426, 198, 199, 200, 55, 819, 820, 821, 822, 76, 278, 823, 251, 252, 253, 68, 69, 70, 71, 72, 254, 523, 524, 525, 526, 92, 88, 527, 528, 529, 530, 531, 532, 533, 537, 475, 476, 477, 463, 464, 478, 297, 298, 299, 465, 538, 504, 505, 506, 507, 508, 509, 292, 293, 294, 295, 296, 300, 301, 967, 968, 969, 970, 971, 972, 973, 974, 975, 976, 1019, 1020, 1021, 1022, 1023, 1024, 1025, 1026, 1027, 1028, 1029, 1030, 1031, 1032, 1033, 1034, 1035, 1045, 1046, 1047, 1048, 1049, 1036, 1037, 1038, 1039, 1040, 1041, 1042, 1043, 1044] (by decide +kernel) (by decide +kernel)
set_option maxRecDepth 20000 in
theorem gL_law_X7_offer : GoodIn wsL_law (wsV RL 140 RX7 yX7_offer wsX7_offer) := goodIn_app (goodIn_of _ (by decide +kernel)) ggL_law_X7_offer
set_option maxRecDepth 20000 in
theorem ggL_law_X8_offer : GoodIn wsL_law wsX8_offer := goodIn_r _ [827, 172, 514, 187, 264, 174, 114, 115, 175, 176, 5, 177, 543, 544, 545, 546, 547, 125, 119, 126, 120, 127, 121, 128, 122, 129, 123, 130, 124, 623, 624, 625, 626, 627, 628, 629, 630, 631, 632, 633, 117, 265, 266, 267, 268, 431, 432, 433, 434, 435, 436, 144, 437, 438, 439, 440, 143, 214, 215, 216, 217, 229, 230, 231, 232, 441, 442, 443, 444, 116, 548, 549, 550, 551, 483, 484, 485, 486, 515, 516, 517, 518, 142, 118, 552, 553, 554, 555, 977, 978, 979, 980, 981, 982, 983, 984, 985, 986, 987, 988, 989, 990, 991, 992, 993, 994, 995, 996, 997, 998, 999, 1000, 1001, 1002, 1003, 1004, 1005, 1006, 1007, 1008, 1009, 1010, 1011, 1012, 1013, 1014, 1015, 1016, 1017, 1018] (by decide +kernel) (by decide +kernel)
set_option maxRecDepth 20000 in
theorem gL_law_X8_offer : GoodIn wsL_law (wsV RL 143 RX8 yX8_offer wsX8_offer) := goodIn_app (goodIn_of _ (by decide +kernel)) ggL_law_X8_offer
set_option maxRecDepth 20000 in
theorem ggL_law_X7_write : GoodIn wsL_law wsX7_write := goodIn_r _ [831, 41, 155, 156, 2, 157, 832, 833, 834, 40, 835, 836, 109, 837, 967, 968, 969, 970, 971, 972, 973, 974, 975, 976, 1057, 1058] (by decide +kernel) (by decide +kernel)
set_option maxRecDepth 20000 in
theorem gL_law_X7_write : GoodIn wsL_law (wsV RL 146 RX7 yX7_write wsX7_write) := goodIn_app (goodIn_of _ (by decide +kernel)) ggL_law_X7_write
set_option maxRecDepth 20000 in
theorem ggL_law_X8_write : GoodIn wsL_law wsX8_write := goodIn_r _ [841, 172, 842, 843, 141, 175, 176, 5, 177, 977, 978, 979, 980, 981, 982, 983, 984, 985, 986, 987, 988, 989, 990, 991, 992, 993, 994, 995, 996, 997, 998, 999, 1000, 1001, 1002, 1003, 1004, 1005, 1006, 1007, 1008, 1009, 1010, 1011, 1012, 1013, 1014, 1015, 1016, 1017, 1018] (by decide +kernel) (by decide +kernel)
set_option maxRecDepth 20000 in
theorem gL_law_X8_write : GoodIn wsL_law (wsV RL 150 RX8 yX8_write wsX8_write) := goodIn_app (goodIn_of _ (by decide +kernel)) ggL_law_X8_write
set_option maxRecDepth 20000 in
theorem ggL_law_X7_wipe : GoodIn wsL_law wsX7_wipe := goodIn_r _ [847, 41, 848, 967, 968, 969, 970, 971, 972, 973, 974, 975, 976, 1057, 1058] (by decide +kernel) (by decide +kernel)
set_option maxRecDepth 20000 in
theorem gL_law_X7_wipe : GoodIn wsL_law (wsV RL 151 RX7 yX7_wipe wsX7_wipe) := goodIn_app (goodIn_of _ (by decide +kernel)) ggL_law_X7_wipe
set_option maxRecDepth 20000 in
theorem ggL_law_X8_wipe : GoodIn wsL_law wsX8_wipe := goodIn_r _ [852, 172, 843, 977, 978, 979, 980, 981, 982, 983, 984, 985, 986, 987, 988, 989, 990, 991, 992, 993, 994, 995, 996, 997, 998, 999, 1000, 1001, 1002, 1003, 1004, 1005, 1006, 1007, 1008, 1009, 1010, 1011, 1012, 1013, 1014, 1015, 1016, 1017, 1018] (by decide +kernel) (by decide +kernel)
set_option maxRecDepth 20000 in
theorem gL_law_X8_wipe : GoodIn wsL_law (wsV RL 154 RX8 yX8_wipe wsX8_wipe) := goodIn_app (goodIn_of _ (by decide +kernel)) ggL_law_X8_wipe
set_option maxRecDepth 20000 in
theorem ggL_law_X7_fault : GoodIn wsL_law wsX7_fault := goodIn_r _ [856, 41, 16, 857, 858, 859, 40, 860, 836, 109, 861, 862, 863, 864, 865, 866, 867, 868, 869, 870, 871, 156, 2, 157, 872, 873, 874, 875, 198, 199, 15, 200, 55, 876, 202, 203, 204, 56, 241, 242, 155, 238, 239, 244, 245, 967, 968, 969, 970, 971, 972, 973, 974, 975, 976, 1057, 1058, 1019, 1020, 1021, 1022, 1023, 1024, 1025] (by decide +kernel) (by decide +kernel)
set_option maxRecDepth 20000 in
theorem gL_law_X7_fault : GoodIn wsL_law (wsV RL 155 RX7 yX7_fault wsX7_fault) := goodIn_app (goodIn_of _ (by decide +kernel)) ggL_law_X7_fault
set_option maxRecDepth 20000 in
theorem ggL_law_X8_fault : GoodIn wsL_law wsX8_fault := goodIn_r _ [880, 172, 881, 882, 883, 5, 884, 843, 141, 885, 886, 887, 888, 889, 890, 891, 892, 893, 894, 895, 114, 115, 175, 176, 177, 977, 978, 979, 980, 981, 982, 983, 984, 985, 986, 987, 988, 989, 990, 991, 992, 993, 994, 995, 996, 997, 998, 999, 1000, 1001, 1002, 1003, 1004, 1005, 1006, 1007, 1008, 1009, 1010, 1011, 1012, 1013, 1014, 1015, 1016, 1017, 1018] (by decide +kernel) (by decide +kernel)
set_option maxRecDepth 20000 in
theorem gL_law_X8_fault : GoodIn wsL_law (wsV RL 158 RX8 yX8_fault wsX8_fault) := goodIn_app (goodIn_of _ (by decide +kernel)) ggL_law_X8_fault
set_option maxRecDepth 20000 in
theorem ggL_law_X7_done : GoodIn wsL_law wsX7_done := goodIn_r _ [899, 41, 16, 848, 900, 857, 858, 859, 40, 860, 836, 109, 861, 862, 863, 864, 865, 866, 867, 868, 869, 870, 871, 156, 2, 157, 872, 873, 874, 875, 198, 199, 15, 200, 55, 876, 202, 203, 204, 56, 241, 242, 155, 238, 239, 244, 245, 901, 902, 903, 904, 905, 906, 234, 235, 236, 20, 193, 194, 195, 196, 197, 201, 237, 240, 243, 205, 58, 59, 246, 247, 248, 249, 50, 250, 251, 252, 19, 253, 163, 68, 69, 70, 71, 72, 76, 73, 75, 254, 255, 256, 257, 258, 907, 500, 501, 502, 503, 504, 505, 506, 507, 508, 509, 283, 284, 285, 286, 287, 288, 289, 290, 291, 292, 293, 294, 295, 296, 297, 298, 299, 300, 301, 302, 303, 908, 270, 271, 272, 273, 274, 275, 276, 277, 278, 279, 280, 281, 282, 909, 967, 968, 969, 970, 971, 972, 973, 974, 975, 976, 1057, 1058, 1019, 1020, 1021, 1022, 1023, 1024, 1025, 1026, 1027, 1028, 1029, 1030, 1031, 1032, 1033, 1034, 1035] (by decide +kernel) (by decide +kernel)
set_option maxRecDepth 20000 in
theorem gL_law_X7_done : GoodIn wsL_law (wsV RL 159 RX7 yX7_done wsX7_done) := goodIn_app (goodIn_of _ (by decide +kernel)) ggL_law_X7_done
set_option maxRecDepth 20000 in
theorem ggL_law_X8_done : GoodIn wsL_law wsX8_done := goodIn_r _ [913, 172, 843, 141, 117, 174, 881, 882, 883, 5, 884, 885, 886, 887, 888, 889, 890, 891, 892, 893, 894, 895, 114, 115, 175, 176, 177, 914, 915, 916, 917, 265, 266, 267, 268, 119, 120, 121, 122, 123, 124, 515, 516, 517, 518, 142, 118, 229, 230, 231, 232, 308, 309, 310, 311, 312, 313, 314, 315, 977, 978, 979, 980, 981, 982, 983, 984, 985, 986, 987, 988, 989, 990, 991, 992, 993, 994, 995, 996, 997, 998, 999, 1000, 1001, 1002, 1003, 1004, 1005, 1006, 1007, 1008, 1009, 1010, 1011, 1012, 1013, 1014, 1015, 1016, 1017, 1018] (by decide +kernel) (by decide +kernel)
set_option maxRecDepth 20000 in
theorem gL_law_X8_done : GoodIn wsL_law (wsV RL 162 RX8 yX8_done wsX8_done) := goodIn_app (goodIn_of _ (by decide +kernel)) ggL_law_X8_done
set_option maxRecDepth 20000 in
theorem ggL_law_X7_keep : GoodIn wsL_law wsX7_keep := goodIn_r _ [921, 20, 25, 818, 922, 923, 2, 924, 155, 156, 157, 925, 926, 927, 928, 21, 22, 929, 530, 531, 19, 532, 163, 68, 533, 534, 535, 536, 69, 70, 71, 72, 73, 75, 967, 968, 969, 970, 971, 972, 973, 974, 975, 976, 1026, 1027, 1028, 1029, 1030, 1031, 1032, 1033, 1034, 1035] (by decide +kernel) (by decide +kernel)
set_option maxRecDepth 20000 in
theorem gL_law_X7_keep : GoodIn wsL_law (wsV RL 163 RX7 yX7_keep wsX7_keep) := goodIn_app (goodIn_of _ (by decide +kernel)) ggL_law_X7_keep
set_option maxRecDepth 20000 in
theorem ggL_law_X8_keep : GoodIn wsL_law wsX8_keep := goodIn_r _ [933, 172, 132, 131, 174, 133, 119, 134, 120, 135, 121, 136, 122, 137, 123, 138, 124, 175, 176, 5, 177, 977, 978, 979, 980, 981, 982, 983, 984, 985, 986, 987, 988, 989, 990, 991, 992, 993, 994, 995, 996, 997, 998, 999, 1000, 1001, 1002, 1003, 1004, 1005, 1006, 1007, 1008, 1009, 1010, 1011, 1012, 1013, 1014, 1015, 1016, 1017, 1018] (by decide +kernel) (by decide +kernel)
set_option maxRecDepth 20000 in
theorem gL_law_X8_keep : GoodIn wsL_law (wsV RL 166 RX8 yX8_keep wsX8_keep) := goodIn_app (goodIn_of _ (by decide +kernel)) ggL_law_X8_keep
set_option maxRecDepth 20000 in
theorem ggL_law_X7_again : GoodIn wsL_law wsX7_again := goodIn_r _ [937, 25, 20, 818, 922, 923, 2, 924, 155, 156, 157, 925, 926, 927, 928, 21, 22, 938, 939, 940, 19, 941, 76, 507, 75, 508, 942, 247, 248, 15, 249, 50, 929, 530, 531, 532, 163, 68, 533, 534, 535, 536, 69, 70, 71, 72, 73, 967, 968, 969, 970, 971, 972, 973, 974, 975, 976, 1026, 1027, 1028, 1029, 1030, 1031, 1032, 1033, 1034, 1035, 1019, 1020, 1021, 1022, 1023, 1024, 1025] (by decide +kernel) (by decide +kernel)
set_option maxRecDepth 20000 in
theorem gL_law_X7_again : GoodIn wsL_law (wsV RL 167 RX7 yX7_again wsX7_again) := goodIn_app (goodIn_of _ (by decide +kernel)) ggL_law_X7_again
set_option maxRecDepth 20000 in
theorem ggL_law_X8_again : GoodIn wsL_law wsX8_again := goodIn_r _ [946, 172, 132, 131, 174, 119, 133, 120, 134, 121, 135, 122, 136, 123, 137, 124, 138, 175, 176, 5, 177, 947, 948, 949, 950, 117, 977, 978, 979, 980, 981, 982, 983, 984, 985, 986, 987, 988, 989, 990, 991, 992, 993, 994, 995, 996, 997, 998, 999, 1000, 1001, 1002, 1003, 1004, 1005, 1006, 1007, 1008, 1009, 1010, 1011, 1012, 1013, 1014, 1015, 1016, 1017, 1018] (by decide +kernel) (by decide +kernel)
set_option maxRecDepth 20000 in
theorem gL_law_X8_again : GoodIn wsL_law (wsV RL 170 RX8 yX8_again wsX8_again) := goodIn_app (goodIn_of _ (by decide +kernel)) ggL_law_X8_again
set_option maxRecDepth 20000 in
theorem ggL_law_X7_count : GoodIn wsL_law wsX7_count := goodIn_r _ [954, 16, 817, 638, 20, 818, 41, 848, 955, 956, 957, 19, 958, 163, 591, 330, 331, 332, 73, 959, 960, 961, 15, 962, 57, 48, 258, 247, 248, 249, 50, 967, 968, 969, 970, 971, 972, 973, 974, 975, 976, 1019, 1020, 1021, 1022, 1023, 1024, 1025, 1026, 1027, 1028, 1029, 1030, 1031, 1032, 1033, 1034, 1035, 1057, 1058] (by decide +kernel) (by decide +kernel)
set_option maxRecDepth 20000 in
theorem gL_law_X7_count : GoodIn wsL_law (wsV RL 171 RX7 yX7_count wsX7_count) := goodIn_app (goodIn_of _ (by decide +kernel)) ggL_law_X7_count
set_option maxRecDepth 20000 in
theorem ggL_law_X8_count : GoodIn wsL_law wsX8_count := goodIn_r _ [966, 172, 174, 117, 114, 115, 843, 312, 313, 314, 5, 315, 124, 977, 978, 979, 980, 981, 982, 983, 984, 985, 986, 987, 988, 989, 990, 991, 992, 993, 994, 995, 996, 997, 998, 999, 1000, 1001, 1002, 1003, 1004, 1005, 1006, 1007, 1008, 1009, 1010, 1011, 1012, 1013, 1014, 1015, 1016, 1017, 1018] (by decide +kernel) (by decide +kernel)
set_option maxRecDepth 20000 in
theorem gL_law_X8_count : GoodIn wsL_law (wsV RL 174 RX8 yX8_count wsX8_count) := goodIn_app (goodIn_of _ (by decide +kernel)) ggL_law_X8_count
