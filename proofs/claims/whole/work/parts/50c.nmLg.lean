set_option maxRecDepth 20000 in
theorem ggL_law_X8_weight : GoodIn wsL_law wsX8_weight := goodIn_r _ [577, 172, 214, 215, 216, 5, 217, 114, 175, 176, 177, 578, 579, 580, 581, 174, 119, 312, 313, 314, 315, 124, 977, 978, 979, 980, 981, 982, 983, 984, 985, 986, 987, 988, 989, 990, 991, 992, 993, 994, 995, 996, 997, 998, 999, 1000, 1001, 1002, 1003, 1004, 1005, 1006, 1007, 1008, 1009, 1010, 1011, 1012, 1013, 1014, 1015, 1016, 1017, 1018] (by decide +kernel) (by decide +kernel)
set_option maxRecDepth 20000 in
theorem gL_law_X8_weight : GoodIn wsL_law (wsV RL 93 RX8 yX8_weight wsX8_weight) := goodIn_app (goodIn_of _ (by decide +kernel)) ggL_law_X8_weight
set_option maxRecDepth 20000 in
theorem ggL_law_X7_heavy : GoodIn wsL_law wsX7_heavy := goodIn_r _ [585, 16, 20, 273, 198, 199, 15, 200, 55, 156, 2, 157, 155, 586, 587, 588, 19, 589, 163, 590, 570, 571, 572, 76, 278, 58, 59, 573, 365, 366, 367, 75, 73, 368, 369, 302, 303, 279, 280, 281, 282, 591, 330, 331, 332, 967, 968, 969, 970, 971, 972, 973, 974, 975, 976, 1019, 1020, 1021, 1022, 1023, 1024, 1025, 1026, 1027, 1028, 1029, 1030, 1031, 1032, 1033, 1034, 1035] (by decide +kernel) (by decide +kernel)
set_option maxRecDepth 20000 in
theorem gL_law_X7_heavy : GoodIn wsL_law (wsV RL 94 RX7 yX7_heavy wsX7_heavy) := goodIn_app (goodIn_of _ (by decide +kernel)) ggL_law_X7_heavy
set_option maxRecDepth 20000 in
theorem ggL_law_X8_heavy : GoodIn wsL_law wsX8_heavy := goodIn_r _ [595, 172, 596, 214, 215, 216, 5, 217, 114, 175, 176, 177, 543, 544, 545, 546, 174, 547, 125, 119, 126, 120, 127, 121, 128, 122, 129, 123, 130, 124, 578, 579, 580, 581, 312, 313, 314, 315, 308, 309, 310, 311, 552, 553, 554, 555, 977, 978, 979, 980, 981, 982, 983, 984, 985, 986, 987, 988, 989, 990, 991, 992, 993, 994, 995, 996, 997, 998, 999, 1000, 1001, 1002, 1003, 1004, 1005, 1006, 1007, 1008, 1009, 1010, 1011, 1012, 1013, 1014, 1015, 1016, 1017, 1018] (by decide +kernel) (by decide +kernel)
set_option maxRecDepth 20000 in
theorem gL_law_X8_heavy : GoodIn wsL_law (wsV RL 97 RX8 yX8_heavy wsX8_heavy) := goodIn_app (goodIn_of _ (by decide +kernel)) ggL_law_X8_heavy
set_option maxRecDepth 20000 in
theorem ggL_law_X7_fewest : GoodIn wsL_law wsX7_fewest := goodIn_r _ [600, 16, 33, 20, 222, 273, 198, 199, 15, 200, 55, 156, 2, 157, 240, 241, 242, 155, 601, 602, 603, 32, 604, 89, 605, 606, 286, 287, 288, 289, 290, 291, 607, 608, 609, 610, 87, 611, 534, 535, 536, 90, 58, 59, 368, 369, 612, 247, 248, 249, 50, 613, 255, 256, 257, 258, 614, 379, 380, 28, 381, 382, 383, 384, 385, 386, 82, 387, 388, 389, 390, 391, 392, 283, 284, 285, 393, 394, 395, 396, 397, 398, 399, 400, 401, 402, 403, 404, 405, 81, 406, 407, 408, 409, 302, 303, 410, 411, 412, 413, 414, 415, 416, 417, 418, 419, 420, 46, 421, 422, 423, 424, 425, 426, 967, 968, 969, 970, 971, 972, 973, 974, 975, 976, 1026, 1027, 1028, 1029, 1030, 1031, 1032, 1033, 1034, 1035, 1019, 1020, 1021, 1022, 1023, 1024, 1025, 1045, 1046, 1047, 1048, 1049, 1036, 1037, 1038, 1039, 1040, 1041, 1042, 1043, 1044] (by decide +kernel) (by decide +kernel)
set_option maxRecDepth 20000 in
theorem gL_law_X7_fewest : GoodIn wsL_law (wsV RL 98 RX7 yX7_fewest wsX7_fewest) := goodIn_app (goodIn_of _ (by decide +kernel)) ggL_law_X7_fewest
set_option maxRecDepth 20000 in
theorem ggL_law_X8_fewest : GoodIn wsL_law wsX8_fewest := goodIn_r _ [618, 172, 187, 214, 215, 216, 5, 217, 114, 175, 176, 177, 543, 544, 545, 546, 174, 547, 125, 119, 126, 120, 127, 121, 128, 122, 129, 123, 130, 124, 619, 620, 621, 622, 308, 309, 310, 311, 312, 313, 314, 315, 623, 624, 625, 626, 115, 627, 628, 629, 630, 631, 632, 633, 117, 265, 266, 267, 268, 431, 432, 433, 434, 435, 436, 144, 437, 438, 439, 440, 143, 229, 230, 231, 232, 441, 442, 443, 444, 116, 552, 553, 554, 555, 977, 978, 979, 980, 981, 982, 983, 984, 985, 986, 987, 988, 989, 990, 991, 992, 993, 994, 995, 996, 997, 998, 999, 1000, 1001, 1002, 1003, 1004, 1005, 1006, 1007, 1008, 1009, 1010, 1011, 1012, 1013, 1014, 1015, 1016, 1017, 1018] (by decide +kernel) (by decide +kernel)
set_option maxRecDepth 20000 in
theorem gL_law_X8_fewest : GoodIn wsL_law (wsV RL 101 RX8 yX8_fewest wsX8_fewest) := goodIn_app (goodIn_of _ (by decide +kernel)) ggL_law_X8_fewest
set_option maxRecDepth 20000 in
theorem ggL_law_X7_proof : GoodIn wsL_law wsX7_proof := goodIn_r _ [637, 16, 638, 33, 20, 222, 273, 198, 199, 15, 200, 55, 156, 2, 157, 240, 241, 242, 155, 639, 608, 609, 32, 610, 87, 611, 534, 535, 536, 89, 605, 90, 58, 59, 368, 369, 612, 247, 248, 249, 50, 613, 255, 256, 257, 258, 614, 379, 380, 28, 381, 382, 383, 384, 385, 386, 82, 387, 388, 389, 390, 391, 392, 283, 284, 285, 286, 287, 288, 289, 290, 291, 393, 394, 395, 396, 397, 398, 399, 400, 401, 402, 403, 404, 405, 81, 406, 407, 408, 409, 302, 303, 410, 411, 412, 413, 414, 415, 416, 417, 418, 419, 420, 46, 421, 422, 423, 424, 425, 426, 967, 968, 969, 970, 971, 972, 973, 974, 975, 976, 1019, 1020, 1021, 1022, 1023, 1024, 1025, 1026, 1027, 1028, 1029, 1030, 1031, 1032, 1033, 1034, 1035, 1045, 1046, 1047, 1048, 1049, 1036, 1037, 1038, 1039, 1040, 1041, 1042, 1043, 1044] (by decide +kernel) (by decide +kernel)
set_option maxRecDepth 20000 in
theorem gL_law_X7_proof : GoodIn wsL_law (wsV RL 102 RX7 yX7_proof wsX7_proof) := goodIn_app (goodIn_of _ (by decide +kernel)) ggL_law_X7_proof
set_option maxRecDepth 20000 in
theorem ggL_law_X8_proof : GoodIn wsL_law wsX8_proof := goodIn_r _ [643, 172, 187, 115, 214, 215, 216, 5, 217, 114, 175, 176, 177, 543, 544, 545, 546, 174, 547, 125, 119, 126, 120, 127, 121, 128, 122, 129, 123, 130, 124, 619, 620, 621, 622, 308, 309, 310, 311, 312, 313, 314, 315, 630, 631, 632, 633, 117, 265, 266, 267, 268, 431, 432, 433, 434, 435, 436, 144, 437, 438, 439, 440, 143, 229, 230, 231, 232, 441, 442, 443, 444, 116, 552, 553, 554, 555, 977, 978, 979, 980, 981, 982, 983, 984, 985, 986, 987, 988, 989, 990, 991, 992, 993, 994, 995, 996, 997, 998, 999, 1000, 1001, 1002, 1003, 1004, 1005, 1006, 1007, 1008, 1009, 1010, 1011, 1012, 1013, 1014, 1015, 1016, 1017, 1018] (by decide +kernel) (by decide +kernel)
set_option maxRecDepth 20000 in
theorem gL_law_X8_proof : GoodIn wsL_law (wsV RL 105 RX8 yX8_proof wsX8_proof) := goodIn_app (goodIn_of _ (by decide +kernel)) ggL_law_X8_proof
set_option maxRecDepth 20000 in
theorem ggL_law_X7_grew : GoodIn wsL_law wsX7_grew := goodIn_r _ [647, 37, 648, 649, 237, 238, 2, 239, 155, 156, 157, 967, 968, 969, 970, 971, 972, 973, 974, 975, 976, 1050, 1051, 1052, 1053, 1054, 1055, 1056] (by decide +kernel) (by decide +kernel)
set_option maxRecDepth 20000 in
theorem gL_law_X7_grew : GoodIn wsL_law (wsV RL 106 RX7 yX7_grew wsX7_grew) := goodIn_app (goodIn_of _ (by decide +kernel)) ggL_law_X7_grew
set_option maxRecDepth 20000 in
theorem ggL_law_X8_grew : GoodIn wsL_law wsX8_grew := goodIn_r _ [653, 172, 263, 514, 139, 140, 175, 176, 5, 177, 977, 978, 979, 980, 981, 982, 983, 984, 985, 986, 987, 988, 989, 990, 991, 992, 993, 994, 995, 996, 997, 998, 999, 1000, 1001, 1002, 1003, 1004, 1005, 1006, 1007, 1008, 1009, 1010, 1011, 1012, 1013, 1014, 1015, 1016, 1017, 1018] (by decide +kernel) (by decide +kernel)
set_option maxRecDepth 20000 in
theorem gL_law_X8_grew : GoodIn wsL_law (wsV RL 109 RX8 yX8_grew wsX8_grew) := goodIn_app (goodIn_of _ (by decide +kernel)) ggL_law_X8_grew
set_option maxRecDepth 20000 in
theorem ggL_law_X7_over : GoodIn wsL_law wsX7_over := goodIn_r _ [657, 20, 325, 326, 327, 19, 328, 163, 156, 2, 157, 658, 659, 660, 661, 76, 278, 75, 68, 58, 59, 967, 968, 969, 970, 971, 972, 973, 974, 975, 976, 1026, 1027, 1028, 1029, 1030, 1031, 1032, 1033, 1034, 1035, 1019, 1020, 1021, 1022, 1023, 1024, 1025] (by decide +kernel) (by decide +kernel)
set_option maxRecDepth 20000 in
theorem gL_law_X7_over : GoodIn wsL_law (wsV RL 110 RX7 yX7_over wsX7_over) := goodIn_app (goodIn_of _ (by decide +kernel)) ggL_law_X7_over
set_option maxRecDepth 20000 in
theorem ggL_law_X8_over : GoodIn wsL_law wsX8_over := goodIn_r _ [665, 172, 337, 338, 339, 5, 340, 174, 175, 176, 177, 666, 667, 668, 669, 124, 119, 977, 978, 979, 980, 981, 982, 983, 984, 985, 986, 987, 988, 989, 990, 991, 992, 993, 994, 995, 996, 997, 998, 999, 1000, 1001, 1002, 1003, 1004, 1005, 1006, 1007, 1008, 1009, 1010, 1011, 1012, 1013, 1014, 1015, 1016, 1017, 1018] (by decide +kernel) (by decide +kernel)
set_option maxRecDepth 20000 in
theorem gL_law_X8_over : GoodIn wsL_law (wsV RL 113 RX8 yX8_over wsX8_over) := goodIn_app (goodIn_of _ (by decide +kernel)) ggL_law_X8_over
set_option maxRecDepth 20000 in
theorem ggL_law_X7_when : GoodIn wsL_law wsX7_when := goodIn_r _ [673, 20, 37, 674, 325, 326, 327, 19, 328, 163, 156, 2, 157, 329, 330, 331, 332, 73, 675, 676, 677, 36, 678, 104, 679, 100, 680, 681, 298, 682, 683, 684, 685, 686, 98, 687, 688, 659, 660, 661, 76, 278, 75, 68, 58, 59, 689, 690, 691, 692, 99, 693, 694, 695, 696, 697, 297, 299, 967, 968, 969, 970, 971, 972, 973, 974, 975, 976, 1050, 1051, 1052, 1053, 1054, 1055, 1056, 1026, 1027, 1028, 1029, 1030, 1031, 1032, 1033, 1034, 1035, 1019, 1020, 1021, 1022, 1023, 1024, 1025] (by decide +kernel) (by decide +kernel)
set_option maxRecDepth 20000 in
theorem gL_law_X7_when : GoodIn wsL_law (wsV RL 114 RX7 yX7_when wsX7_when) := goodIn_app (goodIn_of _ (by decide +kernel)) ggL_law_X7_when
set_option maxRecDepth 20000 in
theorem ggL_law_X8_when : GoodIn wsL_law wsX8_when := goodIn_r _ [701, 172, 145, 337, 338, 339, 5, 340, 174, 175, 176, 177, 312, 313, 314, 315, 124, 702, 703, 704, 705, 139, 122, 140, 666, 667, 668, 669, 119, 706, 707, 708, 709, 977, 978, 979, 980, 981, 982, 983, 984, 985, 986, 987, 988, 989, 990, 991, 992, 993, 994, 995, 996, 997, 998, 999, 1000, 1001, 1002, 1003, 1004, 1005, 1006, 1007, 1008, 1009, 1010, 1011, 1012, 1013, 1014, 1015, 1016, 1017, 1018] (by decide +kernel) (by decide +kernel)
set_option maxRecDepth 20000 in
theorem gL_law_X8_when : GoodIn wsL_law (wsV RL 118 RX8 yX8_when wsX8_when) := goodIn_app (goodIn_of _ (by decide +kernel)) ggL_law_X8_when
set_option maxRecDepth 20000 in
theorem ggL_law_X7_wrong : GoodIn wsL_law wsX7_wrong := goodIn_r _ [713, 37, 675, 676, 677, 36, 678, 104, 679, 100, 680, 681, 298, 682, 683, 684, 685, 686, 98, 687, 688, 659, 660, 19, 661, 76, 278, 75, 68, 58, 2, 59, 689, 690, 691, 692, 99, 967, 968, 969, 970, 971, 972, 973, 974, 975, 976, 1050, 1051, 1052, 1053, 1054, 1055, 1056, 1026, 1027, 1028, 1029, 1030, 1031, 1032, 1033, 1034, 1035, 1019, 1020, 1021, 1022, 1023, 1024, 1025] (by decide +kernel) (by decide +kernel)
set_option maxRecDepth 20000 in
theorem gL_law_X7_wrong : GoodIn wsL_law (wsV RL 119 RX7 yX7_wrong wsX7_wrong) := goodIn_app (goodIn_of _ (by decide +kernel)) ggL_law_X7_wrong
set_option maxRecDepth 20000 in
theorem ggL_law_X8_wrong : GoodIn wsL_law wsX8_wrong := goodIn_r _ [717, 172, 702, 703, 704, 5, 705, 174, 145, 139, 122, 140, 666, 667, 668, 669, 124, 119, 312, 313, 314, 315, 977, 978, 979, 980, 981, 982, 983, 984, 985, 986, 987, 988, 989, 990, 991, 992, 993, 994, 995, 996, 997, 998, 999, 1000, 1001, 1002, 1003, 1004, 1005, 1006, 1007, 1008, 1009, 1010, 1011, 1012, 1013, 1014, 1015, 1016, 1017, 1018] (by decide +kernel) (by decide +kernel)
set_option maxRecDepth 20000 in
theorem gL_law_X8_wrong : GoodIn wsL_law (wsV RL 122 RX8 yX8_wrong wsX8_wrong) := goodIn_app (goodIn_of _ (by decide +kernel)) ggL_law_X8_wrong
set_option maxRecDepth 20000 in
theorem ggL_law_X7_ways : GoodIn wsL_law wsX7_ways := goodIn_r _ [721, 16, 722, 37, 273, 198, 199, 15, 200, 55, 156, 2, 157, 723, 724, 725, 36, 726, 104, 727, 679, 101, 103, 728, 280, 281, 19, 282, 76, 278, 75, 58, 59, 729, 286, 287, 288, 289, 290, 291, 368, 369, 689, 690, 691, 692, 99, 687, 683, 684, 685, 686, 98, 730, 731, 732, 733, 102, 688, 659, 660, 661, 68, 734, 166, 62, 167, 735, 736, 737, 738, 739, 740, 741, 742, 967, 968, 969, 970, 971, 972, 973, 974, 975, 976, 1019, 1020, 1021, 1022, 1023, 1024, 1025, 1050, 1051, 1052, 1053, 1054, 1055, 1056, 1026, 1027, 1028, 1029, 1030, 1031, 1032, 1033, 1034, 1035] (by decide +kernel) (by decide +kernel)
set_option maxRecDepth 20000 in
theorem gL_law_X7_ways : GoodIn wsL_law (wsV RL 123 RX7 yX7_ways wsX7_ways) := goodIn_app (goodIn_of _ (by decide +kernel)) ggL_law_X7_ways
set_option maxRecDepth 20000 in
theorem ggL_law_X8_ways : GoodIn wsL_law wsX8_ways := goodIn_r _ [746, 172, 747, 174, 119, 140, 122, 139, 748, 146, 147, 214, 215, 216, 5, 217, 114, 175, 176, 177, 312, 313, 314, 315, 124, 666, 667, 668, 669, 977, 978, 979, 980, 981, 982, 983, 984, 985, 986, 987, 988, 989, 990, 991, 992, 993, 994, 995, 996, 997, 998, 999, 1000, 1001, 1002, 1003, 1004, 1005, 1006, 1007, 1008, 1009, 1010, 1011, 1012, 1013, 1014, 1015, 1016, 1017, 1018] (by decide +kernel) (by decide +kernel)
set_option maxRecDepth 20000 in
theorem gL_law_X8_ways : GoodIn wsL_law (wsV RL 127 RX8 yX8_ways wsX8_ways) := goodIn_app (goodIn_of _ (by decide +kernel)) ggL_law_X8_ways
set_option maxRecDepth 20000 in
theorem ggL_law_X7_burnt : GoodIn wsL_law wsX7_burnt := goodIn_r _ [752, 16, 20, 193, 194, 195, 15, 196, 197, 198, 199, 200, 55, 156, 2, 157, 201, 202, 203, 204, 56, 753, 754, 755, 155, 756, 757, 758, 19, 759, 76, 507, 75, 508, 205, 58, 59, 760, 761, 762, 763, 764, 285, 286, 287, 288, 289, 290, 291, 967, 968, 969, 970, 971, 972, 973, 974, 975, 976, 1019, 1020, 1021, 1022, 1023, 1024, 1025, 1026, 1027, 1028, 1029, 1030, 1031, 1032, 1033, 1034, 1035] (by decide +kernel) (by decide +kernel)
set_option maxRecDepth 20000 in
theorem gL_law_X7_burnt : GoodIn wsL_law (wsV RL 128 RX7 yX7_burnt wsX7_burnt) := goodIn_app (goodIn_of _ (by decide +kernel)) ggL_law_X7_burnt
set_option maxRecDepth 20000 in
theorem ggL_law_X8_burnt : GoodIn wsL_law wsX8_burnt := goodIn_r _ [768, 172, 769, 210, 211, 212, 5, 213, 115, 214, 215, 216, 217, 114, 175, 176, 177, 770, 771, 772, 773, 148, 174, 229, 230, 231, 232, 119, 124, 774, 775, 776, 777, 149, 778, 779, 780, 781, 977, 978, 979, 980, 981, 982, 983, 984, 985, 986, 987, 988, 989, 990, 991, 992, 993, 994, 995, 996, 997, 998, 999, 1000, 1001, 1002, 1003, 1004, 1005, 1006, 1007, 1008, 1009, 1010, 1011, 1012, 1013, 1014, 1015, 1016, 1017, 1018] (by decide +kernel) (by decide +kernel)
set_option maxRecDepth 20000 in
theorem gL_law_X8_burnt : GoodIn wsL_law (wsV RL 131 RX8 yX8_burnt wsX8_burnt) := goodIn_app (goodIn_of _ (by decide +kernel)) ggL_law_X8_burnt
set_option maxRecDepth 20000 in
theorem ggL_law_X7_worst : GoodIn wsL_law wsX7_worst := goodIn_r _ [785, 20, 753, 754, 2, 755, 155, 156, 157, 756, 757, 758, 19, 759, 76, 507, 75, 508, 786, 787, 762, 788, 789, 368, 369, 790, 761, 763, 764, 791, 286, 287, 288, 289, 290, 291, 967, 968, 969, 970, 971, 972, 973, 974, 975, 976, 1026, 1027, 1028, 1029, 1030, 1031, 1032, 1033, 1034, 1035, 1019, 1020, 1021, 1022, 1023, 1024, 1025] (by decide +kernel) (by decide +kernel)
