set_option maxRecDepth 20000 in
theorem ggL_law_X7_init : GoodIn wsL_law wsX7_init := goodIn_r _ [9, 10, 11, 12, 13, 14, 15, 16, 17, 18, 19, 20, 21, 22, 23, 24, 25, 26, 27, 28, 29, 30, 31, 32, 33, 34, 35, 36, 37, 38, 39, 40, 41, 42, 43, 44, 45, 46, 47, 48, 49, 50, 51, 52, 53, 54, 55, 56, 57, 58, 2, 59, 60, 61, 62, 63, 64, 65, 66, 67, 68, 69, 70, 71, 72, 73, 74, 75, 76, 77, 78, 79, 80, 81, 82, 83, 84, 85, 86, 87, 88, 89, 90, 91, 92, 93, 94, 95, 96, 97, 98, 99, 100, 101, 102, 103, 104, 105, 106, 107, 108, 109, 1019, 1020, 1021, 1022, 1023, 1024, 1025, 967, 968, 969, 970, 971, 972, 973, 974, 975, 976, 1026, 1027, 1028, 1029, 1030, 1031, 1032, 1033, 1034, 1035, 1036, 1037, 1038, 1039, 1040, 1041, 1042, 1043, 1044, 1045, 1046, 1047, 1048, 1049, 1050, 1051, 1052, 1053, 1054, 1055, 1056, 1057, 1058] (by decide +kernel) (by decide +kernel)
set_option maxRecDepth 20000 in
theorem gL_law_X7_init : GoodIn wsL_law (wsX7_init) := ggL_law_X7_init
set_option maxRecDepth 20000 in
theorem ggL_law_X8_init : GoodIn wsL_law wsX8_init := goodIn_r _ [112, 113, 11, 12, 114, 115, 116, 47, 117, 118, 119, 120, 121, 122, 123, 124, 125, 126, 127, 128, 129, 130, 131, 24, 132, 133, 134, 135, 136, 137, 138, 139, 140, 141, 142, 143, 144, 145, 146, 147, 148, 149, 977, 978, 979, 980, 981, 982, 983, 984, 985, 986, 987, 988, 989, 990, 991, 992, 993, 994, 995, 996, 997, 998, 999, 1000, 1001, 1002, 1003, 1004, 1005, 1006, 1007, 1008, 1009, 1010, 1011, 1012, 1013, 1014, 1015, 1016, 1017, 1018] (by decide +kernel) (by decide +kernel)
set_option maxRecDepth 20000 in
theorem gL_law_X8_init : GoodIn wsL_law (wsX8_init) := ggL_law_X8_init
set_option maxRecDepth 20000 in
theorem ggL_law_X7_roof : GoodIn wsL_law wsX7_roof := goodIn_r _ [153, 16, 20, 25, 154, 155, 156, 2, 157, 158, 52, 53, 15, 54, 55, 56, 57, 48, 49, 50, 58, 59, 60, 61, 62, 63, 159, 160, 161, 19, 162, 163, 73, 75, 164, 165, 166, 167, 967, 968, 969, 970, 971, 972, 973, 974, 975, 976, 1019, 1020, 1021, 1022, 1023, 1024, 1025, 1026, 1027, 1028, 1029, 1030, 1031, 1032, 1033, 1034, 1035] (by decide +kernel) (by decide +kernel)
set_option maxRecDepth 20000 in
theorem gL_law_X7_roof : GoodIn wsL_law (wsV RL 13 RX7 yX7_roof wsX7_roof) := goodIn_app (goodIn_of _ (by decide +kernel)) ggL_law_X7_roof
set_option maxRecDepth 20000 in
theorem ggL_law_X8_roof : GoodIn wsL_law wsX8_roof := goodIn_r _ [171, 172, 173, 114, 115, 117, 118, 174, 132, 175, 176, 5, 177, 977, 978, 979, 980, 981, 982, 983, 984, 985, 986, 987, 988, 989, 990, 991, 992, 993, 994, 995, 996, 997, 998, 999, 1000, 1001, 1002, 1003, 1004, 1005, 1006, 1007, 1008, 1009, 1010, 1011, 1012, 1013, 1014, 1015, 1016, 1017, 1018] (by decide +kernel) (by decide +kernel)
set_option maxRecDepth 20000 in
theorem gL_law_X8_roof : GoodIn wsL_law (wsV RL 17 RX8 yX8_roof wsX8_roof) := goodIn_app (goodIn_of _ (by decide +kernel)) ggL_law_X8_roof
set_option maxRecDepth 20000 in
theorem ggL_law_X7_pitch : GoodIn wsL_law wsX7_pitch := goodIn_r _ [181, 16, 182, 155, 156, 2, 157, 967, 968, 969, 970, 971, 972, 973, 974, 975, 976, 1019, 1020, 1021, 1022, 1023, 1024, 1025] (by decide +kernel) (by decide +kernel)
set_option maxRecDepth 20000 in
theorem gL_law_X7_pitch : GoodIn wsL_law (wsV RL 18 RX7 yX7_pitch wsX7_pitch) := goodIn_app (goodIn_of _ (by decide +kernel)) ggL_law_X7_pitch
set_option maxRecDepth 20000 in
theorem ggL_law_X8_pitch : GoodIn wsL_law wsX8_pitch := goodIn_r _ [186, 172, 187, 116, 175, 176, 5, 177, 977, 978, 979, 980, 981, 982, 983, 984, 985, 986, 987, 988, 989, 990, 991, 992, 993, 994, 995, 996, 997, 998, 999, 1000, 1001, 1002, 1003, 1004, 1005, 1006, 1007, 1008, 1009, 1010, 1011, 1012, 1013, 1014, 1015, 1016, 1017, 1018] (by decide +kernel) (by decide +kernel)
set_option maxRecDepth 20000 in
theorem gL_law_X8_pitch : GoodIn wsL_law (wsV RL 22 RX8 yX8_pitch wsX8_pitch) := goodIn_app (goodIn_of _ (by decide +kernel)) ggL_law_X8_pitch
set_option maxRecDepth 20000 in
theorem ggL_law_X7_wear : GoodIn wsL_law wsX7_wear := goodIn_r _ [191, 16, 192, 193, 194, 195, 15, 196, 197, 198, 199, 200, 55, 156, 2, 157, 201, 202, 203, 204, 56, 155, 205, 58, 59, 967, 968, 969, 970, 971, 972, 973, 974, 975, 976, 1019, 1020, 1021, 1022, 1023, 1024, 1025] (by decide +kernel) (by decide +kernel)
set_option maxRecDepth 20000 in
theorem gL_law_X7_wear : GoodIn wsL_law (wsV RL 23 RX7 yX7_wear wsX7_wear) := goodIn_app (goodIn_of _ (by decide +kernel)) ggL_law_X7_wear
set_option maxRecDepth 20000 in
theorem ggL_law_X8_wear : GoodIn wsL_law wsX8_wear := goodIn_r _ [209, 172, 187, 118, 210, 211, 212, 5, 213, 115, 214, 215, 216, 217, 114, 175, 176, 177, 977, 978, 979, 980, 981, 982, 983, 984, 985, 986, 987, 988, 989, 990, 991, 992, 993, 994, 995, 996, 997, 998, 999, 1000, 1001, 1002, 1003, 1004, 1005, 1006, 1007, 1008, 1009, 1010, 1011, 1012, 1013, 1014, 1015, 1016, 1017, 1018] (by decide +kernel) (by decide +kernel)
set_option maxRecDepth 20000 in
theorem gL_law_X8_wear : GoodIn wsL_law (wsV RL 27 RX8 yX8_wear wsX8_wear) := goodIn_app (goodIn_of _ (by decide +kernel)) ggL_law_X8_wear
set_option maxRecDepth 20000 in
theorem ggL_law_X7_opening : GoodIn wsL_law wsX7_opening := goodIn_r _ [221, 16, 20, 222, 223, 193, 194, 195, 15, 196, 197, 198, 199, 200, 55, 156, 2, 157, 201, 202, 203, 204, 56, 155, 205, 58, 59, 967, 968, 969, 970, 971, 972, 973, 974, 975, 976, 1026, 1027, 1028, 1029, 1030, 1031, 1032, 1033, 1034, 1035, 1019, 1020, 1021, 1022, 1023, 1024, 1025] (by decide +kernel) (by decide +kernel)
set_option maxRecDepth 20000 in
theorem gL_law_X7_opening : GoodIn wsL_law (wsV RL 28 RX7 yX7_opening wsX7_opening) := goodIn_app (goodIn_of _ (by decide +kernel)) ggL_law_X7_opening
set_option maxRecDepth 20000 in
theorem ggL_law_X8_opening : GoodIn wsL_law wsX8_opening := goodIn_r _ [227, 172, 228, 174, 117, 210, 211, 212, 5, 213, 115, 214, 215, 216, 217, 114, 175, 176, 177, 229, 230, 231, 232, 119, 124, 977, 978, 979, 980, 981, 982, 983, 984, 985, 986, 987, 988, 989, 990, 991, 992, 993, 994, 995, 996, 997, 998, 999, 1000, 1001, 1002, 1003, 1004, 1005, 1006, 1007, 1008, 1009, 1010, 1011, 1012, 1013, 1014, 1015, 1016, 1017, 1018] (by decide +kernel) (by decide +kernel)
set_option maxRecDepth 20000 in
theorem gL_law_X8_opening : GoodIn wsL_law (wsV RL 31 RX8 yX8_opening wsX8_opening) := goodIn_app (goodIn_of _ (by decide +kernel)) ggL_law_X8_opening
set_option maxRecDepth 20000 in
theorem ggL_law_X7_lay : GoodIn wsL_law wsX7_lay := goodIn_r _ [236, 16, 20, 193, 194, 195, 15, 196, 197, 198, 199, 200, 55, 156, 2, 157, 201, 202, 203, 204, 56, 237, 238, 239, 155, 240, 241, 242, 243, 244, 245, 205, 58, 59, 246, 247, 248, 249, 50, 250, 251, 252, 19, 253, 163, 68, 69, 70, 71, 72, 76, 73, 75, 254, 255, 256, 257, 258, 967, 968, 969, 970, 971, 972, 973, 974, 975, 976, 1019, 1020, 1021, 1022, 1023, 1024, 1025, 1026, 1027, 1028, 1029, 1030, 1031, 1032, 1033, 1034, 1035] (by decide +kernel) (by decide +kernel)
set_option maxRecDepth 20000 in
theorem gL_law_X7_lay : GoodIn wsL_law (wsV RL 32 RX7 yX7_lay wsX7_lay) := goodIn_app (goodIn_of _ (by decide +kernel)) ggL_law_X7_lay
set_option maxRecDepth 20000 in
theorem ggL_law_X8_lay : GoodIn wsL_law wsX8_lay := goodIn_r _ [262, 172, 263, 187, 264, 117, 174, 210, 211, 212, 5, 213, 115, 214, 215, 216, 217, 114, 175, 176, 177, 265, 266, 267, 268, 119, 120, 121, 122, 123, 124, 977, 978, 979, 980, 981, 982, 983, 984, 985, 986, 987, 988, 989, 990, 991, 992, 993, 994, 995, 996, 997, 998, 999, 1000, 1001, 1002, 1003, 1004, 1005, 1006, 1007, 1008, 1009, 1010, 1011, 1012, 1013, 1014, 1015, 1016, 1017, 1018] (by decide +kernel) (by decide +kernel)
set_option maxRecDepth 20000 in
theorem gL_law_X8_lay : GoodIn wsL_law (wsV RL 36 RX8 yX8_lay wsX8_lay) := goodIn_app (goodIn_of _ (by decide +kernel)) ggL_law_X8_lay
set_option maxRecDepth 20000 in
theorem ggL_law_X7_strip : GoodIn wsL_law wsX7_strip := goodIn_r _ [272, 16, 20, 273, 198, 199, 15, 200, 55, 156, 2, 157, 155, 274, 275, 276, 19, 277, 76, 278, 279, 280, 281, 282, 75, 58, 59, 283, 284, 285, 286, 287, 288, 289, 290, 291, 292, 293, 294, 295, 73, 296, 297, 298, 299, 300, 301, 302, 303, 967, 968, 969, 970, 971, 972, 973, 974, 975, 976, 1019, 1020, 1021, 1022, 1023, 1024, 1025, 1026, 1027, 1028, 1029, 1030, 1031, 1032, 1033, 1034, 1035] (by decide +kernel) (by decide +kernel)
set_option maxRecDepth 20000 in
theorem gL_law_X7_strip : GoodIn wsL_law (wsV RL 37 RX7 yX7_strip wsX7_strip) := goodIn_app (goodIn_of _ (by decide +kernel)) ggL_law_X7_strip
set_option maxRecDepth 20000 in
theorem ggL_law_X8_strip : GoodIn wsL_law wsX8_strip := goodIn_r _ [307, 172, 264, 214, 215, 216, 5, 217, 114, 175, 176, 177, 308, 309, 310, 311, 174, 119, 124, 312, 313, 314, 315, 977, 978, 979, 980, 981, 982, 983, 984, 985, 986, 987, 988, 989, 990, 991, 992, 993, 994, 995, 996, 997, 998, 999, 1000, 1001, 1002, 1003, 1004, 1005, 1006, 1007, 1008, 1009, 1010, 1011, 1012, 1013, 1014, 1015, 1016, 1017, 1018] (by decide +kernel) (by decide +kernel)
set_option maxRecDepth 20000 in
theorem gL_law_X8_strip : GoodIn wsL_law (wsV RL 40 RX8 yX8_strip wsX8_strip) := goodIn_app (goodIn_of _ (by decide +kernel)) ggL_law_X8_strip
set_option maxRecDepth 20000 in
theorem ggL_law_X7_about : GoodIn wsL_law wsX7_about := goodIn_r _ [319, 20, 320, 321, 322, 323, 324, 325, 326, 327, 19, 328, 163, 156, 2, 157, 329, 330, 331, 332, 73, 967, 968, 969, 970, 971, 972, 973, 974, 975, 976, 1026, 1027, 1028, 1029, 1030, 1031, 1032, 1033, 1034, 1035] (by decide +kernel) (by decide +kernel)
set_option maxRecDepth 20000 in
theorem gL_law_X7_about : GoodIn wsL_law (wsV RL 41 RX7 yX7_about wsX7_about) := goodIn_app (goodIn_of _ (by decide +kernel)) ggL_law_X7_about
set_option maxRecDepth 20000 in
theorem ggL_law_X8_about : GoodIn wsL_law wsX8_about := goodIn_r _ [336, 172, 119, 120, 121, 122, 123, 337, 338, 339, 5, 340, 174, 175, 176, 177, 312, 313, 314, 315, 124, 977, 978, 979, 980, 981, 982, 983, 984, 985, 986, 987, 988, 989, 990, 991, 992, 993, 994, 995, 996, 997, 998, 999, 1000, 1001, 1002, 1003, 1004, 1005, 1006, 1007, 1008, 1009, 1010, 1011, 1012, 1013, 1014, 1015, 1016, 1017, 1018] (by decide +kernel) (by decide +kernel)
set_option maxRecDepth 20000 in
theorem gL_law_X8_about : GoodIn wsL_law (wsV RL 44 RX8 yX8_about wsX8_about) := goodIn_app (goodIn_of _ (by decide +kernel)) ggL_law_X8_about
set_option maxRecDepth 20000 in
theorem ggL_law_X7_left : GoodIn wsL_law wsX7_left := goodIn_r _ [344, 20, 16, 345, 325, 326, 327, 19, 328, 163, 156, 2, 157, 346, 202, 203, 15, 204, 56, 967, 968, 969, 970, 971, 972, 973, 974, 975, 976, 1026, 1027, 1028, 1029, 1030, 1031, 1032, 1033, 1034, 1035, 1019, 1020, 1021, 1022, 1023, 1024, 1025] (by decide +kernel) (by decide +kernel)
set_option maxRecDepth 20000 in
theorem gL_law_X7_left : GoodIn wsL_law (wsV RL 45 RX7 yX7_left wsX7_left) := goodIn_app (goodIn_of _ (by decide +kernel)) ggL_law_X7_left
set_option maxRecDepth 20000 in
theorem ggL_law_X8_left : GoodIn wsL_law wsX8_left := goodIn_r _ [350, 172, 115, 124, 337, 338, 339, 5, 340, 174, 175, 176, 177, 977, 978, 979, 980, 981, 982, 983, 984, 985, 986, 987, 988, 989, 990, 991, 992, 993, 994, 995, 996, 997, 998, 999, 1000, 1001, 1002, 1003, 1004, 1005, 1006, 1007, 1008, 1009, 1010, 1011, 1012, 1013, 1014, 1015, 1016, 1017, 1018] (by decide +kernel) (by decide +kernel)
set_option maxRecDepth 20000 in
theorem gL_law_X8_left : GoodIn wsL_law (wsV RL 48 RX8 yX8_left wsX8_left) := goodIn_app (goodIn_of _ (by decide +kernel)) ggL_law_X8_left
set_option maxRecDepth 20000 in
theorem ggL_law_X7_top : GoodIn wsL_law wsX7_top := goodIn_r _ [354, 16, 20, 222, 193, 194, 195, 15, 196, 197, 198, 199, 200, 55, 156, 2, 157, 201, 202, 203, 204, 56, 205, 58, 59, 355, 283, 284, 285, 286, 287, 288, 289, 290, 291, 967, 968, 969, 970, 971, 972, 973, 974, 975, 976, 1026, 1027, 1028, 1029, 1030, 1031, 1032, 1033, 1034, 1035, 1019, 1020, 1021, 1022, 1023, 1024, 1025] (by decide +kernel) (by decide +kernel)
set_option maxRecDepth 20000 in
theorem gL_law_X7_top : GoodIn wsL_law (wsV RL 49 RX7 yX7_top wsX7_top) := goodIn_app (goodIn_of _ (by decide +kernel)) ggL_law_X7_top
set_option maxRecDepth 20000 in
theorem ggL_law_X8_top : GoodIn wsL_law wsX8_top := goodIn_r _ [359, 172, 174, 210, 211, 212, 5, 213, 115, 214, 215, 216, 217, 114, 175, 176, 177, 229, 230, 231, 232, 119, 124, 977, 978, 979, 980, 981, 982, 983, 984, 985, 986, 987, 988, 989, 990, 991, 992, 993, 994, 995, 996, 997, 998, 999, 1000, 1001, 1002, 1003, 1004, 1005, 1006, 1007, 1008, 1009, 1010, 1011, 1012, 1013, 1014, 1015, 1016, 1017, 1018] (by decide +kernel) (by decide +kernel)
