set_option maxRecDepth 20000 in
theorem wsL_law_in : ∀ w ∈ wsL_law, w ∈ lw_tbl := fun w h => (goodIn_p wsL_law [65, 68, 73, 78, 81, 84, 127, 177, 214, 239, 271, 804, 316, 319, 324, 328, 936, 940, 332, 944, 336, 340, 344, 349, 949, 953, 957, 354, 961, 966, 358, 361, 364, 367, 371, 375, 379, 970, 976, 385, 390, 394, 397, 400, 407, 413, 410, 980, 984, 988, 418, 422, 427, 992, 996, 431, 1000, 436, 1004, 441, 445, 448, 1008, 452, 456, 460, 466, 471, 475, 479, 483, 487, 491, 495, 1012, 1016, 1020, 1024, 501, 1028, 505, 509, 1032, 514, 518, 1036, 1040, 523, 527, 1044, 531, 535, 1048, 1053, 539, 543, 547, 1057, 1061, 1065, 1069, 556, 1073, 560, 564, 1077, 1081, 569, 573, 1085, 579, 583, 588, 1090, 1094, 1098, 1101, 1105, 599, 1109, 604, 1113, 608, 612, 1117, 1121, 616, 620, 628, 624, 632, 636, 1125, 1129, 1133, 641, 1137, 645, 650, 658, 663, 668, 1141, 672, 675, 679, 682, 1147, 1152, 1156, 1160, 688, 691, 1164, 1168, 699, 702, 1172, 707, 711, 1177, 716, 720, 1181, 725, 1186, 729, 733, 737, 740, 744, 748, 1190, 1194, 1197, 1201, 1205, 757, 761, 1209, 1213, 770, 773, 777, 1217, 782, 786, 1221, 1225, 791, 795, 799, 1229] (by decide +kernel) (by decide +kernel) w h).1
theorem inX0 : ∀ w ∈ wsX00, w ∈ lw_tbl := fun w h => wsL_law_in w (inlX0 w h)
theorem inX1 : ∀ w ∈ wsX10, w ∈ lw_tbl := fun w h => wsL_law_in w (inlX1 w h)
theorem inX2 : ∀ w ∈ wsX20, w ∈ lw_tbl := by decide +kernel
theorem inX3 : ∀ w ∈ wsX30, w ∈ lw_tbl := fun w h => wsL_law_in w (inlX3 w h)
theorem inX4 : ∀ w ∈ wsX40, w ∈ lw_tbl := fun w h => wsL_law_in w (inlX4 w h)
theorem inX5 : ∀ w ∈ wsX50, w ∈ lw_tbl := fun w h => wsL_law_in w (inlX5 w h)
theorem inX6 : ∀ w ∈ wsX60, w ∈ lw_tbl := fun w h => wsL_law_in w (inlX6 w h)
theorem inX7 : ∀ w ∈ wsX70, w ∈ lw_tbl := fun w h => wsL_law_in w (inlX7 w h)
theorem inX8 : ∀ w ∈ wsX80, w ∈ lw_tbl := fun w h => wsL_law_in w (inlX8 w h)
