/-! checks of the tables -/
set_option maxRecDepth 100000 in
theorem ok_40 : okM mTab Mx40 ∧ plainName Mx40.1.cls = true := okM_of (pss := [[], [], [], [], [], [], [212, 213], [771, 772, 773, 107, 774], [], [], [212, 213], [], [], [747, 672, 673, 107, 674], [], [], [], [], [], [], [], [], [], [], [], [], [212, 213], [], [775, 776, 112, 777], [743, 609, 610, 107, 611], [], [], [], [], [], [], [], [], [], [], [], [212, 213], [746, 679, 680, 107, 681], [], [], [227], [], [758, 759, 760, 108, 761], [], [], [], [227], [], [758, 759, 760, 108, 761], [], [212, 213], [], [762, 763, 764, 107, 765], [], [], [], [], [], [], [212, 213], [746, 679, 680, 107, 681], []]) (by decide +kernel) (by decide +kernel)
set_option maxRecDepth 100000 in
theorem ok_41 : okM mTab Mx41 ∧ plainName Mx41.1.cls = true := okM_of (pss := [[], [], [17], [], [18], [], [19], [], [20], [], [21], [], [22], [], [23], [], [24], []]) (by decide +kernel) (by decide +kernel)
set_option maxRecDepth 100000 in
theorem ok_42 : okM mTab Mx42 ∧ plainName Mx42.1.cls = true := okM_of (pss := [[], [278], []]) (by decide +kernel) (by decide +kernel)
set_option maxRecDepth 100000 in
theorem ok_43 : okM mTab Mx43 ∧ plainName Mx43.1.cls = true := okM_of (pss := [[], [], [278], []]) (by decide +kernel) (by decide +kernel)
set_option maxRecDepth 100000 in
theorem ok_44 : okM mTab Mx44 ∧ plainName Mx44.1.cls = true := okM_of (pss := [[], [], [277], [365, 367, 0, 115, 368], [], [], [], [], [], [369, 370, 371, 109, 372], [], [], [277], [], [], [], [], [277], [], [], [], [278], [], [], [129, 376, 377, 378], [278], []]) (by decide +kernel) (by decide +kernel)
set_option maxRecDepth 100000 in
theorem ok_45 : okM mTab Mx45 ∧ plainName Mx45.1.cls = true := okM_of (pss := [[], [277], [], [], [], [], [], [], [], [], [], [365, 367, 0, 115, 368], [], [], [278], [], [], [], [], [], [], [], [369, 370, 371, 109, 372], [], [], [277], [], [], [278], [], [], [278], [], []]) (by decide +kernel) (by decide +kernel)
set_option maxRecDepth 100000 in
theorem ok_46 : okM mTab Mx46 ∧ plainName Mx46.1.cls = true := okM_of (pss := [[], [], [], [], [], [], [276], [], [], [], [], []]) (by decide +kernel) (by decide +kernel)
set_option maxRecDepth 100000 in
theorem ok_47 : okM mTab Mx47 ∧ plainName Mx47.1.cls = true := okM_of (pss := [[], [], [], [129, 1149, 377, 378], [252], [], [], [], [1150, 380, 381, 109, 382], [], [129, 1149, 377, 378], [253], [], [249], [], [1151, 370, 371, 109, 372], [], [], [], [], [252], [], [], [], [], [], [253], [], [], [250], [], [], [], [], [], [], [249], [], [1152, 396, 397, 109, 398], [], [], [248], [], [249], [], [1153, 1101, 1102, 113, 1103], [], [], [], [], [249], [1154, 1110, 1111, 109, 1112], [], [], []]) (by decide +kernel) (by decide +kernel)
set_option maxRecDepth 100000 in
theorem ok_48 : okM mTab Mx48 ∧ plainName Mx48.1.cls = true := okM_of (pss := [[], [252], [], [], [], [], [], [], [], [], [], [], [253], [], [], [], [1159, 471, 131, 472], [], [], [], [251], [], [], [], [], [], [], [], [], [1160, 1162, 27, 114, 1163], [], [], [], [], [], []]) (by decide +kernel) (by decide +kernel)
set_option maxRecDepth 100000 in
theorem ok_49 : okM mTab Mx49 ∧ plainName Mx49.1.cls = true := okM_of (pss := [[], [], [], [1164, 1166, 28, 114, 1167], []]) (by decide +kernel) (by decide +kernel)
set_option maxRecDepth 100000 in
theorem ok_50 : okM mTab Mx50 ∧ plainName Mx50.1.cls = true := okM_of (pss := [[], [], [], [], [], [], [], [], [], [], [], [252], [], [], [], [], [1186, 1188, 31, 114, 1189], [], [], [], [], [], [], [], [], [], [], [], [], [], [], [], [], [252], [], [], [], [], []]) (by decide +kernel) (by decide +kernel)
set_option maxRecDepth 100000 in
theorem ok_51 : okM mTab Mx51 ∧ plainName Mx51.1.cls = true := okM_of (pss := [[], [], [], [], [], [], [], [], [252], [], [], [], [], [], [], [], [253], [], [], [], [], [1173, 1175, 30, 114, 1176], [], [], [], [], [], [], [], [], [1173, 1175, 30, 114, 1176], [], [], [], [], [], [], [], [], [], [1168, 427, 106, 428], [], [], [], [], [], [], [], [], [], [], [], [], [], [], [], [], [], [], [1173, 1175, 30, 114, 1176], [], [], [], [], [], []]) (by decide +kernel) (by decide +kernel)
set_option maxRecDepth 100000 in
theorem ok_52 : okM mTab Mx52 ∧ plainName Mx52.1.cls = true := okM_of (pss := [[], [], [], [], [], [1164, 1166, 28, 114, 1167], [], [], [], [], [], [253], [], [], [], [1168, 427, 106, 428], [], [], [], [], [], [], [1169, 1171, 29, 114, 1172], [129, 1177, 434, 435], [], [], [], [], []]) (by decide +kernel) (by decide +kernel)
set_option maxRecDepth 100000 in
theorem ok_53 : okM mTab Mx53 ∧ plainName Mx53.1.cls = true := okM_of (pss := [[], [], [], [1164, 1166, 28, 114, 1167], [], [], [], [], [], [], [1164, 1166, 28, 114, 1167], [], [], [], [], [], [], [], [], [253], [], [], [], [1168, 427, 106, 428], [], [], [], [], [], [1169, 1171, 29, 114, 1172], [], [], [], [], [], [], [], []]) (by decide +kernel) (by decide +kernel)
set_option maxRecDepth 100000 in
theorem ok_54 : okM mTab Mx54 ∧ plainName Mx54.1.cls = true := okM_of (pss := [[], [], [], [1173, 1175, 30, 114, 1176], [], [], [], [], [], [], [], [], [], [1164, 1166, 28, 114, 1167], [], []]) (by decide +kernel) (by decide +kernel)
set_option maxRecDepth 100000 in
theorem ok_55 : okM mTab Mx55 ∧ plainName Mx55.1.cls = true := okM_of (pss := [[], [], [], [], [252], [], [], [], [], [], [], [], [], [], [], [], [], [], [251], [], [], [], [], [], [], [], [], []]) (by decide +kernel) (by decide +kernel)
set_option maxRecDepth 100000 in
theorem ok_56 : okM mTab Mx56 ∧ plainName Mx56.1.cls = true := okM_of (pss := [[], [], [], [], [252], [], [], [], [], [], [253], [], [], [], [], [], [], [], [], [250], [], [], [], [], [], [], [], [], []]) (by decide +kernel) (by decide +kernel)
set_option maxRecDepth 100000 in
theorem ok_57 : okM mTab Mx57 ∧ plainName Mx57.1.cls = true := okM_of (pss := [[], [238], [], [], [], [], [], [452, 453, 454, 108, 455], [], [], []]) (by decide +kernel) (by decide +kernel)
set_option maxRecDepth 100000 in
theorem ok_58 : okM mTab Mx58 ∧ plainName Mx58.1.cls = true := okM_of (pss := [[], [238], [], [], [], [], [], [452, 453, 454, 108, 455], []]) (by decide +kernel) (by decide +kernel)
set_option maxRecDepth 100000 in
theorem ok_59 : okM mTab Mx59 ∧ plainName Mx59.1.cls = true := okM_of (pss := [[], [238], [], [], [], [], [], [], [416, 380, 381, 109, 382], [452, 453, 454, 108, 455], [], [], [], [], [], [417, 400, 401, 109, 402], [129, 944, 377, 378], []]) (by decide +kernel) (by decide +kernel)
set_option maxRecDepth 100000 in
theorem ok_60 : okM mTab Mx60 ∧ plainName Mx60.1.cls = true := okM_of (pss := [[], [], [], [417, 400, 401, 109, 402], [], [], [], [], [], [], [], [], [], [], [], [], [], [], [], [], [], [], [], [], [], [448, 449, 450, 113, 451], [], [], [], [], [], []]) (by decide +kernel) (by decide +kernel)
set_option maxRecDepth 100000 in
theorem ok_61 : okM mTab Mx61 ∧ plainName Mx61.1.cls = true := okM_of (pss := [[], [], [], [440, 441, 442, 109, 443], [], [], [], [417, 400, 401, 109, 402], [], [], [], []]) (by decide +kernel) (by decide +kernel)
set_option maxRecDepth 100000 in
theorem ok_62 : okM mTab Mx62 ∧ plainName Mx62.1.cls = true := okM_of (pss := [[], [], [], [], [], [], [], [416, 380, 381, 109, 382], [], [], [], [426, 427, 106, 428], [], [], [], [], [429, 430, 431, 109, 432], [], [], [], [429, 430, 431, 109, 432], [], [], [], [], [], [129, 433, 434, 435], [], [], [], [], [], []]) (by decide +kernel) (by decide +kernel)
set_option maxRecDepth 100000 in
theorem ok_63 : okM mTab Mx63 ∧ plainName Mx63.1.cls = true := okM_of (pss := [[], [], [], [422, 423, 424, 113, 425], [], [], [], [], [436, 437, 438, 113, 439], [], [], [], [], []]) (by decide +kernel) (by decide +kernel)
set_option maxRecDepth 100000 in
theorem ok_64 : okM mTab Mx64 ∧ plainName Mx64.1.cls = true := okM_of (pss := [[], [], [416, 380, 381, 109, 382], [], [], [], [417, 400, 401, 109, 402], [], [], [], [416, 380, 381, 109, 382], [], [], [416, 380, 381, 109, 382], [], [], [], [], [], [418, 419, 420, 113, 421], [], [], [], [], [], [], [416, 380, 381, 109, 382], [444, 445, 446, 113, 447], [], [], [], [], [], []]) (by decide +kernel) (by decide +kernel)
set_option maxRecDepth 100000 in
theorem ok_65 : okM mTab Mx65 ∧ plainName Mx65.1.cls = true := okM_of (pss := [[], [], [416, 380, 381, 109, 382], [], [], [], [], [], [444, 445, 446, 113, 447], [], [], [], [], [], [1046, 1047, 1048, 113, 1049], [], [], [], [], [], [1050, 1052, 26, 113, 1053], [], [], [], [], [], [], [], [440, 441, 442, 109, 443], [], [], [1056, 726, 727, 109, 728], [], [], [], [], [], [416, 380, 381, 109, 382], [], [], [], [], [129, 944, 377, 378], [1057, 384, 385, 109, 386], [], [], [], [], [], [416, 380, 381, 109, 382], [], [], [], [], [429, 430, 431, 109, 432], [], [], [], [], [], [], [], [], [129, 944, 377, 378], [1058, 717, 718, 109, 719], [], [], [], [1059, 1060, 1061, 109, 1062], [], [], [], [], [416, 380, 381, 109, 382], [], [], [], [], [], [], [], [], [1054, 701, 702, 109, 703], [], [1064, 1065, 1066, 109, 1067], [], [], [], [], [416, 380, 381, 109, 382], [1069, 1070, 1071, 109, 1072], [], [], [], [1069, 1070, 1071, 109, 1072], [], [], [], [1069, 1070, 1071, 109, 1072], [], [], [], [1069, 1070, 1071, 109, 1072], [], [], [], [1069, 1070, 1071, 109, 1072], [], [], [], [1069, 1070, 1071, 109, 1072], [], []]) (by decide +kernel) (by decide +kernel)
set_option maxRecDepth 100000 in
theorem ok_66 : okM mTab Mx66 ∧ plainName Mx66.1.cls = true := okM_of (pss := [[], [], [], [417, 400, 401, 109, 402], [], [], [], [129, 944, 377, 378], [], [], [], [], [1054, 701, 702, 109, 703], [], [], [], [417, 400, 401, 109, 402], [], [], [], [], [], [1054, 701, 702, 109, 703], [], [], [], [], [], [], [1055, 696, 697, 109, 698], [], [], [], [], [], [], [], [1055, 696, 697, 109, 698], [], []]) (by decide +kernel) (by decide +kernel)
set_option maxRecDepth 100000 in
theorem ok_67 : okM mTab Mx67 ∧ plainName Mx67.1.cls = true := okM_of (pss := [[], [], [], [1059, 1060, 1061, 109, 1062], [], [], [1057, 384, 385, 109, 386], [], [1059, 1060, 1061, 109, 1062], [], [], [], [], [416, 380, 381, 109, 382], [], [], [], [], [1057, 384, 385, 109, 386], [], [], [], [], [], [], [], [416, 380, 381, 109, 382], [], [], [], [], [], [1100, 1101, 1102, 113, 1103], [], [], [], [], [], [], [1105, 1106, 1107, 113, 1108], [], [1109, 1110, 1111, 109, 1112], [], []]) (by decide +kernel) (by decide +kernel)
set_option maxRecDepth 100000 in
theorem ok_68 : okM mTab Mx68 ∧ plainName Mx68.1.cls = true := okM_of (pss := [[], [], [], [1100, 1101, 1102, 113, 1103], [], [], [1109, 1110, 1111, 109, 1112], []]) (by decide +kernel) (by decide +kernel)
set_option maxRecDepth 100000 in
theorem ok_69 : okM mTab Mx69 ∧ plainName Mx69.1.cls = true := okM_of (pss := [[], [], [], [1104, 941, 942, 113, 943], [], [], [], [], [417, 400, 401, 109, 402], [], [], [], [], [], [129, 944, 377, 378], [], [], [], [], [], [], [], [], [], [417, 400, 401, 109, 402], [], [], [129, 944, 377, 378], [], [], [], [], [], [1055, 696, 697, 109, 698], [], [], [], [], [1055, 696, 697, 109, 698], [], [], [], []]) (by decide +kernel) (by decide +kernel)
set_option maxRecDepth 100000 in
theorem ok_70 : okM mTab Mx70 ∧ plainName Mx70.1.cls = true := okM_of (pss := [[], [], [], [], [], [416, 380, 381, 109, 382], [], [], [], [], [], [], [], [], [429, 430, 431, 109, 432], [], [], [129, 433, 434, 435], [1058, 717, 718, 109, 719], [], [], []]) (by decide +kernel) (by decide +kernel)
set_option maxRecDepth 100000 in
theorem ok_71 : okM mTab Mx71 ∧ plainName Mx71.1.cls = true := okM_of (pss := [[], [147], []]) (by decide +kernel) (by decide +kernel)
set_option maxRecDepth 100000 in
theorem ok_72 : okM mTab Mx72 ∧ plainName Mx72.1.cls = true := okM_of (pss := [[], [149], []]) (by decide +kernel) (by decide +kernel)
set_option maxRecDepth 100000 in
theorem ok_73 : okM mTab Mx73 ∧ plainName Mx73.1.cls = true := okM_of (pss := [[], [], [], [], [], [147], [], [], [147], [], [146], [], [], [], [146], [], [147], [], [], [], [], [], [], [], [], [147], [], [], [147], [], [], []]) (by decide +kernel) (by decide +kernel)
set_option maxRecDepth 100000 in
theorem ok_74 : okM mTab Mx74 ∧ plainName Mx74.1.cls = true := okM_of (pss := [[], [], [147], []]) (by decide +kernel) (by decide +kernel)
set_option maxRecDepth 100000 in
theorem ok_75 : okM mTab Mx75 ∧ plainName Mx75.1.cls = true := okM_of (pss := [[], [], [149], [], [], [592, 594, 7, 107, 595], []]) (by decide +kernel) (by decide +kernel)
set_option maxRecDepth 100000 in
theorem ok_76 : okM mTab Mx76 ∧ plainName Mx76.1.cls = true := okM_of (pss := [[], [148], [], [147], [], [], [], [], []]) (by decide +kernel) (by decide +kernel)
set_option maxRecDepth 100000 in
theorem ok_77 : okM mTab Mx77 ∧ plainName Mx77.1.cls = true := okM_of (pss := [[], [149], [], [], [], [], [], []]) (by decide +kernel) (by decide +kernel)
set_option maxRecDepth 100000 in
theorem ok_78 : okM mTab Mx78 ∧ plainName Mx78.1.cls = true := okM_of (pss := [[], [149], [], [], [], [], [148], [149], [], []]) (by decide +kernel) (by decide +kernel)
set_option maxRecDepth 100000 in
theorem ok_79 : okM mTab Mx79 ∧ plainName Mx79.1.cls = true := okM_of (pss := [[], [148], [], [], [], [147], [], [], [], [612, 614, 8, 107, 615], [616, 617, 107, 618], [], [], [], [], [], [148], [], [], [619], [], [], [], [], [], [], [], [619], [], [], [], [148], [], [], [612, 614, 8, 107, 615], [], [], [629], [], [], [], [], [], [], [], [592, 594, 7, 107, 595], [], []]) (by decide +kernel) (by decide +kernel)
set_option maxRecDepth 100000 in
theorem ok_80 : okM mTab Mx80 ∧ plainName Mx80.1.cls = true := okM_of (pss := [[], [], [148], [612, 614, 8, 107, 615], [], [], [], [], [], [], [148], [], [], [592, 594, 7, 107, 595], [], []]) (by decide +kernel) (by decide +kernel)
set_option maxRecDepth 100000 in
theorem ok_81 : okM mTab Mx81 ∧ plainName Mx81.1.cls = true := okM_of (pss := [[], [], [148], [612, 614, 8, 107, 615], [675, 676, 107, 677], []]) (by decide +kernel) (by decide +kernel)
set_option maxRecDepth 100000 in
theorem ok_82 : okM mTab Mx82 ∧ plainName Mx82.1.cls = true := okM_of (pss := [[], [148], [], [], [], [], [], [147], [], [], [], [612, 614, 8, 107, 615], [675, 676, 107, 677], [], [], [], [148], [], [], [], [], [], [], [], [], [612, 614, 8, 107, 615], [], [], [], [], [], [], [], [], [148], [], [], [], [], [], [], [], [], [], [], [], [], [], [], [], [678, 679, 680, 107, 681], [], [], [], [], [], [592, 594, 7, 107, 595], [], []]) (by decide +kernel) (by decide +kernel)
