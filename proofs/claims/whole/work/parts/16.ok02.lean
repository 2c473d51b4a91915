/-! checks of the tables -/
set_option maxRecDepth 100000 in
theorem ok_83 : okM mTab Mx83 ∧ plainName Mx83.1.cls = true := okM_of (pss := [[], [], [148], [], [148], [], [], [148], [], [147], [], [], [148], [], [146], [], [], [], [146], [], [148], [], [], [], [], [], [148], [], [], [148], [], []]) (by decide +kernel) (by decide +kernel)
set_option maxRecDepth 100000 in
theorem ok_84 : okM mTab Mx84 ∧ plainName Mx84.1.cls = true := okM_of (pss := [[], [], [], [], [147], [], [], [], [146], [], [], [], [146], [], [], [], [], []]) (by decide +kernel) (by decide +kernel)
set_option maxRecDepth 100000 in
theorem ok_85 : okM mTab Mx85 ∧ plainName Mx85.1.cls = true := okM_of (pss := [[], [], [], [], [], [], [], [], [], []]) (by decide +kernel) (by decide +kernel)
set_option maxRecDepth 100000 in
theorem ok_86 : okM mTab Mx86 ∧ plainName Mx86.1.cls = true := okM_of (pss := [[], [], [], [], [], [], [], [], [], []]) (by decide +kernel) (by decide +kernel)
set_option maxRecDepth 100000 in
theorem ok_87 : okM mTab Mx87 ∧ plainName Mx87.1.cls = true := okM_of (pss := [[], [286], [333, 334, 335, 107, 336], [], [], [], [], [], [], [], [286], [], [337, 338, 339, 107, 340], [], [286], [], [337, 338, 339, 107, 340], [], [286], [], [337, 338, 339, 107, 340], [], [286], [], [337, 338, 339, 107, 340], [], [286], [], [337, 338, 339, 107, 340], [], [286], [333, 334, 335, 107, 336], []]) (by decide +kernel) (by decide +kernel)
set_option maxRecDepth 100000 in
theorem ok_88 : okM mTab Mx88 ∧ plainName Mx88.1.cls = true := okM_of (pss := [[], [], [], [], [286], [333, 334, 335, 107, 336], [], [], [], [], [286], [], [345, 346, 347, 107, 348], [], []]) (by decide +kernel) (by decide +kernel)
set_option maxRecDepth 100000 in
theorem ok_89 : okM mTab Mx89 ∧ plainName Mx89.1.cls = true := okM_of (pss := [[], [291], [], [290], [547, 370, 371, 109, 372], [], [293], [], [582, 583, 585, 586, 110, 587], [], [], [286], [], [345, 346, 347, 107, 348], [], [], [794, 125, 27], [], [290], [], [379, 380, 381, 109, 382], [], [], [864, 126, 28], [], [291], [], [], [880, 701, 702, 109, 703], [], [290], [], [291], [547, 370, 371, 109, 372], [], [297], [557, 558, 559, 115, 560], [], [290], [], [379, 380, 381, 109, 382], []]) (by decide +kernel) (by decide +kernel)
set_option maxRecDepth 100000 in
theorem ok_90 : okM mTab Mx90 ∧ plainName Mx90.1.cls = true := okM_of (pss := [[], [288], [888, 889, 890, 108, 891], [], [294], [], [892, 893, 894, 586, 110, 587], [], [], [286], [], [345, 346, 347, 107, 348], [], [], [794, 125, 27], [], [287], [], [288], [548, 549, 550, 108, 551], [], [297], [557, 558, 559, 115, 560], [], [287], [565, 566, 567, 108, 568], []]) (by decide +kernel) (by decide +kernel)
set_option maxRecDepth 100000 in
theorem ok_91 : okM mTab Mx91 ∧ plainName Mx91.1.cls = true := okM_of (pss := [[], [286], [353, 354, 355, 107, 356], []]) (by decide +kernel) (by decide +kernel)
set_option maxRecDepth 100000 in
theorem ok_92 : okM mTab Mx92 ∧ plainName Mx92.1.cls = true := okM_of (pss := [[], [], [904, 906, 20, 106, 907], [], [], [], [], [], [924, 128, 30], [], [], [], [], [295], [], [290], [], [940, 941, 942, 113, 943], [], [], [], [], [], [], [945, 947, 21, 106, 948], [], [], [], [], [], [], [950, 952, 22, 106, 953], [], [], [290], [], [], [490, 400, 401, 109, 402], []]) (by decide +kernel) (by decide +kernel)
set_option maxRecDepth 100000 in
theorem ok_93 : okM mTab Mx93 ∧ plainName Mx93.1.cls = true := okM_of (pss := [[], [], [965, 967, 24, 106, 968], [], [290], [], [], [], [], [], [], [970, 430, 431, 109, 432], []]) (by decide +kernel) (by decide +kernel)
set_option maxRecDepth 100000 in
theorem ok_94 : okM mTab Mx94 ∧ plainName Mx94.1.cls = true := okM_of (pss := [[], [], [978, 980, 25, 106, 981], [], [], [], [], [], [924, 128, 30], [], [], [], [], [], [408, 410, 1, 106, 411], [], [], [290], [], [], [480, 441, 442, 109, 443], []]) (by decide +kernel) (by decide +kernel)
set_option maxRecDepth 100000 in
theorem ok_95 : okM mTab Mx95 ∧ plainName Mx95.1.cls = true := okM_of (pss := [[], [], [904, 906, 20, 106, 907], [], [], [], [990, 991, 106, 992], [], [295], [], [290], [], [], [949, 445, 446, 113, 447], []]) (by decide +kernel) (by decide +kernel)
set_option maxRecDepth 100000 in
theorem ok_96 : okM mTab Mx96 ∧ plainName Mx96.1.cls = true := okM_of (pss := [[], [], [904, 906, 20, 106, 907], [], [], [], [990, 991, 106, 992], [], [], [], [990, 991, 106, 992], [], [295], [], [290], [], [], [], [1001, 449, 450, 113, 451], []]) (by decide +kernel) (by decide +kernel)
set_option maxRecDepth 100000 in
theorem ok_97 : okM mTab Mx97 ∧ plainName Mx97.1.cls = true := okM_of (pss := [[], [], [978, 980, 25, 106, 981], [], [], [904, 906, 20, 106, 907], [], [295], [], [290], [], [], [1009, 437, 438, 113, 439], []]) (by decide +kernel) (by decide +kernel)
set_option maxRecDepth 100000 in
theorem ok_98 : okM mTab Mx98 ∧ plainName Mx98.1.cls = true := okM_of (pss := [[], [], [978, 980, 25, 106, 981], [], [], [904, 906, 20, 106, 907], [], [295], [], [290], [], [1017, 423, 424, 113, 425], [], [295], [], [290], [], [], [1009, 437, 438, 113, 439], [], [], [], [], []]) (by decide +kernel) (by decide +kernel)
set_option maxRecDepth 100000 in
theorem ok_99 : okM mTab Mx99 ∧ plainName Mx99.1.cls = true := okM_of (pss := [[], [], [978, 980, 25, 106, 981], [], [], [904, 906, 20, 106, 907], [], [], [], [990, 991, 106, 992], [], [295], [], [290], [], [], [412, 413, 414, 113, 415], [], [1026, 130, 34], [], [297], [], [290], [361, 362, 363, 115, 364], [], [295], [], [290], [], [], [], [1042, 1043, 1044, 113, 1045], []]) (by decide +kernel) (by decide +kernel)
set_option maxRecDepth 100000 in
theorem ok_100 : okM mTab Mx100 ∧ plainName Mx100.1.cls = true := okM_of (pss := [[], [], [904, 906, 20, 106, 907], [], [297], [], [290], [361, 362, 363, 115, 364], [], [290], [], [], [490, 400, 401, 109, 402], [], [], [290], [], [], [], [1080, 696, 697, 109, 698], [], [290], [], [], [], [1080, 696, 697, 109, 698], [], [290], [], [], [], [], [290], [], [], [490, 400, 401, 109, 402], [], [], [129, 491, 434, 435], [1080, 696, 697, 109, 698], [], []]) (by decide +kernel) (by decide +kernel)
set_option maxRecDepth 100000 in
theorem ok_101 : okM mTab Mx101 ∧ plainName Mx101.1.cls = true := okM_of (pss := [[], [297], [], [290], [361, 362, 363, 115, 364], [], [290], [], [], [290], [], [379, 380, 381, 109, 382], [], [], [383, 384, 385, 109, 386], [], [290], [], [379, 380, 381, 109, 382], []]) (by decide +kernel) (by decide +kernel)
set_option maxRecDepth 100000 in
theorem ok_102 : okM mTab Mx102 ∧ plainName Mx102.1.cls = true := okM_of (pss := [[], [], [965, 967, 24, 106, 968], [], [297], [], [290], [361, 362, 363, 115, 364], [], [290], [], [], [970, 430, 431, 109, 432], [], [], [290], [], [], [], [1088, 717, 718, 109, 719], [], []]) (by decide +kernel) (by decide +kernel)
set_option maxRecDepth 100000 in
theorem ok_103 : okM mTab Mx103 ∧ plainName Mx103.1.cls = true := okM_of (pss := [[], [], [], [990, 991, 106, 992], [], [297], [], [290], [361, 362, 363, 115, 364], [], [], [], [], [], [], [], [], [], [295], [], [290], [1096, 1097, 1098, 113, 1099], [], [], [], [], [], []]) (by decide +kernel) (by decide +kernel)
set_option maxRecDepth 100000 in
theorem ok_104 : okM mTab Mx104 ∧ plainName Mx104.1.cls = true := okM_of (pss := [[], [], [904, 906, 20, 106, 907], [], [], [], [990, 991, 106, 992], [], [291], [], [290], [547, 370, 371, 109, 372], [], [], [], [], [], [], [295], [], [291], [], [1120, 1121, 1122, 113, 1123], [], [], [], [291], [], [], [], [], [], [], [490, 400, 401, 109, 402], []]) (by decide +kernel) (by decide +kernel)
set_option maxRecDepth 100000 in
theorem ok_105 : okM mTab Mx105 ∧ plainName Mx105.1.cls = true := okM_of (pss := [[], [], [], [], [], [], [290], [], [379, 380, 381, 109, 382], [], [], [290], [], [391, 392, 393, 109, 394], [], [], [], [], [], [], [], [], [], [], []]) (by decide +kernel) (by decide +kernel)
set_option maxRecDepth 100000 in
theorem ok_106 : okM mTab Mx106 ∧ plainName Mx106.1.cls = true := okM_of (pss := [[], [], [904, 906, 20, 106, 907], [], [], [], [990, 991, 106, 992], [], [291], [], [290], [547, 370, 371, 109, 372], [], [], [], [], [], [], [291], [], [391, 392, 393, 109, 394], [], [], [291], [], [], [490, 400, 401, 109, 402], [], [], [], [], [], [295], [], [291], [], [1120, 1121, 1122, 113, 1123], [], [], [], []]) (by decide +kernel) (by decide +kernel)
set_option maxRecDepth 100000 in
theorem ok_107 : okM mTab Mx107 ∧ plainName Mx107.1.cls = true := okM_of (pss := [[], [], [904, 906, 20, 106, 907], [], [291], [], [290], [547, 370, 371, 109, 372], [], [], [], [], [], [], [291], [], [], [490, 400, 401, 109, 402], [], [], [291], [], [391, 392, 393, 109, 394], [], [], [], [], [295], [], [291], [], [1120, 1121, 1122, 113, 1123], [], [], [], []]) (by decide +kernel) (by decide +kernel)
set_option maxRecDepth 100000 in
theorem ok_108 : okM mTab Mx108 ∧ plainName Mx108.1.cls = true := okM_of (pss := [[], [], [], [990, 991, 106, 992], [], [296], [], [290], [], [1145, 1146, 1147, 114, 1148], [], [296], [1155, 1156, 1157, 114, 1158], [], [], [], [], [296], [1178, 1179, 1180, 114, 1181], [], [], [296], [], [1182, 1183, 1184, 114, 1185], []]) (by decide +kernel) (by decide +kernel)
set_option maxRecDepth 100000 in
theorem ok_109 : okM mTab Mx109 ∧ plainName Mx109.1.cls = true := okM_of (pss := [[], [], [], [990, 991, 106, 992], [], [296], [], [290], [], [1145, 1146, 1147, 114, 1148], [], [296], [1155, 1156, 1157, 114, 1158], [], [296], [1178, 1179, 1180, 114, 1181], [], [296], [1265, 1266, 1267, 114, 1268], [], []]) (by decide +kernel) (by decide +kernel)
set_option maxRecDepth 100000 in
theorem ok_110 : okM mTab Mx110 ∧ plainName Mx110.1.cls = true := okM_of (pss := [[], [], [], [990, 991, 106, 992], [], [], [], [], [], [], [], [], [500, 502, 5, 106, 503], [], [], [], [], [504, 506, 6, 106, 507], [], [], [], [], [504, 506, 6, 106, 507], [], [], [], [], [], [], [], [], [], [], [], [], [], [], [], []]) (by decide +kernel) (by decide +kernel)
set_option maxRecDepth 100000 in
theorem ok_111 : okM mTab Mx111 ∧ plainName Mx111.1.cls = true := okM_of (pss := [[], [], [], [990, 991, 106, 992], [], [291], [], [290], [547, 370, 371, 109, 372], [], [], [], [], [], [], [295], [], [291], [1096, 1097, 1098, 113, 1099], [], [], [], [], [], [], [291], [], [379, 380, 381, 109, 382], [], [], [291], [], [496, 497, 498, 109, 499], []]) (by decide +kernel) (by decide +kernel)
set_option maxRecDepth 100000 in
theorem ok_112 : okM mTab Mx112 ∧ plainName Mx112.1.cls = true := okM_of (pss := [[], [], [], [990, 991, 106, 992], [], [], [], [1318, 1320, 34, 106, 1321], [], [], [], [], [], [], [], [], [], [1318, 1320, 34, 106, 1321], [], [], [], [], [], [129, 491, 434, 435], [], [], [], [129, 1223, 377, 378], [], [], [], [], []]) (by decide +kernel) (by decide +kernel)
set_option maxRecDepth 100000 in
theorem ok_113 : okM mTab Mx113 ∧ plainName Mx113.1.cls = true := okM_of (pss := [[], [], [904, 906, 20, 106, 907], [], [], [], [990, 991, 106, 992], [], [295], [], [290], [], [], [949, 445, 446, 113, 447], [], [], [], [], [], [], [], [], [295], [], [290], [], [], [1204, 1047, 1048, 113, 1049], [], [], [], [290], [], [379, 380, 381, 109, 382], [], [], [], [], [], [], [], [], [290], [], [379, 380, 381, 109, 382], [], [], [], [], [], [], [], [], []]) (by decide +kernel) (by decide +kernel)
set_option maxRecDepth 100000 in
theorem ok_114 : okM mTab Mx114 ∧ plainName Mx114.1.cls = true := okM_of (pss := [[], [], [978, 980, 25, 106, 981], [], [], [904, 906, 20, 106, 907], [], [295], [], [290], [], [], [1009, 437, 438, 113, 439], [], [], [], [], [], [], [], [1212, 1214, 32, 106, 1215], [], [], [], [], [], [470, 471, 131, 472], [], [470, 471, 131, 472], [], [], [], [], [], [], [], [], [295], [], [290], [], [1017, 423, 424, 113, 425], [], [], [], [], [], [], [], []]) (by decide +kernel) (by decide +kernel)
set_option maxRecDepth 100000 in
theorem ok_115 : okM mTab Mx115 ∧ plainName Mx115.1.cls = true := okM_of (pss := [[], [], [978, 980, 25, 106, 981], [], [], [904, 906, 20, 106, 907], [], [295], [], [290], [], [], [1009, 437, 438, 113, 439], [], [], [1212, 1214, 32, 106, 1215], [], [298], [], [129, 1223, 377, 378], [], [], [], [], [], [], [], [], [], [], [], [1224, 1226, 33, 106, 1227], [], [], [298], [], [], [], [], [], [], []]) (by decide +kernel) (by decide +kernel)
set_option maxRecDepth 100000 in
theorem ok_116 : okM mTab Mx116 ∧ plainName Mx116.1.cls = true := okM_of (pss := [[], [], [], [], [], [], [], [], [290], [], [379, 380, 381, 109, 382], [], [], [], [408, 410, 1, 106, 411], [470, 471, 131, 472], [], [], [], [], [], [], [], [], [], [], [], [], [], [476, 478, 4, 106, 479], [], [], [], [], [], [], [], [], []]) (by decide +kernel) (by decide +kernel)
set_option maxRecDepth 100000 in
theorem ok_117 : okM mTab Mx117 ∧ plainName Mx117.1.cls = true := okM_of (pss := [[], [], [904, 906, 20, 106, 907], [], [], [], [990, 991, 106, 992], [], [], [], [990, 991, 106, 992], [], [], [], [], [], [], [], [], [], [295], [], [290], [], [], [], [1001, 449, 450, 113, 451], [], [], [], [], [], []]) (by decide +kernel) (by decide +kernel)
set_option maxRecDepth 100000 in
theorem ok_118 : okM mTab Mx118 ∧ plainName Mx118.1.cls = true := okM_of (pss := [[], [], [904, 906, 20, 106, 907], [], [], [], [], [], [], [], [], [], [], [295], [], [290], [], [], [949, 445, 446, 113, 447], [], [], [], [], [], [], [], [], [], [], [], [], [], [], []]) (by decide +kernel) (by decide +kernel)
set_option maxRecDepth 100000 in
theorem ok_119 : okM mTab Mx119 ∧ plainName Mx119.1.cls = true := okM_of (pss := [[], [], [978, 980, 25, 106, 981], [], [], [904, 906, 20, 106, 907], [], [291], [], [290], [547, 370, 371, 109, 372], [], [], [], [], [], [], [295], [], [291], [], [], [412, 413, 414, 113, 415], [], [], [295], [], [291], [], [], [], [1042, 1043, 1044, 113, 1045], [], [], [], [], []]) (by decide +kernel) (by decide +kernel)
set_option maxRecDepth 100000 in
theorem ok_120 : okM mTab Mx120 ∧ plainName Mx120.1.cls = true := okM_of (pss := [[], [], [978, 980, 25, 106, 981], [], [], [904, 906, 20, 106, 907], [], [291], [], [290], [547, 370, 371, 109, 372], [], [], [], [], [], [], [295], [], [291], [], [], [1256, 419, 420, 113, 421], [], [], [], [], [295], [], [291], [1257, 1106, 1107, 113, 1108], [], [], [], []]) (by decide +kernel) (by decide +kernel)
set_option maxRecDepth 100000 in
theorem ok_121 : okM mTab Mx121 ∧ plainName Mx121.1.cls = true := okM_of (pss := [[], [], [], [], [], [], [290], [], [379, 380, 381, 109, 382], [], [], [], [], [], [], [], [476, 478, 4, 106, 479], [], [], [], [], [], [], []]) (by decide +kernel) (by decide +kernel)
