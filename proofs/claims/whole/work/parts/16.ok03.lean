/-! checks of the tables -/
set_option maxRecDepth 100000 in
theorem ok_122 : okM mTab Mx122 ∧ plainName Mx122.1.cls = true := okM_of (pss := [[], [], [], [990, 991, 106, 992], [], [], [], [], [], [], [290], [], [379, 380, 381, 109, 382], [], [], [], [], [], [], [], [], [], [954, 956, 23, 106, 957], [], [], [], [], [], [], [], [], []]) (by decide +kernel) (by decide +kernel)
set_option maxRecDepth 100000 in
theorem ok_123 : okM mTab Mx123 ∧ plainName Mx123.1.cls = true := okM_of (pss := [[], [], [], [990, 991, 106, 992], [], [], [], [990, 991, 106, 992], [], [], [], [], [], [], [], [], [], [], [], [], [], [], [], [], [], [], []]) (by decide +kernel) (by decide +kernel)
set_option maxRecDepth 100000 in
theorem ok_124 : okM mTab Mx124 ∧ plainName Mx124.1.cls = true := okM_of (pss := [[], [], [], [990, 991, 106, 992], [], [], [], [], [], [], [], [], [], [489, 427, 106, 428], [], [], [], [], [], [], [], [], [], [], [], [], [], [], [], [], [], [], []]) (by decide +kernel) (by decide +kernel)
set_option maxRecDepth 100000 in
theorem ok_125 : okM mTab Mx125 ∧ plainName Mx125.1.cls = true := okM_of (pss := [[], [], [], [990, 991, 106, 992], [], [], [], [], [], [], [], [], [], [], [], [], [], [], [], [], [], [489, 427, 106, 428], [], [], [], [], [], [], [], [], [], [], [], [], [], [], [], [], [], [], [], [], [], []]) (by decide +kernel) (by decide +kernel)
set_option maxRecDepth 100000 in
theorem ok_126 : okM mTab Mx126 ∧ plainName Mx126.1.cls = true := okM_of (pss := [[], [], [], [], [], [], [290], [], [379, 380, 381, 109, 382], [], [], [], [489, 427, 106, 428], [], [], [], [290], [], [], [490, 400, 401, 109, 402], [129, 491, 434, 435], [], [], [], [], [], [290], [], [379, 380, 381, 109, 382], [], [], [], [], [], [], []]) (by decide +kernel) (by decide +kernel)
set_option maxRecDepth 100000 in
theorem ok_127 : okM mTab Mx127 ∧ plainName Mx127.1.cls = true := okM_of (pss := [[], [290], [], [496, 497, 498, 109, 499], [], [], [], [], [], [], [], [], [], [500, 502, 5, 106, 503], [], [], [], [], [], [], [504, 506, 6, 106, 507], [], [], [129, 508, 509, 510], [], [], [], [], [], [], [], [], [], [], [], [], [], [], [], []]) (by decide +kernel) (by decide +kernel)
set_option maxRecDepth 100000 in
theorem ok_128 : okM mTab Mx128 ∧ plainName Mx128.1.cls = true := okM_of (pss := [[], [], [], [990, 991, 106, 992], [], [], [290], [], [379, 380, 381, 109, 382], [], [290], [], [379, 380, 381, 109, 382], [], [129, 491, 434, 435], [], [], [], [], [], [], [], [], [], [], [], [], [], [], [], [], [], [], []]) (by decide +kernel) (by decide +kernel)
set_option maxRecDepth 100000 in
theorem ok_129 : okM mTab Mx129 ∧ plainName Mx129.1.cls = true := okM_of (pss := [[], [290], [], [496, 497, 498, 109, 499], [], [], [290], [], [496, 497, 498, 109, 499], [], [], [], [], [], [], [], [], [], [], [], [], [], [], [], [], [], [], [], [], [], [], [], [], [], [], [], [], [], [], [], [], []]) (by decide +kernel) (by decide +kernel)
set_option maxRecDepth 100000 in
theorem ok_130 : okM mTab Mx130 ∧ plainName Mx130.1.cls = true := okM_of (pss := [[], [], [], [500, 502, 5, 106, 503], [], [], [], [], [], [], [], [500, 502, 5, 106, 503], [], [], [], [], [504, 506, 6, 106, 507], [], [], [], [], [], [], [], [], [], [], [], [], [], [], [], [], [], [], []]) (by decide +kernel) (by decide +kernel)
set_option maxRecDepth 100000 in
theorem ok_131 : okM mTab Mx131 ∧ plainName Mx131.1.cls = true := okM_of (pss := [[], [], [904, 906, 20, 106, 907], [], [], [], [290], [], [], [523, 524, 525, 109, 526], [], [], [290], [], [1330, 1331, 1332, 109, 1333], []]) (by decide +kernel) (by decide +kernel)
set_option maxRecDepth 100000 in
theorem ok_132 : okM mTab Mx132 ∧ plainName Mx132.1.cls = true := okM_of (pss := [[], [], [], [], [], [], [], [], [290], [], [379, 380, 381, 109, 382], [], [], [290], [], [], [523, 524, 525, 109, 526], [], [], [], [], [], [], [], [], [], [], [], []]) (by decide +kernel) (by decide +kernel)
set_option maxRecDepth 100000 in
theorem ok_133 : okM mTab Mx133 ∧ plainName Mx133.1.cls = true := okM_of (pss := [[], [], [], [], [], [924, 128, 30], [], [], [], [], [290], [], [379, 380, 381, 109, 382], [], [], [], [], [290], [], [], [1341, 528, 529, 109, 530], []]) (by decide +kernel) (by decide +kernel)
set_option maxRecDepth 100000 in
theorem ok_134 : okM mTab Mx134 ∧ plainName Mx134.1.cls = true := okM_of (pss := [[], [290], [], [379, 380, 381, 109, 382], [], [], [290], [], [], [383, 384, 385, 109, 386], [], []]) (by decide +kernel) (by decide +kernel)
set_option maxRecDepth 100000 in
theorem ok_135 : okM mTab Mx135 ∧ plainName Mx135.1.cls = true := okM_of (pss := [[], [297], [], [290], [539, 540, 541, 115, 542], []]) (by decide +kernel) (by decide +kernel)
set_option maxRecDepth 100000 in
theorem ok_136 : okM mTab Mx136 ∧ plainName Mx136.1.cls = true := okM_of (pss := [[], [292], [], [290], [547, 370, 371, 109, 372], [], [289], [], [287], [548, 549, 550, 108, 551], [], [], [299], []]) (by decide +kernel) (by decide +kernel)
set_option maxRecDepth 100000 in
theorem ok_137 : okM mTab Mx137 ∧ plainName Mx137.1.cls = true := okM_of (pss := [[], [299], [], [], [], [], [290], [], [292], [547, 370, 371, 109, 372], [], [287], [], [289], [548, 549, 550, 108, 551], [], [297], [557, 558, 559, 115, 560], [], []]) (by decide +kernel) (by decide +kernel)
set_option maxRecDepth 100000 in
theorem ok_138 : okM mTab Mx138 ∧ plainName Mx138.1.cls = true := okM_of (pss := [[], [], [], [290], [], [379, 380, 381, 109, 382], [], [], [290], [], [379, 380, 381, 109, 382], [], [], [290], [], [379, 380, 381, 109, 382], [], [], [290], [], [379, 380, 381, 109, 382], [], [], [287], [565, 566, 567, 108, 568], [], [], [290], [], [379, 380, 381, 109, 382], [], [], [290], [], [379, 380, 381, 109, 382], [], [], [290], [], [379, 380, 381, 109, 382], [], [], [290], [], [379, 380, 381, 109, 382], [], [], [290], [], [379, 380, 381, 109, 382], [], [], [290], [], [379, 380, 381, 109, 382], [], [], [290], [], [379, 380, 381, 109, 382], [], [], [290], [], [379, 380, 381, 109, 382], [], [], [290], [], [496, 497, 498, 109, 499], [], [], [290], [], [496, 497, 498, 109, 499], [], [], [290], [], [379, 380, 381, 109, 382], [], [], [297], [569, 570, 571, 115, 572], [], [], []]) (by decide +kernel) (by decide +kernel)
set_option maxRecDepth 100000 in
theorem ok_139 : okM mTab Mx139 ∧ plainName Mx139.1.cls = true := okM_of (pss := [[], [], [], [], [290], [], [379, 380, 381, 109, 382], [], [908, 127, 29], []]) (by decide +kernel) (by decide +kernel)
set_option maxRecDepth 100000 in
theorem ok_140 : okM mTab Mx140 ∧ plainName Mx140.1.cls = true := okM_of (pss := [[], [], [], [], [290], [], [379, 380, 381, 109, 382], [], [908, 127, 31], []]) (by decide +kernel) (by decide +kernel)
set_option maxRecDepth 100000 in
theorem ok_141 : okM mTab Mx141 ∧ plainName Mx141.1.cls = true := okM_of (pss := [[], [], [], [], [290], [], [379, 380, 381, 109, 382], [], [908, 127, 32], []]) (by decide +kernel) (by decide +kernel)
set_option maxRecDepth 100000 in
theorem ok_142 : okM mTab Mx142 ∧ plainName Mx142.1.cls = true := okM_of (pss := [[], [], [], [], [], [], [794, 125, 33], []]) (by decide +kernel) (by decide +kernel)
set_option maxRecDepth 100000 in
theorem ok_143 : okM mTab Mx143 ∧ plainName Mx143.1.cls = true := okM_of (pss := [[], [], [], [], [], [], [], [], [], [], []]) (by decide +kernel) (by decide +kernel)
set_option maxRecDepth 100000 in
theorem ok_144 : okM mTab Mx144 ∧ plainName Mx144.1.cls = true := okM_of (pss := [[], [], [290], [], [379, 380, 381, 109, 382], [], []]) (by decide +kernel) (by decide +kernel)
set_option maxRecDepth 100000 in
theorem ok_145 : okM mTab Mx145 ∧ plainName Mx145.1.cls = true := okM_of (pss := [[], [], [290], [], [379, 380, 381, 109, 382], [], []]) (by decide +kernel) (by decide +kernel)
set_option maxRecDepth 100000 in
theorem ok_146 : okM mTab Mx146 ∧ plainName Mx146.1.cls = true := okM_of (pss := [[], [], [], [], [], [], [290], [], [379, 380, 381, 109, 382], [], [], [], [489, 427, 106, 428], [], [], [], [290], [], [], [490, 400, 401, 109, 402], [], [], [], [], [], []]) (by decide +kernel) (by decide +kernel)
set_option maxRecDepth 100000 in
theorem ok_147 : okM mTab Mx147 ∧ plainName Mx147.1.cls = true := okM_of (pss := [[], [], [], [], [], [], [], [], [295], [], [290], [], [], [949, 445, 446, 113, 447], [], [], [], [], [], [], [], [], [], [], [], []]) (by decide +kernel) (by decide +kernel)
set_option maxRecDepth 100000 in
theorem ok_148 : okM mTab Mx148 ∧ plainName Mx148.1.cls = true := okM_of (pss := [[], [290], [], [], [490, 400, 401, 109, 402], [], [290], [], [], [490, 400, 401, 109, 402], [], [129, 508, 509, 510], []]) (by decide +kernel) (by decide +kernel)
set_option maxRecDepth 100000 in
theorem ok_149 : okM mTab Mx149 ∧ plainName Mx149.1.cls = true := okM_of (pss := [[], [], [], [], [], [], [290], [], [379, 380, 381, 109, 382], [], [], [], [], [], [], [], [], [], [], [954, 956, 23, 106, 957], [], [], [], [954, 956, 23, 106, 957], [], [], [], [], [], [], []]) (by decide +kernel) (by decide +kernel)
set_option maxRecDepth 100000 in
theorem ok_150 : okM mTab Mx150 ∧ plainName Mx150.1.cls = true := okM_of (pss := [[], [], [], [], [], [], [290], [], [379, 380, 381, 109, 382], [], [], [295], [], [290], [], [], [412, 413, 414, 113, 415], [], [], [], [], [], [], [], [], [], [], []]) (by decide +kernel) (by decide +kernel)
set_option maxRecDepth 100000 in
theorem ok_151 : okM mTab Mx151 ∧ plainName Mx151.1.cls = true := okM_of (pss := [[], [290], [], [], [480, 441, 442, 109, 443], [], [290], [], [], [480, 441, 442, 109, 443], [], [], [], [], []]) (by decide +kernel) (by decide +kernel)
set_option maxRecDepth 100000 in
theorem ok_152 : okM mTab Mx152 ∧ plainName Mx152.1.cls = true := okM_of (pss := [[], [], [], [], [], [], [], [], [], [], [], [], [], [], [], [], [], [], [], [], [], [298], [], [], [], [], [], [], [], [], [], [298], [], [], [], [], [], [295], [], [290], [], [1017, 423, 424, 113, 425], [], [], [], [298], [], [], [], [], [], [], [], [], []]) (by decide +kernel) (by decide +kernel)
set_option maxRecDepth 100000 in
theorem ok_153 : okM mTab Mx153 ∧ plainName Mx153.1.cls = true := okM_of (pss := [[], [291], [], [290], [547, 370, 371, 109, 372], [], [291], [], [], [383, 384, 385, 109, 386], [], [], [], [], [], [], [295], [], [291], [1096, 1097, 1098, 113, 1099], [], [], [], [], [], [], [], [], [], [291], [], [379, 380, 381, 109, 382], [], [], [], [291], [], [1322, 396, 397, 109, 398], [], [], [], [], [], []]) (by decide +kernel) (by decide +kernel)
set_option maxRecDepth 100000 in
theorem ok_154 : okM mTab Mx154 ∧ plainName Mx154.1.cls = true := okM_of (pss := [[], [1352], []]) (by decide +kernel) (by decide +kernel)
set_option maxRecDepth 100000 in
theorem ok_155 : okM mTab Mx155 ∧ plainName Mx155.1.cls = true := okM_of (pss := [[], [], [], [], [1352], [], []]) (by decide +kernel) (by decide +kernel)
set_option maxRecDepth 100000 in
theorem ok_156 : okM mTab Mx156 ∧ plainName Mx156.1.cls = true := okM_of (pss := [[], [], [], [], [], [], [], [], [], []]) (by decide +kernel) (by decide +kernel)
set_option maxRecDepth 100000 in
theorem ok_157 : okM mTab Mx157 ∧ plainName Mx157.1.cls = true := okM_of (pss := [[], [], [], [], [], [], [], [], [], [], []]) (by decide +kernel) (by decide +kernel)
set_option maxRecDepth 100000 in
theorem ok_158 : okM mTab Mx158 ∧ plainName Mx158.1.cls = true := okM_of (pss := [[], [], [1352], [], [], [], [], [], [], [1354], [], [], [1353], [], [], [], [], [], [], [], [1358], []]) (by decide +kernel) (by decide +kernel)
set_option maxRecDepth 100000 in
theorem ok_159 : okM mTab Mx159 ∧ plainName Mx159.1.cls = true := okM_of (pss := [[], [], [1352], [], [1358], [], [], [], [], [], [], [], [], [], [1353], [], [], [1354], [], [], [], [], [], [], [], [1359], [], []]) (by decide +kernel) (by decide +kernel)
set_option maxRecDepth 100000 in
theorem ok_160 : okM mTab Mx160 ∧ plainName Mx160.1.cls = true := okM_of (pss := [[], [1359], [], [], [], [], [], [], [], [], [1357], [], [], [1357], [], [], [], [], [], [], [], [], [], [], [1359], [], [], [1359], [], [], [], [], [], [], [1357], [], [], [1359], [], [], [], [], [], [], [1353], [], [], [], [], [], []]) (by decide +kernel) (by decide +kernel)
set_option maxRecDepth 100000 in
theorem ok_161 : okM mTab Mx161 ∧ plainName Mx161.1.cls = true := okM_of (pss := [[], [], [1352], [], [1359], [], [], [], [], [], [1359], [], [], [1359], [], [], [], [], [], [], [1353], [], [], [1357], [], [], [1359], [], [], [], [], [], [], [], [], []]) (by decide +kernel) (by decide +kernel)
set_option maxRecDepth 100000 in
theorem ok_162 : okM mTab Mx162 ∧ plainName Mx162.1.cls = true := okM_of (pss := [[], [1353], [], [], []]) (by decide +kernel) (by decide +kernel)
set_option maxRecDepth 100000 in
theorem ok_163 : okM mTab Mx163 ∧ plainName Mx163.1.cls = true := okM_of (pss := [[], [1353], [], [], []]) (by decide +kernel) (by decide +kernel)
set_option maxRecDepth 100000 in
theorem ok_164 : okM mTab Mx164 ∧ plainName Mx164.1.cls = true := okM_of (pss := [[], [1353], [], [], []]) (by decide +kernel) (by decide +kernel)
set_option maxRecDepth 100000 in
theorem ok_165 : okM mTab Mx165 ∧ plainName Mx165.1.cls = true := okM_of (pss := [[], [], [], [], [], [], [], []]) (by decide +kernel) (by decide +kernel)
set_option maxRecDepth 100000 in
theorem ok_166 : okM mTab Mx166 ∧ plainName Mx166.1.cls = true := okM_of (pss := [[], [1353], [], [], [1505, 1506, 116, 1507], [], []]) (by decide +kernel) (by decide +kernel)
set_option maxRecDepth 100000 in
theorem ok_167 : okM mTab Mx167 ∧ plainName Mx167.1.cls = true := okM_of (pss := [[], [1353], [], [], [], [], [], [], [], [], []]) (by decide +kernel) (by decide +kernel)
set_option maxRecDepth 100000 in
theorem ok_168 : okM mTab Mx168 ∧ plainName Mx168.1.cls = true := okM_of (pss := [[], [1353], [], [], [], [], [], [], [], [], []]) (by decide +kernel) (by decide +kernel)
set_option maxRecDepth 100000 in
theorem ok_169 : okM mTab Mx169 ∧ plainName Mx169.1.cls = true := okM_of (pss := [[], [], [], [1489, 1491, 44, 116, 1492], [], [], [1602, 1603, 116, 1604], [], [], [], [], []]) (by decide +kernel) (by decide +kernel)
set_option maxRecDepth 100000 in
theorem ok_170 : okM mTab Mx170 ∧ plainName Mx170.1.cls = true := okM_of (pss := [[], [], [], [1519, 1521, 49, 116, 1522], [], [], [1602, 1603, 116, 1604], [], [], [], [], []]) (by decide +kernel) (by decide +kernel)
set_option maxRecDepth 100000 in
theorem ok_171 : okM mTab Mx171 ∧ plainName Mx171.1.cls = true := okM_of (pss := [[], [], [], [1528, 1530, 51, 116, 1531], [], [], [1602, 1603, 116, 1604], [], [], [], [], []]) (by decide +kernel) (by decide +kernel)
set_option maxRecDepth 100000 in
theorem ok_172 : okM mTab Mx172 ∧ plainName Mx172.1.cls = true := okM_of (pss := [[], [], [], [1602, 1603, 116, 1604], [], [], [], [], []]) (by decide +kernel) (by decide +kernel)
set_option maxRecDepth 100000 in
theorem ok_173 : okM mTab Mx173 ∧ plainName Mx173.1.cls = true := okM_of (pss := [[], [1353], [], [1784], [], [1353], [], [], [], [], [], [], [], [1353], [], [], [], [], [], [], [], [], []]) (by decide +kernel) (by decide +kernel)
