/-! checks of the tables -/
set_option maxRecDepth 100000 in
theorem ok_0 : okM mTab Mx0 ∧ plainName Mx0.1.cls = true := okM_of (pss := [[], [197], [], [], [197], [], [], [117, 373, 375, 374], []]) (by decide +kernel) (by decide +kernel)
set_option maxRecDepth 100000 in
theorem ok_1 : okM mTab Mx1 ∧ plainName Mx1.1.cls = true := okM_of (pss := [[], [], [], [], [], [], [197], [], [], [], [], []]) (by decide +kernel) (by decide +kernel)
set_option maxRecDepth 100000 in
theorem ok_2 : okM mTab Mx2 ∧ plainName Mx2.1.cls = true := okM_of (pss := [[], [], [], [], [], [], [197], [], [], [], []]) (by decide +kernel) (by decide +kernel)
set_option maxRecDepth 100000 in
theorem ok_3 : okM mTab Mx3 ∧ plainName Mx3.1.cls = true := okM_of (pss := [[], [], [], [], [403, 380, 381, 109, 382], [], [], [699, 384, 385, 109, 386], []]) (by decide +kernel) (by decide +kernel)
set_option maxRecDepth 100000 in
theorem ok_4 : okM mTab Mx4 ∧ plainName Mx4.1.cls = true := okM_of (pss := [[], [], [], [], [], [], [], [], [403, 380, 381, 109, 382], []]) (by decide +kernel) (by decide +kernel)
set_option maxRecDepth 100000 in
theorem ok_5 : okM mTab Mx5 ∧ plainName Mx5.1.cls = true := okM_of (pss := [[], [], [], [], [], [], [], [], [], [699, 384, 385, 109, 386], []]) (by decide +kernel) (by decide +kernel)
set_option maxRecDepth 100000 in
theorem ok_6 : okM mTab Mx6 ∧ plainName Mx6.1.cls = true := okM_of (pss := [[], [], [], [], [], [], [], [], [403, 380, 381, 109, 382], []]) (by decide +kernel) (by decide +kernel)
set_option maxRecDepth 100000 in
theorem ok_7 : okM mTab Mx7 ∧ plainName Mx7.1.cls = true := okM_of (pss := [[], [], [], [], [], [], [], [], [], [699, 384, 385, 109, 386], []]) (by decide +kernel) (by decide +kernel)
set_option maxRecDepth 100000 in
theorem ok_8 : okM mTab Mx8 ∧ plainName Mx8.1.cls = true := okM_of (pss := [[], [], [], [], [], [], [], [], [403, 380, 381, 109, 382], []]) (by decide +kernel) (by decide +kernel)
set_option maxRecDepth 100000 in
theorem ok_9 : okM mTab Mx9 ∧ plainName Mx9.1.cls = true := okM_of (pss := [[], [], [], [], [], [], [], [], [], [699, 384, 385, 109, 386], []]) (by decide +kernel) (by decide +kernel)
set_option maxRecDepth 100000 in
theorem ok_10 : okM mTab Mx10 ∧ plainName Mx10.1.cls = true := okM_of (pss := [[], [], [], [], [], [], [], [], [403, 380, 381, 109, 382], []]) (by decide +kernel) (by decide +kernel)
set_option maxRecDepth 100000 in
theorem ok_11 : okM mTab Mx11 ∧ plainName Mx11.1.cls = true := okM_of (pss := [[], [], [], [], [], [699, 384, 385, 109, 386], []]) (by decide +kernel) (by decide +kernel)
set_option maxRecDepth 100000 in
theorem ok_12 : okM mTab Mx12 ∧ plainName Mx12.1.cls = true := okM_of (pss := [[], [197], [], [], [197], [], [], [117, 373, 375, 374], [], [197], [], [], [], [197], [], [], [], [], [129, 1068, 377, 378], [], []]) (by decide +kernel) (by decide +kernel)
set_option maxRecDepth 100000 in
theorem ok_13 : okM mTab Mx13 ∧ plainName Mx13.1.cls = true := okM_of (pss := [[], [], [], [], [], [], [197], [], [], [], [], [], [], [527, 528, 529, 109, 530], [], [], [], [], [], [], []]) (by decide +kernel) (by decide +kernel)
set_option maxRecDepth 100000 in
theorem ok_14 : okM mTab Mx14 ∧ plainName Mx14.1.cls = true := okM_of (pss := [[], [], [], [], [], [], [197], [], [], [], [], [], [], [527, 528, 529, 109, 530], [], [], [], [], [], [], [527, 528, 529, 109, 530], [], [], [], [], [], []]) (by decide +kernel) (by decide +kernel)
set_option maxRecDepth 100000 in
theorem ok_15 : okM mTab Mx15 ∧ plainName Mx15.1.cls = true := okM_of (pss := [[], [], [], [], [], [], [197], [], [], [], [], [], [], [], [399, 400, 401, 109, 402], [], [], [], [], [], []]) (by decide +kernel) (by decide +kernel)
set_option maxRecDepth 100000 in
theorem ok_16 : okM mTab Mx16 ∧ plainName Mx16.1.cls = true := okM_of (pss := [[], [], [395, 396, 397, 109, 398], [], [], [], [], []]) (by decide +kernel) (by decide +kernel)
set_option maxRecDepth 100000 in
theorem ok_17 : okM mTab Mx17 ∧ plainName Mx17.1.cls = true := okM_of (pss := [[], [], [], [399, 400, 401, 109, 402], [], [], [], [], [], [399, 400, 401, 109, 402], [], [], []]) (by decide +kernel) (by decide +kernel)
set_option maxRecDepth 100000 in
theorem ok_18 : okM mTab Mx18 ∧ plainName Mx18.1.cls = true := okM_of (pss := [[], [197], [], [1063], [], [197], [], [], [], [], [], [], [], [197], [], [], [], [], [], [], []]) (by decide +kernel) (by decide +kernel)
set_option maxRecDepth 100000 in
theorem ok_19 : okM mTab Mx19 ∧ plainName Mx19.1.cls = true := okM_of (pss := [[], [197], [], [], [], [197], [], [], [], [], [129, 1068, 377, 378], [], []]) (by decide +kernel) (by decide +kernel)
set_option maxRecDepth 100000 in
theorem ok_20 : okM mTab Mx20 ∧ plainName Mx20.1.cls = true := okM_of (pss := [[], [210], [], [606, 380, 381, 109, 382], [], [], [], [214, 215], [0], [608, 609, 610, 107, 611], [], [], [667, 669, 9, 111, 670], [], [], [214, 215], [5], [608, 609, 610, 107, 611], [], [], [705, 707, 11, 111, 708], [], [], [210], [], [606, 380, 381, 109, 382], [], [], [], [214, 215], [7], [608, 609, 610, 107, 611], [], [], [712, 714, 12, 111, 715], [], [], [210], [], [606, 380, 381, 109, 382], [], [], [], [214, 215], [8], [608, 609, 610, 107, 611], [], [], [721, 723, 13, 111, 724], [], [], [214, 215], [9], [608, 609, 610, 107, 611], [], [], [], [730, 732, 14, 111, 733], [], [], [214, 215], [10], [608, 609, 610, 107, 611], [], [], [], [730, 732, 14, 111, 733], [], [], [214, 215], [687, 679, 680, 107, 681], []]) (by decide +kernel) (by decide +kernel)
set_option maxRecDepth 100000 in
theorem ok_21 : okM mTab Mx21 ∧ plainName Mx21.1.cls = true := okM_of (pss := [[], [214, 215], [], [], [671, 672, 673, 107, 674], [], [], [1], [], [683, 685, 10, 111, 686], [], [], [2], [], [683, 685, 10, 111, 686], [], [], [3], [], [683, 685, 10, 111, 686], [], [], [4], [], [683, 685, 10, 111, 686], [], [], [214, 215], [691, 692, 693, 107, 694], [], [], [], [], [210], [], [606, 380, 381, 109, 382], [], [], [210], [], [], [], [695, 696, 697, 109, 698], [], [210], [], [], [], [695, 696, 697, 109, 698], [], [210], [], [], [], [695, 696, 697, 109, 698], [], [210], [], [], [], [], [], [], [], [695, 696, 697, 109, 698], [], [210], [], [], [], [695, 696, 697, 109, 698], [], [210], [], [], [700, 701, 702, 109, 703], [], []]) (by decide +kernel) (by decide +kernel)
set_option maxRecDepth 100000 in
theorem ok_22 : okM mTab Mx22 ∧ plainName Mx22.1.cls = true := okM_of (pss := [[], [214, 215], [], [608, 609, 610, 107, 611], [], [], [214, 215], [687, 679, 680, 107, 681], [], [], [], [], [214, 215], [], [], [671, 672, 673, 107, 674], []]) (by decide +kernel) (by decide +kernel)
set_option maxRecDepth 100000 in
theorem ok_23 : okM mTab Mx23 ∧ plainName Mx23.1.cls = true := okM_of (pss := [[], [214, 215], [], [], [671, 672, 673, 107, 674], [], [], [214, 215], [6], [608, 609, 610, 107, 611], [], [], [214, 215], [687, 679, 680, 107, 681], [], [], [214, 215], [], [], [671, 672, 673, 107, 674], [], [], [214, 215], [691, 692, 693, 107, 694], [], [], [], [], [210], [], [], [710, 384, 385, 109, 386], [], [210], [], [], [710, 384, 385, 109, 386], [], [210], [], [], [710, 384, 385, 109, 386], [], []]) (by decide +kernel) (by decide +kernel)
set_option maxRecDepth 100000 in
theorem ok_24 : okM mTab Mx24 ∧ plainName Mx24.1.cls = true := okM_of (pss := [[], [214, 215], [], [], [671, 672, 673, 107, 674], [], [], [], [], [], [], [], [210], [], [606, 380, 381, 109, 382], [], [], [210], [], [], [], [716, 717, 718, 109, 719], [], [210], [], [], [], [716, 717, 718, 109, 719], [], [210], [], [], [700, 701, 702, 109, 703], [], []]) (by decide +kernel) (by decide +kernel)
set_option maxRecDepth 100000 in
theorem ok_25 : okM mTab Mx25 ∧ plainName Mx25.1.cls = true := okM_of (pss := [[], [214, 215], [], [], [671, 672, 673, 107, 674], [], [], [], [], [], [], [], [210], [], [606, 380, 381, 109, 382], [], [], [210], [], [], [], [725, 726, 727, 109, 728], [], [210], [], [], [], [725, 726, 727, 109, 728], [], [210], [], [], [700, 701, 702, 109, 703], [], []]) (by decide +kernel) (by decide +kernel)
set_option maxRecDepth 100000 in
theorem ok_26 : okM mTab Mx26 ∧ plainName Mx26.1.cls = true := okM_of (pss := [[], [214, 215], [], [], [671, 672, 673, 107, 674], [], [], [], [], [], [], [], [210], [], [], [710, 384, 385, 109, 386], [], []]) (by decide +kernel) (by decide +kernel)
set_option maxRecDepth 100000 in
theorem ok_27 : okM mTab Mx27 ∧ plainName Mx27.1.cls = true := okM_of (pss := [[], [172], []]) (by decide +kernel) (by decide +kernel)
set_option maxRecDepth 100000 in
theorem ok_28 : okM mTab Mx28 ∧ plainName Mx28.1.cls = true := okM_of (pss := [[], [], [172], [], [], [173], []]) (by decide +kernel) (by decide +kernel)
set_option maxRecDepth 100000 in
theorem ok_29 : okM mTab Mx29 ∧ plainName Mx29.1.cls = true := okM_of (pss := [[], [172], [], [], [172], [], [], [], [166], [], [172], [], [], [], [167], [], [172], [], [], [], [168], [], [172], [], [173], [], [], [], [172], [], [], [172], []]) (by decide +kernel) (by decide +kernel)
set_option maxRecDepth 100000 in
theorem ok_30 : okM mTab Mx30 ∧ plainName Mx30.1.cls = true := okM_of (pss := [[], [173], [], [], [173], [], [], [], [169], [], [173], [], [], [], [], [173], [], [], [173], []]) (by decide +kernel) (by decide +kernel)
set_option maxRecDepth 100000 in
theorem ok_31 : okM mTab Mx31 ∧ plainName Mx31.1.cls = true := okM_of (pss := [[], [166], [], [], [166], [], [], [117, 552, 375, 374], [], [167], [], [], [167], [], [], [117, 552, 375, 374], [], [168], [], [], [168], [], [], [117, 552, 375, 374], [], [169], [], [], [169], [], [], [117, 552, 375, 374], [], [], [172], [172], [], [], [173], [173], []]) (by decide +kernel) (by decide +kernel)
set_option maxRecDepth 100000 in
theorem ok_32 : okM mTab Mx32 ∧ plainName Mx32.1.cls = true := okM_of (pss := [[], [], [], [], [], [], [170], [], [], [], [], [456, 400, 401, 109, 402], [], [], [], [], [170], [], [], [], [], [170], [], [], [], [], [170], [], [], [], [457, 380, 381, 109, 382], [], [], [170], [], [], [170], [], [], [], [], [170], [], [], [], [], [], [], [], [], [], [], [], [], [], [], [], [], [172], [], [], [], [], [], [166], [], [], [], [], [], [], [], [168], [], [], [458, 460, 2, 108, 461], [], [], [], [167], [], [], [], [], [], [168], [], [], [], [], [], [], []]) (by decide +kernel) (by decide +kernel)
set_option maxRecDepth 100000 in
theorem ok_33 : okM mTab Mx33 ∧ plainName Mx33.1.cls = true := okM_of (pss := [[], [], [], [], [129, 462, 434, 435], [], [], [], [], [], [], [], [], [169], [], [], [], [], [], [], [], [], [], [], [171], [], [], [], [], [], [], [], [], [], [], [463, 465, 3, 108, 466], [], [], [], [], [], [], [], [], [], [], [171], [], [], [], [], [], [171], [], [], [], [], [], [], [], [], [], [], [], [], [], [], [171], [], [], [], [], [], [171], [], [], [], [], [], [171], [], [], [], [], [467, 468, 108, 469], [], [], [], [], [], [], [], [171], [], [], [], [], [], [], [], []]) (by decide +kernel) (by decide +kernel)
set_option maxRecDepth 100000 in
theorem ok_34 : okM mTab Mx34 ∧ plainName Mx34.1.cls = true := okM_of (pss := [[], [], [], [], [], [], [170], [], [], [], [], []]) (by decide +kernel) (by decide +kernel)
set_option maxRecDepth 100000 in
theorem ok_35 : okM mTab Mx35 ∧ plainName Mx35.1.cls = true := okM_of (pss := [[], [], [], [], [], [], [], [], [], [], [], [], [], [], [], [], [], [], [], [], [], [], [], [], [], [], [], []]) (by decide +kernel) (by decide +kernel)
set_option maxRecDepth 100000 in
theorem ok_36 : okM mTab Mx36 ∧ plainName Mx36.1.cls = true := okM_of (pss := [[], [738, 740, 15, 112, 741], [], [], [], [], [], [212, 213], [746, 679, 680, 107, 681], [], [], [212, 213], [], [], [747, 672, 673, 107, 674], [], [], [], [], [], [], [], [212, 213], [14], [743, 609, 610, 107, 611], [], [], [], [749, 751, 16, 112, 752], [], [], [], [], [227], [], [], [788, 789, 790, 108, 791], [], []]) (by decide +kernel) (by decide +kernel)
set_option maxRecDepth 100000 in
theorem ok_37 : okM mTab Mx37 ∧ plainName Mx37.1.cls = true := okM_of (pss := [[], [212, 213], [11], [743, 609, 610, 107, 611], [], [], [], [], [212, 213], [12], [743, 609, 610, 107, 611], [], [], [], [], [212, 213], [13], [743, 609, 610, 107, 611], [], [], [], [], []]) (by decide +kernel) (by decide +kernel)
set_option maxRecDepth 100000 in
theorem ok_38 : okM mTab Mx38 ∧ plainName Mx38.1.cls = true := okM_of (pss := [[], [], [], [], [], [], [], [753, 755, 17, 112, 756], [], [], [], [], [], [], [], [], [], [212, 213], [25], [743, 609, 610, 107, 611], [], [], [], [753, 755, 17, 112, 756], [], [], [], [], [227], [], [758, 759, 760, 108, 761], [], [], [], [], [], [227], [], [758, 759, 760, 108, 761], [], [212, 213], [26], [743, 609, 610, 107, 611], [], [], [], [], [], [], [212, 213], [746, 679, 680, 107, 681], []]) (by decide +kernel) (by decide +kernel)
set_option maxRecDepth 100000 in
theorem ok_39 : okM mTab Mx39 ∧ plainName Mx39.1.cls = true := okM_of (pss := [[], [], [], [], [212, 213], [15], [743, 609, 610, 107, 611], [], [], [], [], [], [753, 755, 17, 112, 756], [], [], [], [], [227], [], [758, 759, 760, 108, 761], [], [], [], [], [], [], [212, 213], [], [762, 763, 764, 107, 765], [], [], [], [], [], [749, 751, 16, 112, 752], [], [], [212, 213], [], [762, 763, 764, 107, 765], [], [], [212, 213], [746, 679, 680, 107, 681], [], [], [], [], [], [], [212, 213], [16], [743, 609, 610, 107, 611], [], [], [227], [], [758, 759, 760, 108, 761], [], [], [], [767, 769, 18, 112, 770], [], [], [], [], [212, 213], [], [762, 763, 764, 107, 765], [], [], [], [], [212, 213], [], [762, 763, 764, 107, 765], [], [], [212, 213], [746, 679, 680, 107, 681], [], [], [767, 769, 18, 112, 770], [], [], [], [], [227], [], [], [], [], [], [758, 759, 760, 108, 761], [], []]) (by decide +kernel) (by decide +kernel)
