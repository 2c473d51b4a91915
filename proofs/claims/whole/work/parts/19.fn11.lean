def f_X10_readIsleLine_b95 (F : Nat) (t0 : Int32) (S : mS) : Option mR := some (.inl (some (.int (t0 &&& 1))), S)
def f_X10_readIsleLine_b94 (F : Nat) (S : mS) : Option mR := f_X10_readIsleLine_b95 F ((0 : Int32)) S
def f_X10_readIsleLine (F : Nat) (S : mS) : Option mR := bI0 (f_X10_isWord F 0 S) (fun r2 S1 => (if r2 = 0 then bI0 (f_X10_isWord F 5 S1) (fun r4 S3 => (if r4 = 0 then bI0 (f_X10_isWord F 7 S3) (fun r6 S5 => (if r6 = 0 then bI0 (f_X10_isWord F 8 S5) (fun r8 S7 => (if r8 = 0 then bI0 (f_X10_isWord F 9 S7) (fun r10 S9 => (if r10 = 0 then bI0 (f_X10_isWord F 10 S9) (fun r12 S11 => (if r12 = 0 then f_X10_readIsleLine_b94 F S11 else bI0 (f_X10_readNumber F ((14 : Int32)) S11) (fun r14 S13 => (if r14 = 0 then f_X10_readIsleLine_b94 F S13 else f_X10_readIsleLine_b95 F ((1 : Int32)) S13)))) else bI0 (f_X10_readNumber F ((13 : Int32)) S9) (fun r16 S15 => some (.inl (some (.int (r16 &&& 1))), S15)))) else bI0 (f_X10_readClimber F S7) (fun r18 S17 => some (.inl (some (.int (r18 &&& 1))), S17)))) else bI0 (f_X10_readHolder F S5) (fun r20 S19 => some (.inl (some (.int (r20 &&& 1))), S19)))) else bI0 (f_X10_readRope F S3) (fun r22 S21 => some (.inl (some (.int (r22 &&& 1))), S21)))) else bI0 (f_X10_readLedge F S1) (fun r24 S23 => some (.inl (some (.int (r24 &&& 1))), S23))))
theorem f_X10_readIsleLine_b95_ok {d F : Nat} {t0 : Int32} {S : mS} {r : mR} (hf : f_X10_readIsleLine_b95 F t0 S = some r) : Ev (d + 5) Mx191 (95, [mK], [.int t0], S, 0) r := by
  unfold f_X10_readIsleLine_b95 at hf
  exact ev_ret hf rfl rfl
theorem f_X10_readIsleLine_b94_ok {d F : Nat} {S : mS} {r : mR} (hf : f_X10_readIsleLine_b94 F  S = some r) : Ev (d + 5) Mx191 (94, [mK], [], S, 0) r := by
  unfold f_X10_readIsleLine_b94 at hf
  exact ev_sts 1 (c2 := (95, [mK], [.int ((0 : Int32))], S, 0)) rfl (f_X10_readIsleLine_b95_ok hf)
theorem f_X10_readIsleLine_ok {d F : Nat} {S : mS} {r : mR} (hf : f_X10_readIsleLine F S = some r) : Ev (d + 5) Mx191 (entry Mx191 [.ref 63] S) r := by
  unfold f_X10_readIsleLine at hf
  refine ev_sts 2 (c2 := (3, [.ref 63], [.ref 1000, .ref 63], S, 0)) rfl ?_
  refine ev_bI0 (d := d + 4) (M' := Mx179) (ct := (6, [.ref 63], [], S, 0)) hf rfl rfl rfl rfl (fun r9 h9 => f_X10_isWord_ok_1000 (d := d + 4) h9) (fun r2 S1 hf => ?_)
  show Ev (d + 5) Mx191 (6, [.ref 63], [.int r2], S1, 0) r
  refine ev_if (c1 := (14, [.ref 63], [], S1, 0)) (c2 := (9, [.ref 63], [], S1, 0)) hf rfl rfl (fun _ hf => ?_) (fun _ hf => ?_)
  · refine ev_sts 2 (c2 := (17, [.ref 63], [.ref 1005, .ref 63], S1, 0)) rfl ?_
    refine ev_bI0 (d := d + 4) (M' := Mx179) (ct := (20, [.ref 63], [], S1, 0)) hf rfl rfl rfl rfl (fun r9 h9 => f_X10_isWord_ok_1005 (d := d + 4) h9) (fun r4 S3 hf => ?_)
    show Ev (d + 5) Mx191 (20, [.ref 63], [.int r4], S3, 0) r
    refine ev_if (c1 := (28, [.ref 63], [], S3, 0)) (c2 := (23, [.ref 63], [], S3, 0)) hf rfl rfl (fun _ hf => ?_) (fun _ hf => ?_)
    · refine ev_sts 2 (c2 := (31, [.ref 63], [.ref 1007, .ref 63], S3, 0)) rfl ?_
      refine ev_bI0 (d := d + 4) (M' := Mx179) (ct := (34, [.ref 63], [], S3, 0)) hf rfl rfl rfl rfl (fun r9 h9 => f_X10_isWord_ok_1007 (d := d + 4) h9) (fun r6 S5 hf => ?_)
      show Ev (d + 5) Mx191 (34, [.ref 63], [.int r6], S5, 0) r
      refine ev_if (c1 := (42, [.ref 63], [], S5, 0)) (c2 := (37, [.ref 63], [], S5, 0)) hf rfl rfl (fun _ hf => ?_) (fun _ hf => ?_)
      · refine ev_sts 2 (c2 := (45, [.ref 63], [.ref 1008, .ref 63], S5, 0)) rfl ?_
        refine ev_bI0 (d := d + 4) (M' := Mx179) (ct := (48, [.ref 63], [], S5, 0)) hf rfl rfl rfl rfl (fun r9 h9 => f_X10_isWord_ok_1008 (d := d + 4) h9) (fun r8 S7 hf => ?_)
        show Ev (d + 5) Mx191 (48, [.ref 63], [.int r8], S7, 0) r
        refine ev_if (c1 := (56, [.ref 63], [], S7, 0)) (c2 := (51, [.ref 63], [], S7, 0)) hf rfl rfl (fun _ hf => ?_) (fun _ hf => ?_)
        · refine ev_sts 2 (c2 := (59, [.ref 63], [.ref 1009, .ref 63], S7, 0)) rfl ?_
          refine ev_bI0 (d := d + 4) (M' := Mx179) (ct := (62, [.ref 63], [], S7, 0)) hf rfl rfl rfl rfl (fun r9 h9 => f_X10_isWord_ok_1009 (d := d + 4) h9) (fun r10 S9 hf => ?_)
          show Ev (d + 5) Mx191 (62, [.ref 63], [.int r10], S9, 0) r
          refine ev_if (c1 := (72, [.ref 63], [], S9, 0)) (c2 := (65, [.ref 63], [], S9, 0)) hf rfl rfl (fun _ hf => ?_) (fun _ hf => ?_)
          · refine ev_sts 2 (c2 := (75, [.ref 63], [.ref 1010, .ref 63], S9, 0)) rfl ?_
            refine ev_bI0 (d := d + 4) (M' := Mx179) (ct := (78, [.ref 63], [], S9, 0)) hf rfl rfl rfl rfl (fun r9 h9 => f_X10_isWord_ok_1010 (d := d + 4) h9) (fun r12 S11 hf => ?_)
            show Ev (d + 5) Mx191 (78, [.ref 63], [.int r12], S11, 0) r
            refine ev_if (c1 := (94, [mK], [], S11, 0)) (c2 := (81, [.ref 63], [], S11, 0)) hf rfl rfl (fun _ hf => ?_) (fun _ hf => ?_)
            · exact f_X10_readIsleLine_b94_ok hf
            · refine ev_sts 2 (c2 := (84, [.ref 63], [.int ((14 : Int32)), .ref 63], S11, 0)) rfl ?_
              refine ev_bI0 (d := d + 4) (M' := Mx190) (ct := (87, [.ref 63], [], S11, 0)) hf rfl rfl rfl rfl (fun r9 h9 => f_X10_readNumber_ok (d := d + 1) h9) (fun r14 S13 hf => ?_)
              show Ev (d + 5) Mx191 (87, [.ref 63], [.int r14], S13, 0) r
              refine ev_if (c1 := (94, [mK], [], S13, 0)) (c2 := (90, [.ref 63], [], S13, 0)) hf rfl rfl (fun _ hf => ?_) (fun _ hf => ?_)
              · exact f_X10_readIsleLine_b94_ok hf
              · exact ev_sts 2 (c2 := (95, [mK], [.int ((1 : Int32))], S13, 0)) rfl (f_X10_readIsleLine_b95_ok hf)
          · refine ev_sts 2 (c2 := (68, [.ref 63], [.int ((13 : Int32)), .ref 63], S9, 0)) rfl ?_
            refine ev_bI0 (d := d + 4) (M' := Mx190) (ct := (71, [.ref 63], [], S9, 0)) hf rfl rfl rfl rfl (fun r9 h9 => f_X10_readNumber_ok (d := d + 1) h9) (fun r16 S15 hf => ?_)
            show Ev (d + 5) Mx191 (71, [.ref 63], [.int r16], S15, 0) r
            exact ev_ret hf rfl rfl
        · refine ev_sts 1 (c2 := (52, [.ref 63], [.ref 63], S7, 0)) rfl ?_
          refine ev_bI0 (d := d + 4) (M' := Mx189) (ct := (55, [.ref 63], [], S7, 0)) hf rfl rfl rfl rfl (fun r9 h9 => f_X10_readClimber_ok (d := d + 1) h9) (fun r18 S17 hf => ?_)
          show Ev (d + 5) Mx191 (55, [.ref 63], [.int r18], S17, 0) r
          exact ev_ret hf rfl rfl
      · refine ev_sts 1 (c2 := (38, [.ref 63], [.ref 63], S5, 0)) rfl ?_
        refine ev_bI0 (d := d + 4) (M' := Mx188) (ct := (41, [.ref 63], [], S5, 0)) hf rfl rfl rfl rfl (fun r9 h9 => f_X10_readHolder_ok (d := d + 1) h9) (fun r20 S19 hf => ?_)
        show Ev (d + 5) Mx191 (41, [.ref 63], [.int r20], S19, 0) r
        exact ev_ret hf rfl rfl
    · refine ev_sts 1 (c2 := (24, [.ref 63], [.ref 63], S3, 0)) rfl ?_
      refine ev_bI0 (d := d + 4) (M' := Mx187) (ct := (27, [.ref 63], [], S3, 0)) hf rfl rfl rfl rfl (fun r9 h9 => f_X10_readRope_ok (d := d) h9) (fun r22 S21 hf => ?_)
      show Ev (d + 5) Mx191 (27, [.ref 63], [.int r22], S21, 0) r
      exact ev_ret hf rfl rfl
  · refine ev_sts 1 (c2 := (10, [.ref 63], [.ref 63], S1, 0)) rfl ?_
    refine ev_bI0 (d := d + 4) (M' := Mx186) (ct := (13, [.ref 63], [], S1, 0)) hf rfl rfl rfl rfl (fun r9 h9 => f_X10_readLedge_ok (d := d) h9) (fun r24 S23 hf => ?_)
    show Ev (d + 5) Mx191 (13, [.ref 63], [.int r24], S23, 0) r
    exact ev_ret hf rfl rfl
def f_X10_passes (F : Nat) (w1 : Nat) (S : mS) : Option mR := bV0 (f_X10_letters F S) (fun S1 => bI0 (f_X10_isWord F w1 S1) (fun r3 S2 => (if r3 = 0 then bnd (upS S2 63 10 (S2 63 12)) (fun S4 => some (.inl (some (.int (((0 : Int32)) &&& 1))), S4)) else some (.inl (some (.int (((1 : Int32)) &&& 1))), S2))))
theorem f_X10_passes_ok_1016 {d F : Nat} {S : mS} {r : mR} (hf : f_X10_passes F 16 S = some r) : Ev (d + 3) Mx180 (entry Mx180 [.ref 63, .ref 1016] S) r := by
  unfold f_X10_passes at hf
  refine ev_sts 1 (c2 := (1, [.ref 63, .ref 1016], [.ref 63], S, 0)) rfl ?_
  refine ev_bV0 (d := d + 2) (M' := Mx178) (ct := (4, [.ref 63, .ref 1016], [], S, 0)) hf rfl rfl rfl rfl (fun r9 h9 => f_X10_letters_ok (d := d) h9) (fun S1 hf => ?_)
  show Ev (d + 3) Mx180 (4, [.ref 63, .ref 1016], [], S1, 0) r
  refine ev_sts 2 (c2 := (6, [.ref 63, .ref 1016], [.ref 1016, .ref 63], S1, 0)) rfl ?_
  refine ev_bI0 (d := d + 2) (M' := Mx179) (ct := (9, [.ref 63, .ref 1016], [], S1, 0)) hf rfl rfl rfl rfl (fun r9 h9 => f_X10_isWord_ok_1016 (d := d + 2) h9) (fun r3 S2 hf => ?_)
  show Ev (d + 3) Mx180 (9, [.ref 63, .ref 1016], [.int r3], S2, 0) r
  refine ev_if (c1 := (14, [.ref 63, .ref 1016], [], S2, 0)) (c2 := (12, [.ref 63, .ref 1016], [], S2, 0)) hf rfl rfl (fun _ hf => ?_) (fun _ hf => ?_)
  · refine ev_sts 4 (c2 := (22, [.ref 63, .ref 1016], [], (upS S2 63 10 (S2 63 12)), 0)) rfl ?_
    refine ev_let (P := fun S4 => Ev (d + 3) Mx180 (22, [.ref 63, .ref 1016], [], S4, 0) r) (fun S4 hf => ?_) hf
    refine ev_sts 1 (c2 := (23, [.ref 63, .ref 1016], [.int ((0 : Int32))], S4, 0)) rfl ?_
    exact ev_ret hf rfl rfl
  · refine ev_sts 1 (c2 := (13, [.ref 63, .ref 1016], [.int ((1 : Int32))], S2, 0)) rfl ?_
    exact ev_ret hf rfl rfl
theorem f_X10_passes_ok_1015 {d F : Nat} {S : mS} {r : mR} (hf : f_X10_passes F 15 S = some r) : Ev (d + 3) Mx180 (entry Mx180 [.ref 63, .ref 1015] S) r := by
  unfold f_X10_passes at hf
  refine ev_sts 1 (c2 := (1, [.ref 63, .ref 1015], [.ref 63], S, 0)) rfl ?_
  refine ev_bV0 (d := d + 2) (M' := Mx178) (ct := (4, [.ref 63, .ref 1015], [], S, 0)) hf rfl rfl rfl rfl (fun r9 h9 => f_X10_letters_ok (d := d) h9) (fun S1 hf => ?_)
  show Ev (d + 3) Mx180 (4, [.ref 63, .ref 1015], [], S1, 0) r
  refine ev_sts 2 (c2 := (6, [.ref 63, .ref 1015], [.ref 1015, .ref 63], S1, 0)) rfl ?_
  refine ev_bI0 (d := d + 2) (M' := Mx179) (ct := (9, [.ref 63, .ref 1015], [], S1, 0)) hf rfl rfl rfl rfl (fun r9 h9 => f_X10_isWord_ok_1015 (d := d + 2) h9) (fun r3 S2 hf => ?_)
  show Ev (d + 3) Mx180 (9, [.ref 63, .ref 1015], [.int r3], S2, 0) r
  refine ev_if (c1 := (14, [.ref 63, .ref 1015], [], S2, 0)) (c2 := (12, [.ref 63, .ref 1015], [], S2, 0)) hf rfl rfl (fun _ hf => ?_) (fun _ hf => ?_)
  · refine ev_sts 4 (c2 := (22, [.ref 63, .ref 1015], [], (upS S2 63 10 (S2 63 12)), 0)) rfl ?_
    refine ev_let (P := fun S4 => Ev (d + 3) Mx180 (22, [.ref 63, .ref 1015], [], S4, 0) r) (fun S4 hf => ?_) hf
    refine ev_sts 1 (c2 := (23, [.ref 63, .ref 1015], [.int ((0 : Int32))], S4, 0)) rfl ?_
    exact ev_ret hf rfl rfl
  · refine ev_sts 1 (c2 := (13, [.ref 63, .ref 1015], [.int ((1 : Int32))], S2, 0)) rfl ?_
    exact ev_ret hf rfl rfl
theorem f_X10_passes_ok_1021 {d F : Nat} {S : mS} {r : mR} (hf : f_X10_passes F 21 S = some r) : Ev (d + 3) Mx180 (entry Mx180 [.ref 63, .ref 1021] S) r := by
  unfold f_X10_passes at hf
  refine ev_sts 1 (c2 := (1, [.ref 63, .ref 1021], [.ref 63], S, 0)) rfl ?_
  refine ev_bV0 (d := d + 2) (M' := Mx178) (ct := (4, [.ref 63, .ref 1021], [], S, 0)) hf rfl rfl rfl rfl (fun r9 h9 => f_X10_letters_ok (d := d) h9) (fun S1 hf => ?_)
  show Ev (d + 3) Mx180 (4, [.ref 63, .ref 1021], [], S1, 0) r
  refine ev_sts 2 (c2 := (6, [.ref 63, .ref 1021], [.ref 1021, .ref 63], S1, 0)) rfl ?_
  refine ev_bI0 (d := d + 2) (M' := Mx179) (ct := (9, [.ref 63, .ref 1021], [], S1, 0)) hf rfl rfl rfl rfl (fun r9 h9 => f_X10_isWord_ok_1021 (d := d + 2) h9) (fun r3 S2 hf => ?_)
  show Ev (d + 3) Mx180 (9, [.ref 63, .ref 1021], [.int r3], S2, 0) r
  refine ev_if (c1 := (14, [.ref 63, .ref 1021], [], S2, 0)) (c2 := (12, [.ref 63, .ref 1021], [], S2, 0)) hf rfl rfl (fun _ hf => ?_) (fun _ hf => ?_)
  · refine ev_sts 4 (c2 := (22, [.ref 63, .ref 1021], [], (upS S2 63 10 (S2 63 12)), 0)) rfl ?_
    refine ev_let (P := fun S4 => Ev (d + 3) Mx180 (22, [.ref 63, .ref 1021], [], S4, 0) r) (fun S4 hf => ?_) hf
    refine ev_sts 1 (c2 := (23, [.ref 63, .ref 1021], [.int ((0 : Int32))], S4, 0)) rfl ?_
    exact ev_ret hf rfl rfl
  · refine ev_sts 1 (c2 := (13, [.ref 63, .ref 1021], [.int ((1 : Int32))], S2, 0)) rfl ?_
    exact ev_ret hf rfl rfl
theorem f_X10_passes_ok_1022 {d F : Nat} {S : mS} {r : mR} (hf : f_X10_passes F 22 S = some r) : Ev (d + 3) Mx180 (entry Mx180 [.ref 63, .ref 1022] S) r := by
  unfold f_X10_passes at hf
  refine ev_sts 1 (c2 := (1, [.ref 63, .ref 1022], [.ref 63], S, 0)) rfl ?_
  refine ev_bV0 (d := d + 2) (M' := Mx178) (ct := (4, [.ref 63, .ref 1022], [], S, 0)) hf rfl rfl rfl rfl (fun r9 h9 => f_X10_letters_ok (d := d) h9) (fun S1 hf => ?_)
  show Ev (d + 3) Mx180 (4, [.ref 63, .ref 1022], [], S1, 0) r
  refine ev_sts 2 (c2 := (6, [.ref 63, .ref 1022], [.ref 1022, .ref 63], S1, 0)) rfl ?_
  refine ev_bI0 (d := d + 2) (M' := Mx179) (ct := (9, [.ref 63, .ref 1022], [], S1, 0)) hf rfl rfl rfl rfl (fun r9 h9 => f_X10_isWord_ok_1022 (d := d + 2) h9) (fun r3 S2 hf => ?_)
  show Ev (d + 3) Mx180 (9, [.ref 63, .ref 1022], [.int r3], S2, 0) r
  refine ev_if (c1 := (14, [.ref 63, .ref 1022], [], S2, 0)) (c2 := (12, [.ref 63, .ref 1022], [], S2, 0)) hf rfl rfl (fun _ hf => ?_) (fun _ hf => ?_)
  · refine ev_sts 4 (c2 := (22, [.ref 63, .ref 1022], [], (upS S2 63 10 (S2 63 12)), 0)) rfl ?_
    refine ev_let (P := fun S4 => Ev (d + 3) Mx180 (22, [.ref 63, .ref 1022], [], S4, 0) r) (fun S4 hf => ?_) hf
    refine ev_sts 1 (c2 := (23, [.ref 63, .ref 1022], [.int ((0 : Int32))], S4, 0)) rfl ?_
    exact ev_ret hf rfl rfl
  · refine ev_sts 1 (c2 := (13, [.ref 63, .ref 1022], [.int ((1 : Int32))], S2, 0)) rfl ?_
    exact ev_ret hf rfl rfl
theorem f_X10_passes_ok_1014 {d F : Nat} {S : mS} {r : mR} (hf : f_X10_passes F 14 S = some r) : Ev (d + 3) Mx180 (entry Mx180 [.ref 63, .ref 1014] S) r := by
  unfold f_X10_passes at hf
  refine ev_sts 1 (c2 := (1, [.ref 63, .ref 1014], [.ref 63], S, 0)) rfl ?_
  refine ev_bV0 (d := d + 2) (M' := Mx178) (ct := (4, [.ref 63, .ref 1014], [], S, 0)) hf rfl rfl rfl rfl (fun r9 h9 => f_X10_letters_ok (d := d) h9) (fun S1 hf => ?_)
  show Ev (d + 3) Mx180 (4, [.ref 63, .ref 1014], [], S1, 0) r
  refine ev_sts 2 (c2 := (6, [.ref 63, .ref 1014], [.ref 1014, .ref 63], S1, 0)) rfl ?_
  refine ev_bI0 (d := d + 2) (M' := Mx179) (ct := (9, [.ref 63, .ref 1014], [], S1, 0)) hf rfl rfl rfl rfl (fun r9 h9 => f_X10_isWord_ok_1014 (d := d + 2) h9) (fun r3 S2 hf => ?_)
  show Ev (d + 3) Mx180 (9, [.ref 63, .ref 1014], [.int r3], S2, 0) r
  refine ev_if (c1 := (14, [.ref 63, .ref 1014], [], S2, 0)) (c2 := (12, [.ref 63, .ref 1014], [], S2, 0)) hf rfl rfl (fun _ hf => ?_) (fun _ hf => ?_)
  · refine ev_sts 4 (c2 := (22, [.ref 63, .ref 1014], [], (upS S2 63 10 (S2 63 12)), 0)) rfl ?_
    refine ev_let (P := fun S4 => Ev (d + 3) Mx180 (22, [.ref 63, .ref 1014], [], S4, 0) r) (fun S4 hf => ?_) hf
    refine ev_sts 1 (c2 := (23, [.ref 63, .ref 1014], [.int ((0 : Int32))], S4, 0)) rfl ?_
    exact ev_ret hf rfl rfl
  · refine ev_sts 1 (c2 := (13, [.ref 63, .ref 1014], [.int ((1 : Int32))], S2, 0)) rfl ?_
    exact ev_ret hf rfl rfl
def f_X10_readPart_b157 (F : Nat) (t0 : Int32) (S : mS) : Option mR := some (.inl (some (.int (t0 &&& 1))), S)
def f_X10_readPart_b148 (F : Nat) (x1 : Int32) (S : mS) : Option mR := (if x1 < 0 then f_X10_readPart_b157 F ((0 : Int32)) S else f_X10_readPart_b157 F ((1 : Int32)) S)
def f_X10_readPart_b141 (F : Nat) (t0 : Int32) (S : mS) : Option mR := bV0 (f_X10_emits t0 ((0 : Int32)) S) (fun S18 => f_X10_readPart_b148 F t0 S18)
def f_X10_readPart (F : Nat) (S : mS) : Option mR := bV0 (f_X10_letters F S) (fun S1 => (if ¬ (S1 63 10) = (S1 63 12) then bI0 (f_X10_isWord F 18 S1) (fun r3 S2 => (if r3 = 0 then bI0 (f_X10_isWord F 17 S2) (fun r5 S4 => (if r5 = 0 then bI0 (f_X10_isWord F 1 S4) (fun r7 S6 => (if r7 = 0 then bI0 (f_X10_isWord F 19 S6) (fun r9 S8 => (if r9 = 0 then bI0 (f_X10_isWord F 2 S8) (fun r11 S10 => (if r11 = 0 then bI0 (f_X10_isWord F 3 S10) (fun r13 S12 => (if r13 = 0 then bI0 (f_X10_isWord F 4 S12) (fun r15 S14 => (if r15 = 0 then bI0 (f_X10_isWord F 20 S14) (fun r17 S16 => (if r17 = 0 then f_X10_readPart_b141 F ((-1 : Int32)) S16 else f_X10_readPart_b141 F ((7 : Int32)) S16)) else f_X10_readPart_b141 F ((6 : Int32)) S14)) else f_X10_readPart_b141 F ((5 : Int32)) S12)) else f_X10_readPart_b141 F ((4 : Int32)) S10)) else f_X10_readPart_b141 F ((3 : Int32)) S8)) else f_X10_readPart_b141 F ((2 : Int32)) S6)) else f_X10_readPart_b141 F ((1 : Int32)) S4)) else f_X10_readPart_b141 F ((0 : Int32)) S2)) else bI0 (f_X10_number F ((0 : Int32)) ((999 : Int32)) S1) (fun r20 S19 => bV0 (f_X10_emits ((9 : Int32)) r20 S19) (fun S21 => f_X10_readPart_b148 F r20 S21))))
theorem f_X10_readPart_b157_ok {d F : Nat} {t0 : Int32} {S : mS} {r : mR} (hf : f_X10_readPart_b157 F t0 S = some r) : Ev (d + 3) Mx193 (157, [mK, mK], [.int t0], S, 0) r := by
  unfold f_X10_readPart_b157 at hf
  exact ev_ret hf rfl rfl
theorem f_X10_readPart_b148_ok {d F : Nat} {x1 : Int32} {S : mS} {r : mR} (hf : f_X10_readPart_b148 F x1 S = some r) : Ev (d + 3) Mx193 (148, [mK, .int x1], [], S, 0) r := by
  unfold f_X10_readPart_b148 at hf
  refine ev_sts 1 (c2 := (149, [mK, .int x1], [.int x1], S, 0)) rfl ?_
  refine ev_if (c1 := (156, [mK, .int x1], [], S, 0)) (c2 := (152, [mK, .int x1], [], S, 0)) hf rfl rfl (fun _ hf => ?_) (fun _ hf => ?_)
  · exact ev_sts 1 (c2 := (157, [mK, mK], [.int ((0 : Int32))], S, 0)) rfl (f_X10_readPart_b157_ok hf)
  · exact ev_sts 2 (c2 := (157, [mK, mK], [.int ((1 : Int32))], S, 0)) rfl (f_X10_readPart_b157_ok hf)
theorem f_X10_readPart_b141_ok {d F : Nat} {t0 : Int32} {S : mS} {r : mR} (hf : f_X10_readPart_b141 F t0 S = some r) : Ev (d + 3) Mx193 (141, [.ref 63, mK], [.int t0], S, 0) r := by
  unfold f_X10_readPart_b141 at hf
  refine ev_sts 4 (c2 := (145, [.ref 63, .int t0], [.int ((0 : Int32)), .int t0, .ref 63], S, 0)) rfl ?_
  refine ev_bV0 (d := d + 2) (M' := Mx192) (ct := (148, [mK, .int t0], [], S, 0)) hf rfl rfl rfl rfl (fun r9 h9 => f_X10_emits_ok (d := d + 2) h9) (fun S18 hf => ?_)
  show Ev (d + 3) Mx193 (148, [mK, .int t0], [], S18, 0) r
  exact f_X10_readPart_b148_ok hf
theorem f_X10_readPart_ok {d F : Nat} {S : mS} {r : mR} (hf : f_X10_readPart F S = some r) : Ev (d + 3) Mx193 (entry Mx193 [.ref 63] S) r := by
  unfold f_X10_readPart at hf
  refine ev_sts 1 (c2 := (1, [.ref 63, mK], [.ref 63], S, 0)) rfl ?_
  refine ev_bV0 (d := d + 2) (M' := Mx178) (ct := (4, [.ref 63, mK], [], S, 0)) hf rfl rfl rfl rfl (fun r9 h9 => f_X10_letters_ok (d := d) h9) (fun S1 hf => ?_)
  show Ev (d + 3) Mx193 (4, [.ref 63, mK], [], S1, 0) r
  refine ev_sts 4 (c2 := (12, [.ref 63, mK], [.int (S1 63 12), .int (S1 63 10)], S1, 0)) rfl ?_
  refine ev_if (c1 := (34, [.ref 63, mK], [], S1, 0)) (c2 := (15, [.ref 63, mK], [], S1, 0)) hf rfl rfl (fun _ hf => ?_) (fun _ hf => ?_)
  · refine ev_sts 2 (c2 := (37, [.ref 63, mK], [.ref 1018, .ref 63], S1, 0)) rfl ?_
    refine ev_bI0 (d := d + 2) (M' := Mx179) (ct := (40, [.ref 63, mK], [], S1, 0)) hf rfl rfl rfl rfl (fun r9 h9 => f_X10_isWord_ok_1018 (d := d + 2) h9) (fun r3 S2 hf => ?_)
    show Ev (d + 3) Mx193 (40, [.ref 63, mK], [.int r3], S2, 0) r
    refine ev_if (c1 := (47, [.ref 63, mK], [], S2, 0)) (c2 := (43, [.ref 63, mK], [], S2, 0)) hf rfl rfl (fun _ hf => ?_) (fun _ hf => ?_)
    · refine ev_sts 2 (c2 := (50, [.ref 63, mK], [.ref 1017, .ref 63], S2, 0)) rfl ?_
      refine ev_bI0 (d := d + 2) (M' := Mx179) (ct := (53, [.ref 63, mK], [], S2, 0)) hf rfl rfl rfl rfl (fun r9 h9 => f_X10_isWord_ok_1017 (d := d + 2) h9) (fun r5 S4 hf => ?_)
      show Ev (d + 3) Mx193 (53, [.ref 63, mK], [.int r5], S4, 0) r
      refine ev_if (c1 := (60, [.ref 63, mK], [], S4, 0)) (c2 := (56, [.ref 63, mK], [], S4, 0)) hf rfl rfl (fun _ hf => ?_) (fun _ hf => ?_)
      · refine ev_sts 2 (c2 := (63, [.ref 63, mK], [.ref 1001, .ref 63], S4, 0)) rfl ?_
        refine ev_bI0 (d := d + 2) (M' := Mx179) (ct := (66, [.ref 63, mK], [], S4, 0)) hf rfl rfl rfl rfl (fun r9 h9 => f_X10_isWord_ok_1001 (d := d + 2) h9) (fun r7 S6 hf => ?_)
        show Ev (d + 3) Mx193 (66, [.ref 63, mK], [.int r7], S6, 0) r
        refine ev_if (c1 := (73, [.ref 63, mK], [], S6, 0)) (c2 := (69, [.ref 63, mK], [], S6, 0)) hf rfl rfl (fun _ hf => ?_) (fun _ hf => ?_)
        · refine ev_sts 2 (c2 := (76, [.ref 63, mK], [.ref 1019, .ref 63], S6, 0)) rfl ?_
          refine ev_bI0 (d := d + 2) (M' := Mx179) (ct := (79, [.ref 63, mK], [], S6, 0)) hf rfl rfl rfl rfl (fun r9 h9 => f_X10_isWord_ok_1019 (d := d + 2) h9) (fun r9 S8 hf => ?_)
          show Ev (d + 3) Mx193 (79, [.ref 63, mK], [.int r9], S8, 0) r
          refine ev_if (c1 := (86, [.ref 63, mK], [], S8, 0)) (c2 := (82, [.ref 63, mK], [], S8, 0)) hf rfl rfl (fun _ hf => ?_) (fun _ hf => ?_)
          · refine ev_sts 2 (c2 := (89, [.ref 63, mK], [.ref 1002, .ref 63], S8, 0)) rfl ?_
            refine ev_bI0 (d := d + 2) (M' := Mx179) (ct := (92, [.ref 63, mK], [], S8, 0)) hf rfl rfl rfl rfl (fun r9 h9 => f_X10_isWord_ok_1002 (d := d + 2) h9) (fun r11 S10 hf => ?_)
            show Ev (d + 3) Mx193 (92, [.ref 63, mK], [.int r11], S10, 0) r
            refine ev_if (c1 := (99, [.ref 63, mK], [], S10, 0)) (c2 := (95, [.ref 63, mK], [], S10, 0)) hf rfl rfl (fun _ hf => ?_) (fun _ hf => ?_)
            · refine ev_sts 2 (c2 := (102, [.ref 63, mK], [.ref 1003, .ref 63], S10, 0)) rfl ?_
              refine ev_bI0 (d := d + 2) (M' := Mx179) (ct := (105, [.ref 63, mK], [], S10, 0)) hf rfl rfl rfl rfl (fun r9 h9 => f_X10_isWord_ok_1003 (d := d + 2) h9) (fun r13 S12 hf => ?_)
              show Ev (d + 3) Mx193 (105, [.ref 63, mK], [.int r13], S12, 0) r
              refine ev_if (c1 := (112, [.ref 63, mK], [], S12, 0)) (c2 := (108, [.ref 63, mK], [], S12, 0)) hf rfl rfl (fun _ hf => ?_) (fun _ hf => ?_)
              · refine ev_sts 2 (c2 := (115, [.ref 63, mK], [.ref 1004, .ref 63], S12, 0)) rfl ?_
                refine ev_bI0 (d := d + 2) (M' := Mx179) (ct := (118, [.ref 63, mK], [], S12, 0)) hf rfl rfl rfl rfl (fun r9 h9 => f_X10_isWord_ok_1004 (d := d + 2) h9) (fun r15 S14 hf => ?_)
                show Ev (d + 3) Mx193 (118, [.ref 63, mK], [.int r15], S14, 0) r
                refine ev_if (c1 := (126, [.ref 63, mK], [], S14, 0)) (c2 := (121, [.ref 63, mK], [], S14, 0)) hf rfl rfl (fun _ hf => ?_) (fun _ hf => ?_)
                · refine ev_sts 2 (c2 := (129, [.ref 63, mK], [.ref 1020, .ref 63], S14, 0)) rfl ?_
                  refine ev_bI0 (d := d + 2) (M' := Mx179) (ct := (132, [.ref 63, mK], [], S14, 0)) hf rfl rfl rfl rfl (fun r9 h9 => f_X10_isWord_ok_1020 (d := d + 2) h9) (fun r17 S16 hf => ?_)
                  show Ev (d + 3) Mx193 (132, [.ref 63, mK], [.int r17], S16, 0) r
                  refine ev_if (c1 := (140, [.ref 63, mK], [], S16, 0)) (c2 := (135, [.ref 63, mK], [], S16, 0)) hf rfl rfl (fun _ hf => ?_) (fun _ hf => ?_)
                  · exact ev_sts 1 (c2 := (141, [.ref 63, mK], [.int ((-1 : Int32))], S16, 0)) rfl (f_X10_readPart_b141_ok hf)
                  · exact ev_sts 2 (c2 := (141, [.ref 63, mK], [.int ((7 : Int32))], S16, 0)) rfl (f_X10_readPart_b141_ok hf)
                · exact ev_sts 2 (c2 := (141, [.ref 63, mK], [.int ((6 : Int32))], S14, 0)) rfl (f_X10_readPart_b141_ok hf)
              · exact ev_sts 2 (c2 := (141, [.ref 63, mK], [.int ((5 : Int32))], S12, 0)) rfl (f_X10_readPart_b141_ok hf)
            · exact ev_sts 2 (c2 := (141, [.ref 63, mK], [.int ((4 : Int32))], S10, 0)) rfl (f_X10_readPart_b141_ok hf)
          · exact ev_sts 2 (c2 := (141, [.ref 63, mK], [.int ((3 : Int32))], S8, 0)) rfl (f_X10_readPart_b141_ok hf)
        · exact ev_sts 2 (c2 := (141, [.ref 63, mK], [.int ((2 : Int32))], S6, 0)) rfl (f_X10_readPart_b141_ok hf)
      · exact ev_sts 2 (c2 := (141, [.ref 63, mK], [.int ((1 : Int32))], S4, 0)) rfl (f_X10_readPart_b141_ok hf)
    · exact ev_sts 2 (c2 := (141, [.ref 63, mK], [.int ((0 : Int32))], S2, 0)) rfl (f_X10_readPart_b141_ok hf)
  · refine ev_sts 3 (c2 := (20, [.ref 63, mK], [.int ((999 : Int32)), .int ((0 : Int32)), .ref 63], S1, 0)) rfl ?_
    refine ev_bI0 (d := d + 2) (M' := Mx182) (ct := (23, [.ref 63, mK], [], S1, 0)) hf rfl rfl rfl rfl (fun r9 h9 => f_X10_number_ok (d := d) h9) (fun r20 S19 hf => ?_)
    show Ev (d + 3) Mx193 (23, [.ref 63, mK], [.int r20], S19, 0) r
    refine ev_sts 4 (c2 := (28, [.ref 63, .int r20], [.int r20, .int ((9 : Int32)), .ref 63], S19, 0)) rfl ?_
    refine ev_bV0 (d := d + 2) (M' := Mx192) (ct := (31, [.ref 63, .int r20], [], S19, 0)) hf rfl rfl rfl rfl (fun r9 h9 => f_X10_emits_ok (d := d + 2) h9) (fun S21 hf => ?_)
    show Ev (d + 3) Mx193 (31, [.ref 63, .int r20], [], S21, 0) r
    exact ev_sts 1 (c2 := (148, [mK, .int r20], [], S21, 0)) rfl (f_X10_readPart_b148_ok hf)
def f_X10_sign (F : Nat) (p1 : Int32) (S : mS) : Option mR := bV0 (f_X10_blanks F S) (fun S1 => bI0 (f_X10_isAt p1 p1 S1) (fun r3 S2 => (if ¬ r3 = 0 then bnd (upS S2 63 10 ((S2 63 10) + ((1 : Int32)))) (fun S4 => some (.inl (some (.int (((1 : Int32)) &&& 1))), S4)) else some (.inl (some (.int (((0 : Int32)) &&& 1))), S2))))
theorem f_X10_sign_ok {d F : Nat} {p1 : Int32} {S : mS} {r : mR} (hf : f_X10_sign F p1 S = some r) : Ev (d + 2) Mx181 (entry Mx181 [.ref 63, .int p1] S) r := by
  unfold f_X10_sign at hf
  refine ev_sts 1 (c2 := (1, [.ref 63, .int p1], [.ref 63], S, 0)) rfl ?_
  refine ev_bV0 (d := d + 1) (M' := Mx177) (ct := (4, [.ref 63, .int p1], [], S, 0)) hf rfl rfl rfl rfl (fun r9 h9 => f_X10_blanks_ok (d := d) h9) (fun S1 hf => ?_)
  show Ev (d + 2) Mx181 (4, [.ref 63, .int p1], [], S1, 0) r
  refine ev_sts 3 (c2 := (7, [.ref 63, .int p1], [.int p1, .int p1, .ref 63], S1, 0)) rfl ?_
  refine ev_bI0 (d := d + 1) (M' := Mx176) (ct := (10, [.ref 63, .int p1], [], S1, 0)) hf rfl rfl rfl rfl (fun r9 h9 => f_X10_isAt_ok (d := d + 1) h9) (fun r3 S2 hf => ?_)
  show Ev (d + 2) Mx181 (10, [.ref 63, .int p1], [.int r3], S2, 0) r
  refine ev_if (c1 := (15, [.ref 63, .int p1], [], S2, 0)) (c2 := (13, [.ref 63, .int p1], [], S2, 0)) hf rfl rfl (fun _ hf => ?_) (fun _ hf => ?_)
  · refine ev_sts 6 (c2 := (25, [.ref 63, .int p1], [], (upS S2 63 10 ((S2 63 10) + ((1 : Int32)))), 0)) rfl ?_
    refine ev_let (P := fun S4 => Ev (d + 2) Mx181 (25, [.ref 63, .int p1], [], S4, 0) r) (fun S4 hf => ?_) hf
    refine ev_sts 1 (c2 := (26, [.ref 63, .int p1], [.int ((1 : Int32))], S4, 0)) rfl ?_
    exact ev_ret hf rfl rfl
  · refine ev_sts 1 (c2 := (14, [.ref 63, .int p1], [.int ((0 : Int32))], S2, 0)) rfl ?_
    exact ev_ret hf rfl rfl
def f_X10_readSum_b9 (F : Nat) : Nat → mS → Option mR
  | 0, _ => none
  | n + 1, S => bI0 (f_X10_sign F ((43 : Int32)) S) (fun r4 S3 => (if r4 = 0 then some (.inl (some (.int (((1 : Int32)) &&& 1))), S3) else bI0 (f_X10_readPart F S3) (fun r6 S5 => (if ¬ r6 = 0 then bV0 (f_X10_emits ((10 : Int32)) ((0 : Int32)) S5) (fun S7 => f_X10_readSum_b9 F n S7) else some (.inl (some (.int (((0 : Int32)) &&& 1))), S5)))))
def f_X10_readSum (F : Nat) (S : mS) : Option mR := bI0 (f_X10_readPart F S) (fun r2 S1 => (if ¬ r2 = 0 then f_X10_readSum_b9 F F S1 else some (.inl (some (.int (((0 : Int32)) &&& 1))), S1)))
theorem f_X10_readSum_b9_ok {d F : Nat} : ∀ (n : Nat) {S : mS} {r : mR}, f_X10_readSum_b9 F n  S = some r → Ev (d + 4) Mx194 (9, [.ref 63], [], S, 0) r := by
  intro n
  induction n with
  | zero => intro  S r hf; cases hf
  | succ n ih =>
    intro  S r hf
    rw [f_X10_readSum_b9] at hf
    refine ev_sts 2 (c2 := (12, [.ref 63], [.int ((43 : Int32)), .ref 63], S, 0)) rfl ?_
    refine ev_bI0 (d := d + 3) (M' := Mx181) (ct := (15, [.ref 63], [], S, 0)) hf rfl rfl rfl rfl (fun r9 h9 => f_X10_sign_ok (d := d + 1) h9) (fun r4 S3 hf => ?_)
    show Ev (d + 4) Mx194 (15, [.ref 63], [.int r4], S3, 0) r
    refine ev_if (c1 := (37, [.ref 63], [], S3, 0)) (c2 := (18, [.ref 63], [], S3, 0)) hf rfl rfl (fun _ hf => ?_) (fun _ hf => ?_)
    · refine ev_sts 1 (c2 := (38, [.ref 63], [.int ((1 : Int32))], S3, 0)) rfl ?_
      exact ev_ret hf rfl rfl
    · refine ev_sts 1 (c2 := (19, [.ref 63], [.ref 63], S3, 0)) rfl ?_
      refine ev_bI0 (d := d + 3) (M' := Mx193) (ct := (22, [.ref 63], [], S3, 0)) hf rfl rfl rfl rfl (fun r9 h9 => f_X10_readPart_ok (d := d) h9) (fun r6 S5 hf => ?_)
      show Ev (d + 4) Mx194 (22, [.ref 63], [.int r6], S5, 0) r
      refine ev_if (c1 := (27, [.ref 63], [], S5, 0)) (c2 := (25, [.ref 63], [], S5, 0)) hf rfl rfl (fun _ hf => ?_) (fun _ hf => ?_)
      · refine ev_sts 3 (c2 := (31, [.ref 63], [.int ((0 : Int32)), .int ((10 : Int32)), .ref 63], S5, 0)) rfl ?_
        refine ev_bV0 (d := d + 3) (M' := Mx192) (ct := (34, [.ref 63], [], S5, 0)) hf rfl rfl rfl rfl (fun r9 h9 => f_X10_emits_ok (d := d + 3) h9) (fun S7 hf => ?_)
        show Ev (d + 4) Mx194 (34, [.ref 63], [], S7, 0) r
        exact ev_sts 1 (c2 := (9, [.ref 63], [], S7, 0)) rfl (ih hf)
      · refine ev_sts 1 (c2 := (26, [.ref 63], [.int ((0 : Int32))], S5, 0)) rfl ?_
        exact ev_ret hf rfl rfl
theorem f_X10_readSum_ok {d F : Nat} {S : mS} {r : mR} (hf : f_X10_readSum F S = some r) : Ev (d + 4) Mx194 (entry Mx194 [.ref 63] S) r := by
  unfold f_X10_readSum at hf
  refine ev_sts 1 (c2 := (1, [.ref 63], [.ref 63], S, 0)) rfl ?_
  refine ev_bI0 (d := d + 3) (M' := Mx193) (ct := (4, [.ref 63], [], S, 0)) hf rfl rfl rfl rfl (fun r9 h9 => f_X10_readPart_ok (d := d) h9) (fun r2 S1 hf => ?_)
  show Ev (d + 4) Mx194 (4, [.ref 63], [.int r2], S1, 0) r
  refine ev_if (c1 := (9, [.ref 63], [], S1, 0)) (c2 := (7, [.ref 63], [], S1, 0)) hf rfl rfl (fun _ hf => ?_) (fun _ hf => ?_)
  · exact f_X10_readSum_b9_ok _ hf
  · refine ev_sts 1 (c2 := (8, [.ref 63], [.int ((0 : Int32))], S1, 0)) rfl ?_
    exact ev_ret hf rfl rfl
def f_X10_readCond_b9 (G_X10_readCond : mS → Option mR) (G_X10_readAllOf : mS → Option mR) (G_X10_readAtom : mS → Option mR) (F : Nat) : Nat → mS → Option mR
  | 0, _ => none
  | n + 1, S => bI0 (f_X10_passes F 22 S) (fun r4 S3 => (if r4 = 0 then some (.inl (some (.int (((1 : Int32)) &&& 1))), S3) else bI0 (G_X10_readAllOf S3) (fun r6 S5 => (if ¬ r6 = 0 then bV0 (f_X10_emits ((15 : Int32)) ((0 : Int32)) S5) (fun S7 => f_X10_readCond_b9 G_X10_readCond G_X10_readAllOf G_X10_readAtom F n S7) else some (.inl (some (.int (((0 : Int32)) &&& 1))), S5)))))
def f_X10_readCond (G_X10_readCond : mS → Option mR) (G_X10_readAllOf : mS → Option mR) (G_X10_readAtom : mS → Option mR) (F : Nat) (S : mS) : Option mR := bI0 (G_X10_readAllOf S) (fun r2 S1 => (if ¬ r2 = 0 then f_X10_readCond_b9 G_X10_readCond G_X10_readAllOf G_X10_readAtom F F S1 else some (.inl (some (.int (((0 : Int32)) &&& 1))), S1)))
def f_X10_readAllOf_b9 (G_X10_readCond : mS → Option mR) (G_X10_readAllOf : mS → Option mR) (G_X10_readAtom : mS → Option mR) (F : Nat) : Nat → mS → Option mR
  | 0, _ => none
  | n + 1, S => bI0 (f_X10_passes F 21 S) (fun r4 S3 => (if r4 = 0 then some (.inl (some (.int (((1 : Int32)) &&& 1))), S3) else bI0 (G_X10_readAtom S3) (fun r6 S5 => (if ¬ r6 = 0 then bV0 (f_X10_emits ((14 : Int32)) ((0 : Int32)) S5) (fun S7 => f_X10_readAllOf_b9 G_X10_readCond G_X10_readAllOf G_X10_readAtom F n S7) else some (.inl (some (.int (((0 : Int32)) &&& 1))), S5)))))
def f_X10_readAllOf (G_X10_readCond : mS → Option mR) (G_X10_readAllOf : mS → Option mR) (G_X10_readAtom : mS → Option mR) (F : Nat) (S : mS) : Option mR := bI0 (G_X10_readAtom S) (fun r2 S1 => (if ¬ r2 = 0 then f_X10_readAllOf_b9 G_X10_readCond G_X10_readAllOf G_X10_readAtom F F S1 else some (.inl (some (.int (((0 : Int32)) &&& 1))), S1)))
def f_X10_readAtom_b182 (G_X10_readCond : mS → Option mR) (G_X10_readAllOf : mS → Option mR) (G_X10_readAtom : mS → Option mR) (F : Nat) (t1 : Int32) (S : mS) : Option mR := bV0 (f_X10_emits t1 ((0 : Int32)) S) (fun S13 => some (.inl (some (.int (((1 : Int32)) &&& 1))), S13))
def f_X10_readAtom_b168 (G_X10_readCond : mS → Option mR) (G_X10_readAllOf : mS → Option mR) (G_X10_readAtom : mS → Option mR) (F : Nat) (S : mS) : Option mR := some (.inl (some (.int (((0 : Int32)) &&& 1))), S)
def f_X10_readAtom_b161 (G_X10_readCond : mS → Option mR) (G_X10_readAllOf : mS → Option mR) (G_X10_readAtom : mS → Option mR) (F : Nat) (x1 : Int32) (S : mS) : Option mR := bI0 (f_X10_readSum F S) (fun r12 S11 => (if ¬ r12 = 0 then (if x1 = 0 then f_X10_readAtom_b182 G_X10_readCond G_X10_readAllOf G_X10_readAtom F ((12 : Int32)) S11 else f_X10_readAtom_b182 G_X10_readCond G_X10_readAllOf G_X10_readAtom F ((11 : Int32)) S11) else f_X10_readAtom_b168 G_X10_readCond G_X10_readAllOf G_X10_readAtom F S11))
def f_X10_readAtom (G_X10_readCond : mS → Option mR) (G_X10_readAllOf : mS → Option mR) (G_X10_readAtom : mS → Option mR) (F : Nat) (S : mS) : Option mR := bI0 (f_X10_sign F ((40 : Int32)) S) (fun r2 S1 => (if r2 = 0 then bI0 (f_X10_passes F 15 S1) (fun r4 S3 => (if r4 = 0 then bI0 (f_X10_passes F 16 S3) (fun r6 S5 => (if r6 = 0 then bI0 (f_X10_readSum F S5) (fun r8 S7 => (if ¬ r8 = 0 then bI0 (f_X10_sign F ((60 : Int32)) S7) (fun r10 S9 => (if ¬ r10 = 0 then f_X10_readAtom_b161 G_X10_readCond G_X10_readAllOf G_X10_readAtom F r10 S9 else bI0 (f_X10_sign F ((62 : Int32)) S9) (fun r15 S14 => (if r15 = 0 then f_X10_readAtom_b168 G_X10_readCond G_X10_readAllOf G_X10_readAtom F S14 else f_X10_readAtom_b161 G_X10_readCond G_X10_readAllOf G_X10_readAtom F r10 S14)))) else some (.inl (some (.int (((0 : Int32)) &&& 1))), S7))) else bV0 (f_X10_emits ((8 : Int32)) ((0 : Int32)) S5) (fun S16 => some (.inl (some (.int (((1 : Int32)) &&& 1))), S16)))) else (if ¬ (S3 63 13) = ((6 : Int32)) then bnd (upS S3 63 13 ((S3 63 13) + ((1 : Int32)))) (fun S17 => bI0 (G_X10_readAtom S17) (fun r19 S18 => (if ¬ r19 = 0 then bnd (upS S18 63 13 ((S18 63 13) - ((1 : Int32)))) (fun S20 => bV0 (f_X10_emits ((13 : Int32)) ((0 : Int32)) S20) (fun S21 => some (.inl (some (.int (((1 : Int32)) &&& 1))), S21))) else some (.inl (some (.int (((0 : Int32)) &&& 1))), S18)))) else some (.inl (some (.int (((0 : Int32)) &&& 1))), S3)))) else (if ¬ (S1 63 13) = ((6 : Int32)) then bnd (upS S1 63 13 ((S1 63 13) + ((1 : Int32)))) (fun S22 => bI0 (G_X10_readCond S22) (fun r24 S23 => (if ¬ r24 = 0 then bnd (upS S23 63 13 ((S23 63 13) - ((1 : Int32)))) (fun S25 => bI0 (f_X10_sign F ((41 : Int32)) S25) (fun r27 S26 => some (.inl (some (.int (r27 &&& 1))), S26))) else some (.inl (some (.int (((0 : Int32)) &&& 1))), S23)))) else some (.inl (some (.int (((0 : Int32)) &&& 1))), S1))))
theorem f_X10_readCond_b9_ok {d F : Nat} {G_X10_readCond : mS → Option mR} (hG_X10_readCond : ∀ {S : mS} {r : mR}, G_X10_readCond S = some r → Ev (d + 4) Mx197 (entry Mx197 [.ref 63] S) r) {G_X10_readAllOf : mS → Option mR} (hG_X10_readAllOf : ∀ {S : mS} {r : mR}, G_X10_readAllOf S = some r → Ev (d + 4) Mx196 (entry Mx196 [.ref 63] S) r) {G_X10_readAtom : mS → Option mR} (hG_X10_readAtom : ∀ {S : mS} {r : mR}, G_X10_readAtom S = some r → Ev (d + 4) Mx195 (entry Mx195 [.ref 63] S) r) : ∀ (n : Nat) {S : mS} {r : mR}, f_X10_readCond_b9 G_X10_readCond G_X10_readAllOf G_X10_readAtom F n  S = some r → Ev (d + 5) Mx197 (9, [.ref 63], [], S, 0) r := by
  intro n
  induction n with
  | zero => intro  S r hf; cases hf
  | succ n ih =>
    intro  S r hf
    rw [f_X10_readCond_b9] at hf
    refine ev_sts 2 (c2 := (12, [.ref 63], [.ref 1022, .ref 63], S, 0)) rfl ?_
    refine ev_bI0 (d := d + 4) (M' := Mx180) (ct := (15, [.ref 63], [], S, 0)) hf rfl rfl rfl rfl (fun r9 h9 => f_X10_passes_ok_1022 (d := d + 1) h9) (fun r4 S3 hf => ?_)
    show Ev (d + 5) Mx197 (15, [.ref 63], [.int r4], S3, 0) r
    refine ev_if (c1 := (37, [.ref 63], [], S3, 0)) (c2 := (18, [.ref 63], [], S3, 0)) hf rfl rfl (fun _ hf => ?_) (fun _ hf => ?_)
    · refine ev_sts 1 (c2 := (38, [.ref 63], [.int ((1 : Int32))], S3, 0)) rfl ?_
      exact ev_ret hf rfl rfl
    · refine ev_sts 1 (c2 := (19, [.ref 63], [.ref 63], S3, 0)) rfl ?_
      refine ev_bI0 (d := d + 4) (M' := Mx196) (ct := (22, [.ref 63], [], S3, 0)) hf rfl rfl rfl rfl (fun r9 h9 => hG_X10_readAllOf h9) (fun r6 S5 hf => ?_)
      show Ev (d + 5) Mx197 (22, [.ref 63], [.int r6], S5, 0) r
      refine ev_if (c1 := (27, [.ref 63], [], S5, 0)) (c2 := (25, [.ref 63], [], S5, 0)) hf rfl rfl (fun _ hf => ?_) (fun _ hf => ?_)
      · refine ev_sts 3 (c2 := (31, [.ref 63], [.int ((0 : Int32)), .int ((15 : Int32)), .ref 63], S5, 0)) rfl ?_
        refine ev_bV0 (d := d + 4) (M' := Mx192) (ct := (34, [.ref 63], [], S5, 0)) hf rfl rfl rfl rfl (fun r9 h9 => f_X10_emits_ok (d := d + 4) h9) (fun S7 hf => ?_)
        show Ev (d + 5) Mx197 (34, [.ref 63], [], S7, 0) r
        exact ev_sts 1 (c2 := (9, [.ref 63], [], S7, 0)) rfl (ih hf)
      · refine ev_sts 1 (c2 := (26, [.ref 63], [.int ((0 : Int32))], S5, 0)) rfl ?_
        exact ev_ret hf rfl rfl
theorem f_X10_readCond_ok {d F : Nat} {G_X10_readCond : mS → Option mR} (hG_X10_readCond : ∀ {S : mS} {r : mR}, G_X10_readCond S = some r → Ev (d + 4) Mx197 (entry Mx197 [.ref 63] S) r) {G_X10_readAllOf : mS → Option mR} (hG_X10_readAllOf : ∀ {S : mS} {r : mR}, G_X10_readAllOf S = some r → Ev (d + 4) Mx196 (entry Mx196 [.ref 63] S) r) {G_X10_readAtom : mS → Option mR} (hG_X10_readAtom : ∀ {S : mS} {r : mR}, G_X10_readAtom S = some r → Ev (d + 4) Mx195 (entry Mx195 [.ref 63] S) r) {S : mS} {r : mR} (hf : f_X10_readCond G_X10_readCond G_X10_readAllOf G_X10_readAtom F S = some r) : Ev (d + 5) Mx197 (entry Mx197 [.ref 63] S) r := by
  unfold f_X10_readCond at hf
  refine ev_sts 1 (c2 := (1, [.ref 63], [.ref 63], S, 0)) rfl ?_
  refine ev_bI0 (d := d + 4) (M' := Mx196) (ct := (4, [.ref 63], [], S, 0)) hf rfl rfl rfl rfl (fun r9 h9 => hG_X10_readAllOf h9) (fun r2 S1 hf => ?_)
  show Ev (d + 5) Mx197 (4, [.ref 63], [.int r2], S1, 0) r
  refine ev_if (c1 := (9, [.ref 63], [], S1, 0)) (c2 := (7, [.ref 63], [], S1, 0)) hf rfl rfl (fun _ hf => ?_) (fun _ hf => ?_)
  · exact f_X10_readCond_b9_ok hG_X10_readCond hG_X10_readAllOf hG_X10_readAtom _ hf
  · refine ev_sts 1 (c2 := (8, [.ref 63], [.int ((0 : Int32))], S1, 0)) rfl ?_
    exact ev_ret hf rfl rfl
theorem f_X10_readAllOf_b9_ok {d F : Nat} {G_X10_readCond : mS → Option mR} (hG_X10_readCond : ∀ {S : mS} {r : mR}, G_X10_readCond S = some r → Ev (d + 4) Mx197 (entry Mx197 [.ref 63] S) r) {G_X10_readAllOf : mS → Option mR} (hG_X10_readAllOf : ∀ {S : mS} {r : mR}, G_X10_readAllOf S = some r → Ev (d + 4) Mx196 (entry Mx196 [.ref 63] S) r) {G_X10_readAtom : mS → Option mR} (hG_X10_readAtom : ∀ {S : mS} {r : mR}, G_X10_readAtom S = some r → Ev (d + 4) Mx195 (entry Mx195 [.ref 63] S) r) : ∀ (n : Nat) {S : mS} {r : mR}, f_X10_readAllOf_b9 G_X10_readCond G_X10_readAllOf G_X10_readAtom F n  S = some r → Ev (d + 5) Mx196 (9, [.ref 63], [], S, 0) r := by
  intro n
  induction n with
  | zero => intro  S r hf; cases hf
  | succ n ih =>
    intro  S r hf
    rw [f_X10_readAllOf_b9] at hf
    refine ev_sts 2 (c2 := (12, [.ref 63], [.ref 1021, .ref 63], S, 0)) rfl ?_
    refine ev_bI0 (d := d + 4) (M' := Mx180) (ct := (15, [.ref 63], [], S, 0)) hf rfl rfl rfl rfl (fun r9 h9 => f_X10_passes_ok_1021 (d := d + 1) h9) (fun r4 S3 hf => ?_)
    show Ev (d + 5) Mx196 (15, [.ref 63], [.int r4], S3, 0) r
    refine ev_if (c1 := (37, [.ref 63], [], S3, 0)) (c2 := (18, [.ref 63], [], S3, 0)) hf rfl rfl (fun _ hf => ?_) (fun _ hf => ?_)
    · refine ev_sts 1 (c2 := (38, [.ref 63], [.int ((1 : Int32))], S3, 0)) rfl ?_
      exact ev_ret hf rfl rfl
    · refine ev_sts 1 (c2 := (19, [.ref 63], [.ref 63], S3, 0)) rfl ?_
      refine ev_bI0 (d := d + 4) (M' := Mx195) (ct := (22, [.ref 63], [], S3, 0)) hf rfl rfl rfl rfl (fun r9 h9 => hG_X10_readAtom h9) (fun r6 S5 hf => ?_)
      show Ev (d + 5) Mx196 (22, [.ref 63], [.int r6], S5, 0) r
      refine ev_if (c1 := (27, [.ref 63], [], S5, 0)) (c2 := (25, [.ref 63], [], S5, 0)) hf rfl rfl (fun _ hf => ?_) (fun _ hf => ?_)
      · refine ev_sts 3 (c2 := (31, [.ref 63], [.int ((0 : Int32)), .int ((14 : Int32)), .ref 63], S5, 0)) rfl ?_
        refine ev_bV0 (d := d + 4) (M' := Mx192) (ct := (34, [.ref 63], [], S5, 0)) hf rfl rfl rfl rfl (fun r9 h9 => f_X10_emits_ok (d := d + 4) h9) (fun S7 hf => ?_)
        show Ev (d + 5) Mx196 (34, [.ref 63], [], S7, 0) r
        exact ev_sts 1 (c2 := (9, [.ref 63], [], S7, 0)) rfl (ih hf)
      · refine ev_sts 1 (c2 := (26, [.ref 63], [.int ((0 : Int32))], S5, 0)) rfl ?_
        exact ev_ret hf rfl rfl
theorem f_X10_readAllOf_ok {d F : Nat} {G_X10_readCond : mS → Option mR} (hG_X10_readCond : ∀ {S : mS} {r : mR}, G_X10_readCond S = some r → Ev (d + 4) Mx197 (entry Mx197 [.ref 63] S) r) {G_X10_readAllOf : mS → Option mR} (hG_X10_readAllOf : ∀ {S : mS} {r : mR}, G_X10_readAllOf S = some r → Ev (d + 4) Mx196 (entry Mx196 [.ref 63] S) r) {G_X10_readAtom : mS → Option mR} (hG_X10_readAtom : ∀ {S : mS} {r : mR}, G_X10_readAtom S = some r → Ev (d + 4) Mx195 (entry Mx195 [.ref 63] S) r) {S : mS} {r : mR} (hf : f_X10_readAllOf G_X10_readCond G_X10_readAllOf G_X10_readAtom F S = some r) : Ev (d + 5) Mx196 (entry Mx196 [.ref 63] S) r := by
  unfold f_X10_readAllOf at hf
  refine ev_sts 1 (c2 := (1, [.ref 63], [.ref 63], S, 0)) rfl ?_
  refine ev_bI0 (d := d + 4) (M' := Mx195) (ct := (4, [.ref 63], [], S, 0)) hf rfl rfl rfl rfl (fun r9 h9 => hG_X10_readAtom h9) (fun r2 S1 hf => ?_)
  show Ev (d + 5) Mx196 (4, [.ref 63], [.int r2], S1, 0) r
  refine ev_if (c1 := (9, [.ref 63], [], S1, 0)) (c2 := (7, [.ref 63], [], S1, 0)) hf rfl rfl (fun _ hf => ?_) (fun _ hf => ?_)
  · exact f_X10_readAllOf_b9_ok hG_X10_readCond hG_X10_readAllOf hG_X10_readAtom _ hf
  · refine ev_sts 1 (c2 := (8, [.ref 63], [.int ((0 : Int32))], S1, 0)) rfl ?_
    exact ev_ret hf rfl rfl
theorem f_X10_readAtom_b182_ok {d F : Nat} {G_X10_readCond : mS → Option mR} (hG_X10_readCond : ∀ {S : mS} {r : mR}, G_X10_readCond S = some r → Ev (d + 4) Mx197 (entry Mx197 [.ref 63] S) r) {G_X10_readAllOf : mS → Option mR} (hG_X10_readAllOf : ∀ {S : mS} {r : mR}, G_X10_readAllOf S = some r → Ev (d + 4) Mx196 (entry Mx196 [.ref 63] S) r) {G_X10_readAtom : mS → Option mR} (hG_X10_readAtom : ∀ {S : mS} {r : mR}, G_X10_readAtom S = some r → Ev (d + 4) Mx195 (entry Mx195 [.ref 63] S) r) {t1 : Int32} {S : mS} {r : mR} (hf : f_X10_readAtom_b182 G_X10_readCond G_X10_readAllOf G_X10_readAtom F t1 S = some r) : Ev (d + 5) Mx195 (182, [mK, mK], [.int t1, .ref 63], S, 0) r := by
  unfold f_X10_readAtom_b182 at hf
  refine ev_sts 1 (c2 := (183, [mK, mK], [.int ((0 : Int32)), .int t1, .ref 63], S, 0)) rfl ?_
  refine ev_bV0 (d := d + 4) (M' := Mx192) (ct := (186, [mK, mK], [], S, 0)) hf rfl rfl rfl rfl (fun r9 h9 => f_X10_emits_ok (d := d + 4) h9) (fun S13 hf => ?_)
  show Ev (d + 5) Mx195 (186, [mK, mK], [], S13, 0) r
  refine ev_sts 1 (c2 := (187, [mK, mK], [.int ((1 : Int32))], S13, 0)) rfl ?_
  exact ev_ret hf rfl rfl
theorem f_X10_readAtom_b168_ok {d F : Nat} {G_X10_readCond : mS → Option mR} (hG_X10_readCond : ∀ {S : mS} {r : mR}, G_X10_readCond S = some r → Ev (d + 4) Mx197 (entry Mx197 [.ref 63] S) r) {G_X10_readAllOf : mS → Option mR} (hG_X10_readAllOf : ∀ {S : mS} {r : mR}, G_X10_readAllOf S = some r → Ev (d + 4) Mx196 (entry Mx196 [.ref 63] S) r) {G_X10_readAtom : mS → Option mR} (hG_X10_readAtom : ∀ {S : mS} {r : mR}, G_X10_readAtom S = some r → Ev (d + 4) Mx195 (entry Mx195 [.ref 63] S) r) {S : mS} {r : mR} (hf : f_X10_readAtom_b168 G_X10_readCond G_X10_readAllOf G_X10_readAtom F  S = some r) : Ev (d + 5) Mx195 (168, [mK, mK], [], S, 0) r := by
  unfold f_X10_readAtom_b168 at hf
  refine ev_sts 1 (c2 := (169, [mK, mK], [.int ((0 : Int32))], S, 0)) rfl ?_
  exact ev_ret hf rfl rfl
theorem f_X10_readAtom_b161_ok {d F : Nat} {G_X10_readCond : mS → Option mR} (hG_X10_readCond : ∀ {S : mS} {r : mR}, G_X10_readCond S = some r → Ev (d + 4) Mx197 (entry Mx197 [.ref 63] S) r) {G_X10_readAllOf : mS → Option mR} (hG_X10_readAllOf : ∀ {S : mS} {r : mR}, G_X10_readAllOf S = some r → Ev (d + 4) Mx196 (entry Mx196 [.ref 63] S) r) {G_X10_readAtom : mS → Option mR} (hG_X10_readAtom : ∀ {S : mS} {r : mR}, G_X10_readAtom S = some r → Ev (d + 4) Mx195 (entry Mx195 [.ref 63] S) r) {x1 : Int32} {S : mS} {r : mR} (hf : f_X10_readAtom_b161 G_X10_readCond G_X10_readAllOf G_X10_readAtom F x1 S = some r) : Ev (d + 5) Mx195 (161, [.ref 63, .int x1], [], S, 0) r := by
  unfold f_X10_readAtom_b161 at hf
  refine ev_sts 1 (c2 := (162, [.ref 63, .int x1], [.ref 63], S, 0)) rfl ?_
  refine ev_bI0 (d := d + 4) (M' := Mx194) (ct := (165, [.ref 63, .int x1], [], S, 0)) hf rfl rfl rfl rfl (fun r9 h9 => f_X10_readSum_ok (d := d) h9) (fun r12 S11 hf => ?_)
  show Ev (d + 5) Mx195 (165, [.ref 63, .int x1], [.int r12], S11, 0) r
  refine ev_if (c1 := (170, [.ref 63, .int x1], [], S11, 0)) (c2 := (168, [mK, mK], [], S11, 0)) hf rfl rfl (fun _ hf => ?_) (fun _ hf => ?_)
  · refine ev_sts 2 (c2 := (172, [.ref 63, .int x1], [.int x1, .ref 63], S11, 0)) rfl ?_
    refine ev_if (c1 := (180, [.ref 63, .int x1], [.ref 63], S11, 0)) (c2 := (175, [.ref 63, .int x1], [.ref 63], S11, 0)) hf rfl rfl (fun _ hf => ?_) (fun _ hf => ?_)
    · exact ev_sts 1 (c2 := (182, [mK, mK], [.int ((12 : Int32)), .ref 63], S11, 0)) rfl (f_X10_readAtom_b182_ok hG_X10_readCond hG_X10_readAllOf hG_X10_readAtom hf)
    · exact ev_sts 2 (c2 := (182, [mK, mK], [.int ((11 : Int32)), .ref 63], S11, 0)) rfl (f_X10_readAtom_b182_ok hG_X10_readCond hG_X10_readAllOf hG_X10_readAtom hf)
  · exact f_X10_readAtom_b168_ok hG_X10_readCond hG_X10_readAllOf hG_X10_readAtom hf
theorem f_X10_readAtom_ok {d F : Nat} {G_X10_readCond : mS → Option mR} (hG_X10_readCond : ∀ {S : mS} {r : mR}, G_X10_readCond S = some r → Ev (d + 4) Mx197 (entry Mx197 [.ref 63] S) r) {G_X10_readAllOf : mS → Option mR} (hG_X10_readAllOf : ∀ {S : mS} {r : mR}, G_X10_readAllOf S = some r → Ev (d + 4) Mx196 (entry Mx196 [.ref 63] S) r) {G_X10_readAtom : mS → Option mR} (hG_X10_readAtom : ∀ {S : mS} {r : mR}, G_X10_readAtom S = some r → Ev (d + 4) Mx195 (entry Mx195 [.ref 63] S) r) {S : mS} {r : mR} (hf : f_X10_readAtom G_X10_readCond G_X10_readAllOf G_X10_readAtom F S = some r) : Ev (d + 5) Mx195 (entry Mx195 [.ref 63] S) r := by
  unfold f_X10_readAtom at hf
  refine ev_sts 2 (c2 := (3, [.ref 63, mK], [.int ((40 : Int32)), .ref 63], S, 0)) rfl ?_
  refine ev_bI0 (d := d + 4) (M' := Mx181) (ct := (6, [.ref 63, mK], [], S, 0)) hf rfl rfl rfl rfl (fun r9 h9 => f_X10_sign_ok (d := d + 2) h9) (fun r2 S1 hf => ?_)
  show Ev (d + 5) Mx195 (6, [.ref 63, mK], [.int r2], S1, 0) r
  refine ev_if (c1 := (56, [.ref 63, mK], [], S1, 0)) (c2 := (9, [.ref 63, mK], [], S1, 0)) hf rfl rfl (fun _ hf => ?_) (fun _ hf => ?_)
  · refine ev_sts 2 (c2 := (59, [.ref 63, mK], [.ref 1015, .ref 63], S1, 0)) rfl ?_
    refine ev_bI0 (d := d + 4) (M' := Mx180) (ct := (62, [.ref 63, mK], [], S1, 0)) hf rfl rfl rfl rfl (fun r9 h9 => f_X10_passes_ok_1015 (d := d + 1) h9) (fun r4 S3 hf => ?_)
    show Ev (d + 5) Mx195 (62, [.ref 63, mK], [.int r4], S3, 0) r
    refine ev_if (c1 := (114, [.ref 63, mK], [], S3, 0)) (c2 := (65, [.ref 63, mK], [], S3, 0)) hf rfl rfl (fun _ hf => ?_) (fun _ hf => ?_)
    · refine ev_sts 2 (c2 := (117, [.ref 63, mK], [.ref 1016, .ref 63], S3, 0)) rfl ?_
      refine ev_bI0 (d := d + 4) (M' := Mx180) (ct := (120, [.ref 63, mK], [], S3, 0)) hf rfl rfl rfl rfl (fun r9 h9 => f_X10_passes_ok_1016 (d := d + 1) h9) (fun r6 S5 hf => ?_)
      show Ev (d + 5) Mx195 (120, [.ref 63, mK], [.int r6], S5, 0) r
      refine ev_if (c1 := (132, [.ref 63, mK], [], S5, 0)) (c2 := (123, [.ref 63, mK], [], S5, 0)) hf rfl rfl (fun _ hf => ?_) (fun _ hf => ?_)
      · refine ev_sts 1 (c2 := (133, [.ref 63, mK], [.ref 63], S5, 0)) rfl ?_
        refine ev_bI0 (d := d + 4) (M' := Mx194) (ct := (136, [.ref 63, mK], [], S5, 0)) hf rfl rfl rfl rfl (fun r9 h9 => f_X10_readSum_ok (d := d) h9) (fun r8 S7 hf => ?_)
        show Ev (d + 5) Mx195 (136, [.ref 63, mK], [.int r8], S7, 0) r
        refine ev_if (c1 := (141, [.ref 63, mK], [], S7, 0)) (c2 := (139, [.ref 63, mK], [], S7, 0)) hf rfl rfl (fun _ hf => ?_) (fun _ hf => ?_)
        · refine ev_sts 2 (c2 := (144, [.ref 63, mK], [.int ((60 : Int32)), .ref 63], S7, 0)) rfl ?_
          refine ev_bI0 (d := d + 4) (M' := Mx181) (ct := (147, [.ref 63, mK], [], S7, 0)) hf rfl rfl rfl rfl (fun r9 h9 => f_X10_sign_ok (d := d + 2) h9) (fun r10 S9 hf => ?_)
          show Ev (d + 5) Mx195 (147, [.ref 63, mK], [.int r10], S9, 0) r
          refine ev_sts 2 (c2 := (149, [.ref 63, .int r10], [.int r10], S9, 0)) rfl ?_
          refine ev_if (c1 := (161, [.ref 63, .int r10], [], S9, 0)) (c2 := (152, [.ref 63, .int r10], [], S9, 0)) hf rfl rfl (fun _ hf => ?_) (fun _ hf => ?_)
          · exact f_X10_readAtom_b161_ok hG_X10_readCond hG_X10_readAllOf hG_X10_readAtom hf
          · refine ev_sts 2 (c2 := (155, [.ref 63, .int r10], [.int ((62 : Int32)), .ref 63], S9, 0)) rfl ?_
            refine ev_bI0 (d := d + 4) (M' := Mx181) (ct := (158, [.ref 63, .int r10], [], S9, 0)) hf rfl rfl rfl rfl (fun r9 h9 => f_X10_sign_ok (d := d + 2) h9) (fun r15 S14 hf => ?_)
            show Ev (d + 5) Mx195 (158, [.ref 63, .int r10], [.int r15], S14, 0) r
            refine ev_if (c1 := (168, [mK, mK], [], S14, 0)) (c2 := (161, [.ref 63, .int r10], [], S14, 0)) hf rfl rfl (fun _ hf => ?_) (fun _ hf => ?_)
            · exact f_X10_readAtom_b168_ok hG_X10_readCond hG_X10_readAllOf hG_X10_readAtom hf
            · exact f_X10_readAtom_b161_ok hG_X10_readCond hG_X10_readAllOf hG_X10_readAtom hf
        · refine ev_sts 1 (c2 := (140, [.ref 63, mK], [.int ((0 : Int32))], S7, 0)) rfl ?_
          exact ev_ret hf rfl rfl
      · refine ev_sts 3 (c2 := (127, [.ref 63, mK], [.int ((0 : Int32)), .int ((8 : Int32)), .ref 63], S5, 0)) rfl ?_
        refine ev_bV0 (d := d + 4) (M' := Mx192) (ct := (130, [.ref 63, mK], [], S5, 0)) hf rfl rfl rfl rfl (fun r9 h9 => f_X10_emits_ok (d := d + 4) h9) (fun S16 hf => ?_)
        show Ev (d + 5) Mx195 (130, [.ref 63, mK], [], S16, 0) r
        refine ev_sts 1 (c2 := (131, [.ref 63, mK], [.int ((1 : Int32))], S16, 0)) rfl ?_
        exact ev_ret hf rfl rfl
    · refine ev_sts 3 (c2 := (71, [.ref 63, mK], [.int ((6 : Int32)), .int (S3 63 13)], S3, 0)) rfl ?_
      refine ev_if (c1 := (76, [.ref 63, mK], [], S3, 0)) (c2 := (74, [.ref 63, mK], [], S3, 0)) hf rfl rfl (fun _ hf => ?_) (fun _ hf => ?_)
      · refine ev_sts 6 (c2 := (86, [.ref 63, mK], [], (upS S3 63 13 ((S3 63 13) + ((1 : Int32)))), 0)) rfl ?_
        refine ev_let (P := fun S17 => Ev (d + 5) Mx195 (86, [.ref 63, mK], [], S17, 0) r) (fun S17 hf => ?_) hf
        refine ev_sts 1 (c2 := (87, [.ref 63, mK], [.ref 63], S17, 0)) rfl ?_
        refine ev_bI0 (d := d + 4) (M' := Mx195) (ct := (90, [.ref 63, mK], [], S17, 0)) hf rfl rfl rfl rfl (fun r9 h9 => hG_X10_readAtom h9) (fun r19 S18 hf => ?_)
        show Ev (d + 5) Mx195 (90, [.ref 63, mK], [.int r19], S18, 0) r
        refine ev_if (c1 := (95, [.ref 63, mK], [], S18, 0)) (c2 := (93, [.ref 63, mK], [], S18, 0)) hf rfl rfl (fun _ hf => ?_) (fun _ hf => ?_)
        · refine ev_sts 6 (c2 := (105, [.ref 63, mK], [], (upS S18 63 13 ((S18 63 13) - ((1 : Int32)))), 0)) rfl ?_
          refine ev_let (P := fun S20 => Ev (d + 5) Mx195 (105, [.ref 63, mK], [], S20, 0) r) (fun S20 hf => ?_) hf
          refine ev_sts 3 (c2 := (109, [.ref 63, mK], [.int ((0 : Int32)), .int ((13 : Int32)), .ref 63], S20, 0)) rfl ?_
          refine ev_bV0 (d := d + 4) (M' := Mx192) (ct := (112, [.ref 63, mK], [], S20, 0)) hf rfl rfl rfl rfl (fun r9 h9 => f_X10_emits_ok (d := d + 4) h9) (fun S21 hf => ?_)
          show Ev (d + 5) Mx195 (112, [.ref 63, mK], [], S21, 0) r
          refine ev_sts 1 (c2 := (113, [.ref 63, mK], [.int ((1 : Int32))], S21, 0)) rfl ?_
          exact ev_ret hf rfl rfl
        · refine ev_sts 1 (c2 := (94, [.ref 63, mK], [.int ((0 : Int32))], S18, 0)) rfl ?_
          exact ev_ret hf rfl rfl
      · refine ev_sts 1 (c2 := (75, [.ref 63, mK], [.int ((0 : Int32))], S3, 0)) rfl ?_
        exact ev_ret hf rfl rfl
  · refine ev_sts 3 (c2 := (15, [.ref 63, mK], [.int ((6 : Int32)), .int (S1 63 13)], S1, 0)) rfl ?_
    refine ev_if (c1 := (20, [.ref 63, mK], [], S1, 0)) (c2 := (18, [.ref 63, mK], [], S1, 0)) hf rfl rfl (fun _ hf => ?_) (fun _ hf => ?_)
    · refine ev_sts 6 (c2 := (30, [.ref 63, mK], [], (upS S1 63 13 ((S1 63 13) + ((1 : Int32)))), 0)) rfl ?_
      refine ev_let (P := fun S22 => Ev (d + 5) Mx195 (30, [.ref 63, mK], [], S22, 0) r) (fun S22 hf => ?_) hf
      refine ev_sts 1 (c2 := (31, [.ref 63, mK], [.ref 63], S22, 0)) rfl ?_
      refine ev_bI0 (d := d + 4) (M' := Mx197) (ct := (34, [.ref 63, mK], [], S22, 0)) hf rfl rfl rfl rfl (fun r9 h9 => hG_X10_readCond h9) (fun r24 S23 hf => ?_)
      show Ev (d + 5) Mx195 (34, [.ref 63, mK], [.int r24], S23, 0) r
      refine ev_if (c1 := (39, [.ref 63, mK], [], S23, 0)) (c2 := (37, [.ref 63, mK], [], S23, 0)) hf rfl rfl (fun _ hf => ?_) (fun _ hf => ?_)
      · refine ev_sts 6 (c2 := (49, [.ref 63, mK], [], (upS S23 63 13 ((S23 63 13) - ((1 : Int32)))), 0)) rfl ?_
        refine ev_let (P := fun S25 => Ev (d + 5) Mx195 (49, [.ref 63, mK], [], S25, 0) r) (fun S25 hf => ?_) hf
        refine ev_sts 2 (c2 := (52, [.ref 63, mK], [.int ((41 : Int32)), .ref 63], S25, 0)) rfl ?_
        refine ev_bI0 (d := d + 4) (M' := Mx181) (ct := (55, [.ref 63, mK], [], S25, 0)) hf rfl rfl rfl rfl (fun r9 h9 => f_X10_sign_ok (d := d + 2) h9) (fun r27 S26 hf => ?_)
        show Ev (d + 5) Mx195 (55, [.ref 63, mK], [.int r27], S26, 0) r
        exact ev_ret hf rfl rfl
      · refine ev_sts 1 (c2 := (38, [.ref 63, mK], [.int ((0 : Int32))], S23, 0)) rfl ?_
        exact ev_ret hf rfl rfl
    · refine ev_sts 1 (c2 := (19, [.ref 63, mK], [.int ((0 : Int32))], S1, 0)) rfl ?_
      exact ev_ret hf rfl rfl
def f_rec_X10 (F : Nat) : Nat → Nat → mS → Option mR
  | 0, _, _ => none
  | n + 1, 0, S => f_X10_readCond (fun  S => f_rec_X10 F n 0  S) (fun  S => f_rec_X10 F n 1  S) (fun  S => f_rec_X10 F n 2  S) F S
  | n + 1, 1, S => f_X10_readAllOf (fun  S => f_rec_X10 F n 0  S) (fun  S => f_rec_X10 F n 1  S) (fun  S => f_rec_X10 F n 2  S) F S
  | n + 1, _, S => f_X10_readAtom (fun  S => f_rec_X10 F n 0  S) (fun  S => f_rec_X10 F n 1  S) (fun  S => f_rec_X10 F n 2  S) F S
theorem f_rec_X10_ok {F : Nat} : ∀ (n d : Nat), (∀ {S : mS} {r : mR}, f_rec_X10 F n 0 S = some r → Ev (d + 4 + n) Mx197 (entry Mx197 [.ref 63] S) r) ∧ (∀ {S : mS} {r : mR}, f_rec_X10 F n 1 S = some r → Ev (d + 4 + n) Mx196 (entry Mx196 [.ref 63] S) r) ∧ (∀ {S : mS} {r : mR}, f_rec_X10 F n 2 S = some r → Ev (d + 4 + n) Mx195 (entry Mx195 [.ref 63] S) r) := by
  intro n
  induction n with
  | zero => intro d; exact ⟨(fun hf => by cases hf), (fun hf => by cases hf), (fun hf => by cases hf)⟩
  | succ n ih =>
    intro d
    have h9 := ih d
    obtain ⟨g0, g1, g2⟩ := h9
    refine ⟨?_, ?_, ?_⟩
    · intro  S r hf
      have h8 := f_X10_readCond_ok (d := d + n) (fun h => (g0 h).upN (by omega)) (fun h => (g1 h).upN (by omega)) (fun h => (g2 h).upN (by omega)) (F := F) hf
      exact h8.upN (by omega)
    · intro  S r hf
      have h8 := f_X10_readAllOf_ok (d := d + n) (fun h => (g0 h).upN (by omega)) (fun h => (g1 h).upN (by omega)) (fun h => (g2 h).upN (by omega)) (F := F) hf
      exact h8.upN (by omega)
    · intro  S r hf
      have h8 := f_X10_readAtom_ok (d := d + n) (fun h => (g0 h).upN (by omega)) (fun h => (g1 h).upN (by omega)) (fun h => (g2 h).upN (by omega)) (F := F) hf
      exact h8.upN (by omega)
def f_X10_readCond_r (F : Nat) (S : mS) : Option mR := f_rec_X10 F 40 0 S
theorem f_X10_readCond_r_ok {d F : Nat} {S : mS} {r : mR} (hf : f_X10_readCond_r F S = some r) : Ev (d + 44) Mx197 (entry Mx197 [.ref 63] S) r := ((f_rec_X10_ok (F := F) 40 d).1 hf).upN (by omega)
def f_X10_readAllOf_r (F : Nat) (S : mS) : Option mR := f_rec_X10 F 40 1 S
theorem f_X10_readAllOf_r_ok {d F : Nat} {S : mS} {r : mR} (hf : f_X10_readAllOf_r F S = some r) : Ev (d + 44) Mx196 (entry Mx196 [.ref 63] S) r := ((f_rec_X10_ok (F := F) 40 d).2.1 hf).upN (by omega)
def f_X10_readAtom_r (F : Nat) (S : mS) : Option mR := f_rec_X10 F 40 2 S
theorem f_X10_readAtom_r_ok {d F : Nat} {S : mS} {r : mR} (hf : f_X10_readAtom_r F S = some r) : Ev (d + 44) Mx195 (entry Mx195 [.ref 63] S) r := ((f_rec_X10_ok (F := F) 40 d).2.2 hf).upN (by omega)
def f_X10_readLawLine_b128 (F : Nat) (x2 : Int32) (S : mS) : Option mR := gd (inb (x2 + ((3 : Int32))) 2145) (bnd (upS S 64 (x2 + ((3 : Int32))).toNatClampNeg (S 63 16)) (fun S16 => some (.inl (some (.int (((1 : Int32)) &&& 1))), S16)))
def f_X10_readLawLine_b53 (F : Nat) (x2 : Int32) (t2 : Int32) (t1 : Int32) (S : mS) : Option mR := gd (inb t1 2145) (bnd (upS S 64 t1.toNatClampNeg t2) (fun S8 => gd (inb x2 2145) ((if 0 ≤ (S8 64 x2.toNatClampNeg) then bI0 (f_X10_number F ((0 : Int32)) ((20 : Int32)) S8) (fun r10 S9 => gd (inb (x2 + ((1 : Int32))) 2145) (bnd (upS S9 64 (x2 + ((1 : Int32))).toNatClampNeg r10) (fun S11 => gd (inb (x2 + ((1 : Int32))) 2145) ((if 0 ≤ (S11 64 (x2 + ((1 : Int32))).toNatClampNeg) then gd (inb (x2 + ((2 : Int32))) 2145) (bnd (upS S11 64 (x2 + ((2 : Int32))).toNatClampNeg (S11 63 16)) (fun S12 => bnd (upS S12 63 13 ((0 : Int32))) (fun S13 => bI0 (f_X10_passes F 14 S13) (fun r15 S14 => (if r15 = 0 then f_X10_readLawLine_b128 F x2 S14 else bI0 (f_X10_readCond_r F S14) (fun r18 S17 => (if ¬ r18 = 0 then f_X10_readLawLine_b128 F x2 S17 else some (.inl (some (.int (((0 : Int32)) &&& 1))), S17)))))))) else some (.inl (some (.int (((0 : Int32)) &&& 1))), S11)))))) else some (.inl (some (.int (((0 : Int32)) &&& 1))), S8)))))
def f_X10_readLawLine (F : Nat) (p1 : Int32) (S : mS) : Option mR := bnd (((1297 : Int32)) + (((4 : Int32)) * p1) : Int32) (fun y1 => bI0 (f_X10_isWord F 11 S) (fun r3 S2 => (if r3 = 0 then bI0 (f_X10_isWord F 12 S2) (fun r5 S4 => (if r5 = 0 then bI0 (f_X10_isWord F 13 S4) (fun r7 S6 => (if r7 = 0 then f_X10_readLawLine_b53 F y1 ((-1 : Int32)) y1 S6 else f_X10_readLawLine_b53 F y1 ((2 : Int32)) y1 S6)) else f_X10_readLawLine_b53 F y1 ((1 : Int32)) y1 S4)) else f_X10_readLawLine_b53 F y1 ((0 : Int32)) y1 S2)))
theorem f_X10_readLawLine_b128_ok {d F : Nat} {x2 : Int32} {S : mS} {r : mR} (hf : f_X10_readLawLine_b128 F x2 S = some r) : Ev (d + 45) Mx198 (128, [.ref 63, mK, .int x2], [], S, 0) r := by
  unfold f_X10_readLawLine_b128 at hf
  refine ev_sts 7 (c2 := (139, [.ref 63, mK, .int x2], [.int (S 63 16), .int (x2 + ((3 : Int32))), .ref 64], S, 0)) rfl ?_
  refine ev_gd (c1 := (140, [.ref 63, mK, .int x2], [], (upS S 64 (x2 + ((3 : Int32))).toNatClampNeg (S 63 16)), 0)) hf rfl rfl (fun hf => ?_)
  refine ev_let (P := fun S16 => Ev (d + 45) Mx198 (140, [.ref 63, mK, .int x2], [], S16, 0) r) (fun S16 hf => ?_) hf
  refine ev_sts 1 (c2 := (141, [.ref 63, mK, .int x2], [.int ((1 : Int32))], S16, 0)) rfl ?_
  exact ev_ret hf rfl rfl
theorem f_X10_readLawLine_b53_ok {d F : Nat} {x2 : Int32} {t2 : Int32} {t1 : Int32} {S : mS} {r : mR} (hf : f_X10_readLawLine_b53 F x2 t2 t1 S = some r) : Ev (d + 45) Mx198 (53, [.ref 63, mK, .int x2], [.int t2, .int t1, .ref 64], S, 0) r := by
  unfold f_X10_readLawLine_b53 at hf
  refine ev_gd (c1 := (54, [.ref 63, mK, .int x2], [], (upS S 64 t1.toNatClampNeg t2), 0)) hf rfl rfl (fun hf => ?_)
  refine ev_let (P := fun S8 => Ev (d + 45) Mx198 (54, [.ref 63, mK, .int x2], [], S8, 0) r) (fun S8 hf => ?_) hf
  refine ev_sts 3 (c2 := (59, [.ref 63, mK, .int x2], [.int x2, .ref 64], S8, 0)) rfl ?_
  refine ev_gd (c1 := (60, [.ref 63, mK, .int x2], [.int (S8 64 x2.toNatClampNeg)], S8, 0)) hf rfl rfl (fun hf => ?_)
  refine ev_if (c1 := (65, [.ref 63, mK, .int x2], [], S8, 0)) (c2 := (63, [.ref 63, mK, .int x2], [], S8, 0)) hf rfl rfl (fun _ hf => ?_) (fun _ hf => ?_)
  · refine ev_sts 8 (c2 := (76, [.ref 63, mK, .int x2], [.int ((20 : Int32)), .int ((0 : Int32)), .ref 63, .int (x2 + ((1 : Int32))), .ref 64], S8, 0)) rfl ?_
    refine ev_bI0 (d := d + 44) (M' := Mx182) (ct := (79, [.ref 63, mK, .int x2], [.int (x2 + ((1 : Int32))), .ref 64], S8, 0)) hf rfl rfl rfl rfl (fun r9 h9 => f_X10_number_ok (d := d + 42) h9) (fun r10 S9 hf => ?_)
    show Ev (d + 45) Mx198 (79, [.ref 63, mK, .int x2], [.int r10, .int (x2 + ((1 : Int32))), .ref 64], S9, 0) r
    refine ev_gd (c1 := (80, [.ref 63, mK, .int x2], [], (upS S9 64 (x2 + ((1 : Int32))).toNatClampNeg r10), 0)) hf rfl rfl (fun hf => ?_)
    refine ev_let (P := fun S11 => Ev (d + 45) Mx198 (80, [.ref 63, mK, .int x2], [], S11, 0) r) (fun S11 hf => ?_) hf
    refine ev_sts 5 (c2 := (87, [.ref 63, mK, .int x2], [.int (x2 + ((1 : Int32))), .ref 64], S11, 0)) rfl ?_
    refine ev_gd (c1 := (88, [.ref 63, mK, .int x2], [.int (S11 64 (x2 + ((1 : Int32))).toNatClampNeg)], S11, 0)) hf rfl rfl (fun hf => ?_)
    refine ev_if (c1 := (93, [.ref 63, mK, .int x2], [], S11, 0)) (c2 := (91, [.ref 63, mK, .int x2], [], S11, 0)) hf rfl rfl (fun _ hf => ?_) (fun _ hf => ?_)
    · refine ev_sts 7 (c2 := (104, [.ref 63, mK, .int x2], [.int (S11 63 16), .int (x2 + ((2 : Int32))), .ref 64], S11, 0)) rfl ?_
      refine ev_gd (c1 := (105, [.ref 63, mK, .int x2], [], (upS S11 64 (x2 + ((2 : Int32))).toNatClampNeg (S11 63 16)), 0)) hf rfl rfl (fun hf => ?_)
      refine ev_let (P := fun S12 => Ev (d + 45) Mx198 (105, [.ref 63, mK, .int x2], [], S12, 0) r) (fun S12 hf => ?_) hf
      refine ev_sts 3 (c2 := (110, [.ref 63, mK, .int x2], [], (upS S12 63 13 ((0 : Int32))), 0)) rfl ?_
      refine ev_let (P := fun S13 => Ev (d + 45) Mx198 (110, [.ref 63, mK, .int x2], [], S13, 0) r) (fun S13 hf => ?_) hf
      refine ev_sts 2 (c2 := (113, [.ref 63, mK, .int x2], [.ref 1014, .ref 63], S13, 0)) rfl ?_
      refine ev_bI0 (d := d + 44) (M' := Mx180) (ct := (116, [.ref 63, mK, .int x2], [], S13, 0)) hf rfl rfl rfl rfl (fun r9 h9 => f_X10_passes_ok_1014 (d := d + 41) h9) (fun r15 S14 hf => ?_)
      show Ev (d + 45) Mx198 (116, [.ref 63, mK, .int x2], [.int r15], S14, 0) r
      refine ev_if (c1 := (128, [.ref 63, mK, .int x2], [], S14, 0)) (c2 := (119, [.ref 63, mK, .int x2], [], S14, 0)) hf rfl rfl (fun _ hf => ?_) (fun _ hf => ?_)
      · exact f_X10_readLawLine_b128_ok hf
      · refine ev_sts 1 (c2 := (120, [.ref 63, mK, .int x2], [.ref 63], S14, 0)) rfl ?_
        refine ev_bI0 (d := d + 44) (M' := Mx197) (ct := (123, [.ref 63, mK, .int x2], [], S14, 0)) hf rfl rfl rfl rfl (fun r9 h9 => f_X10_readCond_r_ok (d := d) h9) (fun r18 S17 hf => ?_)
        show Ev (d + 45) Mx198 (123, [.ref 63, mK, .int x2], [.int r18], S17, 0) r
        refine ev_if (c1 := (128, [.ref 63, mK, .int x2], [], S17, 0)) (c2 := (126, [.ref 63, mK, .int x2], [], S17, 0)) hf rfl rfl (fun _ hf => ?_) (fun _ hf => ?_)
        · exact f_X10_readLawLine_b128_ok hf
        · refine ev_sts 1 (c2 := (127, [.ref 63, mK, .int x2], [.int ((0 : Int32))], S17, 0)) rfl ?_
          exact ev_ret hf rfl rfl
    · refine ev_sts 1 (c2 := (92, [.ref 63, mK, .int x2], [.int ((0 : Int32))], S11, 0)) rfl ?_
      exact ev_ret hf rfl rfl
  · refine ev_sts 1 (c2 := (64, [.ref 63, mK, .int x2], [.int ((0 : Int32))], S8, 0)) rfl ?_
    exact ev_ret hf rfl rfl
theorem f_X10_readLawLine_ok {d F : Nat} {p1 : Int32} {S : mS} {r : mR} (hf : f_X10_readLawLine F p1 S = some r) : Ev (d + 45) Mx198 (entry Mx198 [.ref 63, .int p1] S) r := by
  unfold f_X10_readLawLine at hf
  refine ev_sts 6 (c2 := (8, [.ref 63, .int p1, .int (((1297 : Int32)) + (((4 : Int32)) * p1))], [], S, 0)) rfl ?_
  refine ev_let (P := fun y1 => Ev (d + 45) Mx198 (8, [.ref 63, .int p1, .int y1], [], S, 0) r) (fun y1 hf => ?_) hf
  refine ev_sts 5 (c2 := (16, [.ref 63, .int p1, .int y1], [.ref 1011, .ref 63, .int y1, .ref 64], S, 0)) rfl ?_
  refine ev_bI0 (d := d + 44) (M' := Mx179) (ct := (19, [.ref 63, .int p1, .int y1], [.int y1, .ref 64], S, 0)) hf rfl rfl rfl rfl (fun r9 h9 => f_X10_isWord_ok_1011 (d := d + 44) h9) (fun r3 S2 hf => ?_)
  show Ev (d + 45) Mx198 (19, [.ref 63, .int p1, .int y1], [.int r3, .int y1, .ref 64], S2, 0) r
  refine ev_if (c1 := (26, [.ref 63, .int p1, .int y1], [.int y1, .ref 64], S2, 0)) (c2 := (22, [.ref 63, .int p1, .int y1], [.int y1, .ref 64], S2, 0)) hf rfl rfl (fun _ hf => ?_) (fun _ hf => ?_)
  · refine ev_sts 2 (c2 := (29, [.ref 63, .int p1, .int y1], [.ref 1012, .ref 63, .int y1, .ref 64], S2, 0)) rfl ?_
    refine ev_bI0 (d := d + 44) (M' := Mx179) (ct := (32, [.ref 63, .int p1, .int y1], [.int y1, .ref 64], S2, 0)) hf rfl rfl rfl rfl (fun r9 h9 => f_X10_isWord_ok_1012 (d := d + 44) h9) (fun r5 S4 hf => ?_)
    show Ev (d + 45) Mx198 (32, [.ref 63, .int p1, .int y1], [.int r5, .int y1, .ref 64], S4, 0) r
    refine ev_if (c1 := (39, [.ref 63, .int p1, .int y1], [.int y1, .ref 64], S4, 0)) (c2 := (35, [.ref 63, .int p1, .int y1], [.int y1, .ref 64], S4, 0)) hf rfl rfl (fun _ hf => ?_) (fun _ hf => ?_)
    · refine ev_sts 2 (c2 := (42, [.ref 63, .int p1, .int y1], [.ref 1013, .ref 63, .int y1, .ref 64], S4, 0)) rfl ?_
      refine ev_bI0 (d := d + 44) (M' := Mx179) (ct := (45, [.ref 63, .int p1, .int y1], [.int y1, .ref 64], S4, 0)) hf rfl rfl rfl rfl (fun r9 h9 => f_X10_isWord_ok_1013 (d := d + 44) h9) (fun r7 S6 hf => ?_)
      show Ev (d + 45) Mx198 (45, [.ref 63, .int p1, .int y1], [.int r7, .int y1, .ref 64], S6, 0) r
      refine ev_if (c1 := (52, [.ref 63, .int p1, .int y1], [.int y1, .ref 64], S6, 0)) (c2 := (48, [.ref 63, .int p1, .int y1], [.int y1, .ref 64], S6, 0)) hf rfl rfl (fun _ hf => ?_) (fun _ hf => ?_)
      · exact ev_sts 1 (c2 := (53, [.ref 63, mK, .int y1], [.int ((-1 : Int32)), .int y1, .ref 64], S6, 0)) rfl (f_X10_readLawLine_b53_ok hf)
      · exact ev_sts 2 (c2 := (53, [.ref 63, mK, .int y1], [.int ((2 : Int32)), .int y1, .ref 64], S6, 0)) rfl (f_X10_readLawLine_b53_ok hf)
    · exact ev_sts 2 (c2 := (53, [.ref 63, mK, .int y1], [.int ((1 : Int32)), .int y1, .ref 64], S4, 0)) rfl (f_X10_readLawLine_b53_ok hf)
  · exact ev_sts 2 (c2 := (53, [.ref 63, mK, .int y1], [.int ((0 : Int32)), .int y1, .ref 64], S2, 0)) rfl (f_X10_readLawLine_b53_ok hf)
def f_X10_readLine_b46 (F : Nat) (t0 : Int32) (S : mS) : Option mR := some (.inl (some (.int (t0 &&& 1))), S)
def f_X10_readLine_b45 (F : Nat) (S : mS) : Option mR := f_X10_readLine_b46 F ((0 : Int32)) S
def f_X10_readLine_b41 (F : Nat) (S : mS) : Option mR := f_X10_readLine_b46 F ((1 : Int32)) S
def f_X10_readLine_b16 (F : Nat) (x1 : Int32) (x2 : Int32) (t1 : Int32) (t0 : Int32) (S : mS) : Option mR := (if t1 ≤ t0 then f_X10_readLine_b45 F S else (if x1 = 0 then bI0 (f_X10_readLawLine F x2 S) (fun r3 S2 => (if r3 = 0 then f_X10_readLine_b45 F S2 else f_X10_readLine_b41 F S2)) else bI0 (f_X10_readIsleLine F S) (fun r5 S4 => (if r5 = 0 then f_X10_readLine_b45 F S4 else f_X10_readLine_b41 F S4))))
def f_X10_readLine (F : Nat) (p1 : Int32) (p2 : Int32) (S : mS) : Option mR := bV0 (f_X10_letters F S) (fun S1 => (if p1 = 0 then f_X10_readLine_b16 F p1 p2 ((12 : Int32)) p2 S1 else f_X10_readLine_b16 F p1 p2 ((14 : Int32)) p2 S1))
theorem f_X10_readLine_b46_ok {d F : Nat} {t0 : Int32} {S : mS} {r : mR} (hf : f_X10_readLine_b46 F t0 S = some r) : Ev (d + 46) Mx199 (46, [mK, mK, mK], [.int t0], S, 0) r := by
  unfold f_X10_readLine_b46 at hf
  exact ev_ret hf rfl rfl
theorem f_X10_readLine_b45_ok {d F : Nat} {S : mS} {r : mR} (hf : f_X10_readLine_b45 F  S = some r) : Ev (d + 46) Mx199 (45, [mK, mK, mK], [], S, 0) r := by
  unfold f_X10_readLine_b45 at hf
  exact ev_sts 1 (c2 := (46, [mK, mK, mK], [.int ((0 : Int32))], S, 0)) rfl (f_X10_readLine_b46_ok hf)
theorem f_X10_readLine_b41_ok {d F : Nat} {S : mS} {r : mR} (hf : f_X10_readLine_b41 F  S = some r) : Ev (d + 46) Mx199 (41, [mK, mK, mK], [], S, 0) r := by
  unfold f_X10_readLine_b41 at hf
  exact ev_sts 2 (c2 := (46, [mK, mK, mK], [.int ((1 : Int32))], S, 0)) rfl (f_X10_readLine_b46_ok hf)
theorem f_X10_readLine_b16_ok {d F : Nat} {x1 : Int32} {x2 : Int32} {t1 : Int32} {t0 : Int32} {S : mS} {r : mR} (hf : f_X10_readLine_b16 F x1 x2 t1 t0 S = some r) : Ev (d + 46) Mx199 (16, [.ref 63, .int x1, .int x2], [.int t1, .int t0], S, 0) r := by
  unfold f_X10_readLine_b16 at hf
  refine ev_if (c1 := (45, [mK, mK, mK], [], S, 0)) (c2 := (19, [.ref 63, .int x1, .int x2], [], S, 0)) hf rfl rfl (fun _ hf => ?_) (fun _ hf => ?_)
  · exact f_X10_readLine_b45_ok hf
  · refine ev_sts 1 (c2 := (20, [.ref 63, .int x1, .int x2], [.int x1], S, 0)) rfl ?_
    refine ev_if (c1 := (33, [.ref 63, .int x1, .int x2], [], S, 0)) (c2 := (23, [.ref 63, .int x1, .int x2], [], S, 0)) hf rfl rfl (fun _ hf => ?_) (fun _ hf => ?_)
    · refine ev_sts 2 (c2 := (35, [.ref 63, .int x1, .int x2], [.int x2, .ref 63], S, 0)) rfl ?_
      refine ev_bI0 (d := d + 45) (M' := Mx198) (ct := (38, [.ref 63, .int x1, .int x2], [], S, 0)) hf rfl rfl rfl rfl (fun r9 h9 => f_X10_readLawLine_ok (d := d) h9) (fun r3 S2 hf => ?_)
      show Ev (d + 46) Mx199 (38, [.ref 63, .int x1, .int x2], [.int r3], S2, 0) r
      refine ev_if (c1 := (45, [mK, mK, mK], [], S2, 0)) (c2 := (41, [mK, mK, mK], [], S2, 0)) hf rfl rfl (fun _ hf => ?_) (fun _ hf => ?_)
      · exact f_X10_readLine_b45_ok hf
      · exact f_X10_readLine_b41_ok hf
    · refine ev_sts 1 (c2 := (24, [.ref 63, .int x1, .int x2], [.ref 63], S, 0)) rfl ?_
      refine ev_bI0 (d := d + 45) (M' := Mx191) (ct := (27, [.ref 63, .int x1, .int x2], [], S, 0)) hf rfl rfl rfl rfl (fun r9 h9 => f_X10_readIsleLine_ok (d := d + 40) h9) (fun r5 S4 hf => ?_)
      show Ev (d + 46) Mx199 (27, [.ref 63, .int x1, .int x2], [.int r5], S4, 0) r
      refine ev_if (c1 := (45, [mK, mK, mK], [], S4, 0)) (c2 := (30, [.ref 63, .int x1, .int x2], [], S4, 0)) hf rfl rfl (fun _ hf => ?_) (fun _ hf => ?_)
      · exact f_X10_readLine_b45_ok hf
      · exact ev_sts 1 (c2 := (41, [mK, mK, mK], [], S4, 0)) rfl (f_X10_readLine_b41_ok hf)
theorem f_X10_readLine_ok {d F : Nat} {p1 : Int32} {p2 : Int32} {S : mS} {r : mR} (hf : f_X10_readLine F p1 p2 S = some r) : Ev (d + 46) Mx199 (entry Mx199 [.ref 63, .int p1, .int p2] S) r := by
  unfold f_X10_readLine at hf
  refine ev_sts 1 (c2 := (1, [.ref 63, .int p1, .int p2], [.ref 63], S, 0)) rfl ?_
  refine ev_bV0 (d := d + 45) (M' := Mx178) (ct := (4, [.ref 63, .int p1, .int p2], [], S, 0)) hf rfl rfl rfl rfl (fun r9 h9 => f_X10_letters_ok (d := d + 43) h9) (fun S1 hf => ?_)
  show Ev (d + 46) Mx199 (4, [.ref 63, .int p1, .int p2], [], S1, 0) r
  refine ev_sts 2 (c2 := (6, [.ref 63, .int p1, .int p2], [.int p1, .int p2], S1, 0)) rfl ?_
  refine ev_if (c1 := (14, [.ref 63, .int p1, .int p2], [.int p2], S1, 0)) (c2 := (9, [.ref 63, .int p1, .int p2], [.int p2], S1, 0)) hf rfl rfl (fun _ hf => ?_) (fun _ hf => ?_)
  · exact ev_sts 1 (c2 := (16, [.ref 63, .int p1, .int p2], [.int ((12 : Int32)), .int p2], S1, 0)) rfl (f_X10_readLine_b16_ok hf)
  · exact ev_sts 2 (c2 := (16, [.ref 63, .int p1, .int p2], [.int ((14 : Int32)), .int p2], S1, 0)) rfl (f_X10_readLine_b16_ok hf)
def f_X10_uses (S : mS) : Option mR := bnd (upS S 63 0 ((0 : Int32))) (fun S1 => bnd (upS S1 63 11 (S1 63 9)) (fun S2 => bnd (upS S2 63 9 ((0 : Int32))) (fun S3 => bnd (upS S3 63 10 ((0 : Int32))) (fun S4 => some (.inl none, S4)))))
theorem f_X10_uses_ok {d : Nat} {S : mS} {r : mR} (hf : f_X10_uses S = some r) : Ev (d) Mx185 (entry Mx185 [.ref 63] S) r := by
  unfold f_X10_uses at hf
  refine ev_sts 3 (c2 := (5, [.ref 63], [], (upS S 63 0 ((0 : Int32))), 0)) rfl ?_
  refine ev_let (P := fun S1 => Ev (d) Mx185 (5, [.ref 63], [], S1, 0) r) (fun S1 hf => ?_) hf
  refine ev_sts 4 (c2 := (13, [.ref 63], [], (upS S1 63 11 (S1 63 9)), 0)) rfl ?_
  refine ev_let (P := fun S2 => Ev (d) Mx185 (13, [.ref 63], [], S2, 0) r) (fun S2 hf => ?_) hf
  refine ev_sts 3 (c2 := (18, [.ref 63], [], (upS S2 63 9 ((0 : Int32))), 0)) rfl ?_
  refine ev_let (P := fun S3 => Ev (d) Mx185 (18, [.ref 63], [], S3, 0) r) (fun S3 hf => ?_) hf
  refine ev_sts 3 (c2 := (23, [.ref 63], [], (upS S3 63 10 ((0 : Int32))), 0)) rfl ?_
  refine ev_let (P := fun S4 => Ev (d) Mx185 (23, [.ref 63], [], S4, 0) r) (fun S4 hf => ?_) hf
  exact ev_ret hf rfl rfl
def f_X10_readAll_b28 (F : Nat) : Nat → Int32 → Int32 → mS → Option mR
  | 0, _, _, _ => none
  | n + 1, x1, x2, S => bI0 (f_X10_readLine F x1 x2 S) (fun r5 S4 => (if ¬ r5 = 0 then bV0 (f_X10_blanks F S4) (fun S6 => (if ¬ (S6 63 10) = (S6 63 11) then bI0 (f_X10_isAt ((59 : Int32)) ((59 : Int32)) S6) (fun r8 S7 => (if ¬ r8 = 0 then bnd (upS S7 63 10 ((S7 63 10) + ((1 : Int32)))) (fun S9 => f_X10_readAll_b28 F n x1 (x2 + (1 : Int32)) S9) else some (.inl (some (.int ((-1 : Int32)))), S7))) else some (.inl (some (.int (x2 + ((1 : Int32))))), S6))) else some (.inl (some (.int ((-1 : Int32)))), S4)))
def f_X10_readAll (F : Nat) (p1 : Int32) (S : mS) : Option mR := bV0 (f_X10_uses S) (fun S1 => bnd (upS S1 63 16 ((0 : Int32))) (fun S2 => bV0 (f_X10_blanks F S2) (fun S3 => (if ¬ (S3 63 10) = (S3 63 11) then f_X10_readAll_b28 F F p1 ((0 : Int32)) S3 else some (.inl (some (.int ((0 : Int32)))), S3)))))
theorem f_X10_readAll_b28_ok {d F : Nat} : ∀ (n : Nat) {x1 : Int32} {x2 : Int32} {S : mS} {r : mR}, f_X10_readAll_b28 F n x1 x2 S = some r → Ev (d + 47) Mx200 (28, [.ref 63, .int x1, .int x2], [], S, 0) r := by
  intro n
  induction n with
  | zero => intro x1 x2 S r hf; cases hf
  | succ n ih =>
    intro x1 x2 S r hf
    rw [f_X10_readAll_b28] at hf
    refine ev_sts 3 (c2 := (31, [.ref 63, .int x1, .int x2], [.int x2, .int x1, .ref 63], S, 0)) rfl ?_
    refine ev_bI0 (d := d + 46) (M' := Mx199) (ct := (34, [.ref 63, .int x1, .int x2], [], S, 0)) hf rfl rfl rfl rfl (fun r9 h9 => f_X10_readLine_ok (d := d) h9) (fun r5 S4 hf => ?_)
    show Ev (d + 47) Mx200 (34, [.ref 63, .int x1, .int x2], [.int r5], S4, 0) r
    refine ev_if (c1 := (39, [.ref 63, .int x1, .int x2], [], S4, 0)) (c2 := (37, [.ref 63, .int x1, .int x2], [], S4, 0)) hf rfl rfl (fun _ hf => ?_) (fun _ hf => ?_)
    · refine ev_sts 1 (c2 := (40, [.ref 63, .int x1, .int x2], [.ref 63], S4, 0)) rfl ?_
      refine ev_bV0 (d := d + 46) (M' := Mx177) (ct := (43, [.ref 63, .int x1, .int x2], [], S4, 0)) hf rfl rfl rfl rfl (fun r9 h9 => f_X10_blanks_ok (d := d + 45) h9) (fun S6 hf => ?_)
      show Ev (d + 47) Mx200 (43, [.ref 63, .int x1, .int x2], [], S6, 0) r
      refine ev_sts 4 (c2 := (51, [.ref 63, .int x1, .int x2], [.int (S6 63 11), .int (S6 63 10)], S6, 0)) rfl ?_
      refine ev_if (c1 := (58, [.ref 63, .int x1, .int x2], [], S6, 0)) (c2 := (54, [.ref 63, .int x1, .int x2], [], S6, 0)) hf rfl rfl (fun _ hf => ?_) (fun _ hf => ?_)
      · refine ev_sts 3 (c2 := (63, [.ref 63, .int x1, .int x2], [.int ((59 : Int32)), .int ((59 : Int32)), .ref 63], S6, 0)) rfl ?_
        refine ev_bI0 (d := d + 46) (M' := Mx176) (ct := (66, [.ref 63, .int x1, .int x2], [], S6, 0)) hf rfl rfl rfl rfl (fun r9 h9 => f_X10_isAt_ok (d := d + 46) h9) (fun r8 S7 hf => ?_)
        show Ev (d + 47) Mx200 (66, [.ref 63, .int x1, .int x2], [.int r8], S7, 0) r
        refine ev_if (c1 := (71, [.ref 63, .int x1, .int x2], [], S7, 0)) (c2 := (69, [.ref 63, .int x1, .int x2], [], S7, 0)) hf rfl rfl (fun _ hf => ?_) (fun _ hf => ?_)
        · refine ev_sts 6 (c2 := (81, [.ref 63, .int x1, .int x2], [], (upS S7 63 10 ((S7 63 10) + ((1 : Int32)))), 0)) rfl ?_
          refine ev_let (P := fun S9 => Ev (d + 47) Mx200 (81, [.ref 63, .int x1, .int x2], [], S9, 0) r) (fun S9 hf => ?_) hf
          exact ev_sts 2 (c2 := (28, [.ref 63, .int x1, .int (x2 + (1 : Int32))], [], S9, 0)) rfl (ih hf)
        · refine ev_sts 1 (c2 := (70, [.ref 63, .int x1, .int x2], [.int ((-1 : Int32))], S7, 0)) rfl ?_
          exact ev_ret hf rfl rfl
      · refine ev_sts 3 (c2 := (57, [.ref 63, .int x1, .int x2], [.int (x2 + ((1 : Int32)))], S6, 0)) rfl ?_
        exact ev_ret hf rfl rfl
    · refine ev_sts 1 (c2 := (38, [.ref 63, .int x1, .int x2], [.int ((-1 : Int32))], S4, 0)) rfl ?_
      exact ev_ret hf rfl rfl
theorem f_X10_readAll_ok {d F : Nat} {p1 : Int32} {S : mS} {r : mR} (hf : f_X10_readAll F p1 S = some r) : Ev (d + 47) Mx200 (entry Mx200 [.ref 63, .int p1] S) r := by
  unfold f_X10_readAll at hf
  refine ev_sts 1 (c2 := (1, [.ref 63, .int p1, mK], [.ref 63], S, 0)) rfl ?_
  refine ev_bV0 (d := d + 46) (M' := Mx185) (ct := (4, [.ref 63, .int p1, mK], [], S, 0)) hf rfl rfl rfl rfl (fun r9 h9 => f_X10_uses_ok (d := d + 46) h9) (fun S1 hf => ?_)
  show Ev (d + 47) Mx200 (4, [.ref 63, .int p1, mK], [], S1, 0) r
  refine ev_sts 3 (c2 := (9, [.ref 63, .int p1, mK], [], (upS S1 63 16 ((0 : Int32))), 0)) rfl ?_
  refine ev_let (P := fun S2 => Ev (d + 47) Mx200 (9, [.ref 63, .int p1, mK], [], S2, 0) r) (fun S2 hf => ?_) hf
  refine ev_sts 1 (c2 := (10, [.ref 63, .int p1, mK], [.ref 63], S2, 0)) rfl ?_
  refine ev_bV0 (d := d + 46) (M' := Mx177) (ct := (13, [.ref 63, .int p1, mK], [], S2, 0)) hf rfl rfl rfl rfl (fun r9 h9 => f_X10_blanks_ok (d := d + 45) h9) (fun S3 hf => ?_)
  show Ev (d + 47) Mx200 (13, [.ref 63, .int p1, mK], [], S3, 0) r
  refine ev_sts 4 (c2 := (21, [.ref 63, .int p1, mK], [.int (S3 63 11), .int (S3 63 10)], S3, 0)) rfl ?_
  refine ev_if (c1 := (26, [.ref 63, .int p1, mK], [], S3, 0)) (c2 := (24, [.ref 63, .int p1, mK], [], S3, 0)) hf rfl rfl (fun _ hf => ?_) (fun _ hf => ?_)
  · exact ev_sts 2 (c2 := (28, [.ref 63, .int p1, .int ((0 : Int32))], [], S3, 0)) rfl (f_X10_readAll_b28_ok _ hf)
  · refine ev_sts 1 (c2 := (25, [.ref 63, .int p1, mK], [.int ((0 : Int32))], S3, 0)) rfl ?_
    exact ev_ret hf rfl rfl
def f_X10_isle_b92 (F : Nat) : Nat → Int32 → mS → Option mR
  | 0, _, _ => none
  | n + 1, x2, S => (if ((1296 : Int32)) ≤ x2 then some (.inl (some (.int ((0 : Int32)))), S) else gd (inb x2 1296) (gd (inb x2 2145) (bnd (upS S 64 x2.toNatClampNeg (S 66 x2.toNatClampNeg)) (fun S6 => f_X10_isle_b92 F n (x2 + (1 : Int32)) S6))))
def f_X10_isle_b90 (F : Nat) (S : mS) : Option mR := f_X10_isle_b92 F F ((0 : Int32)) S
def f_X10_isle_b83 (F : Nat) (t1 : Int32) (S : mS) : Option mR := bI0 (f_X10_throwsIf t1 ((2 : Int32)) S) (fun r8 S7 => (if r8 = 0 then gd (inb ((3 : Int32)) 2145) (gd (inb ((3 : Int32)) 2145) (bnd (upS S7 64 ((3 : Int32)).toNatClampNeg ((S7 64 ((3 : Int32)).toNatClampNeg) + ((1 : Int32)))) (fun S9 => bnd (upS S9 63 7 ((0 : Int32))) (fun S10 => gd (inb ((3 : Int32)) 2145) (some (.inl (some (.int (S10 64 ((3 : Int32)).toNatClampNeg))), S10)))))) else f_X10_isle_b90 F S7))
def f_X10_isle_b59 (F : Nat) (t1 : Int32) (S : mS) : Option mR := bI0 (f_X10_throwsIf t1 ((1 : Int32)) S) (fun r5 S4 => (if ¬ r5 = 0 then f_X10_isle_b90 F S4 else gd (inb ((3 : Int32)) 2145) ((if ¬ (S4 64 ((3 : Int32)).toNatClampNeg) = ((12 : Int32)) then f_X10_isle_b83 F ((0 : Int32)) S4 else f_X10_isle_b83 F ((1 : Int32)) S4))))
def f_X10_isle_b46 (F : Nat) (x1 : Int32) (t1 : Int32) (S : mS) : Option mR := bnd (upS S 63 14 t1) (fun S3 => (if 0 ≤ x1 then f_X10_isle_b59 F ((0 : Int32)) S3 else f_X10_isle_b59 F ((1 : Int32)) S3))
def f_X10_isle_b2 (F : Nat) : Nat → Int32 → mS → Option mR
  | 0, _, _ => none
  | n + 1, x1, S => (if ((1296 : Int32)) ≤ x1 then bI0 (f_X10_readAll F ((1 : Int32)) S) (fun r2 S1 => (if 0 ≤ r2 then f_X10_isle_b46 F r2 ((-1 : Int32)) S1 else f_X10_isle_b46 F r2 (S1 63 12) S1)) else gd (inb x1 2145) (gd (inb x1 1296) (bnd (upS S 66 x1.toNatClampNeg (S 64 x1.toNatClampNeg)) (fun S11 => f_X10_isle_b2 F n (x1 + (1 : Int32)) S11))))
def f_X10_isle (F : Nat) (S : mS) : Option mR := f_X10_isle_b2 F F ((0 : Int32)) S
theorem f_X10_isle_b92_ok {d F : Nat} : ∀ (n : Nat) {x2 : Int32} {S : mS} {r : mR}, f_X10_isle_b92 F n x2 S = some r → Ev (d + 48) Mx201 (92, [.ref 63, mK, .int x2], [], S, 0) r := by
  intro n
  induction n with
  | zero => intro x2 S r hf; cases hf
  | succ n ih =>
    intro x2 S r hf
    rw [f_X10_isle_b92] at hf
    refine ev_sts 2 (c2 := (96, [.ref 63, mK, .int x2], [.int ((1296 : Int32)), .int x2], S, 0)) rfl ?_
    refine ev_if (c1 := (117, [.ref 63, mK, .int x2], [], S, 0)) (c2 := (99, [.ref 63, mK, .int x2], [], S, 0)) hf rfl rfl (fun _ hf => ?_) (fun _ hf => ?_)
    · refine ev_sts 1 (c2 := (118, [.ref 63, mK, .int x2], [.int ((0 : Int32))], S, 0)) rfl ?_
      exact ev_ret hf rfl rfl
    · refine ev_sts 6 (c2 := (109, [.ref 63, mK, .int x2], [.int x2, .ref 66, .int x2, .ref 64], S, 0)) rfl ?_
      refine ev_gd (c1 := (110, [.ref 63, mK, .int x2], [.int (S 66 x2.toNatClampNeg), .int x2, .ref 64], S, 0)) hf rfl rfl (fun hf => ?_)
      refine ev_gd (c1 := (111, [.ref 63, mK, .int x2], [], (upS S 64 x2.toNatClampNeg (S 66 x2.toNatClampNeg)), 0)) hf rfl rfl (fun hf => ?_)
      refine ev_let (P := fun S6 => Ev (d + 48) Mx201 (111, [.ref 63, mK, .int x2], [], S6, 0) r) (fun S6 hf => ?_) hf
      exact ev_sts 2 (c2 := (92, [.ref 63, mK, .int (x2 + (1 : Int32))], [], S6, 0)) rfl (ih hf)
theorem f_X10_isle_b90_ok {d F : Nat} {S : mS} {r : mR} (hf : f_X10_isle_b90 F  S = some r) : Ev (d + 48) Mx201 (90, [.ref 63, mK, mK], [], S, 0) r := by
  unfold f_X10_isle_b90 at hf
  exact ev_sts 2 (c2 := (92, [.ref 63, mK, .int ((0 : Int32))], [], S, 0)) rfl (f_X10_isle_b92_ok _ hf)
theorem f_X10_isle_b83_ok {d F : Nat} {t1 : Int32} {S : mS} {r : mR} (hf : f_X10_isle_b83 F t1 S = some r) : Ev (d + 48) Mx201 (83, [.ref 63, mK, mK], [.int t1, .ref 63], S, 0) r := by
  unfold f_X10_isle_b83 at hf
  refine ev_sts 1 (c2 := (84, [.ref 63, mK, mK], [.int ((2 : Int32)), .int t1, .ref 63], S, 0)) rfl ?_
  refine ev_bI0 (d := d + 47) (M' := Mx155) (ct := (87, [.ref 63, mK, mK], [], S, 0)) hf rfl rfl rfl rfl (fun r9 h9 => f_X10_throwsIf_ok (d := d + 47) h9) (fun r8 S7 hf => ?_)
  show Ev (d + 48) Mx201 (87, [.ref 63, mK, mK], [.int r8], S7, 0) r
  refine ev_if (c1 := (119, [.ref 63, mK, mK], [], S7, 0)) (c2 := (90, [.ref 63, mK, mK], [], S7, 0)) hf rfl rfl (fun _ hf => ?_) (fun _ hf => ?_)
  · refine ev_sts 4 (c2 := (125, [.ref 63, mK, mK], [.int ((3 : Int32)), .ref 64, .int ((3 : Int32)), .ref 64], S7, 0)) rfl ?_
    refine ev_gd (c1 := (126, [.ref 63, mK, mK], [.int (S7 64 ((3 : Int32)).toNatClampNeg), .int ((3 : Int32)), .ref 64], S7, 0)) hf rfl rfl (fun hf => ?_)
    refine ev_sts 2 (c2 := (128, [.ref 63, mK, mK], [.int ((S7 64 ((3 : Int32)).toNatClampNeg) + ((1 : Int32))), .int ((3 : Int32)), .ref 64], S7, 0)) rfl ?_
    refine ev_gd (c1 := (129, [.ref 63, mK, mK], [], (upS S7 64 ((3 : Int32)).toNatClampNeg ((S7 64 ((3 : Int32)).toNatClampNeg) + ((1 : Int32)))), 0)) hf rfl rfl (fun hf => ?_)
    refine ev_let (P := fun S9 => Ev (d + 48) Mx201 (129, [.ref 63, mK, mK], [], S9, 0) r) (fun S9 hf => ?_) hf
    refine ev_sts 3 (c2 := (134, [.ref 63, mK, mK], [], (upS S9 63 7 ((0 : Int32))), 0)) rfl ?_
    refine ev_let (P := fun S10 => Ev (d + 48) Mx201 (134, [.ref 63, mK, mK], [], S10, 0) r) (fun S10 hf => ?_) hf
    refine ev_sts 3 (c2 := (139, [.ref 63, mK, mK], [.int ((3 : Int32)), .ref 64], S10, 0)) rfl ?_
    refine ev_gd (c1 := (140, [.ref 63, mK, mK], [.int (S10 64 ((3 : Int32)).toNatClampNeg)], S10, 0)) hf rfl rfl (fun hf => ?_)
    exact ev_ret hf rfl rfl
  · exact f_X10_isle_b90_ok hf
theorem f_X10_isle_b59_ok {d F : Nat} {t1 : Int32} {S : mS} {r : mR} (hf : f_X10_isle_b59 F t1 S = some r) : Ev (d + 48) Mx201 (59, [.ref 63, mK, mK], [.int t1, .ref 63], S, 0) r := by
  unfold f_X10_isle_b59 at hf
  refine ev_sts 1 (c2 := (60, [.ref 63, mK, mK], [.int ((1 : Int32)), .int t1, .ref 63], S, 0)) rfl ?_
  refine ev_bI0 (d := d + 47) (M' := Mx155) (ct := (63, [.ref 63, mK, mK], [], S, 0)) hf rfl rfl rfl rfl (fun r9 h9 => f_X10_throwsIf_ok (d := d + 47) h9) (fun r5 S4 hf => ?_)
  show Ev (d + 48) Mx201 (63, [.ref 63, mK, mK], [.int r5], S4, 0) r
  refine ev_if (c1 := (90, [.ref 63, mK, mK], [], S4, 0)) (c2 := (66, [.ref 63, mK, mK], [], S4, 0)) hf rfl rfl (fun _ hf => ?_) (fun _ hf => ?_)
  · exact f_X10_isle_b90_ok hf
  · refine ev_sts 4 (c2 := (72, [.ref 63, mK, mK], [.int ((3 : Int32)), .ref 64, .ref 63], S4, 0)) rfl ?_
    refine ev_gd (c1 := (73, [.ref 63, mK, mK], [.int (S4 64 ((3 : Int32)).toNatClampNeg), .ref 63], S4, 0)) hf rfl rfl (fun hf => ?_)
    refine ev_sts 1 (c2 := (75, [.ref 63, mK, mK], [.int ((12 : Int32)), .int (S4 64 ((3 : Int32)).toNatClampNeg), .ref 63], S4, 0)) rfl ?_
    refine ev_if (c1 := (82, [.ref 63, mK, mK], [.ref 63], S4, 0)) (c2 := (78, [.ref 63, mK, mK], [.ref 63], S4, 0)) hf rfl rfl (fun _ hf => ?_) (fun _ hf => ?_)
    · exact ev_sts 1 (c2 := (83, [.ref 63, mK, mK], [.int ((0 : Int32)), .ref 63], S4, 0)) rfl (f_X10_isle_b83_ok hf)
    · exact ev_sts 2 (c2 := (83, [.ref 63, mK, mK], [.int ((1 : Int32)), .ref 63], S4, 0)) rfl (f_X10_isle_b83_ok hf)
theorem f_X10_isle_b46_ok {d F : Nat} {x1 : Int32} {t1 : Int32} {S : mS} {r : mR} (hf : f_X10_isle_b46 F x1 t1 S = some r) : Ev (d + 48) Mx201 (46, [.ref 63, .int x1, mK], [.int t1, .ref 63], S, 0) r := by
  unfold f_X10_isle_b46 at hf
  refine ev_sts 1 (c2 := (49, [.ref 63, .int x1, mK], [], (upS S 63 14 t1), 0)) rfl ?_
  refine ev_let (P := fun S3 => Ev (d + 48) Mx201 (49, [.ref 63, .int x1, mK], [], S3, 0) r) (fun S3 hf => ?_) hf
  refine ev_sts 2 (c2 := (51, [.ref 63, .int x1, mK], [.int x1, .ref 63], S3, 0)) rfl ?_
  refine ev_if (c1 := (58, [.ref 63, .int x1, mK], [.ref 63], S3, 0)) (c2 := (54, [.ref 63, .int x1, mK], [.ref 63], S3, 0)) hf rfl rfl (fun _ hf => ?_) (fun _ hf => ?_)
  · exact ev_sts 1 (c2 := (59, [.ref 63, mK, mK], [.int ((0 : Int32)), .ref 63], S3, 0)) rfl (f_X10_isle_b59_ok hf)
  · exact ev_sts 2 (c2 := (59, [.ref 63, mK, mK], [.int ((1 : Int32)), .ref 63], S3, 0)) rfl (f_X10_isle_b59_ok hf)
theorem f_X10_isle_b2_ok {d F : Nat} : ∀ (n : Nat) {x1 : Int32} {S : mS} {r : mR}, f_X10_isle_b2 F n x1 S = some r → Ev (d + 48) Mx201 (2, [.ref 63, .int x1, mK], [], S, 0) r := by
  intro n
  induction n with
  | zero => intro x1 S r hf; cases hf
  | succ n ih =>
    intro x1 S r hf
    rw [f_X10_isle_b2] at hf
    refine ev_sts 2 (c2 := (6, [.ref 63, .int x1, mK], [.int ((1296 : Int32)), .int x1], S, 0)) rfl ?_
    refine ev_if (c1 := (27, [.ref 63, .int x1, mK], [], S, 0)) (c2 := (9, [.ref 63, .int x1, mK], [], S, 0)) hf rfl rfl (fun _ hf => ?_) (fun _ hf => ?_)
    · refine ev_sts 2 (c2 := (29, [.ref 63, .int x1, mK], [.int ((1 : Int32)), .ref 63], S, 0)) rfl ?_
      refine ev_bI0 (d := d + 47) (M' := Mx200) (ct := (32, [.ref 63, .int x1, mK], [], S, 0)) hf rfl rfl rfl rfl (fun r9 h9 => f_X10_readAll_ok (d := d) h9) (fun r2 S1 hf => ?_)
      show Ev (d + 48) Mx201 (32, [.ref 63, .int x1, mK], [.int r2], S1, 0) r
      refine ev_sts 3 (c2 := (35, [.ref 63, .int r2, mK], [.int r2, .ref 63], S1, 0)) rfl ?_
      refine ev_if (c1 := (45, [.ref 63, .int r2, mK], [.ref 63], S1, 0)) (c2 := (38, [.ref 63, .int r2, mK], [.ref 63], S1, 0)) hf rfl rfl (fun _ hf => ?_) (fun _ hf => ?_)
      · exact ev_sts 1 (c2 := (46, [.ref 63, .int r2, mK], [.int ((-1 : Int32)), .ref 63], S1, 0)) rfl (f_X10_isle_b46_ok hf)
      · exact ev_sts 3 (c2 := (46, [.ref 63, .int r2, mK], [.int (S1 63 12), .ref 63], S1, 0)) rfl (f_X10_isle_b46_ok hf)
    · refine ev_sts 6 (c2 := (19, [.ref 63, .int x1, mK], [.int x1, .ref 64, .int x1, .ref 66], S, 0)) rfl ?_
      refine ev_gd (c1 := (20, [.ref 63, .int x1, mK], [.int (S 64 x1.toNatClampNeg), .int x1, .ref 66], S, 0)) hf rfl rfl (fun hf => ?_)
      refine ev_gd (c1 := (21, [.ref 63, .int x1, mK], [], (upS S 66 x1.toNatClampNeg (S 64 x1.toNatClampNeg)), 0)) hf rfl rfl (fun hf => ?_)
      refine ev_let (P := fun S11 => Ev (d + 48) Mx201 (21, [.ref 63, .int x1, mK], [], S11, 0) r) (fun S11 hf => ?_) hf
      exact ev_sts 2 (c2 := (2, [.ref 63, .int (x1 + (1 : Int32)), mK], [], S11, 0)) rfl (ih hf)
theorem f_X10_isle_ok {d F : Nat} {S : mS} {r : mR} (hf : f_X10_isle F S = some r) : Ev (d + 48) Mx201 (entry Mx201 [.ref 63] S) r := by
  unfold f_X10_isle at hf
  exact ev_sts 2 (c2 := (2, [.ref 63, .int ((0 : Int32)), mK], [], S, 0)) rfl (f_X10_isle_b2_ok _ hf)
def f_X10_jerks_b50 (t0 : Int32) (S : mS) : Option mR := some (.inl (some (.int t0)), S)
def f_X10_jerks_b28 (x1 : Int32) (x2 : Int32) (t1 : Int32) (S : mS) : Option mR := bI0 (f_X10_throwsIf t1 ((1 : Int32)) S) (fun r5 S4 => (if r5 = 0 then gd (decide (¬ ((((2 : Int32)) * x2) + ((1 : Int32))) = 0)) (f_X10_jerks_b50 ((x1 + (((2 : Int32)) * x2)) / ((((2 : Int32)) * x2) + ((1 : Int32)))) S4) else f_X10_jerks_b50 ((0 : Int32)) S4))
def f_X10_jerks_b23 (x1 : Int32) (x2 : Int32) (S : mS) : Option mR := f_X10_jerks_b28 x1 x2 ((1 : Int32)) S
def f_X10_jerks (p1 : Int32) (p2 : Int32) (S : mS) : Option mR := bnd (upS S 63 0 ((0 : Int32))) (fun S1 => bI0 (f_X10_in p1 ((1 : Int32)) ((12 : Int32)) S1) (fun r3 S2 => (if r3 = 0 then f_X10_jerks_b23 p1 p2 S2 else bI0 (f_X10_noEar p2 S2) (fun r7 S6 => (if r7 = 0 then f_X10_jerks_b28 p1 p2 ((0 : Int32)) S6 else f_X10_jerks_b23 p1 p2 S6)))))
theorem f_X10_jerks_b50_ok {d : Nat} {t0 : Int32} {S : mS} {r : mR} (hf : f_X10_jerks_b50 t0 S = some r) : Ev (d + 2) Mx265 (50, [mK, mK, mK], [.int t0], S, 0) r := by
  unfold f_X10_jerks_b50 at hf
  exact ev_ret hf rfl rfl
theorem f_X10_jerks_b28_ok {d : Nat} {x1 : Int32} {x2 : Int32} {t1 : Int32} {S : mS} {r : mR} (hf : f_X10_jerks_b28 x1 x2 t1 S = some r) : Ev (d + 2) Mx265 (28, [mK, .int x1, .int x2], [.int t1, .ref 63], S, 0) r := by
  unfold f_X10_jerks_b28 at hf
  refine ev_sts 1 (c2 := (29, [mK, .int x1, .int x2], [.int ((1 : Int32)), .int t1, .ref 63], S, 0)) rfl ?_
  refine ev_bI0 (d := d + 1) (M' := Mx155) (ct := (32, [mK, .int x1, .int x2], [], S, 0)) hf rfl rfl rfl rfl (fun r9 h9 => f_X10_throwsIf_ok (d := d + 1) h9) (fun r5 S4 hf => ?_)
  show Ev (d + 2) Mx265 (32, [mK, .int x1, .int x2], [.int r5], S4, 0) r
  refine ev_if (c1 := (39, [mK, .int x1, .int x2], [], S4, 0)) (c2 := (35, [mK, .int x1, .int x2], [], S4, 0)) hf rfl rfl (fun _ hf => ?_) (fun _ hf => ?_)
  · refine ev_sts 10 (c2 := (49, [mK, .int x1, .int x2], [.int ((((2 : Int32)) * x2) + ((1 : Int32))), .int (x1 + (((2 : Int32)) * x2))], S4, 0)) rfl ?_
    refine ev_gd (c1 := (50, [mK, mK, mK], [.int ((x1 + (((2 : Int32)) * x2)) / ((((2 : Int32)) * x2) + ((1 : Int32))))], S4, 0)) hf rfl rfl (fun hf => ?_)
    exact f_X10_jerks_b50_ok hf
  · exact ev_sts 2 (c2 := (50, [mK, mK, mK], [.int ((0 : Int32))], S4, 0)) rfl (f_X10_jerks_b50_ok hf)
theorem f_X10_jerks_b23_ok {d : Nat} {x1 : Int32} {x2 : Int32} {S : mS} {r : mR} (hf : f_X10_jerks_b23 x1 x2 S = some r) : Ev (d + 2) Mx265 (23, [mK, .int x1, .int x2], [.ref 63], S, 0) r := by
  unfold f_X10_jerks_b23 at hf
  exact ev_sts 2 (c2 := (28, [mK, .int x1, .int x2], [.int ((1 : Int32)), .ref 63], S, 0)) rfl (f_X10_jerks_b28_ok hf)
theorem f_X10_jerks_ok {d : Nat} {p1 : Int32} {p2 : Int32} {S : mS} {r : mR} (hf : f_X10_jerks p1 p2 S = some r) : Ev (d + 2) Mx265 (entry Mx265 [.ref 63, .int p1, .int p2] S) r := by
  unfold f_X10_jerks at hf
  refine ev_sts 3 (c2 := (5, [.ref 63, .int p1, .int p2], [], (upS S 63 0 ((0 : Int32))), 0)) rfl ?_
  refine ev_let (P := fun S1 => Ev (d + 2) Mx265 (5, [.ref 63, .int p1, .int p2], [], S1, 0) r) (fun S1 hf => ?_) hf
  refine ev_sts 4 (c2 := (10, [.ref 63, .int p1, .int p2], [.int ((12 : Int32)), .int ((1 : Int32)), .int p1, .ref 63], S1, 0)) rfl ?_
  refine ev_bI0 (d := d + 1) (M' := Mx156) (ct := (13, [.ref 63, .int p1, .int p2], [.ref 63], S1, 0)) hf rfl rfl rfl rfl (fun r9 h9 => f_X10_in_ok (d := d + 1) h9) (fun r3 S2 hf => ?_)
  show Ev (d + 2) Mx265 (13, [.ref 63, .int p1, .int p2], [.int r3, .ref 63], S2, 0) r
  refine ev_if (c1 := (23, [mK, .int p1, .int p2], [.ref 63], S2, 0)) (c2 := (16, [.ref 63, .int p1, .int p2], [.ref 63], S2, 0)) hf rfl rfl (fun _ hf => ?_) (fun _ hf => ?_)
  · exact f_X10_jerks_b23_ok hf
  · refine ev_sts 1 (c2 := (17, [.ref 63, .int p1, .int p2], [.int p2, .ref 63], S2, 0)) rfl ?_
    refine ev_bI0 (d := d + 1) (M' := Mx264) (ct := (20, [.ref 63, .int p1, .int p2], [.ref 63], S2, 0)) hf rfl rfl rfl rfl (fun r9 h9 => f_X10_noEar_ok (d := d) h9) (fun r7 S6 hf => ?_)
    show Ev (d + 2) Mx265 (20, [.ref 63, .int p1, .int p2], [.int r7, .ref 63], S6, 0) r
    refine ev_if (c1 := (27, [.ref 63, .int p1, .int p2], [.ref 63], S6, 0)) (c2 := (23, [mK, .int p1, .int p2], [.ref 63], S6, 0)) hf rfl rfl (fun _ hf => ?_) (fun _ hf => ?_)
    · exact ev_sts 1 (c2 := (28, [mK, .int p1, .int p2], [.int ((0 : Int32)), .ref 63], S6, 0)) rfl (f_X10_jerks_b28_ok hf)
    · exact f_X10_jerks_b23_ok hf
def f_X10_kicks_b40 (F : Nat) (t0 : Int32) (S : mS) : Option mR := some (.inl (some (.int t0)), S)
def f_X10_kicks_b30 (F : Nat) (S : mS) : Option mR := f_X10_kicks_b40 F ((0 : Int32)) S
def f_X10_kicks (F : Nat) (p1 : Int32) (p2 : Int32) (S : mS) : Option mR := bnd (upS S 63 0 ((0 : Int32))) (fun S1 => bI0 (f_X10_noLedge p1 S1) (fun r3 S2 => bI0 (f_X10_throwsIf r3 ((1 : Int32)) S2) (fun r5 S4 => (if ¬ r5 = 0 then f_X10_kicks_b30 F S4 else bI0 (f_X10_noWind p2 S4) (fun r7 S6 => bI0 (f_X10_throwsIf r7 ((2 : Int32)) S6) (fun r9 S8 => (if r9 = 0 then bI0 (f_X10_kicksTo F p1 p2 S8) (fun r11 S10 => f_X10_kicks_b40 F r11 S10) else f_X10_kicks_b30 F S8)))))))
theorem f_X10_kicks_b40_ok {d F : Nat} {t0 : Int32} {S : mS} {r : mR} (hf : f_X10_kicks_b40 F t0 S = some r) : Ev (d + 9) Mx216 (40, [mK, mK, mK], [.int t0], S, 0) r := by
  unfold f_X10_kicks_b40 at hf
  exact ev_ret hf rfl rfl
theorem f_X10_kicks_b30_ok {d F : Nat} {S : mS} {r : mR} (hf : f_X10_kicks_b30 F  S = some r) : Ev (d + 9) Mx216 (30, [mK, mK, mK], [], S, 0) r := by
  unfold f_X10_kicks_b30 at hf
  exact ev_sts 2 (c2 := (40, [mK, mK, mK], [.int ((0 : Int32))], S, 0)) rfl (f_X10_kicks_b40_ok hf)
theorem f_X10_kicks_ok {d F : Nat} {p1 : Int32} {p2 : Int32} {S : mS} {r : mR} (hf : f_X10_kicks F p1 p2 S = some r) : Ev (d + 9) Mx216 (entry Mx216 [.ref 63, .int p1, .int p2] S) r := by
  unfold f_X10_kicks at hf
  refine ev_sts 3 (c2 := (5, [.ref 63, .int p1, .int p2], [], (upS S 63 0 ((0 : Int32))), 0)) rfl ?_
  refine ev_let (P := fun S1 => Ev (d + 9) Mx216 (5, [.ref 63, .int p1, .int p2], [], S1, 0) r) (fun S1 hf => ?_) hf
  refine ev_sts 3 (c2 := (8, [.ref 63, .int p1, .int p2], [.int p1, .ref 63, .ref 63], S1, 0)) rfl ?_
  refine ev_bI0 (d := d + 8) (M' := Mx169) (ct := (11, [.ref 63, .int p1, .int p2], [.ref 63], S1, 0)) hf rfl rfl rfl rfl (fun r9 h9 => f_X10_noLedge_ok (d := d + 7) h9) (fun r3 S2 hf => ?_)
  show Ev (d + 9) Mx216 (11, [.ref 63, .int p1, .int p2], [.int r3, .ref 63], S2, 0) r
  refine ev_sts 1 (c2 := (12, [.ref 63, .int p1, .int p2], [.int ((1 : Int32)), .int r3, .ref 63], S2, 0)) rfl ?_
  refine ev_bI0 (d := d + 8) (M' := Mx155) (ct := (15, [.ref 63, .int p1, .int p2], [], S2, 0)) hf rfl rfl rfl rfl (fun r9 h9 => f_X10_throwsIf_ok (d := d + 8) h9) (fun r5 S4 hf => ?_)
  show Ev (d + 9) Mx216 (15, [.ref 63, .int p1, .int p2], [.int r5], S4, 0) r
  refine ev_if (c1 := (30, [mK, mK, mK], [], S4, 0)) (c2 := (18, [.ref 63, .int p1, .int p2], [], S4, 0)) hf rfl rfl (fun _ hf => ?_) (fun _ hf => ?_)
  · exact f_X10_kicks_b30_ok hf
  · refine ev_sts 2 (c2 := (20, [.ref 63, .int p1, .int p2], [.int p2, .ref 63], S4, 0)) rfl ?_
    refine ev_bI0 (d := d + 8) (M' := Mx172) (ct := (23, [.ref 63, .int p1, .int p2], [.ref 63], S4, 0)) hf rfl rfl rfl rfl (fun r9 h9 => f_X10_noWind_ok (d := d + 7) h9) (fun r7 S6 hf => ?_)
    show Ev (d + 9) Mx216 (23, [.ref 63, .int p1, .int p2], [.int r7, .ref 63], S6, 0) r
    refine ev_sts 1 (c2 := (24, [.ref 63, .int p1, .int p2], [.int ((2 : Int32)), .int r7, .ref 63], S6, 0)) rfl ?_
    refine ev_bI0 (d := d + 8) (M' := Mx155) (ct := (27, [.ref 63, .int p1, .int p2], [], S6, 0)) hf rfl rfl rfl rfl (fun r9 h9 => f_X10_throwsIf_ok (d := d + 8) h9) (fun r9 S8 hf => ?_)
    show Ev (d + 9) Mx216 (27, [.ref 63, .int p1, .int p2], [.int r9], S8, 0) r
    refine ev_if (c1 := (34, [.ref 63, .int p1, .int p2], [], S8, 0)) (c2 := (30, [mK, mK, mK], [], S8, 0)) hf rfl rfl (fun _ hf => ?_) (fun _ hf => ?_)
    · refine ev_sts 3 (c2 := (37, [.ref 63, .int p1, .int p2], [.int p2, .int p1, .ref 63], S8, 0)) rfl ?_
      refine ev_bI0 (d := d + 8) (M' := Mx209) (ct := (40, [mK, mK, mK], [], S8, 0)) hf rfl rfl rfl rfl (fun r9 h9 => f_X10_kicksTo_ok (d := d) h9) (fun r11 S10 hf => ?_)
      show Ev (d + 9) Mx216 (40, [mK, mK, mK], [.int r11], S10, 0) r
      exact f_X10_kicks_b40_ok hf
    · exact f_X10_kicks_b30_ok hf
def f_X10_lasts_b30 (F : Nat) (S : mS) : Option mR := some (.inl (some (.int ((0 : Int32)))), S)
def f_X10_lasts_b110 (F : Nat) (t0 : Int32) (S : mS) : Option mR := some (.inl (some (.int t0)), S)
def f_X10_lasts (F : Nat) (p1 : Int32) (p2 : Int32) (S : mS) : Option mR := bnd (upS S 63 0 ((0 : Int32))) (fun S1 => bI0 (f_X10_noLedge p1 S1) (fun r3 S2 => bI0 (f_X10_throwsIf r3 ((1 : Int32)) S2) (fun r5 S4 => (if ¬ r5 = 0 then f_X10_lasts_b30 F S4 else bI0 (f_X10_noWind p2 S4) (fun r7 S6 => bI0 (f_X10_throwsIf r7 ((2 : Int32)) S6) (fun r9 S8 => (if r9 = 0 then bI0 (f_X10_kicksTo F p1 p2 S8) (fun r11 S10 => (if 0 ≤ r11 then bI0 (f_X10_wearOf F p1 p2 S10) (fun r13 S12 => bnd (r11 + r13 : Int32) (fun y14 => gd (inb ((9 : Int32)) 2145) (gd (inb ((8 : Int32)) 2145) (bnd (if ((0 : Int32)) < ((S12 64 ((9 : Int32)).toNatClampNeg) - (S12 64 ((8 : Int32)).toNatClampNeg)) then ((S12 64 ((9 : Int32)).toNatClampNeg) - (S12 64 ((8 : Int32)).toNatClampNeg)) else ((0 : Int32)) : Int32) (fun y15 => (if ¬ y15 = 0 then (if ¬ y14 = 0 then gd (decide (¬ y14 = 0)) (f_X10_lasts_b110 F (if (((y15 + y14) - ((1 : Int32))) / y14) < ((99 : Int32)) then (((y15 + y14) - ((1 : Int32))) / y14) else ((99 : Int32))) S12) else f_X10_lasts_b110 F ((99 : Int32)) S12) else f_X10_lasts_b110 F ((0 : Int32)) S12)))))) else some (.inl (some (.int ((-1 : Int32)))), S10))) else f_X10_lasts_b30 F S8)))))))
theorem f_X10_lasts_b30_ok {d F : Nat} {S : mS} {r : mR} (hf : f_X10_lasts_b30 F  S = some r) : Ev (d + 9) Mx241 (30, [mK, mK, mK, mK, mK, mK], [], S, 0) r := by
  unfold f_X10_lasts_b30 at hf
  refine ev_sts 1 (c2 := (31, [mK, mK, mK, mK, mK, mK], [.int ((0 : Int32))], S, 0)) rfl ?_
  exact ev_ret hf rfl rfl
theorem f_X10_lasts_b110_ok {d F : Nat} {t0 : Int32} {S : mS} {r : mR} (hf : f_X10_lasts_b110 F t0 S = some r) : Ev (d + 9) Mx241 (110, [mK, mK, mK, mK, mK, mK], [.int t0], S, 0) r := by
  unfold f_X10_lasts_b110 at hf
  exact ev_ret hf rfl rfl
theorem f_X10_lasts_ok {d F : Nat} {p1 : Int32} {p2 : Int32} {S : mS} {r : mR} (hf : f_X10_lasts F p1 p2 S = some r) : Ev (d + 9) Mx241 (entry Mx241 [.ref 63, .int p1, .int p2] S) r := by
  unfold f_X10_lasts at hf
  refine ev_sts 3 (c2 := (5, [.ref 63, .int p1, .int p2, mK, mK, mK], [], (upS S 63 0 ((0 : Int32))), 0)) rfl ?_
  refine ev_let (P := fun S1 => Ev (d + 9) Mx241 (5, [.ref 63, .int p1, .int p2, mK, mK, mK], [], S1, 0) r) (fun S1 hf => ?_) hf
  refine ev_sts 3 (c2 := (8, [.ref 63, .int p1, .int p2, mK, mK, mK], [.int p1, .ref 63, .ref 63], S1, 0)) rfl ?_
  refine ev_bI0 (d := d + 8) (M' := Mx169) (ct := (11, [.ref 63, .int p1, .int p2, mK, mK, mK], [.ref 63], S1, 0)) hf rfl rfl rfl rfl (fun r9 h9 => f_X10_noLedge_ok (d := d + 7) h9) (fun r3 S2 hf => ?_)
  show Ev (d + 9) Mx241 (11, [.ref 63, .int p1, .int p2, mK, mK, mK], [.int r3, .ref 63], S2, 0) r
  refine ev_sts 1 (c2 := (12, [.ref 63, .int p1, .int p2, mK, mK, mK], [.int ((1 : Int32)), .int r3, .ref 63], S2, 0)) rfl ?_
  refine ev_bI0 (d := d + 8) (M' := Mx155) (ct := (15, [.ref 63, .int p1, .int p2, mK, mK, mK], [], S2, 0)) hf rfl rfl rfl rfl (fun r9 h9 => f_X10_throwsIf_ok (d := d + 8) h9) (fun r5 S4 hf => ?_)
  show Ev (d + 9) Mx241 (15, [.ref 63, .int p1, .int p2, mK, mK, mK], [.int r5], S4, 0) r
  refine ev_if (c1 := (30, [mK, mK, mK, mK, mK, mK], [], S4, 0)) (c2 := (18, [.ref 63, .int p1, .int p2, mK, mK, mK], [], S4, 0)) hf rfl rfl (fun _ hf => ?_) (fun _ hf => ?_)
  · exact f_X10_lasts_b30_ok hf
  · refine ev_sts 2 (c2 := (20, [.ref 63, .int p1, .int p2, mK, mK, mK], [.int p2, .ref 63], S4, 0)) rfl ?_
    refine ev_bI0 (d := d + 8) (M' := Mx172) (ct := (23, [.ref 63, .int p1, .int p2, mK, mK, mK], [.ref 63], S4, 0)) hf rfl rfl rfl rfl (fun r9 h9 => f_X10_noWind_ok (d := d + 7) h9) (fun r7 S6 hf => ?_)
    show Ev (d + 9) Mx241 (23, [.ref 63, .int p1, .int p2, mK, mK, mK], [.int r7, .ref 63], S6, 0) r
    refine ev_sts 1 (c2 := (24, [.ref 63, .int p1, .int p2, mK, mK, mK], [.int ((2 : Int32)), .int r7, .ref 63], S6, 0)) rfl ?_
    refine ev_bI0 (d := d + 8) (M' := Mx155) (ct := (27, [.ref 63, .int p1, .int p2, mK, mK, mK], [], S6, 0)) hf rfl rfl rfl rfl (fun r9 h9 => f_X10_throwsIf_ok (d := d + 8) h9) (fun r9 S8 hf => ?_)
    show Ev (d + 9) Mx241 (27, [.ref 63, .int p1, .int p2, mK, mK, mK], [.int r9], S8, 0) r
    refine ev_if (c1 := (32, [.ref 63, .int p1, .int p2, mK, mK, mK], [], S8, 0)) (c2 := (30, [mK, mK, mK, mK, mK, mK], [], S8, 0)) hf rfl rfl (fun _ hf => ?_) (fun _ hf => ?_)
    · refine ev_sts 3 (c2 := (35, [.ref 63, .int p1, .int p2, mK, mK, mK], [.int p2, .int p1, .ref 63], S8, 0)) rfl ?_
      refine ev_bI0 (d := d + 8) (M' := Mx209) (ct := (38, [.ref 63, .int p1, .int p2, mK, mK, mK], [], S8, 0)) hf rfl rfl rfl rfl (fun r9 h9 => f_X10_kicksTo_ok (d := d) h9) (fun r11 S10 hf => ?_)
      show Ev (d + 9) Mx241 (38, [.ref 63, .int p1, .int p2, mK, mK, mK], [.int r11], S10, 0) r
      refine ev_sts 2 (c2 := (40, [.ref 63, .int p1, .int p2, .int r11, mK, mK], [.int r11], S10, 0)) rfl ?_
      refine ev_if (c1 := (45, [.ref 63, .int p1, .int p2, .int r11, mK, mK], [], S10, 0)) (c2 := (43, [.ref 63, .int p1, .int p2, .int r11, mK, mK], [], S10, 0)) hf rfl rfl (fun _ hf => ?_) (fun _ hf => ?_)
      · refine ev_sts 4 (c2 := (49, [.ref 63, .int p1, .int p2, .int r11, mK, mK], [.int p2, .int p1, .ref 63, .int r11], S10, 0)) rfl ?_
        refine ev_bI0 (d := d + 8) (M' := Mx210) (ct := (52, [.ref 63, .int p1, .int p2, .int r11, mK, mK], [.int r11], S10, 0)) hf rfl rfl rfl rfl (fun r9 h9 => f_X10_wearOf_ok (d := d + 2) h9) (fun r13 S12 hf => ?_)
        show Ev (d + 9) Mx241 (52, [.ref 63, .int p1, .int p2, .int r11, mK, mK], [.int r13, .int r11], S12, 0) r
        refine ev_sts 2 (c2 := (55, [.ref 63, .int p1, .int p2, .int r11, .int (r11 + r13), mK], [], S12, 0)) rfl ?_
        refine ev_let (P := fun y14 => Ev (d + 9) Mx241 (55, [.ref 63, .int p1, .int p2, .int r11, .int y14, mK], [], S12, 0) r) (fun y14 hf => ?_) hf
        refine ev_sts 4 (c2 := (62, [.ref 63, .int p1, .int p2, .int r11, .int y14, mK], [.int ((9 : Int32)), .ref 64, .int ((0 : Int32))], S12, 0)) rfl ?_
        refine ev_gd (c1 := (63, [.ref 63, .int p1, .int p2, .int r11, .int y14, mK], [.int (S12 64 ((9 : Int32)).toNatClampNeg), .int ((0 : Int32))], S12, 0)) hf rfl rfl (fun hf => ?_)
        refine ev_sts 3 (c2 := (69, [.ref 63, .int p1, .int p2, .int r11, .int y14, mK], [.int ((8 : Int32)), .ref 64, .int (S12 64 ((9 : Int32)).toNatClampNeg), .int ((0 : Int32))], S12, 0)) rfl ?_
        refine ev_gd (c1 := (70, [.ref 63, .int p1, .int p2, .int r11, .int y14, mK], [.int (S12 64 ((8 : Int32)).toNatClampNeg), .int (S12 64 ((9 : Int32)).toNatClampNeg), .int ((0 : Int32))], S12, 0)) hf rfl rfl (fun hf => ?_)
        refine ev_sts 3 (c2 := (76, [.ref 63, .int p1, .int p2, .int r11, .int y14, .int (if ((0 : Int32)) < ((S12 64 ((9 : Int32)).toNatClampNeg) - (S12 64 ((8 : Int32)).toNatClampNeg)) then ((S12 64 ((9 : Int32)).toNatClampNeg) - (S12 64 ((8 : Int32)).toNatClampNeg)) else ((0 : Int32)))], [], S12, 0)) rfl ?_
        refine ev_let (P := fun y15 => Ev (d + 9) Mx241 (76, [.ref 63, .int p1, .int p2, .int r11, .int y14, .int y15], [], S12, 0) r) (fun y15 hf => ?_) hf
        refine ev_sts 1 (c2 := (78, [.ref 63, .int p1, .int p2, .int r11, .int y14, .int y15], [.int y15], S12, 0)) rfl ?_
        refine ev_if (c1 := (85, [.ref 63, .int p1, .int p2, .int r11, .int y14, .int y15], [], S12, 0)) (c2 := (81, [.ref 63, .int p1, .int p2, .int r11, .int y14, .int y15], [], S12, 0)) hf rfl rfl (fun _ hf => ?_) (fun _ hf => ?_)
        · refine ev_sts 1 (c2 := (87, [.ref 63, .int p1, .int p2, .int r11, .int y14, .int y15], [.int y14], S12, 0)) rfl ?_
          refine ev_if (c1 := (95, [.ref 63, .int p1, .int p2, .int r11, .int y14, .int y15], [], S12, 0)) (c2 := (90, [.ref 63, .int p1, .int p2, .int r11, .int y14, .int y15], [], S12, 0)) hf rfl rfl (fun _ hf => ?_) (fun _ hf => ?_)
          · refine ev_sts 7 (c2 := (106, [.ref 63, .int p1, .int p2, .int r11, .int y14, .int y15], [.int y14, .int ((y15 + y14) - ((1 : Int32))), .int ((99 : Int32))], S12, 0)) rfl ?_
            refine ev_gd (c1 := (107, [.ref 63, .int p1, .int p2, .int r11, .int y14, .int y15], [.int (((y15 + y14) - ((1 : Int32))) / y14), .int ((99 : Int32))], S12, 0)) hf rfl rfl (fun hf => ?_)
            exact ev_sts 1 (c2 := (110, [mK, mK, mK, mK, mK, mK], [.int (if (((y15 + y14) - ((1 : Int32))) / y14) < ((99 : Int32)) then (((y15 + y14) - ((1 : Int32))) / y14) else ((99 : Int32)))], S12, 0)) rfl (f_X10_lasts_b110_ok hf)
          · exact ev_sts 2 (c2 := (110, [mK, mK, mK, mK, mK, mK], [.int ((99 : Int32))], S12, 0)) rfl (f_X10_lasts_b110_ok hf)
        · exact ev_sts 2 (c2 := (110, [mK, mK, mK, mK, mK, mK], [.int ((0 : Int32))], S12, 0)) rfl (f_X10_lasts_b110_ok hf)
      · refine ev_sts 1 (c2 := (44, [.ref 63, .int p1, .int p2, .int r11, mK, mK], [.int ((-1 : Int32))], S10, 0)) rfl ?_
        exact ev_ret hf rfl rfl
    · exact f_X10_lasts_b30_ok hf
def f_X10_late_b75 (F : Nat) (x2 : Int32) (S : mS) : Option mR := bV0 (f_X10_bringsBack F S) (fun S7 => some (.inl (some (.int x2)), S7))
def f_X10_late_b62 (K28 : Int32 → Int32 → Int32 → mS → Option mR) (F : Nat) (x1 : Int32) (x3 : Int32) (t0 : Int32) (S : mS) : Option mR := bI0 (f_X10_oneDay F ((1 : Int32)) S) (fun r11 S10 => K28 x1 t0 (x3 + (1 : Int32)) S10)
def f_X10_late_b61 (K28 : Int32 → Int32 → Int32 → mS → Option mR) (F : Nat) (x1 : Int32) (x3 : Int32) (S : mS) : Option mR := f_X10_late_b62 K28 F x1 x3 ((-1 : Int32)) S
def f_X10_late_b28 (F : Nat) : Nat → Int32 → Int32 → Int32 → mS → Option mR
  | 0, _, _, _, _ => none
  | n + 1, x1, x2, x3, S => (if ((40 : Int32)) < x3 then f_X10_late_b75 F x2 S else (if 0 ≤ x2 then f_X10_late_b75 F x2 S else bI0 (f_X10_of x1 ((2 : Int32)) S) (fun r9 S8 => (if r9 ≤ 0 then f_X10_late_b61 (fun x1 x2 x3 S => f_X10_late_b28 F n x1 x2 x3 S) F x1 x3 S8 else bI0 (f_X10_of x1 ((3 : Int32)) S8) (fun r13 S12 => (if r13 ≤ ((3 : Int32)) then f_X10_late_b61 (fun x1 x2 x3 S => f_X10_late_b28 F n x1 x2 x3 S) F x1 x3 S12 else f_X10_late_b62 (fun x1 x2 x3 S => f_X10_late_b28 F n x1 x2 x3 S) F x1 x3 x3 S12))))))
def f_X10_late (F : Nat) (p1 : Int32) (S : mS) : Option mR := bnd (upS S 63 0 ((0 : Int32))) (fun S1 => bI0 (f_X10_noLedge p1 S1) (fun r3 S2 => bI0 (f_X10_throwsIf r3 ((1 : Int32)) S2) (fun r5 S4 => (if r5 = 0 then bV0 (f_X10_keepsAll F S4) (fun S6 => f_X10_late_b28 F F p1 ((-1 : Int32)) ((0 : Int32)) S6) else some (.inl (some (.int ((0 : Int32)))), S4)))))
theorem f_X10_late_b75_ok {d F : Nat} {x2 : Int32} {S : mS} {r : mR} (hf : f_X10_late_b75 F x2 S = some r) : Ev (d + 9) Mx253 (75, [.ref 63, mK, .int x2, mK], [], S, 0) r := by
  unfold f_X10_late_b75 at hf
  refine ev_sts 1 (c2 := (76, [.ref 63, mK, .int x2, mK], [.ref 63], S, 0)) rfl ?_
  refine ev_bV0 (d := d + 8) (M' := Mx248) (ct := (79, [.ref 63, mK, .int x2, mK], [], S, 0)) hf rfl rfl rfl rfl (fun r9 h9 => f_X10_bringsBack_ok (d := d + 8) h9) (fun S7 hf => ?_)
  show Ev (d + 9) Mx253 (79, [.ref 63, mK, .int x2, mK], [], S7, 0) r
  refine ev_sts 1 (c2 := (80, [.ref 63, mK, .int x2, mK], [.int x2], S7, 0)) rfl ?_
  exact ev_ret hf rfl rfl
theorem f_X10_late_b62_ok {d F : Nat} {K28 : Int32 → Int32 → Int32 → mS → Option mR} (hK28 : ∀ {x1 : Int32} {x2 : Int32} {x3 : Int32} {S : mS} {r : mR}, K28 x1 x2 x3 S = some r → Ev (d + 9) Mx253 (28, [.ref 63, .int x1, .int x2, .int x3], [], S, 0) r) {x1 : Int32} {x3 : Int32} {t0 : Int32} {S : mS} {r : mR} (hf : f_X10_late_b62 K28 F x1 x3 t0 S = some r) : Ev (d + 9) Mx253 (62, [.ref 63, .int x1, mK, .int x3], [.int t0], S, 0) r := by
  unfold f_X10_late_b62 at hf
  refine ev_sts 3 (c2 := (65, [.ref 63, .int x1, .int t0, .int x3], [.int ((1 : Int32)), .ref 63], S, 0)) rfl ?_
  refine ev_bI0 (d := d + 8) (M' := Mx246) (ct := (68, [.ref 63, .int x1, .int t0, .int x3], [], S, 0)) hf rfl rfl rfl rfl (fun r9 h9 => f_X10_oneDay_ok (d := d) h9) (fun r11 S10 hf => ?_)
  show Ev (d + 9) Mx253 (68, [.ref 63, .int x1, .int t0, .int x3], [.int r11], S10, 0) r
  exact ev_sts 3 (c2 := (28, [.ref 63, .int x1, .int t0, .int (x3 + (1 : Int32))], [], S10, 0)) rfl (hK28 hf)
theorem f_X10_late_b61_ok {d F : Nat} {K28 : Int32 → Int32 → Int32 → mS → Option mR} (hK28 : ∀ {x1 : Int32} {x2 : Int32} {x3 : Int32} {S : mS} {r : mR}, K28 x1 x2 x3 S = some r → Ev (d + 9) Mx253 (28, [.ref 63, .int x1, .int x2, .int x3], [], S, 0) r) {x1 : Int32} {x3 : Int32} {S : mS} {r : mR} (hf : f_X10_late_b61 K28 F x1 x3 S = some r) : Ev (d + 9) Mx253 (61, [.ref 63, .int x1, mK, .int x3], [], S, 0) r := by
  unfold f_X10_late_b61 at hf
  exact ev_sts 1 (c2 := (62, [.ref 63, .int x1, mK, .int x3], [.int ((-1 : Int32))], S, 0)) rfl (f_X10_late_b62_ok hK28 hf)
theorem f_X10_late_b28_ok {d F : Nat} : ∀ (n : Nat) {x1 : Int32} {x2 : Int32} {x3 : Int32} {S : mS} {r : mR}, f_X10_late_b28 F n x1 x2 x3 S = some r → Ev (d + 9) Mx253 (28, [.ref 63, .int x1, .int x2, .int x3], [], S, 0) r := by
  intro n
  induction n with
  | zero => intro x1 x2 x3 S r hf; cases hf
  | succ n ih =>
    intro x1 x2 x3 S r hf
    rw [f_X10_late_b28] at hf
    refine ev_sts 2 (c2 := (31, [.ref 63, .int x1, .int x2, .int x3], [.int ((40 : Int32)), .int x3], S, 0)) rfl ?_
    refine ev_if (c1 := (75, [.ref 63, mK, .int x2, mK], [], S, 0)) (c2 := (34, [.ref 63, .int x1, .int x2, .int x3], [], S, 0)) hf rfl rfl (fun _ hf => ?_) (fun _ hf => ?_)
    · exact f_X10_late_b75_ok hf
    · refine ev_sts 1 (c2 := (35, [.ref 63, .int x1, .int x2, .int x3], [.int x2], S, 0)) rfl ?_
      refine ev_if (c1 := (75, [.ref 63, mK, .int x2, mK], [], S, 0)) (c2 := (38, [.ref 63, .int x1, .int x2, .int x3], [], S, 0)) hf rfl rfl (fun _ hf => ?_) (fun _ hf => ?_)
      · exact f_X10_late_b75_ok hf
      · refine ev_sts 3 (c2 := (41, [.ref 63, .int x1, .int x2, .int x3], [.int ((2 : Int32)), .int x1, .ref 63], S, 0)) rfl ?_
        refine ev_bI0 (d := d + 8) (M' := Mx166) (ct := (44, [.ref 63, .int x1, .int x2, .int x3], [], S, 0)) hf rfl rfl rfl rfl (fun r9 h9 => f_X10_of_ok (d := d + 7) h9) (fun r9 S8 hf => ?_)
        show Ev (d + 9) Mx253 (44, [.ref 63, .int x1, .int x2, .int x3], [.int r9], S8, 0) r
        refine ev_if (c1 := (61, [.ref 63, .int x1, mK, .int x3], [], S8, 0)) (c2 := (47, [.ref 63, .int x1, .int x2, .int x3], [], S8, 0)) hf rfl rfl (fun _ hf => ?_) (fun _ hf => ?_)
        · exact f_X10_late_b61_ok (fun h9 => ih h9) hf
        · refine ev_sts 3 (c2 := (50, [.ref 63, .int x1, .int x2, .int x3], [.int ((3 : Int32)), .int x1, .ref 63], S8, 0)) rfl ?_
          refine ev_bI0 (d := d + 8) (M' := Mx166) (ct := (53, [.ref 63, .int x1, .int x2, .int x3], [], S8, 0)) hf rfl rfl rfl rfl (fun r9 h9 => f_X10_of_ok (d := d + 7) h9) (fun r13 S12 hf => ?_)
          show Ev (d + 9) Mx253 (53, [.ref 63, .int x1, .int x2, .int x3], [.int r13], S12, 0) r
          refine ev_sts 1 (c2 := (54, [.ref 63, .int x1, .int x2, .int x3], [.int ((3 : Int32)), .int r13], S12, 0)) rfl ?_
          refine ev_if (c1 := (61, [.ref 63, .int x1, mK, .int x3], [], S12, 0)) (c2 := (57, [.ref 63, .int x1, .int x2, .int x3], [], S12, 0)) hf rfl rfl (fun _ hf => ?_) (fun _ hf => ?_)
          · exact f_X10_late_b61_ok (fun h9 => ih h9) hf
          · exact ev_sts 2 (c2 := (62, [.ref 63, .int x1, mK, .int x3], [.int x3], S12, 0)) rfl (f_X10_late_b62_ok (fun h9 => ih h9) hf)
theorem f_X10_late_ok {d F : Nat} {p1 : Int32} {S : mS} {r : mR} (hf : f_X10_late F p1 S = some r) : Ev (d + 9) Mx253 (entry Mx253 [.ref 63, .int p1] S) r := by
  unfold f_X10_late at hf
  refine ev_sts 3 (c2 := (5, [.ref 63, .int p1, mK, mK], [], (upS S 63 0 ((0 : Int32))), 0)) rfl ?_
  refine ev_let (P := fun S1 => Ev (d + 9) Mx253 (5, [.ref 63, .int p1, mK, mK], [], S1, 0) r) (fun S1 hf => ?_) hf
  refine ev_sts 3 (c2 := (8, [.ref 63, .int p1, mK, mK], [.int p1, .ref 63, .ref 63], S1, 0)) rfl ?_
  refine ev_bI0 (d := d + 8) (M' := Mx169) (ct := (11, [.ref 63, .int p1, mK, mK], [.ref 63], S1, 0)) hf rfl rfl rfl rfl (fun r9 h9 => f_X10_noLedge_ok (d := d + 7) h9) (fun r3 S2 hf => ?_)
  show Ev (d + 9) Mx253 (11, [.ref 63, .int p1, mK, mK], [.int r3, .ref 63], S2, 0) r
  refine ev_sts 1 (c2 := (12, [.ref 63, .int p1, mK, mK], [.int ((1 : Int32)), .int r3, .ref 63], S2, 0)) rfl ?_
  refine ev_bI0 (d := d + 8) (M' := Mx155) (ct := (15, [.ref 63, .int p1, mK, mK], [], S2, 0)) hf rfl rfl rfl rfl (fun r9 h9 => f_X10_throwsIf_ok (d := d + 8) h9) (fun r5 S4 hf => ?_)
  show Ev (d + 9) Mx253 (15, [.ref 63, .int p1, mK, mK], [.int r5], S4, 0) r
  refine ev_if (c1 := (20, [.ref 63, .int p1, mK, mK], [], S4, 0)) (c2 := (18, [.ref 63, .int p1, mK, mK], [], S4, 0)) hf rfl rfl (fun _ hf => ?_) (fun _ hf => ?_)
  · refine ev_sts 1 (c2 := (21, [.ref 63, .int p1, mK, mK], [.ref 63], S4, 0)) rfl ?_
    refine ev_bV0 (d := d + 8) (M' := Mx247) (ct := (24, [.ref 63, .int p1, mK, mK], [], S4, 0)) hf rfl rfl rfl rfl (fun r9 h9 => f_X10_keepsAll_ok (d := d + 8) h9) (fun S6 hf => ?_)
    show Ev (d + 9) Mx253 (24, [.ref 63, .int p1, mK, mK], [], S6, 0) r
    exact ev_sts 4 (c2 := (28, [.ref 63, .int p1, .int ((-1 : Int32)), .int ((0 : Int32))], [], S6, 0)) rfl (f_X10_late_b28_ok _ hf)
  · refine ev_sts 1 (c2 := (19, [.ref 63, .int p1, mK, mK], [.int ((0 : Int32))], S4, 0)) rfl ?_
    exact ev_ret hf rfl rfl
