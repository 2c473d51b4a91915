def f_X10_readRope_b26 (F : Nat) (x1 : Int32) (t0 : Int32) (S : mS) : Option mR := (if 0 ≤ t0 then gd (inb ((7 : Int32)) 2145) (bnd (upS S 64 ((7 : Int32)).toNatClampNeg x1) (fun S5 => gd (inb ((9 : Int32)) 2145) (bnd (upS S5 64 ((9 : Int32)).toNatClampNeg t0) (fun S6 => gd (inb ((8 : Int32)) 2145) (bnd (upS S6 64 ((8 : Int32)).toNatClampNeg ((0 : Int32))) (fun S7 => some (.inl (some (.int (((1 : Int32)) &&& 1))), S7))))))) else some (.inl (some (.int (((0 : Int32)) &&& 1))), S))
def f_X10_readRope (F : Nat) (S : mS) : Option mR := bI0 (f_X10_number F ((1 : Int32)) ((40 : Int32)) S) (fun r2 S1 => (if 0 ≤ r2 then bI0 (f_X10_after F 6 ((1 : Int32)) ((999 : Int32)) S1) (fun r4 S3 => f_X10_readRope_b26 F r2 r4 S3) else f_X10_readRope_b26 F r2 ((-1 : Int32)) S1))
theorem f_X10_readRope_b26_ok {d F : Nat} {x1 : Int32} {t0 : Int32} {S : mS} {r : mR} (hf : f_X10_readRope_b26 F x1 t0 S = some r) : Ev (d + 4) Mx187 (26, [.ref 63, .int x1, mK], [.int t0], S, 0) r := by
  unfold f_X10_readRope_b26 at hf
  refine ev_sts 2 (c2 := (28, [.ref 63, .int x1, .int t0], [.int t0], S, 0)) rfl ?_
  refine ev_if (c1 := (33, [.ref 63, .int x1, .int t0], [], S, 0)) (c2 := (31, [.ref 63, .int x1, .int t0], [], S, 0)) hf rfl rfl (fun _ hf => ?_) (fun _ hf => ?_)
  · refine ev_sts 4 (c2 := (40, [.ref 63, .int x1, .int t0], [.int x1, .int ((7 : Int32)), .ref 64], S, 0)) rfl ?_
    refine ev_gd (c1 := (41, [.ref 63, .int x1, .int t0], [], (upS S 64 ((7 : Int32)).toNatClampNeg x1), 0)) hf rfl rfl (fun hf => ?_)
    refine ev_let (P := fun S5 => Ev (d + 4) Mx187 (41, [.ref 63, .int x1, .int t0], [], S5, 0) r) (fun S5 hf => ?_) hf
    refine ev_sts 4 (c2 := (48, [.ref 63, .int x1, .int t0], [.int t0, .int ((9 : Int32)), .ref 64], S5, 0)) rfl ?_
    refine ev_gd (c1 := (49, [.ref 63, .int x1, .int t0], [], (upS S5 64 ((9 : Int32)).toNatClampNeg t0), 0)) hf rfl rfl (fun hf => ?_)
    refine ev_let (P := fun S6 => Ev (d + 4) Mx187 (49, [.ref 63, .int x1, .int t0], [], S6, 0) r) (fun S6 hf => ?_) hf
    refine ev_sts 4 (c2 := (56, [.ref 63, .int x1, .int t0], [.int ((0 : Int32)), .int ((8 : Int32)), .ref 64], S6, 0)) rfl ?_
    refine ev_gd (c1 := (57, [.ref 63, .int x1, .int t0], [], (upS S6 64 ((8 : Int32)).toNatClampNeg ((0 : Int32))), 0)) hf rfl rfl (fun hf => ?_)
    refine ev_let (P := fun S7 => Ev (d + 4) Mx187 (57, [.ref 63, .int x1, .int t0], [], S7, 0) r) (fun S7 hf => ?_) hf
    refine ev_sts 1 (c2 := (58, [.ref 63, .int x1, .int t0], [.int ((1 : Int32))], S7, 0)) rfl ?_
    exact ev_ret hf rfl rfl
  · refine ev_sts 1 (c2 := (32, [.ref 63, .int x1, .int t0], [.int ((0 : Int32))], S, 0)) rfl ?_
    exact ev_ret hf rfl rfl
theorem f_X10_readRope_ok {d F : Nat} {S : mS} {r : mR} (hf : f_X10_readRope F S = some r) : Ev (d + 4) Mx187 (entry Mx187 [.ref 63] S) r := by
  unfold f_X10_readRope at hf
  refine ev_sts 3 (c2 := (4, [.ref 63, mK, mK], [.int ((40 : Int32)), .int ((1 : Int32)), .ref 63], S, 0)) rfl ?_
  refine ev_bI0 (d := d + 3) (M' := Mx182) (ct := (7, [.ref 63, mK, mK], [], S, 0)) hf rfl rfl rfl rfl (fun r9 h9 => f_X10_number_ok (d := d + 1) h9) (fun r2 S1 hf => ?_)
  show Ev (d + 4) Mx187 (7, [.ref 63, mK, mK], [.int r2], S1, 0) r
  refine ev_sts 2 (c2 := (9, [.ref 63, .int r2, mK], [.int r2], S1, 0)) rfl ?_
  refine ev_if (c1 := (16, [.ref 63, .int r2, mK], [], S1, 0)) (c2 := (12, [.ref 63, .int r2, mK], [], S1, 0)) hf rfl rfl (fun _ hf => ?_) (fun _ hf => ?_)
  · refine ev_sts 4 (c2 := (23, [.ref 63, .int r2, mK], [.int ((999 : Int32)), .int ((1 : Int32)), .ref 1006, .ref 63], S1, 0)) rfl ?_
    refine ev_bI0 (d := d + 3) (M' := Mx183) (ct := (26, [.ref 63, .int r2, mK], [], S1, 0)) hf rfl rfl rfl rfl (fun r9 h9 => f_X10_after_ok_1006 (d := d) h9) (fun r4 S3 hf => ?_)
    show Ev (d + 4) Mx187 (26, [.ref 63, .int r2, mK], [.int r4], S3, 0) r
    exact f_X10_readRope_b26_ok hf
  · exact ev_sts 2 (c2 := (26, [.ref 63, .int r2, mK], [.int ((-1 : Int32))], S1, 0)) rfl (f_X10_readRope_b26_ok hf)
def f_X10_readIsleLine_b95 (F : Nat) (t0 : Int32) (S : mS) : Option mR := some (.inl (some (.int (t0 &&& 1))), S)
def f_X10_readIsleLine_b94 (F : Nat) (S : mS) : Option mR := f_X10_readIsleLine_b95 F ((0 : Int32)) S
def f_X10_readIsleLine (F : Nat) (S : mS) : Option mR := bI0 (f_X10_isWord F 0 S) (fun r2 S1 => (if r2 = 0 then bI0 (f_X10_isWord F 5 S1) (fun r4 S3 => (if r4 = 0 then bI0 (f_X10_isWord F 7 S3) (fun r6 S5 => (if r6 = 0 then bI0 (f_X10_isWord F 8 S5) (fun r8 S7 => (if r8 = 0 then bI0 (f_X10_isWord F 9 S7) (fun r10 S9 => (if r10 = 0 then bI0 (f_X10_isWord F 10 S9) (fun r12 S11 => (if r12 = 0 then f_X10_readIsleLine_b94 F S11 else bI0 (f_X10_readNumber F ((14 : Int32)) S11) (fun r14 S13 => (if r14 = 0 then f_X10_readIsleLine_b94 F S13 else f_X10_readIsleLine_b95 F ((1 : Int32)) S13)))) else bI0 (f_X10_readNumber F ((13 : Int32)) S9) (fun r16 S15 => some (.inl (some (.int (r16 &&& 1))), S15)))) else bI0 (f_X10_readClimber F S7) (fun r18 S17 => some (.inl (some (.int (r18 &&& 1))), S17)))) else bI0 (f_X10_readHolder F S5) (fun r20 S19 => some (.inl (some (.int (r20 &&& 1))), S19)))) else bI0 (f_X10_readRope F S3) (fun r22 S21 => some (.inl (some (.int (r22 &&& 1))), S21)))) else bI0 (f_X10_readLedge F S1) (fun r24 S23 => some (.inl (some (.int (r24 &&& 1))), S23))))
theorem f_X10_readIsleLine_b95_ok {d F : Nat} {t0 : Int32} {S : mS} {r : mR} (hf : f_X10_readIsleLine_b95 F t0 S = some r) : Ev (d + 5) Mx191 (95, [mK], [.int t0], S, 0) r := by
  unfold f_X10_readIsleLine_b95 at hf
  exact ev_ret hf rfl rfl
theorem f_X10_readIsleLine_b94_ok {d F : Nat} {S : mS} {r : mR} (hf : f_X10_readIsleLine_b94 F  S = some r) : Ev (d + 5) Mx191 (94, [mK], [], S, 0) r := by
  unfold f_X10_readIsleLine_b94 at hf
  exact ev_sts 1 (c2 := (95, [mK], [.int ((0 : Int32))], S, 0)) rfl (f_X10_readIsleLine_b95_ok hf)
theorem f_X10_readIsleLine_ok {d F : Nat} {S : mS} {r : mR} (hf : f_X10_readIsleLine F S = some r) : Ev (d + 5) Mx191 (entry Mx191 [.ref 63] S) r := by
  unfold f_X10_readIsleLine at hf
  refine ev_sts 2 (c2 := (3, [.ref 63], [.ref 1000, .ref 63], S, 0)) rfl ?_
  refine ev_bI0 (d := d + 4) (M' := Mx179) (ct := (6, [.ref 63], [], S, 0)) hf rfl rfl rfl rfl (fun r9 h9 => f_X10_isWord_ok_1000 (d := d + 4) h9) (fun r2 S1 hf => ?_)
  show Ev (d + 5) Mx191 (6, [.ref 63], [.int r2], S1, 0) r
  refine ev_if (c1 := (14, [.ref 63], [], S1, 0)) (c2 := (9, [.ref 63], [], S1, 0)) hf rfl rfl (fun _ hf => ?_) (fun _ hf => ?_)
  · refine ev_sts 2 (c2 := (17, [.ref 63], [.ref 1005, .ref 63], S1, 0)) rfl ?_
    refine ev_bI0 (d := d + 4) (M' := Mx179) (ct := (20, [.ref 63], [], S1, 0)) hf rfl rfl rfl rfl (fun r9 h9 => f_X10_isWord_ok_1005 (d := d + 4) h9) (fun r4 S3 hf => ?_)
    show Ev (d + 5) Mx191 (20, [.ref 63], [.int r4], S3, 0) r
    refine ev_if (c1 := (28, [.ref 63], [], S3, 0)) (c2 := (23, [.ref 63], [], S3, 0)) hf rfl rfl (fun _ hf => ?_) (fun _ hf => ?_)
    · refine ev_sts 2 (c2 := (31, [.ref 63], [.ref 1007, .ref 63], S3, 0)) rfl ?_
      refine ev_bI0 (d := d + 4) (M' := Mx179) (ct := (34, [.ref 63], [], S3, 0)) hf rfl rfl rfl rfl (fun r9 h9 => f_X10_isWord_ok_1007 (d := d + 4) h9) (fun r6 S5 hf => ?_)
      show Ev (d + 5) Mx191 (34, [.ref 63], [.int r6], S5, 0) r
      refine ev_if (c1 := (42, [.ref 63], [], S5, 0)) (c2 := (37, [.ref 63], [], S5, 0)) hf rfl rfl (fun _ hf => ?_) (fun _ hf => ?_)
      · refine ev_sts 2 (c2 := (45, [.ref 63], [.ref 1008, .ref 63], S5, 0)) rfl ?_
        refine ev_bI0 (d := d + 4) (M' := Mx179) (ct := (48, [.ref 63], [], S5, 0)) hf rfl rfl rfl rfl (fun r9 h9 => f_X10_isWord_ok_1008 (d := d + 4) h9) (fun r8 S7 hf => ?_)
        show Ev (d + 5) Mx191 (48, [.ref 63], [.int r8], S7, 0) r
        refine ev_if (c1 := (56, [.ref 63], [], S7, 0)) (c2 := (51, [.ref 63], [], S7, 0)) hf rfl rfl (fun _ hf => ?_) (fun _ hf => ?_)
        · refine ev_sts 2 (c2 := (59, [.ref 63], [.ref 1009, .ref 63], S7, 0)) rfl ?_
          refine ev_bI0 (d := d + 4) (M' := Mx179) (ct := (62, [.ref 63], [], S7, 0)) hf rfl rfl rfl rfl (fun r9 h9 => f_X10_isWord_ok_1009 (d := d + 4) h9) (fun r10 S9 hf => ?_)
          show Ev (d + 5) Mx191 (62, [.ref 63], [.int r10], S9, 0) r
          refine ev_if (c1 := (72, [.ref 63], [], S9, 0)) (c2 := (65, [.ref 63], [], S9, 0)) hf rfl rfl (fun _ hf => ?_) (fun _ hf => ?_)
          · refine ev_sts 2 (c2 := (75, [.ref 63], [.ref 1010, .ref 63], S9, 0)) rfl ?_
            refine ev_bI0 (d := d + 4) (M' := Mx179) (ct := (78, [.ref 63], [], S9, 0)) hf rfl rfl rfl rfl (fun r9 h9 => f_X10_isWord_ok_1010 (d := d + 4) h9) (fun r12 S11 hf => ?_)
            show Ev (d + 5) Mx191 (78, [.ref 63], [.int r12], S11, 0) r
            refine ev_if (c1 := (94, [mK], [], S11, 0)) (c2 := (81, [.ref 63], [], S11, 0)) hf rfl rfl (fun _ hf => ?_) (fun _ hf => ?_)
            · exact f_X10_readIsleLine_b94_ok hf
            · refine ev_sts 2 (c2 := (84, [.ref 63], [.int ((14 : Int32)), .ref 63], S11, 0)) rfl ?_
              refine ev_bI0 (d := d + 4) (M' := Mx190) (ct := (87, [.ref 63], [], S11, 0)) hf rfl rfl rfl rfl (fun r9 h9 => f_X10_readNumber_ok (d := d + 1) h9) (fun r14 S13 hf => ?_)
              show Ev (d + 5) Mx191 (87, [.ref 63], [.int r14], S13, 0) r
              refine ev_if (c1 := (94, [mK], [], S13, 0)) (c2 := (90, [.ref 63], [], S13, 0)) hf rfl rfl (fun _ hf => ?_) (fun _ hf => ?_)
              · exact f_X10_readIsleLine_b94_ok hf
              · exact ev_sts 2 (c2 := (95, [mK], [.int ((1 : Int32))], S13, 0)) rfl (f_X10_readIsleLine_b95_ok hf)
          · refine ev_sts 2 (c2 := (68, [.ref 63], [.int ((13 : Int32)), .ref 63], S9, 0)) rfl ?_
            refine ev_bI0 (d := d + 4) (M' := Mx190) (ct := (71, [.ref 63], [], S9, 0)) hf rfl rfl rfl rfl (fun r9 h9 => f_X10_readNumber_ok (d := d + 1) h9) (fun r16 S15 hf => ?_)
            show Ev (d + 5) Mx191 (71, [.ref 63], [.int r16], S15, 0) r
            exact ev_ret hf rfl rfl
        · refine ev_sts 1 (c2 := (52, [.ref 63], [.ref 63], S7, 0)) rfl ?_
          refine ev_bI0 (d := d + 4) (M' := Mx189) (ct := (55, [.ref 63], [], S7, 0)) hf rfl rfl rfl rfl (fun r9 h9 => f_X10_readClimber_ok (d := d + 1) h9) (fun r18 S17 hf => ?_)
          show Ev (d + 5) Mx191 (55, [.ref 63], [.int r18], S17, 0) r
          exact ev_ret hf rfl rfl
      · refine ev_sts 1 (c2 := (38, [.ref 63], [.ref 63], S5, 0)) rfl ?_
        refine ev_bI0 (d := d + 4) (M' := Mx188) (ct := (41, [.ref 63], [], S5, 0)) hf rfl rfl rfl rfl (fun r9 h9 => f_X10_readHolder_ok (d := d + 1) h9) (fun r20 S19 hf => ?_)
        show Ev (d + 5) Mx191 (41, [.ref 63], [.int r20], S19, 0) r
        exact ev_ret hf rfl rfl
    · refine ev_sts 1 (c2 := (24, [.ref 63], [.ref 63], S3, 0)) rfl ?_
      refine ev_bI0 (d := d + 4) (M' := Mx187) (ct := (27, [.ref 63], [], S3, 0)) hf rfl rfl rfl rfl (fun r9 h9 => f_X10_readRope_ok (d := d) h9) (fun r22 S21 hf => ?_)
      show Ev (d + 5) Mx191 (27, [.ref 63], [.int r22], S21, 0) r
      exact ev_ret hf rfl rfl
  · refine ev_sts 1 (c2 := (10, [.ref 63], [.ref 63], S1, 0)) rfl ?_
    refine ev_bI0 (d := d + 4) (M' := Mx186) (ct := (13, [.ref 63], [], S1, 0)) hf rfl rfl rfl rfl (fun r9 h9 => f_X10_readLedge_ok (d := d) h9) (fun r24 S23 hf => ?_)
    show Ev (d + 5) Mx191 (13, [.ref 63], [.int r24], S23, 0) r
    exact ev_ret hf rfl rfl
def f_X10_passes (F : Nat) (w1 : Nat) (S : mS) : Option mR := bV0 (f_X10_letters F S) (fun S1 => bI0 (f_X10_isWord F w1 S1) (fun r3 S2 => (if r3 = 0 then bnd (upS S2 63 10 (S2 63 12)) (fun S4 => some (.inl (some (.int (((0 : Int32)) &&& 1))), S4)) else some (.inl (some (.int (((1 : Int32)) &&& 1))), S2))))
theorem f_X10_passes_ok_1016 {d F : Nat} {S : mS} {r : mR} (hf : f_X10_passes F 16 S = some r) : Ev (d + 3) Mx180 (entry Mx180 [.ref 63, .ref 1016] S) r := by
  unfold f_X10_passes at hf
  refine ev_sts 1 (c2 := (1, [.ref 63, .ref 1016], [.ref 63], S, 0)) rfl ?_
  refine ev_bV0 (d := d + 2) (M' := Mx178) (ct := (4, [.ref 63, .ref 1016], [], S, 0)) hf rfl rfl rfl rfl (fun r9 h9 => f_X10_letters_ok (d := d) h9) (fun S1 hf => ?_)
  show Ev (d + 3) Mx180 (4, [.ref 63, .ref 1016], [], S1, 0) r
  refine ev_sts 2 (c2 := (6, [.ref 63, .ref 1016], [.ref 1016, .ref 63], S1, 0)) rfl ?_
  refine ev_bI0 (d := d + 2) (M' := Mx179) (ct := (9, [.ref 63, .ref 1016], [], S1, 0)) hf rfl rfl rfl rfl (fun r9 h9 => f_X10_isWord_ok_1016 (d := d + 2) h9) (fun r3 S2 hf => ?_)
  show Ev (d + 3) Mx180 (9, [.ref 63, .ref 1016], [.int r3], S2, 0) r
  refine ev_if (c1 := (14, [.ref 63, .ref 1016], [], S2, 0)) (c2 := (12, [.ref 63, .ref 1016], [], S2, 0)) hf rfl rfl (fun _ hf => ?_) (fun _ hf => ?_)
  · refine ev_sts 4 (c2 := (22, [.ref 63, .ref 1016], [], (upS S2 63 10 (S2 63 12)), 0)) rfl ?_
    refine ev_let (P := fun S4 => Ev (d + 3) Mx180 (22, [.ref 63, .ref 1016], [], S4, 0) r) (fun S4 hf => ?_) hf
    refine ev_sts 1 (c2 := (23, [.ref 63, .ref 1016], [.int ((0 : Int32))], S4, 0)) rfl ?_
    exact ev_ret hf rfl rfl
  · refine ev_sts 1 (c2 := (13, [.ref 63, .ref 1016], [.int ((1 : Int32))], S2, 0)) rfl ?_
    exact ev_ret hf rfl rfl
theorem f_X10_passes_ok_1015 {d F : Nat} {S : mS} {r : mR} (hf : f_X10_passes F 15 S = some r) : Ev (d + 3) Mx180 (entry Mx180 [.ref 63, .ref 1015] S) r := by
  unfold f_X10_passes at hf
  refine ev_sts 1 (c2 := (1, [.ref 63, .ref 1015], [.ref 63], S, 0)) rfl ?_
  refine ev_bV0 (d := d + 2) (M' := Mx178) (ct := (4, [.ref 63, .ref 1015], [], S, 0)) hf rfl rfl rfl rfl (fun r9 h9 => f_X10_letters_ok (d := d) h9) (fun S1 hf => ?_)
  show Ev (d + 3) Mx180 (4, [.ref 63, .ref 1015], [], S1, 0) r
  refine ev_sts 2 (c2 := (6, [.ref 63, .ref 1015], [.ref 1015, .ref 63], S1, 0)) rfl ?_
  refine ev_bI0 (d := d + 2) (M' := Mx179) (ct := (9, [.ref 63, .ref 1015], [], S1, 0)) hf rfl rfl rfl rfl (fun r9 h9 => f_X10_isWord_ok_1015 (d := d + 2) h9) (fun r3 S2 hf => ?_)
  show Ev (d + 3) Mx180 (9, [.ref 63, .ref 1015], [.int r3], S2, 0) r
  refine ev_if (c1 := (14, [.ref 63, .ref 1015], [], S2, 0)) (c2 := (12, [.ref 63, .ref 1015], [], S2, 0)) hf rfl rfl (fun _ hf => ?_) (fun _ hf => ?_)
  · refine ev_sts 4 (c2 := (22, [.ref 63, .ref 1015], [], (upS S2 63 10 (S2 63 12)), 0)) rfl ?_
    refine ev_let (P := fun S4 => Ev (d + 3) Mx180 (22, [.ref 63, .ref 1015], [], S4, 0) r) (fun S4 hf => ?_) hf
    refine ev_sts 1 (c2 := (23, [.ref 63, .ref 1015], [.int ((0 : Int32))], S4, 0)) rfl ?_
    exact ev_ret hf rfl rfl
  · refine ev_sts 1 (c2 := (13, [.ref 63, .ref 1015], [.int ((1 : Int32))], S2, 0)) rfl ?_
    exact ev_ret hf rfl rfl
theorem f_X10_passes_ok_1021 {d F : Nat} {S : mS} {r : mR} (hf : f_X10_passes F 21 S = some r) : Ev (d + 3) Mx180 (entry Mx180 [.ref 63, .ref 1021] S) r := by
  unfold f_X10_passes at hf
  refine ev_sts 1 (c2 := (1, [.ref 63, .ref 1021], [.ref 63], S, 0)) rfl ?_
  refine ev_bV0 (d := d + 2) (M' := Mx178) (ct := (4, [.ref 63, .ref 1021], [], S, 0)) hf rfl rfl rfl rfl (fun r9 h9 => f_X10_letters_ok (d := d) h9) (fun S1 hf => ?_)
  show Ev (d + 3) Mx180 (4, [.ref 63, .ref 1021], [], S1, 0) r
  refine ev_sts 2 (c2 := (6, [.ref 63, .ref 1021], [.ref 1021, .ref 63], S1, 0)) rfl ?_
  refine ev_bI0 (d := d + 2) (M' := Mx179) (ct := (9, [.ref 63, .ref 1021], [], S1, 0)) hf rfl rfl rfl rfl (fun r9 h9 => f_X10_isWord_ok_1021 (d := d + 2) h9) (fun r3 S2 hf => ?_)
  show Ev (d + 3) Mx180 (9, [.ref 63, .ref 1021], [.int r3], S2, 0) r
  refine ev_if (c1 := (14, [.ref 63, .ref 1021], [], S2, 0)) (c2 := (12, [.ref 63, .ref 1021], [], S2, 0)) hf rfl rfl (fun _ hf => ?_) (fun _ hf => ?_)
  · refine ev_sts 4 (c2 := (22, [.ref 63, .ref 1021], [], (upS S2 63 10 (S2 63 12)), 0)) rfl ?_
    refine ev_let (P := fun S4 => Ev (d + 3) Mx180 (22, [.ref 63, .ref 1021], [], S4, 0) r) (fun S4 hf => ?_) hf
    refine ev_sts 1 (c2 := (23, [.ref 63, .ref 1021], [.int ((0 : Int32))], S4, 0)) rfl ?_
    exact ev_ret hf rfl rfl
  · refine ev_sts 1 (c2 := (13, [.ref 63, .ref 1021], [.int ((1 : Int32))], S2, 0)) rfl ?_
    exact ev_ret hf rfl rfl
theorem f_X10_passes_ok_1022 {d F : Nat} {S : mS} {r : mR} (hf : f_X10_passes F 22 S = some r) : Ev (d + 3) Mx180 (entry Mx180 [.ref 63, .ref 1022] S) r := by
  unfold f_X10_passes at hf
  refine ev_sts 1 (c2 := (1, [.ref 63, .ref 1022], [.ref 63], S, 0)) rfl ?_
  refine ev_bV0 (d := d + 2) (M' := Mx178) (ct := (4, [.ref 63, .ref 1022], [], S, 0)) hf rfl rfl rfl rfl (fun r9 h9 => f_X10_letters_ok (d := d) h9) (fun S1 hf => ?_)
  show Ev (d + 3) Mx180 (4, [.ref 63, .ref 1022], [], S1, 0) r
  refine ev_sts 2 (c2 := (6, [.ref 63, .ref 1022], [.ref 1022, .ref 63], S1, 0)) rfl ?_
  refine ev_bI0 (d := d + 2) (M' := Mx179) (ct := (9, [.ref 63, .ref 1022], [], S1, 0)) hf rfl rfl rfl rfl (fun r9 h9 => f_X10_isWord_ok_1022 (d := d + 2) h9) (fun r3 S2 hf => ?_)
  show Ev (d + 3) Mx180 (9, [.ref 63, .ref 1022], [.int r3], S2, 0) r
  refine ev_if (c1 := (14, [.ref 63, .ref 1022], [], S2, 0)) (c2 := (12, [.ref 63, .ref 1022], [], S2, 0)) hf rfl rfl (fun _ hf => ?_) (fun _ hf => ?_)
  · refine ev_sts 4 (c2 := (22, [.ref 63, .ref 1022], [], (upS S2 63 10 (S2 63 12)), 0)) rfl ?_
    refine ev_let (P := fun S4 => Ev (d + 3) Mx180 (22, [.ref 63, .ref 1022], [], S4, 0) r) (fun S4 hf => ?_) hf
    refine ev_sts 1 (c2 := (23, [.ref 63, .ref 1022], [.int ((0 : Int32))], S4, 0)) rfl ?_
    exact ev_ret hf rfl rfl
  · refine ev_sts 1 (c2 := (13, [.ref 63, .ref 1022], [.int ((1 : Int32))], S2, 0)) rfl ?_
    exact ev_ret hf rfl rfl
theorem f_X10_passes_ok_1014 {d F : Nat} {S : mS} {r : mR} (hf : f_X10_passes F 14 S = some r) : Ev (d + 3) Mx180 (entry Mx180 [.ref 63, .ref 1014] S) r := by
  unfold f_X10_passes at hf
  refine ev_sts 1 (c2 := (1, [.ref 63, .ref 1014], [.ref 63], S, 0)) rfl ?_
  refine ev_bV0 (d := d + 2) (M' := Mx178) (ct := (4, [.ref 63, .ref 1014], [], S, 0)) hf rfl rfl rfl rfl (fun r9 h9 => f_X10_letters_ok (d := d) h9) (fun S1 hf => ?_)
  show Ev (d + 3) Mx180 (4, [.ref 63, .ref 1014], [], S1, 0) r
  refine ev_sts 2 (c2 := (6, [.ref 63, .ref 1014], [.ref 1014, .ref 63], S1, 0)) rfl ?_
  refine ev_bI0 (d := d + 2) (M' := Mx179) (ct := (9, [.ref 63, .ref 1014], [], S1, 0)) hf rfl rfl rfl rfl (fun r9 h9 => f_X10_isWord_ok_1014 (d := d + 2) h9) (fun r3 S2 hf => ?_)
  show Ev (d + 3) Mx180 (9, [.ref 63, .ref 1014], [.int r3], S2, 0) r
  refine ev_if (c1 := (14, [.ref 63, .ref 1014], [], S2, 0)) (c2 := (12, [.ref 63, .ref 1014], [], S2, 0)) hf rfl rfl (fun _ hf => ?_) (fun _ hf => ?_)
  · refine ev_sts 4 (c2 := (22, [.ref 63, .ref 1014], [], (upS S2 63 10 (S2 63 12)), 0)) rfl ?_
    refine ev_let (P := fun S4 => Ev (d + 3) Mx180 (22, [.ref 63, .ref 1014], [], S4, 0) r) (fun S4 hf => ?_) hf
    refine ev_sts 1 (c2 := (23, [.ref 63, .ref 1014], [.int ((0 : Int32))], S4, 0)) rfl ?_
    exact ev_ret hf rfl rfl
  · refine ev_sts 1 (c2 := (13, [.ref 63, .ref 1014], [.int ((1 : Int32))], S2, 0)) rfl ?_
    exact ev_ret hf rfl rfl
def f_X10_readPart_b157 (F : Nat) (t0 : Int32) (S : mS) : Option mR := some (.inl (some (.int (t0 &&& 1))), S)
def f_X10_readPart_b148 (F : Nat) (x1 : Int32) (S : mS) : Option mR := (if x1 < 0 then f_X10_readPart_b157 F ((0 : Int32)) S else f_X10_readPart_b157 F ((1 : Int32)) S)
def f_X10_readPart_b141 (F : Nat) (t0 : Int32) (S : mS) : Option mR := bV0 (f_X10_emits t0 ((0 : Int32)) S) (fun S18 => f_X10_readPart_b148 F t0 S18)
def f_X10_readPart (F : Nat) (S : mS) : Option mR := bV0 (f_X10_letters F S) (fun S1 => (if ¬ (S1 63 10) = (S1 63 12) then bI0 (f_X10_isWord F 18 S1) (fun r3 S2 => (if r3 = 0 then bI0 (f_X10_isWord F 17 S2) (fun r5 S4 => (if r5 = 0 then bI0 (f_X10_isWord F 1 S4) (fun r7 S6 => (if r7 = 0 then bI0 (f_X10_isWord F 19 S6) (fun r9 S8 => (if r9 = 0 then bI0 (f_X10_isWord F 2 S8) (fun r11 S10 => (if r11 = 0 then bI0 (f_X10_isWord F 3 S10) (fun r13 S12 => (if r13 = 0 then bI0 (f_X10_isWord F 4 S12) (fun r15 S14 => (if r15 = 0 then bI0 (f_X10_isWord F 20 S14) (fun r17 S16 => (if r17 = 0 then f_X10_readPart_b141 F ((-1 : Int32)) S16 else f_X10_readPart_b141 F ((7 : Int32)) S16)) else f_X10_readPart_b141 F ((6 : Int32)) S14)) else f_X10_readPart_b141 F ((5 : Int32)) S12)) else f_X10_readPart_b141 F ((4 : Int32)) S10)) else f_X10_readPart_b141 F ((3 : Int32)) S8)) else f_X10_readPart_b141 F ((2 : Int32)) S6)) else f_X10_readPart_b141 F ((1 : Int32)) S4)) else f_X10_readPart_b141 F ((0 : Int32)) S2)) else bI0 (f_X10_number F ((0 : Int32)) ((999 : Int32)) S1) (fun r20 S19 => bV0 (f_X10_emits ((9 : Int32)) r20 S19) (fun S21 => f_X10_readPart_b148 F r20 S21))))
theorem f_X10_readPart_b157_ok {d F : Nat} {t0 : Int32} {S : mS} {r : mR} (hf : f_X10_readPart_b157 F t0 S = some r) : Ev (d + 3) Mx193 (157, [mK, mK], [.int t0], S, 0) r := by
  unfold f_X10_readPart_b157 at hf
  exact ev_ret hf rfl rfl
theorem f_X10_readPart_b148_ok {d F : Nat} {x1 : Int32} {S : mS} {r : mR} (hf : f_X10_readPart_b148 F x1 S = some r) : Ev (d + 3) Mx193 (148, [mK, .int x1], [], S, 0) r := by
  unfold f_X10_readPart_b148 at hf
  refine ev_sts 1 (c2 := (149, [mK, .int x1], [.int x1], S, 0)) rfl ?_
  refine ev_if (c1 := (156, [mK, .int x1], [], S, 0)) (c2 := (152, [mK, .int x1], [], S, 0)) hf rfl rfl (fun _ hf => ?_) (fun _ hf => ?_)
  · exact ev_sts 1 (c2 := (157, [mK, mK], [.int ((0 : Int32))], S, 0)) rfl (f_X10_readPart_b157_ok hf)
  · exact ev_sts 2 (c2 := (157, [mK, mK], [.int ((1 : Int32))], S, 0)) rfl (f_X10_readPart_b157_ok hf)
theorem f_X10_readPart_b141_ok {d F : Nat} {t0 : Int32} {S : mS} {r : mR} (hf : f_X10_readPart_b141 F t0 S = some r) : Ev (d + 3) Mx193 (141, [.ref 63, mK], [.int t0], S, 0) r := by
  unfold f_X10_readPart_b141 at hf
  refine ev_sts 4 (c2 := (145, [.ref 63, .int t0], [.int ((0 : Int32)), .int t0, .ref 63], S, 0)) rfl ?_
  refine ev_bV0 (d := d + 2) (M' := Mx192) (ct := (148, [mK, .int t0], [], S, 0)) hf rfl rfl rfl rfl (fun r9 h9 => f_X10_emits_ok (d := d + 2) h9) (fun S18 hf => ?_)
  show Ev (d + 3) Mx193 (148, [mK, .int t0], [], S18, 0) r
  exact f_X10_readPart_b148_ok hf
theorem f_X10_readPart_ok {d F : Nat} {S : mS} {r : mR} (hf : f_X10_readPart F S = some r) : Ev (d + 3) Mx193 (entry Mx193 [.ref 63] S) r := by
  unfold f_X10_readPart at hf
  refine ev_sts 1 (c2 := (1, [.ref 63, mK], [.ref 63], S, 0)) rfl ?_
  refine ev_bV0 (d := d + 2) (M' := Mx178) (ct := (4, [.ref 63, mK], [], S, 0)) hf rfl rfl rfl rfl (fun r9 h9 => f_X10_letters_ok (d := d) h9) (fun S1 hf => ?_)
  show Ev (d + 3) Mx193 (4, [.ref 63, mK], [], S1, 0) r
  refine ev_sts 4 (c2 := (12, [.ref 63, mK], [.int (S1 63 12), .int (S1 63 10)], S1, 0)) rfl ?_
  refine ev_if (c1 := (34, [.ref 63, mK], [], S1, 0)) (c2 := (15, [.ref 63, mK], [], S1, 0)) hf rfl rfl (fun _ hf => ?_) (fun _ hf => ?_)
  · refine ev_sts 2 (c2 := (37, [.ref 63, mK], [.ref 1018, .ref 63], S1, 0)) rfl ?_
    refine ev_bI0 (d := d + 2) (M' := Mx179) (ct := (40, [.ref 63, mK], [], S1, 0)) hf rfl rfl rfl rfl (fun r9 h9 => f_X10_isWord_ok_1018 (d := d + 2) h9) (fun r3 S2 hf => ?_)
    show Ev (d + 3) Mx193 (40, [.ref 63, mK], [.int r3], S2, 0) r
    refine ev_if (c1 := (47, [.ref 63, mK], [], S2, 0)) (c2 := (43, [.ref 63, mK], [], S2, 0)) hf rfl rfl (fun _ hf => ?_) (fun _ hf => ?_)
    · refine ev_sts 2 (c2 := (50, [.ref 63, mK], [.ref 1017, .ref 63], S2, 0)) rfl ?_
      refine ev_bI0 (d := d + 2) (M' := Mx179) (ct := (53, [.ref 63, mK], [], S2, 0)) hf rfl rfl rfl rfl (fun r9 h9 => f_X10_isWord_ok_1017 (d := d + 2) h9) (fun r5 S4 hf => ?_)
      show Ev (d + 3) Mx193 (53, [.ref 63, mK], [.int r5], S4, 0) r
      refine ev_if (c1 := (60, [.ref 63, mK], [], S4, 0)) (c2 := (56, [.ref 63, mK], [], S4, 0)) hf rfl rfl (fun _ hf => ?_) (fun _ hf => ?_)
      · refine ev_sts 2 (c2 := (63, [.ref 63, mK], [.ref 1001, .ref 63], S4, 0)) rfl ?_
        refine ev_bI0 (d := d + 2) (M' := Mx179) (ct := (66, [.ref 63, mK], [], S4, 0)) hf rfl rfl rfl rfl (fun r9 h9 => f_X10_isWord_ok_1001 (d := d + 2) h9) (fun r7 S6 hf => ?_)
        show Ev (d + 3) Mx193 (66, [.ref 63, mK], [.int r7], S6, 0) r
        refine ev_if (c1 := (73, [.ref 63, mK], [], S6, 0)) (c2 := (69, [.ref 63, mK], [], S6, 0)) hf rfl rfl (fun _ hf => ?_) (fun _ hf => ?_)
        · refine ev_sts 2 (c2 := (76, [.ref 63, mK], [.ref 1019, .ref 63], S6, 0)) rfl ?_
          refine ev_bI0 (d := d + 2) (M' := Mx179) (ct := (79, [.ref 63, mK], [], S6, 0)) hf rfl rfl rfl rfl (fun r9 h9 => f_X10_isWord_ok_1019 (d := d + 2) h9) (fun r9 S8 hf => ?_)
          show Ev (d + 3) Mx193 (79, [.ref 63, mK], [.int r9], S8, 0) r
          refine ev_if (c1 := (86, [.ref 63, mK], [], S8, 0)) (c2 := (82, [.ref 63, mK], [], S8, 0)) hf rfl rfl (fun _ hf => ?_) (fun _ hf => ?_)
          · refine ev_sts 2 (c2 := (89, [.ref 63, mK], [.ref 1002, .ref 63], S8, 0)) rfl ?_
            refine ev_bI0 (d := d + 2) (M' := Mx179) (ct := (92, [.ref 63, mK], [], S8, 0)) hf rfl rfl rfl rfl (fun r9 h9 => f_X10_isWord_ok_1002 (d := d + 2) h9) (fun r11 S10 hf => ?_)
            show Ev (d + 3) Mx193 (92, [.ref 63, mK], [.int r11], S10, 0) r
            refine ev_if (c1 := (99, [.ref 63, mK], [], S10, 0)) (c2 := (95, [.ref 63, mK], [], S10, 0)) hf rfl rfl (fun _ hf => ?_) (fun _ hf => ?_)
            · refine ev_sts 2 (c2 := (102, [.ref 63, mK], [.ref 1003, .ref 63], S10, 0)) rfl ?_
              refine ev_bI0 (d := d + 2) (M' := Mx179) (ct := (105, [.ref 63, mK], [], S10, 0)) hf rfl rfl rfl rfl (fun r9 h9 => f_X10_isWord_ok_1003 (d := d + 2) h9) (fun r13 S12 hf => ?_)
              show Ev (d + 3) Mx193 (105, [.ref 63, mK], [.int r13], S12, 0) r
              refine ev_if (c1 := (112, [.ref 63, mK], [], S12, 0)) (c2 := (108, [.ref 63, mK], [], S12, 0)) hf rfl rfl (fun _ hf => ?_) (fun _ hf => ?_)
              · refine ev_sts 2 (c2 := (115, [.ref 63, mK], [.ref 1004, .ref 63], S12, 0)) rfl ?_
                refine ev_bI0 (d := d + 2) (M' := Mx179) (ct := (118, [.ref 63, mK], [], S12, 0)) hf rfl rfl rfl rfl (fun r9 h9 => f_X10_isWord_ok_1004 (d := d + 2) h9) (fun r15 S14 hf => ?_)
                show Ev (d + 3) Mx193 (118, [.ref 63, mK], [.int r15], S14, 0) r
                refine ev_if (c1 := (126, [.ref 63, mK], [], S14, 0)) (c2 := (121, [.ref 63, mK], [], S14, 0)) hf rfl rfl (fun _ hf => ?_) (fun _ hf => ?_)
                · refine ev_sts 2 (c2 := (129, [.ref 63, mK], [.ref 1020, .ref 63], S14, 0)) rfl ?_
                  refine ev_bI0 (d := d + 2) (M' := Mx179) (ct := (132, [.ref 63, mK], [], S14, 0)) hf rfl rfl rfl rfl (fun r9 h9 => f_X10_isWord_ok_1020 (d := d + 2) h9) (fun r17 S16 hf => ?_)
                  show Ev (d + 3) Mx193 (132, [.ref 63, mK], [.int r17], S16, 0) r
                  refine ev_if (c1 := (140, [.ref 63, mK], [], S16, 0)) (c2 := (135, [.ref 63, mK], [], S16, 0)) hf rfl rfl (fun _ hf => ?_) (fun _ hf => ?_)
                  · exact ev_sts 1 (c2 := (141, [.ref 63, mK], [.int ((-1 : Int32))], S16, 0)) rfl (f_X10_readPart_b141_ok hf)
                  · exact ev_sts 2 (c2 := (141, [.ref 63, mK], [.int ((7 : Int32))], S16, 0)) rfl (f_X10_readPart_b141_ok hf)
                · exact ev_sts 2 (c2 := (141, [.ref 63, mK], [.int ((6 : Int32))], S14, 0)) rfl (f_X10_readPart_b141_ok hf)
              · exact ev_sts 2 (c2 := (141, [.ref 63, mK], [.int ((5 : Int32))], S12, 0)) rfl (f_X10_readPart_b141_ok hf)
            · exact ev_sts 2 (c2 := (141, [.ref 63, mK], [.int ((4 : Int32))], S10, 0)) rfl (f_X10_readPart_b141_ok hf)
          · exact ev_sts 2 (c2 := (141, [.ref 63, mK], [.int ((3 : Int32))], S8, 0)) rfl (f_X10_readPart_b141_ok hf)
        · exact ev_sts 2 (c2 := (141, [.ref 63, mK], [.int ((2 : Int32))], S6, 0)) rfl (f_X10_readPart_b141_ok hf)
      · exact ev_sts 2 (c2 := (141, [.ref 63, mK], [.int ((1 : Int32))], S4, 0)) rfl (f_X10_readPart_b141_ok hf)
    · exact ev_sts 2 (c2 := (141, [.ref 63, mK], [.int ((0 : Int32))], S2, 0)) rfl (f_X10_readPart_b141_ok hf)
  · refine ev_sts 3 (c2 := (20, [.ref 63, mK], [.int ((999 : Int32)), .int ((0 : Int32)), .ref 63], S1, 0)) rfl ?_
    refine ev_bI0 (d := d + 2) (M' := Mx182) (ct := (23, [.ref 63, mK], [], S1, 0)) hf rfl rfl rfl rfl (fun r9 h9 => f_X10_number_ok (d := d) h9) (fun r20 S19 hf => ?_)
    show Ev (d + 3) Mx193 (23, [.ref 63, mK], [.int r20], S19, 0) r
    refine ev_sts 4 (c2 := (28, [.ref 63, .int r20], [.int r20, .int ((9 : Int32)), .ref 63], S19, 0)) rfl ?_
    refine ev_bV0 (d := d + 2) (M' := Mx192) (ct := (31, [.ref 63, .int r20], [], S19, 0)) hf rfl rfl rfl rfl (fun r9 h9 => f_X10_emits_ok (d := d + 2) h9) (fun S21 hf => ?_)
    show Ev (d + 3) Mx193 (31, [.ref 63, .int r20], [], S21, 0) r
    exact ev_sts 1 (c2 := (148, [mK, .int r20], [], S21, 0)) rfl (f_X10_readPart_b148_ok hf)
def f_X10_sign (F : Nat) (p1 : Int32) (S : mS) : Option mR := bV0 (f_X10_blanks F S) (fun S1 => bI0 (f_X10_isAt p1 p1 S1) (fun r3 S2 => (if ¬ r3 = 0 then bnd (upS S2 63 10 ((S2 63 10) + ((1 : Int32)))) (fun S4 => some (.inl (some (.int (((1 : Int32)) &&& 1))), S4)) else some (.inl (some (.int (((0 : Int32)) &&& 1))), S2))))
theorem f_X10_sign_ok {d F : Nat} {p1 : Int32} {S : mS} {r : mR} (hf : f_X10_sign F p1 S = some r) : Ev (d + 2) Mx181 (entry Mx181 [.ref 63, .int p1] S) r := by
  unfold f_X10_sign at hf
  refine ev_sts 1 (c2 := (1, [.ref 63, .int p1], [.ref 63], S, 0)) rfl ?_
  refine ev_bV0 (d := d + 1) (M' := Mx177) (ct := (4, [.ref 63, .int p1], [], S, 0)) hf rfl rfl rfl rfl (fun r9 h9 => f_X10_blanks_ok (d := d) h9) (fun S1 hf => ?_)
  show Ev (d + 2) Mx181 (4, [.ref 63, .int p1], [], S1, 0) r
  refine ev_sts 3 (c2 := (7, [.ref 63, .int p1], [.int p1, .int p1, .ref 63], S1, 0)) rfl ?_
  refine ev_bI0 (d := d + 1) (M' := Mx176) (ct := (10, [.ref 63, .int p1], [], S1, 0)) hf rfl rfl rfl rfl (fun r9 h9 => f_X10_isAt_ok (d := d + 1) h9) (fun r3 S2 hf => ?_)
  show Ev (d + 2) Mx181 (10, [.ref 63, .int p1], [.int r3], S2, 0) r
  refine ev_if (c1 := (15, [.ref 63, .int p1], [], S2, 0)) (c2 := (13, [.ref 63, .int p1], [], S2, 0)) hf rfl rfl (fun _ hf => ?_) (fun _ hf => ?_)
  · refine ev_sts 6 (c2 := (25, [.ref 63, .int p1], [], (upS S2 63 10 ((S2 63 10) + ((1 : Int32)))), 0)) rfl ?_
    refine ev_let (P := fun S4 => Ev (d + 2) Mx181 (25, [.ref 63, .int p1], [], S4, 0) r) (fun S4 hf => ?_) hf
    refine ev_sts 1 (c2 := (26, [.ref 63, .int p1], [.int ((1 : Int32))], S4, 0)) rfl ?_
    exact ev_ret hf rfl rfl
  · refine ev_sts 1 (c2 := (14, [.ref 63, .int p1], [.int ((0 : Int32))], S2, 0)) rfl ?_
    exact ev_ret hf rfl rfl
def f_X10_readSum_b9 (F : Nat) : Nat → mS → Option mR
  | 0, _ => none
  | n + 1, S => bI0 (f_X10_sign F ((43 : Int32)) S) (fun r4 S3 => (if r4 = 0 then some (.inl (some (.int (((1 : Int32)) &&& 1))), S3) else bI0 (f_X10_readPart F S3) (fun r6 S5 => (if ¬ r6 = 0 then bV0 (f_X10_emits ((10 : Int32)) ((0 : Int32)) S5) (fun S7 => f_X10_readSum_b9 F n S7) else some (.inl (some (.int (((0 : Int32)) &&& 1))), S5)))))
def f_X10_readSum (F : Nat) (S : mS) : Option mR := bI0 (f_X10_readPart F S) (fun r2 S1 => (if ¬ r2 = 0 then f_X10_readSum_b9 F F S1 else some (.inl (some (.int (((0 : Int32)) &&& 1))), S1)))
theorem f_X10_readSum_b9_ok {d F : Nat} : ∀ (n : Nat) {S : mS} {r : mR}, f_X10_readSum_b9 F n  S = some r → Ev (d + 4) Mx194 (9, [.ref 63], [], S, 0) r := by
  intro n
  induction n with
  | zero => intro  S r hf; cases hf
  | succ n ih =>
    intro  S r hf
    rw [f_X10_readSum_b9] at hf
    refine ev_sts 2 (c2 := (12, [.ref 63], [.int ((43 : Int32)), .ref 63], S, 0)) rfl ?_
    refine ev_bI0 (d := d + 3) (M' := Mx181) (ct := (15, [.ref 63], [], S, 0)) hf rfl rfl rfl rfl (fun r9 h9 => f_X10_sign_ok (d := d + 1) h9) (fun r4 S3 hf => ?_)
    show Ev (d + 4) Mx194 (15, [.ref 63], [.int r4], S3, 0) r
    refine ev_if (c1 := (37, [.ref 63], [], S3, 0)) (c2 := (18, [.ref 63], [], S3, 0)) hf rfl rfl (fun _ hf => ?_) (fun _ hf => ?_)
    · refine ev_sts 1 (c2 := (38, [.ref 63], [.int ((1 : Int32))], S3, 0)) rfl ?_
      exact ev_ret hf rfl rfl
    · refine ev_sts 1 (c2 := (19, [.ref 63], [.ref 63], S3, 0)) rfl ?_
      refine ev_bI0 (d := d + 3) (M' := Mx193) (ct := (22, [.ref 63], [], S3, 0)) hf rfl rfl rfl rfl (fun r9 h9 => f_X10_readPart_ok (d := d) h9) (fun r6 S5 hf => ?_)
      show Ev (d + 4) Mx194 (22, [.ref 63], [.int r6], S5, 0) r
      refine ev_if (c1 := (27, [.ref 63], [], S5, 0)) (c2 := (25, [.ref 63], [], S5, 0)) hf rfl rfl (fun _ hf => ?_) (fun _ hf => ?_)
      · refine ev_sts 3 (c2 := (31, [.ref 63], [.int ((0 : Int32)), .int ((10 : Int32)), .ref 63], S5, 0)) rfl ?_
        refine ev_bV0 (d := d + 3) (M' := Mx192) (ct := (34, [.ref 63], [], S5, 0)) hf rfl rfl rfl rfl (fun r9 h9 => f_X10_emits_ok (d := d + 3) h9) (fun S7 hf => ?_)
        show Ev (d + 4) Mx194 (34, [.ref 63], [], S7, 0) r
        exact ev_sts 1 (c2 := (9, [.ref 63], [], S7, 0)) rfl (ih hf)
      · refine ev_sts 1 (c2 := (26, [.ref 63], [.int ((0 : Int32))], S5, 0)) rfl ?_
        exact ev_ret hf rfl rfl
theorem f_X10_readSum_ok {d F : Nat} {S : mS} {r : mR} (hf : f_X10_readSum F S = some r) : Ev (d + 4) Mx194 (entry Mx194 [.ref 63] S) r := by
  unfold f_X10_readSum at hf
  refine ev_sts 1 (c2 := (1, [.ref 63], [.ref 63], S, 0)) rfl ?_
  refine ev_bI0 (d := d + 3) (M' := Mx193) (ct := (4, [.ref 63], [], S, 0)) hf rfl rfl rfl rfl (fun r9 h9 => f_X10_readPart_ok (d := d) h9) (fun r2 S1 hf => ?_)
  show Ev (d + 4) Mx194 (4, [.ref 63], [.int r2], S1, 0) r
  refine ev_if (c1 := (9, [.ref 63], [], S1, 0)) (c2 := (7, [.ref 63], [], S1, 0)) hf rfl rfl (fun _ hf => ?_) (fun _ hf => ?_)
  · exact f_X10_readSum_b9_ok _ hf
  · refine ev_sts 1 (c2 := (8, [.ref 63], [.int ((0 : Int32))], S1, 0)) rfl ?_
    exact ev_ret hf rfl rfl
def f_X10_uses (S : mS) : Option mR := bnd (upS S 63 0 ((0 : Int32))) (fun S1 => bnd (upS S1 63 11 (S1 63 9)) (fun S2 => bnd (upS S2 63 9 ((0 : Int32))) (fun S3 => bnd (upS S3 63 10 ((0 : Int32))) (fun S4 => some (.inl none, S4)))))
theorem f_X10_uses_ok {d : Nat} {S : mS} {r : mR} (hf : f_X10_uses S = some r) : Ev (d) Mx185 (entry Mx185 [.ref 63] S) r := by
  unfold f_X10_uses at hf
  refine ev_sts 3 (c2 := (5, [.ref 63], [], (upS S 63 0 ((0 : Int32))), 0)) rfl ?_
  refine ev_let (P := fun S1 => Ev (d) Mx185 (5, [.ref 63], [], S1, 0) r) (fun S1 hf => ?_) hf
  refine ev_sts 4 (c2 := (13, [.ref 63], [], (upS S1 63 11 (S1 63 9)), 0)) rfl ?_
  refine ev_let (P := fun S2 => Ev (d) Mx185 (13, [.ref 63], [], S2, 0) r) (fun S2 hf => ?_) hf
  refine ev_sts 3 (c2 := (18, [.ref 63], [], (upS S2 63 9 ((0 : Int32))), 0)) rfl ?_
  refine ev_let (P := fun S3 => Ev (d) Mx185 (18, [.ref 63], [], S3, 0) r) (fun S3 hf => ?_) hf
  refine ev_sts 3 (c2 := (23, [.ref 63], [], (upS S3 63 10 ((0 : Int32))), 0)) rfl ?_
  refine ev_let (P := fun S4 => Ev (d) Mx185 (23, [.ref 63], [], S4, 0) r) (fun S4 hf => ?_) hf
  exact ev_ret hf rfl rfl
def f_X10_jerks_b50 (t0 : Int32) (S : mS) : Option mR := some (.inl (some (.int t0)), S)
def f_X10_jerks_b28 (x1 : Int32) (x2 : Int32) (t1 : Int32) (S : mS) : Option mR := bI0 (f_X10_throwsIf t1 ((1 : Int32)) S) (fun r5 S4 => (if r5 = 0 then gd (decide (¬ ((((2 : Int32)) * x2) + ((1 : Int32))) = 0)) (f_X10_jerks_b50 ((x1 + (((2 : Int32)) * x2)) / ((((2 : Int32)) * x2) + ((1 : Int32)))) S4) else f_X10_jerks_b50 ((0 : Int32)) S4))
def f_X10_jerks_b23 (x1 : Int32) (x2 : Int32) (S : mS) : Option mR := f_X10_jerks_b28 x1 x2 ((1 : Int32)) S
def f_X10_jerks (p1 : Int32) (p2 : Int32) (S : mS) : Option mR := bnd (upS S 63 0 ((0 : Int32))) (fun S1 => bI0 (f_X10_in p1 ((1 : Int32)) ((12 : Int32)) S1) (fun r3 S2 => (if r3 = 0 then f_X10_jerks_b23 p1 p2 S2 else bI0 (f_X10_noEar p2 S2) (fun r7 S6 => (if r7 = 0 then f_X10_jerks_b28 p1 p2 ((0 : Int32)) S6 else f_X10_jerks_b23 p1 p2 S6)))))
theorem f_X10_jerks_b50_ok {d : Nat} {t0 : Int32} {S : mS} {r : mR} (hf : f_X10_jerks_b50 t0 S = some r) : Ev (d + 2) Mx265 (50, [mK, mK, mK], [.int t0], S, 0) r := by
  unfold f_X10_jerks_b50 at hf
  exact ev_ret hf rfl rfl
theorem f_X10_jerks_b28_ok {d : Nat} {x1 : Int32} {x2 : Int32} {t1 : Int32} {S : mS} {r : mR} (hf : f_X10_jerks_b28 x1 x2 t1 S = some r) : Ev (d + 2) Mx265 (28, [mK, .int x1, .int x2], [.int t1, .ref 63], S, 0) r := by
  unfold f_X10_jerks_b28 at hf
  refine ev_sts 1 (c2 := (29, [mK, .int x1, .int x2], [.int ((1 : Int32)), .int t1, .ref 63], S, 0)) rfl ?_
  refine ev_bI0 (d := d + 1) (M' := Mx155) (ct := (32, [mK, .int x1, .int x2], [], S, 0)) hf rfl rfl rfl rfl (fun r9 h9 => f_X10_throwsIf_ok (d := d + 1) h9) (fun r5 S4 hf => ?_)
  show Ev (d + 2) Mx265 (32, [mK, .int x1, .int x2], [.int r5], S4, 0) r
  refine ev_if (c1 := (39, [mK, .int x1, .int x2], [], S4, 0)) (c2 := (35, [mK, .int x1, .int x2], [], S4, 0)) hf rfl rfl (fun _ hf => ?_) (fun _ hf => ?_)
  · refine ev_sts 10 (c2 := (49, [mK, .int x1, .int x2], [.int ((((2 : Int32)) * x2) + ((1 : Int32))), .int (x1 + (((2 : Int32)) * x2))], S4, 0)) rfl ?_
    refine ev_gd (c1 := (50, [mK, mK, mK], [.int ((x1 + (((2 : Int32)) * x2)) / ((((2 : Int32)) * x2) + ((1 : Int32))))], S4, 0)) hf rfl rfl (fun hf => ?_)
    exact f_X10_jerks_b50_ok hf
  · exact ev_sts 2 (c2 := (50, [mK, mK, mK], [.int ((0 : Int32))], S4, 0)) rfl (f_X10_jerks_b50_ok hf)
theorem f_X10_jerks_b23_ok {d : Nat} {x1 : Int32} {x2 : Int32} {S : mS} {r : mR} (hf : f_X10_jerks_b23 x1 x2 S = some r) : Ev (d + 2) Mx265 (23, [mK, .int x1, .int x2], [.ref 63], S, 0) r := by
  unfold f_X10_jerks_b23 at hf
  exact ev_sts 2 (c2 := (28, [mK, .int x1, .int x2], [.int ((1 : Int32)), .ref 63], S, 0)) rfl (f_X10_jerks_b28_ok hf)
theorem f_X10_jerks_ok {d : Nat} {p1 : Int32} {p2 : Int32} {S : mS} {r : mR} (hf : f_X10_jerks p1 p2 S = some r) : Ev (d + 2) Mx265 (entry Mx265 [.ref 63, .int p1, .int p2] S) r := by
  unfold f_X10_jerks at hf
  refine ev_sts 3 (c2 := (5, [.ref 63, .int p1, .int p2], [], (upS S 63 0 ((0 : Int32))), 0)) rfl ?_
  refine ev_let (P := fun S1 => Ev (d + 2) Mx265 (5, [.ref 63, .int p1, .int p2], [], S1, 0) r) (fun S1 hf => ?_) hf
  refine ev_sts 4 (c2 := (10, [.ref 63, .int p1, .int p2], [.int ((12 : Int32)), .int ((1 : Int32)), .int p1, .ref 63], S1, 0)) rfl ?_
  refine ev_bI0 (d := d + 1) (M' := Mx156) (ct := (13, [.ref 63, .int p1, .int p2], [.ref 63], S1, 0)) hf rfl rfl rfl rfl (fun r9 h9 => f_X10_in_ok (d := d + 1) h9) (fun r3 S2 hf => ?_)
  show Ev (d + 2) Mx265 (13, [.ref 63, .int p1, .int p2], [.int r3, .ref 63], S2, 0) r
  refine ev_if (c1 := (23, [mK, .int p1, .int p2], [.ref 63], S2, 0)) (c2 := (16, [.ref 63, .int p1, .int p2], [.ref 63], S2, 0)) hf rfl rfl (fun _ hf => ?_) (fun _ hf => ?_)
  · exact f_X10_jerks_b23_ok hf
  · refine ev_sts 1 (c2 := (17, [.ref 63, .int p1, .int p2], [.int p2, .ref 63], S2, 0)) rfl ?_
    refine ev_bI0 (d := d + 1) (M' := Mx264) (ct := (20, [.ref 63, .int p1, .int p2], [.ref 63], S2, 0)) hf rfl rfl rfl rfl (fun r9 h9 => f_X10_noEar_ok (d := d) h9) (fun r7 S6 hf => ?_)
    show Ev (d + 2) Mx265 (20, [.ref 63, .int p1, .int p2], [.int r7, .ref 63], S6, 0) r
    refine ev_if (c1 := (27, [.ref 63, .int p1, .int p2], [.ref 63], S6, 0)) (c2 := (23, [mK, .int p1, .int p2], [.ref 63], S6, 0)) hf rfl rfl (fun _ hf => ?_) (fun _ hf => ?_)
    · exact ev_sts 1 (c2 := (28, [mK, .int p1, .int p2], [.int ((0 : Int32)), .ref 63], S6, 0)) rfl (f_X10_jerks_b28_ok hf)
    · exact f_X10_jerks_b23_ok hf
def f_X10_kicks_b40 (F : Nat) (t0 : Int32) (S : mS) : Option mR := some (.inl (some (.int t0)), S)
def f_X10_kicks_b30 (F : Nat) (S : mS) : Option mR := f_X10_kicks_b40 F ((0 : Int32)) S
def f_X10_kicks (F : Nat) (p1 : Int32) (p2 : Int32) (S : mS) : Option mR := bnd (upS S 63 0 ((0 : Int32))) (fun S1 => bI0 (f_X10_noLedge p1 S1) (fun r3 S2 => bI0 (f_X10_throwsIf r3 ((1 : Int32)) S2) (fun r5 S4 => (if ¬ r5 = 0 then f_X10_kicks_b30 F S4 else bI0 (f_X10_noWind p2 S4) (fun r7 S6 => bI0 (f_X10_throwsIf r7 ((2 : Int32)) S6) (fun r9 S8 => (if r9 = 0 then bI0 (f_X10_kicksTo F p1 p2 S8) (fun r11 S10 => f_X10_kicks_b40 F r11 S10) else f_X10_kicks_b30 F S8)))))))
theorem f_X10_kicks_b40_ok {d F : Nat} {t0 : Int32} {S : mS} {r : mR} (hf : f_X10_kicks_b40 F t0 S = some r) : Ev (d + 9) Mx216 (40, [mK, mK, mK], [.int t0], S, 0) r := by
  unfold f_X10_kicks_b40 at hf
  exact ev_ret hf rfl rfl
theorem f_X10_kicks_b30_ok {d F : Nat} {S : mS} {r : mR} (hf : f_X10_kicks_b30 F  S = some r) : Ev (d + 9) Mx216 (30, [mK, mK, mK], [], S, 0) r := by
  unfold f_X10_kicks_b30 at hf
  exact ev_sts 2 (c2 := (40, [mK, mK, mK], [.int ((0 : Int32))], S, 0)) rfl (f_X10_kicks_b40_ok hf)
theorem f_X10_kicks_ok {d F : Nat} {p1 : Int32} {p2 : Int32} {S : mS} {r : mR} (hf : f_X10_kicks F p1 p2 S = some r) : Ev (d + 9) Mx216 (entry Mx216 [.ref 63, .int p1, .int p2] S) r := by
  unfold f_X10_kicks at hf
  refine ev_sts 3 (c2 := (5, [.ref 63, .int p1, .int p2], [], (upS S 63 0 ((0 : Int32))), 0)) rfl ?_
  refine ev_let (P := fun S1 => Ev (d + 9) Mx216 (5, [.ref 63, .int p1, .int p2], [], S1, 0) r) (fun S1 hf => ?_) hf
  refine ev_sts 3 (c2 := (8, [.ref 63, .int p1, .int p2], [.int p1, .ref 63, .ref 63], S1, 0)) rfl ?_
  refine ev_bI0 (d := d + 8) (M' := Mx169) (ct := (11, [.ref 63, .int p1, .int p2], [.ref 63], S1, 0)) hf rfl rfl rfl rfl (fun r9 h9 => f_X10_noLedge_ok (d := d + 7) h9) (fun r3 S2 hf => ?_)
  show Ev (d + 9) Mx216 (11, [.ref 63, .int p1, .int p2], [.int r3, .ref 63], S2, 0) r
  refine ev_sts 1 (c2 := (12, [.ref 63, .int p1, .int p2], [.int ((1 : Int32)), .int r3, .ref 63], S2, 0)) rfl ?_
  refine ev_bI0 (d := d + 8) (M' := Mx155) (ct := (15, [.ref 63, .int p1, .int p2], [], S2, 0)) hf rfl rfl rfl rfl (fun r9 h9 => f_X10_throwsIf_ok (d := d + 8) h9) (fun r5 S4 hf => ?_)
  show Ev (d + 9) Mx216 (15, [.ref 63, .int p1, .int p2], [.int r5], S4, 0) r
  refine ev_if (c1 := (30, [mK, mK, mK], [], S4, 0)) (c2 := (18, [.ref 63, .int p1, .int p2], [], S4, 0)) hf rfl rfl (fun _ hf => ?_) (fun _ hf => ?_)
  · exact f_X10_kicks_b30_ok hf
  · refine ev_sts 2 (c2 := (20, [.ref 63, .int p1, .int p2], [.int p2, .ref 63], S4, 0)) rfl ?_
    refine ev_bI0 (d := d + 8) (M' := Mx172) (ct := (23, [.ref 63, .int p1, .int p2], [.ref 63], S4, 0)) hf rfl rfl rfl rfl (fun r9 h9 => f_X10_noWind_ok (d := d + 7) h9) (fun r7 S6 hf => ?_)
    show Ev (d + 9) Mx216 (23, [.ref 63, .int p1, .int p2], [.int r7, .ref 63], S6, 0) r
    refine ev_sts 1 (c2 := (24, [.ref 63, .int p1, .int p2], [.int ((2 : Int32)), .int r7, .ref 63], S6, 0)) rfl ?_
    refine ev_bI0 (d := d + 8) (M' := Mx155) (ct := (27, [.ref 63, .int p1, .int p2], [], S6, 0)) hf rfl rfl rfl rfl (fun r9 h9 => f_X10_throwsIf_ok (d := d + 8) h9) (fun r9 S8 hf => ?_)
    show Ev (d + 9) Mx216 (27, [.ref 63, .int p1, .int p2], [.int r9], S8, 0) r
    refine ev_if (c1 := (34, [.ref 63, .int p1, .int p2], [], S8, 0)) (c2 := (30, [mK, mK, mK], [], S8, 0)) hf rfl rfl (fun _ hf => ?_) (fun _ hf => ?_)
    · refine ev_sts 3 (c2 := (37, [.ref 63, .int p1, .int p2], [.int p2, .int p1, .ref 63], S8, 0)) rfl ?_
      refine ev_bI0 (d := d + 8) (M' := Mx209) (ct := (40, [mK, mK, mK], [], S8, 0)) hf rfl rfl rfl rfl (fun r9 h9 => f_X10_kicksTo_ok (d := d) h9) (fun r11 S10 hf => ?_)
      show Ev (d + 9) Mx216 (40, [mK, mK, mK], [.int r11], S10, 0) r
      exact f_X10_kicks_b40_ok hf
    · exact f_X10_kicks_b30_ok hf
def f_X10_lasts_b30 (F : Nat) (S : mS) : Option mR := some (.inl (some (.int ((0 : Int32)))), S)
def f_X10_lasts_b110 (F : Nat) (t0 : Int32) (S : mS) : Option mR := some (.inl (some (.int t0)), S)
def f_X10_lasts (F : Nat) (p1 : Int32) (p2 : Int32) (S : mS) : Option mR := bnd (upS S 63 0 ((0 : Int32))) (fun S1 => bI0 (f_X10_noLedge p1 S1) (fun r3 S2 => bI0 (f_X10_throwsIf r3 ((1 : Int32)) S2) (fun r5 S4 => (if ¬ r5 = 0 then f_X10_lasts_b30 F S4 else bI0 (f_X10_noWind p2 S4) (fun r7 S6 => bI0 (f_X10_throwsIf r7 ((2 : Int32)) S6) (fun r9 S8 => (if r9 = 0 then bI0 (f_X10_kicksTo F p1 p2 S8) (fun r11 S10 => (if 0 ≤ r11 then bI0 (f_X10_wearOf F p1 p2 S10) (fun r13 S12 => bnd (r11 + r13 : Int32) (fun y14 => gd (inb ((9 : Int32)) 2145) (gd (inb ((8 : Int32)) 2145) (bnd (if ((0 : Int32)) < ((S12 64 ((9 : Int32)).toNatClampNeg) - (S12 64 ((8 : Int32)).toNatClampNeg)) then ((S12 64 ((9 : Int32)).toNatClampNeg) - (S12 64 ((8 : Int32)).toNatClampNeg)) else ((0 : Int32)) : Int32) (fun y15 => (if ¬ y15 = 0 then (if ¬ y14 = 0 then gd (decide (¬ y14 = 0)) (f_X10_lasts_b110 F (if (((y15 + y14) - ((1 : Int32))) / y14) < ((99 : Int32)) then (((y15 + y14) - ((1 : Int32))) / y14) else ((99 : Int32))) S12) else f_X10_lasts_b110 F ((99 : Int32)) S12) else f_X10_lasts_b110 F ((0 : Int32)) S12)))))) else some (.inl (some (.int ((-1 : Int32)))), S10))) else f_X10_lasts_b30 F S8)))))))
theorem f_X10_lasts_b30_ok {d F : Nat} {S : mS} {r : mR} (hf : f_X10_lasts_b30 F  S = some r) : Ev (d + 9) Mx241 (30, [mK, mK, mK, mK, mK, mK], [], S, 0) r := by
  unfold f_X10_lasts_b30 at hf
  refine ev_sts 1 (c2 := (31, [mK, mK, mK, mK, mK, mK], [.int ((0 : Int32))], S, 0)) rfl ?_
  exact ev_ret hf rfl rfl
theorem f_X10_lasts_b110_ok {d F : Nat} {t0 : Int32} {S : mS} {r : mR} (hf : f_X10_lasts_b110 F t0 S = some r) : Ev (d + 9) Mx241 (110, [mK, mK, mK, mK, mK, mK], [.int t0], S, 0) r := by
  unfold f_X10_lasts_b110 at hf
  exact ev_ret hf rfl rfl
theorem f_X10_lasts_ok {d F : Nat} {p1 : Int32} {p2 : Int32} {S : mS} {r : mR} (hf : f_X10_lasts F p1 p2 S = some r) : Ev (d + 9) Mx241 (entry Mx241 [.ref 63, .int p1, .int p2] S) r := by
  unfold f_X10_lasts at hf
  refine ev_sts 3 (c2 := (5, [.ref 63, .int p1, .int p2, mK, mK, mK], [], (upS S 63 0 ((0 : Int32))), 0)) rfl ?_
  refine ev_let (P := fun S1 => Ev (d + 9) Mx241 (5, [.ref 63, .int p1, .int p2, mK, mK, mK], [], S1, 0) r) (fun S1 hf => ?_) hf
  refine ev_sts 3 (c2 := (8, [.ref 63, .int p1, .int p2, mK, mK, mK], [.int p1, .ref 63, .ref 63], S1, 0)) rfl ?_
  refine ev_bI0 (d := d + 8) (M' := Mx169) (ct := (11, [.ref 63, .int p1, .int p2, mK, mK, mK], [.ref 63], S1, 0)) hf rfl rfl rfl rfl (fun r9 h9 => f_X10_noLedge_ok (d := d + 7) h9) (fun r3 S2 hf => ?_)
  show Ev (d + 9) Mx241 (11, [.ref 63, .int p1, .int p2, mK, mK, mK], [.int r3, .ref 63], S2, 0) r
  refine ev_sts 1 (c2 := (12, [.ref 63, .int p1, .int p2, mK, mK, mK], [.int ((1 : Int32)), .int r3, .ref 63], S2, 0)) rfl ?_
  refine ev_bI0 (d := d + 8) (M' := Mx155) (ct := (15, [.ref 63, .int p1, .int p2, mK, mK, mK], [], S2, 0)) hf rfl rfl rfl rfl (fun r9 h9 => f_X10_throwsIf_ok (d := d + 8) h9) (fun r5 S4 hf => ?_)
  show Ev (d + 9) Mx241 (15, [.ref 63, .int p1, .int p2, mK, mK, mK], [.int r5], S4, 0) r
  refine ev_if (c1 := (30, [mK, mK, mK, mK, mK, mK], [], S4, 0)) (c2 := (18, [.ref 63, .int p1, .int p2, mK, mK, mK], [], S4, 0)) hf rfl rfl (fun _ hf => ?_) (fun _ hf => ?_)
  · exact f_X10_lasts_b30_ok hf
  · refine ev_sts 2 (c2 := (20, [.ref 63, .int p1, .int p2, mK, mK, mK], [.int p2, .ref 63], S4, 0)) rfl ?_
    refine ev_bI0 (d := d + 8) (M' := Mx172) (ct := (23, [.ref 63, .int p1, .int p2, mK, mK, mK], [.ref 63], S4, 0)) hf rfl rfl rfl rfl (fun r9 h9 => f_X10_noWind_ok (d := d + 7) h9) (fun r7 S6 hf => ?_)
    show Ev (d + 9) Mx241 (23, [.ref 63, .int p1, .int p2, mK, mK, mK], [.int r7, .ref 63], S6, 0) r
    refine ev_sts 1 (c2 := (24, [.ref 63, .int p1, .int p2, mK, mK, mK], [.int ((2 : Int32)), .int r7, .ref 63], S6, 0)) rfl ?_
    refine ev_bI0 (d := d + 8) (M' := Mx155) (ct := (27, [.ref 63, .int p1, .int p2, mK, mK, mK], [], S6, 0)) hf rfl rfl rfl rfl (fun r9 h9 => f_X10_throwsIf_ok (d := d + 8) h9) (fun r9 S8 hf => ?_)
    show Ev (d + 9) Mx241 (27, [.ref 63, .int p1, .int p2, mK, mK, mK], [.int r9], S8, 0) r
    refine ev_if (c1 := (32, [.ref 63, .int p1, .int p2, mK, mK, mK], [], S8, 0)) (c2 := (30, [mK, mK, mK, mK, mK, mK], [], S8, 0)) hf rfl rfl (fun _ hf => ?_) (fun _ hf => ?_)
    · refine ev_sts 3 (c2 := (35, [.ref 63, .int p1, .int p2, mK, mK, mK], [.int p2, .int p1, .ref 63], S8, 0)) rfl ?_
      refine ev_bI0 (d := d + 8) (M' := Mx209) (ct := (38, [.ref 63, .int p1, .int p2, mK, mK, mK], [], S8, 0)) hf rfl rfl rfl rfl (fun r9 h9 => f_X10_kicksTo_ok (d := d) h9) (fun r11 S10 hf => ?_)
      show Ev (d + 9) Mx241 (38, [.ref 63, .int p1, .int p2, mK, mK, mK], [.int r11], S10, 0) r
      refine ev_sts 2 (c2 := (40, [.ref 63, .int p1, .int p2, .int r11, mK, mK], [.int r11], S10, 0)) rfl ?_
      refine ev_if (c1 := (45, [.ref 63, .int p1, .int p2, .int r11, mK, mK], [], S10, 0)) (c2 := (43, [.ref 63, .int p1, .int p2, .int r11, mK, mK], [], S10, 0)) hf rfl rfl (fun _ hf => ?_) (fun _ hf => ?_)
      · refine ev_sts 4 (c2 := (49, [.ref 63, .int p1, .int p2, .int r11, mK, mK], [.int p2, .int p1, .ref 63, .int r11], S10, 0)) rfl ?_
        refine ev_bI0 (d := d + 8) (M' := Mx210) (ct := (52, [.ref 63, .int p1, .int p2, .int r11, mK, mK], [.int r11], S10, 0)) hf rfl rfl rfl rfl (fun r9 h9 => f_X10_wearOf_ok (d := d + 2) h9) (fun r13 S12 hf => ?_)
        show Ev (d + 9) Mx241 (52, [.ref 63, .int p1, .int p2, .int r11, mK, mK], [.int r13, .int r11], S12, 0) r
        refine ev_sts 2 (c2 := (55, [.ref 63, .int p1, .int p2, .int r11, .int (r11 + r13), mK], [], S12, 0)) rfl ?_
        refine ev_let (P := fun y14 => Ev (d + 9) Mx241 (55, [.ref 63, .int p1, .int p2, .int r11, .int y14, mK], [], S12, 0) r) (fun y14 hf => ?_) hf
        refine ev_sts 4 (c2 := (62, [.ref 63, .int p1, .int p2, .int r11, .int y14, mK], [.int ((9 : Int32)), .ref 64, .int ((0 : Int32))], S12, 0)) rfl ?_
        refine ev_gd (c1 := (63, [.ref 63, .int p1, .int p2, .int r11, .int y14, mK], [.int (S12 64 ((9 : Int32)).toNatClampNeg), .int ((0 : Int32))], S12, 0)) hf rfl rfl (fun hf => ?_)
        refine ev_sts 3 (c2 := (69, [.ref 63, .int p1, .int p2, .int r11, .int y14, mK], [.int ((8 : Int32)), .ref 64, .int (S12 64 ((9 : Int32)).toNatClampNeg), .int ((0 : Int32))], S12, 0)) rfl ?_
        refine ev_gd (c1 := (70, [.ref 63, .int p1, .int p2, .int r11, .int y14, mK], [.int (S12 64 ((8 : Int32)).toNatClampNeg), .int (S12 64 ((9 : Int32)).toNatClampNeg), .int ((0 : Int32))], S12, 0)) hf rfl rfl (fun hf => ?_)
        refine ev_sts 3 (c2 := (76, [.ref 63, .int p1, .int p2, .int r11, .int y14, .int (if ((0 : Int32)) < ((S12 64 ((9 : Int32)).toNatClampNeg) - (S12 64 ((8 : Int32)).toNatClampNeg)) then ((S12 64 ((9 : Int32)).toNatClampNeg) - (S12 64 ((8 : Int32)).toNatClampNeg)) else ((0 : Int32)))], [], S12, 0)) rfl ?_
        refine ev_let (P := fun y15 => Ev (d + 9) Mx241 (76, [.ref 63, .int p1, .int p2, .int r11, .int y14, .int y15], [], S12, 0) r) (fun y15 hf => ?_) hf
        refine ev_sts 1 (c2 := (78, [.ref 63, .int p1, .int p2, .int r11, .int y14, .int y15], [.int y15], S12, 0)) rfl ?_
        refine ev_if (c1 := (85, [.ref 63, .int p1, .int p2, .int r11, .int y14, .int y15], [], S12, 0)) (c2 := (81, [.ref 63, .int p1, .int p2, .int r11, .int y14, .int y15], [], S12, 0)) hf rfl rfl (fun _ hf => ?_) (fun _ hf => ?_)
        · refine ev_sts 1 (c2 := (87, [.ref 63, .int p1, .int p2, .int r11, .int y14, .int y15], [.int y14], S12, 0)) rfl ?_
          refine ev_if (c1 := (95, [.ref 63, .int p1, .int p2, .int r11, .int y14, .int y15], [], S12, 0)) (c2 := (90, [.ref 63, .int p1, .int p2, .int r11, .int y14, .int y15], [], S12, 0)) hf rfl rfl (fun _ hf => ?_) (fun _ hf => ?_)
          · refine ev_sts 7 (c2 := (106, [.ref 63, .int p1, .int p2, .int r11, .int y14, .int y15], [.int y14, .int ((y15 + y14) - ((1 : Int32))), .int ((99 : Int32))], S12, 0)) rfl ?_
            refine ev_gd (c1 := (107, [.ref 63, .int p1, .int p2, .int r11, .int y14, .int y15], [.int (((y15 + y14) - ((1 : Int32))) / y14), .int ((99 : Int32))], S12, 0)) hf rfl rfl (fun hf => ?_)
            exact ev_sts 1 (c2 := (110, [mK, mK, mK, mK, mK, mK], [.int (if (((y15 + y14) - ((1 : Int32))) / y14) < ((99 : Int32)) then (((y15 + y14) - ((1 : Int32))) / y14) else ((99 : Int32)))], S12, 0)) rfl (f_X10_lasts_b110_ok hf)
          · exact ev_sts 2 (c2 := (110, [mK, mK, mK, mK, mK, mK], [.int ((99 : Int32))], S12, 0)) rfl (f_X10_lasts_b110_ok hf)
        · exact ev_sts 2 (c2 := (110, [mK, mK, mK, mK, mK, mK], [.int ((0 : Int32))], S12, 0)) rfl (f_X10_lasts_b110_ok hf)
      · refine ev_sts 1 (c2 := (44, [.ref 63, .int p1, .int p2, .int r11, mK, mK], [.int ((-1 : Int32))], S10, 0)) rfl ?_
        exact ev_ret hf rfl rfl
    · exact f_X10_lasts_b30_ok hf
def f_X10_late_b75 (F : Nat) (x2 : Int32) (S : mS) : Option mR := bV0 (f_X10_bringsBack F S) (fun S7 => some (.inl (some (.int x2)), S7))
def f_X10_late_b62 (K28 : Int32 → Int32 → Int32 → mS → Option mR) (F : Nat) (x1 : Int32) (x3 : Int32) (t0 : Int32) (S : mS) : Option mR := bI0 (f_X10_oneDay F ((1 : Int32)) S) (fun r11 S10 => K28 x1 t0 (x3 + (1 : Int32)) S10)
def f_X10_late_b61 (K28 : Int32 → Int32 → Int32 → mS → Option mR) (F : Nat) (x1 : Int32) (x3 : Int32) (S : mS) : Option mR := f_X10_late_b62 K28 F x1 x3 ((-1 : Int32)) S
def f_X10_late_b28 (F : Nat) : Nat → Int32 → Int32 → Int32 → mS → Option mR
  | 0, _, _, _, _ => none
  | n + 1, x1, x2, x3, S => (if ((40 : Int32)) < x3 then f_X10_late_b75 F x2 S else (if 0 ≤ x2 then f_X10_late_b75 F x2 S else bI0 (f_X10_of x1 ((2 : Int32)) S) (fun r9 S8 => (if r9 ≤ 0 then f_X10_late_b61 (fun x1 x2 x3 S => f_X10_late_b28 F n x1 x2 x3 S) F x1 x3 S8 else bI0 (f_X10_of x1 ((3 : Int32)) S8) (fun r13 S12 => (if r13 ≤ ((3 : Int32)) then f_X10_late_b61 (fun x1 x2 x3 S => f_X10_late_b28 F n x1 x2 x3 S) F x1 x3 S12 else f_X10_late_b62 (fun x1 x2 x3 S => f_X10_late_b28 F n x1 x2 x3 S) F x1 x3 x3 S12))))))
def f_X10_late (F : Nat) (p1 : Int32) (S : mS) : Option mR := bnd (upS S 63 0 ((0 : Int32))) (fun S1 => bI0 (f_X10_noLedge p1 S1) (fun r3 S2 => bI0 (f_X10_throwsIf r3 ((1 : Int32)) S2) (fun r5 S4 => (if r5 = 0 then bV0 (f_X10_keepsAll F S4) (fun S6 => f_X10_late_b28 F F p1 ((-1 : Int32)) ((0 : Int32)) S6) else some (.inl (some (.int ((0 : Int32)))), S4)))))
theorem f_X10_late_b75_ok {d F : Nat} {x2 : Int32} {S : mS} {r : mR} (hf : f_X10_late_b75 F x2 S = some r) : Ev (d + 9) Mx253 (75, [.ref 63, mK, .int x2, mK], [], S, 0) r := by
  unfold f_X10_late_b75 at hf
  refine ev_sts 1 (c2 := (76, [.ref 63, mK, .int x2, mK], [.ref 63], S, 0)) rfl ?_
  refine ev_bV0 (d := d + 8) (M' := Mx248) (ct := (79, [.ref 63, mK, .int x2, mK], [], S, 0)) hf rfl rfl rfl rfl (fun r9 h9 => f_X10_bringsBack_ok (d := d + 8) h9) (fun S7 hf => ?_)
  show Ev (d + 9) Mx253 (79, [.ref 63, mK, .int x2, mK], [], S7, 0) r
  refine ev_sts 1 (c2 := (80, [.ref 63, mK, .int x2, mK], [.int x2], S7, 0)) rfl ?_
  exact ev_ret hf rfl rfl
theorem f_X10_late_b62_ok {d F : Nat} {K28 : Int32 → Int32 → Int32 → mS → Option mR} (hK28 : ∀ {x1 : Int32} {x2 : Int32} {x3 : Int32} {S : mS} {r : mR}, K28 x1 x2 x3 S = some r → Ev (d + 9) Mx253 (28, [.ref 63, .int x1, .int x2, .int x3], [], S, 0) r) {x1 : Int32} {x3 : Int32} {t0 : Int32} {S : mS} {r : mR} (hf : f_X10_late_b62 K28 F x1 x3 t0 S = some r) : Ev (d + 9) Mx253 (62, [.ref 63, .int x1, mK, .int x3], [.int t0], S, 0) r := by
  unfold f_X10_late_b62 at hf
  refine ev_sts 3 (c2 := (65, [.ref 63, .int x1, .int t0, .int x3], [.int ((1 : Int32)), .ref 63], S, 0)) rfl ?_
  refine ev_bI0 (d := d + 8) (M' := Mx246) (ct := (68, [.ref 63, .int x1, .int t0, .int x3], [], S, 0)) hf rfl rfl rfl rfl (fun r9 h9 => f_X10_oneDay_ok (d := d) h9) (fun r11 S10 hf => ?_)
  show Ev (d + 9) Mx253 (68, [.ref 63, .int x1, .int t0, .int x3], [.int r11], S10, 0) r
  exact ev_sts 3 (c2 := (28, [.ref 63, .int x1, .int t0, .int (x3 + (1 : Int32))], [], S10, 0)) rfl (hK28 hf)
theorem f_X10_late_b61_ok {d F : Nat} {K28 : Int32 → Int32 → Int32 → mS → Option mR} (hK28 : ∀ {x1 : Int32} {x2 : Int32} {x3 : Int32} {S : mS} {r : mR}, K28 x1 x2 x3 S = some r → Ev (d + 9) Mx253 (28, [.ref 63, .int x1, .int x2, .int x3], [], S, 0) r) {x1 : Int32} {x3 : Int32} {S : mS} {r : mR} (hf : f_X10_late_b61 K28 F x1 x3 S = some r) : Ev (d + 9) Mx253 (61, [.ref 63, .int x1, mK, .int x3], [], S, 0) r := by
  unfold f_X10_late_b61 at hf
  exact ev_sts 1 (c2 := (62, [.ref 63, .int x1, mK, .int x3], [.int ((-1 : Int32))], S, 0)) rfl (f_X10_late_b62_ok hK28 hf)
theorem f_X10_late_b28_ok {d F : Nat} : ∀ (n : Nat) {x1 : Int32} {x2 : Int32} {x3 : Int32} {S : mS} {r : mR}, f_X10_late_b28 F n x1 x2 x3 S = some r → Ev (d + 9) Mx253 (28, [.ref 63, .int x1, .int x2, .int x3], [], S, 0) r := by
  intro n
  induction n with
  | zero => intro x1 x2 x3 S r hf; cases hf
  | succ n ih =>
    intro x1 x2 x3 S r hf
    rw [f_X10_late_b28] at hf
    refine ev_sts 2 (c2 := (31, [.ref 63, .int x1, .int x2, .int x3], [.int ((40 : Int32)), .int x3], S, 0)) rfl ?_
    refine ev_if (c1 := (75, [.ref 63, mK, .int x2, mK], [], S, 0)) (c2 := (34, [.ref 63, .int x1, .int x2, .int x3], [], S, 0)) hf rfl rfl (fun _ hf => ?_) (fun _ hf => ?_)
    · exact f_X10_late_b75_ok hf
    · refine ev_sts 1 (c2 := (35, [.ref 63, .int x1, .int x2, .int x3], [.int x2], S, 0)) rfl ?_
      refine ev_if (c1 := (75, [.ref 63, mK, .int x2, mK], [], S, 0)) (c2 := (38, [.ref 63, .int x1, .int x2, .int x3], [], S, 0)) hf rfl rfl (fun _ hf => ?_) (fun _ hf => ?_)
      · exact f_X10_late_b75_ok hf
      · refine ev_sts 3 (c2 := (41, [.ref 63, .int x1, .int x2, .int x3], [.int ((2 : Int32)), .int x1, .ref 63], S, 0)) rfl ?_
        refine ev_bI0 (d := d + 8) (M' := Mx166) (ct := (44, [.ref 63, .int x1, .int x2, .int x3], [], S, 0)) hf rfl rfl rfl rfl (fun r9 h9 => f_X10_of_ok (d := d + 7) h9) (fun r9 S8 hf => ?_)
        show Ev (d + 9) Mx253 (44, [.ref 63, .int x1, .int x2, .int x3], [.int r9], S8, 0) r
        refine ev_if (c1 := (61, [.ref 63, .int x1, mK, .int x3], [], S8, 0)) (c2 := (47, [.ref 63, .int x1, .int x2, .int x3], [], S8, 0)) hf rfl rfl (fun _ hf => ?_) (fun _ hf => ?_)
        · exact f_X10_late_b61_ok (fun h9 => ih h9) hf
        · refine ev_sts 3 (c2 := (50, [.ref 63, .int x1, .int x2, .int x3], [.int ((3 : Int32)), .int x1, .ref 63], S8, 0)) rfl ?_
          refine ev_bI0 (d := d + 8) (M' := Mx166) (ct := (53, [.ref 63, .int x1, .int x2, .int x3], [], S8, 0)) hf rfl rfl rfl rfl (fun r9 h9 => f_X10_of_ok (d := d + 7) h9) (fun r13 S12 hf => ?_)
          show Ev (d + 9) Mx253 (53, [.ref 63, .int x1, .int x2, .int x3], [.int r13], S12, 0) r
          refine ev_sts 1 (c2 := (54, [.ref 63, .int x1, .int x2, .int x3], [.int ((3 : Int32)), .int r13], S12, 0)) rfl ?_
          refine ev_if (c1 := (61, [.ref 63, .int x1, mK, .int x3], [], S12, 0)) (c2 := (57, [.ref 63, .int x1, .int x2, .int x3], [], S12, 0)) hf rfl rfl (fun _ hf => ?_) (fun _ hf => ?_)
          · exact f_X10_late_b61_ok (fun h9 => ih h9) hf
          · exact ev_sts 2 (c2 := (62, [.ref 63, .int x1, mK, .int x3], [.int x3], S12, 0)) rfl (f_X10_late_b62_ok (fun h9 => ih h9) hf)
theorem f_X10_late_ok {d F : Nat} {p1 : Int32} {S : mS} {r : mR} (hf : f_X10_late F p1 S = some r) : Ev (d + 9) Mx253 (entry Mx253 [.ref 63, .int p1] S) r := by
  unfold f_X10_late at hf
  refine ev_sts 3 (c2 := (5, [.ref 63, .int p1, mK, mK], [], (upS S 63 0 ((0 : Int32))), 0)) rfl ?_
  refine ev_let (P := fun S1 => Ev (d + 9) Mx253 (5, [.ref 63, .int p1, mK, mK], [], S1, 0) r) (fun S1 hf => ?_) hf
  refine ev_sts 3 (c2 := (8, [.ref 63, .int p1, mK, mK], [.int p1, .ref 63, .ref 63], S1, 0)) rfl ?_
  refine ev_bI0 (d := d + 8) (M' := Mx169) (ct := (11, [.ref 63, .int p1, mK, mK], [.ref 63], S1, 0)) hf rfl rfl rfl rfl (fun r9 h9 => f_X10_noLedge_ok (d := d + 7) h9) (fun r3 S2 hf => ?_)
  show Ev (d + 9) Mx253 (11, [.ref 63, .int p1, mK, mK], [.int r3, .ref 63], S2, 0) r
  refine ev_sts 1 (c2 := (12, [.ref 63, .int p1, mK, mK], [.int ((1 : Int32)), .int r3, .ref 63], S2, 0)) rfl ?_
  refine ev_bI0 (d := d + 8) (M' := Mx155) (ct := (15, [.ref 63, .int p1, mK, mK], [], S2, 0)) hf rfl rfl rfl rfl (fun r9 h9 => f_X10_throwsIf_ok (d := d + 8) h9) (fun r5 S4 hf => ?_)
  show Ev (d + 9) Mx253 (15, [.ref 63, .int p1, mK, mK], [.int r5], S4, 0) r
  refine ev_if (c1 := (20, [.ref 63, .int p1, mK, mK], [], S4, 0)) (c2 := (18, [.ref 63, .int p1, mK, mK], [], S4, 0)) hf rfl rfl (fun _ hf => ?_) (fun _ hf => ?_)
  · refine ev_sts 1 (c2 := (21, [.ref 63, .int p1, mK, mK], [.ref 63], S4, 0)) rfl ?_
    refine ev_bV0 (d := d + 8) (M' := Mx247) (ct := (24, [.ref 63, .int p1, mK, mK], [], S4, 0)) hf rfl rfl rfl rfl (fun r9 h9 => f_X10_keepsAll_ok (d := d + 8) h9) (fun S6 hf => ?_)
    show Ev (d + 9) Mx253 (24, [.ref 63, .int p1, mK, mK], [], S6, 0) r
    exact ev_sts 4 (c2 := (28, [.ref 63, .int p1, .int ((-1 : Int32)), .int ((0 : Int32))], [], S6, 0)) rfl (f_X10_late_b28_ok _ hf)
  · refine ev_sts 1 (c2 := (19, [.ref 63, .int p1, mK, mK], [.int ((0 : Int32))], S4, 0)) rfl ?_
    exact ev_ret hf rfl rfl
def f_X10_leave_b73 (K34 : Int32 → Int32 → Int32 → mS → Option mR) (F : Nat) (x1 : Int32) (x2 : Int32) (x3 : Int32) (S : mS) : Option mR := K34 x1 x2 (x3 + (1 : Int32)) S
def f_X10_leave_b71 (K34 : Int32 → Int32 → Int32 → mS → Option mR) (F : Nat) (x1 : Int32) (x3 : Int32) (S : mS) : Option mR := f_X10_leave_b73 K34 F x1 x3 x3 S
def f_X10_leave_b34 (F : Nat) : Nat → Int32 → Int32 → Int32 → mS → Option mR
  | 0, _, _, _, _ => none
  | n + 1, x1, x2, x3, S => bI0 (f_X10_allLedges S) (fun r7 S6 => (if r7 < x3 then some (.inl (some (.int x2)), S6) else bI0 (f_X10_sumIn F x3 ((4 : Int32)) S6) (fun r9 S8 => (if r9 < x1 then f_X10_leave_b73 (fun x1 x2 x3 S => f_X10_leave_b34 F n x1 x2 x3 S) F x1 x2 x3 S8 else (if x2 < 0 then f_X10_leave_b71 (fun x1 x2 x3 S => f_X10_leave_b34 F n x1 x2 x3 S) F x1 x3 S8 else bI0 (f_X10_sumIn F x3 ((2 : Int32)) S8) (fun r11 S10 => bI0 (f_X10_sumIn F x2 ((2 : Int32)) S10) (fun r13 S12 => (if r13 ≤ r11 then f_X10_leave_b73 (fun x1 x2 x3 S => f_X10_leave_b34 F n x1 x2 x3 S) F x1 x2 x3 S12 else f_X10_leave_b71 (fun x1 x2 x3 S => f_X10_leave_b34 F n x1 x2 x3 S) F x1 x3 S12))))))))
def f_X10_leave_b21 (F : Nat) (x1 : Int32) (t1 : Int32) (S : mS) : Option mR := bI0 (f_X10_throwsIf t1 ((1 : Int32)) S) (fun r5 S4 => (if r5 = 0 then f_X10_leave_b34 F F x1 ((-1 : Int32)) ((0 : Int32)) S4 else some (.inl (some (.int ((0 : Int32)))), S4)))
def f_X10_leave (F : Nat) (p1 : Int32) (S : mS) : Option mR := bnd (upS S 63 0 ((0 : Int32))) (fun S1 => bI0 (f_X10_in p1 ((0 : Int32)) ((90 : Int32)) S1) (fun r3 S2 => (if ¬ r3 = 0 then f_X10_leave_b21 F p1 ((0 : Int32)) S2 else f_X10_leave_b21 F p1 ((1 : Int32)) S2)))
theorem f_X10_leave_b73_ok {d F : Nat} {K34 : Int32 → Int32 → Int32 → mS → Option mR} (hK34 : ∀ {x1 : Int32} {x2 : Int32} {x3 : Int32} {S : mS} {r : mR}, K34 x1 x2 x3 S = some r → Ev (d + 3) Mx262 (34, [.ref 63, .int x1, .int x2, .int x3], [], S, 0) r) {x1 : Int32} {x2 : Int32} {x3 : Int32} {S : mS} {r : mR} (hf : f_X10_leave_b73 K34 F x1 x2 x3 S = some r) : Ev (d + 3) Mx262 (73, [.ref 63, .int x1, .int x2, .int x3], [], S, 0) r := by
  unfold f_X10_leave_b73 at hf
  exact ev_sts 2 (c2 := (34, [.ref 63, .int x1, .int x2, .int (x3 + (1 : Int32))], [], S, 0)) rfl (hK34 hf)
theorem f_X10_leave_b71_ok {d F : Nat} {K34 : Int32 → Int32 → Int32 → mS → Option mR} (hK34 : ∀ {x1 : Int32} {x2 : Int32} {x3 : Int32} {S : mS} {r : mR}, K34 x1 x2 x3 S = some r → Ev (d + 3) Mx262 (34, [.ref 63, .int x1, .int x2, .int x3], [], S, 0) r) {x1 : Int32} {x3 : Int32} {S : mS} {r : mR} (hf : f_X10_leave_b71 K34 F x1 x3 S = some r) : Ev (d + 3) Mx262 (71, [.ref 63, .int x1, mK, .int x3], [], S, 0) r := by
  unfold f_X10_leave_b71 at hf
  exact ev_sts 2 (c2 := (73, [.ref 63, .int x1, .int x3, .int x3], [], S, 0)) rfl (f_X10_leave_b73_ok hK34 hf)
theorem f_X10_leave_b34_ok {d F : Nat} : ∀ (n : Nat) {x1 : Int32} {x2 : Int32} {x3 : Int32} {S : mS} {r : mR}, f_X10_leave_b34 F n x1 x2 x3 S = some r → Ev (d + 3) Mx262 (34, [.ref 63, .int x1, .int x2, .int x3], [], S, 0) r := by
  intro n
  induction n with
  | zero => intro x1 x2 x3 S r hf; cases hf
  | succ n ih =>
    intro x1 x2 x3 S r hf
    rw [f_X10_leave_b34] at hf
    refine ev_sts 2 (c2 := (36, [.ref 63, .int x1, .int x2, .int x3], [.ref 63, .int x3], S, 0)) rfl ?_
    refine ev_bI0 (d := d + 2) (M' := Mx261) (ct := (39, [.ref 63, .int x1, .int x2, .int x3], [.int x3], S, 0)) hf rfl rfl rfl rfl (fun r9 h9 => f_X10_allLedges_ok (d := d + 1) h9) (fun r7 S6 hf => ?_)
    show Ev (d + 3) Mx262 (39, [.ref 63, .int x1, .int x2, .int x3], [.int r7, .int x3], S6, 0) r
    refine ev_if (c1 := (79, [.ref 63, .int x1, .int x2, .int x3], [], S6, 0)) (c2 := (42, [.ref 63, .int x1, .int x2, .int x3], [], S6, 0)) hf rfl rfl (fun _ hf => ?_) (fun _ hf => ?_)
    · refine ev_sts 1 (c2 := (80, [.ref 63, .int x1, .int x2, .int x3], [.int x2], S6, 0)) rfl ?_
      exact ev_ret hf rfl rfl
    · refine ev_sts 3 (c2 := (45, [.ref 63, .int x1, .int x2, .int x3], [.int ((4 : Int32)), .int x3, .ref 63], S6, 0)) rfl ?_
      refine ev_bI0 (d := d + 2) (M' := Mx260) (ct := (48, [.ref 63, .int x1, .int x2, .int x3], [], S6, 0)) hf rfl rfl rfl rfl (fun r9 h9 => f_X10_sumIn_ok (d := d) h9) (fun r9 S8 hf => ?_)
      show Ev (d + 3) Mx262 (48, [.ref 63, .int x1, .int x2, .int x3], [.int r9], S8, 0) r
      refine ev_sts 1 (c2 := (49, [.ref 63, .int x1, .int x2, .int x3], [.int x1, .int r9], S8, 0)) rfl ?_
      refine ev_if (c1 := (73, [.ref 63, .int x1, .int x2, .int x3], [], S8, 0)) (c2 := (52, [.ref 63, .int x1, .int x2, .int x3], [], S8, 0)) hf rfl rfl (fun _ hf => ?_) (fun _ hf => ?_)
      · exact f_X10_leave_b73_ok (fun h9 => ih h9) hf
      · refine ev_sts 1 (c2 := (53, [.ref 63, .int x1, .int x2, .int x3], [.int x2], S8, 0)) rfl ?_
        refine ev_if (c1 := (71, [.ref 63, .int x1, mK, .int x3], [], S8, 0)) (c2 := (56, [.ref 63, .int x1, .int x2, .int x3], [], S8, 0)) hf rfl rfl (fun _ hf => ?_) (fun _ hf => ?_)
        · exact f_X10_leave_b71_ok (fun h9 => ih h9) hf
        · refine ev_sts 3 (c2 := (59, [.ref 63, .int x1, .int x2, .int x3], [.int ((2 : Int32)), .int x3, .ref 63], S8, 0)) rfl ?_
          refine ev_bI0 (d := d + 2) (M' := Mx260) (ct := (62, [.ref 63, .int x1, .int x2, .int x3], [], S8, 0)) hf rfl rfl rfl rfl (fun r9 h9 => f_X10_sumIn_ok (d := d) h9) (fun r11 S10 hf => ?_)
          show Ev (d + 3) Mx262 (62, [.ref 63, .int x1, .int x2, .int x3], [.int r11], S10, 0) r
          refine ev_sts 3 (c2 := (65, [.ref 63, .int x1, .int x2, .int x3], [.int ((2 : Int32)), .int x2, .ref 63, .int r11], S10, 0)) rfl ?_
          refine ev_bI0 (d := d + 2) (M' := Mx260) (ct := (68, [.ref 63, .int x1, .int x2, .int x3], [.int r11], S10, 0)) hf rfl rfl rfl rfl (fun r9 h9 => f_X10_sumIn_ok (d := d) h9) (fun r13 S12 hf => ?_)
          show Ev (d + 3) Mx262 (68, [.ref 63, .int x1, .int x2, .int x3], [.int r13, .int r11], S12, 0) r
          refine ev_if (c1 := (73, [.ref 63, .int x1, .int x2, .int x3], [], S12, 0)) (c2 := (71, [.ref 63, .int x1, mK, .int x3], [], S12, 0)) hf rfl rfl (fun _ hf => ?_) (fun _ hf => ?_)
          · exact f_X10_leave_b73_ok (fun h9 => ih h9) hf
          · exact f_X10_leave_b71_ok (fun h9 => ih h9) hf
theorem f_X10_leave_b21_ok {d F : Nat} {x1 : Int32} {t1 : Int32} {S : mS} {r : mR} (hf : f_X10_leave_b21 F x1 t1 S = some r) : Ev (d + 3) Mx262 (21, [.ref 63, .int x1, mK, mK], [.int t1, .ref 63], S, 0) r := by
  unfold f_X10_leave_b21 at hf
  refine ev_sts 1 (c2 := (22, [.ref 63, .int x1, mK, mK], [.int ((1 : Int32)), .int t1, .ref 63], S, 0)) rfl ?_
  refine ev_bI0 (d := d + 2) (M' := Mx155) (ct := (25, [.ref 63, .int x1, mK, mK], [], S, 0)) hf rfl rfl rfl rfl (fun r9 h9 => f_X10_throwsIf_ok (d := d + 2) h9) (fun r5 S4 hf => ?_)
  show Ev (d + 3) Mx262 (25, [.ref 63, .int x1, mK, mK], [.int r5], S4, 0) r
  refine ev_if (c1 := (30, [.ref 63, .int x1, mK, mK], [], S4, 0)) (c2 := (28, [.ref 63, .int x1, mK, mK], [], S4, 0)) hf rfl rfl (fun _ hf => ?_) (fun _ hf => ?_)
  · exact ev_sts 4 (c2 := (34, [.ref 63, .int x1, .int ((-1 : Int32)), .int ((0 : Int32))], [], S4, 0)) rfl (f_X10_leave_b34_ok _ hf)
  · refine ev_sts 1 (c2 := (29, [.ref 63, .int x1, mK, mK], [.int ((0 : Int32))], S4, 0)) rfl ?_
    exact ev_ret hf rfl rfl
theorem f_X10_leave_ok {d F : Nat} {p1 : Int32} {S : mS} {r : mR} (hf : f_X10_leave F p1 S = some r) : Ev (d + 3) Mx262 (entry Mx262 [.ref 63, .int p1] S) r := by
  unfold f_X10_leave at hf
  refine ev_sts 3 (c2 := (5, [.ref 63, .int p1, mK, mK], [], (upS S 63 0 ((0 : Int32))), 0)) rfl ?_
  refine ev_let (P := fun S1 => Ev (d + 3) Mx262 (5, [.ref 63, .int p1, mK, mK], [], S1, 0) r) (fun S1 hf => ?_) hf
  refine ev_sts 4 (c2 := (10, [.ref 63, .int p1, mK, mK], [.int ((90 : Int32)), .int ((0 : Int32)), .int p1, .ref 63], S1, 0)) rfl ?_
  refine ev_bI0 (d := d + 2) (M' := Mx156) (ct := (13, [.ref 63, .int p1, mK, mK], [.ref 63], S1, 0)) hf rfl rfl rfl rfl (fun r9 h9 => f_X10_in_ok (d := d + 2) h9) (fun r3 S2 hf => ?_)
  show Ev (d + 3) Mx262 (13, [.ref 63, .int p1, mK, mK], [.int r3, .ref 63], S2, 0) r
  refine ev_if (c1 := (20, [.ref 63, .int p1, mK, mK], [.ref 63], S2, 0)) (c2 := (16, [.ref 63, .int p1, mK, mK], [.ref 63], S2, 0)) hf rfl rfl (fun _ hf => ?_) (fun _ hf => ?_)
  · exact ev_sts 1 (c2 := (21, [.ref 63, .int p1, mK, mK], [.int ((0 : Int32)), .ref 63], S2, 0)) rfl (f_X10_leave_b21_ok hf)
  · exact ev_sts 2 (c2 := (21, [.ref 63, .int p1, mK, mK], [.int ((1 : Int32)), .ref 63], S2, 0)) rfl (f_X10_leave_b21_ok hf)
def f_X10_ofLog (p1 : Int32) (p2 : Int32) (S : mS) : Option mR := gd (inb ((((87 : Int32)) + (((6 : Int32)) * p1)) + p2) 2145) (some (.inl (some (.int (S 64 ((((87 : Int32)) + (((6 : Int32)) * p1)) + p2).toNatClampNeg))), S))
theorem f_X10_ofLog_ok {d : Nat} {p1 : Int32} {p2 : Int32} {S : mS} {r : mR} (hf : f_X10_ofLog p1 p2 S = some r) : Ev (d) Mx276 (entry Mx276 [.ref 63, .int p1, .int p2] S) r := by
  unfold f_X10_ofLog at hf
  refine ev_sts 9 (c2 := (13, [.ref 63, .int p1, .int p2], [.int ((((87 : Int32)) + (((6 : Int32)) * p1)) + p2), .ref 64], S, 0)) rfl ?_
  refine ev_gd (c1 := (14, [.ref 63, .int p1, .int p2], [.int (S 64 ((((87 : Int32)) + (((6 : Int32)) * p1)) + p2).toNatClampNeg)], S, 0)) hf rfl rfl (fun hf => ?_)
  exact ev_ret hf rfl rfl
def f_X10_loggedOf_b50 (K6 : Int32 → Int32 → Int32 → Int32 → Int32 → mS → Option mR) (F : Nat) (x1 : Int32) (x2 : Int32) (x3 : Int32) (x5 : Int32) (t1 : Int32) (t0 : Int32) (S : mS) : Option mR := bnd (t0 + t1 : Int32) (fun y3 => K6 x1 x2 x3 y3 (x5 + (1 : Int32)) S)
def f_X10_loggedOf_b6 (F : Nat) : Nat → Int32 → Int32 → Int32 → Int32 → Int32 → mS → Option mR
  | 0, _, _, _, _, _, _ => none
  | n + 1, x1, x2, x3, x4, x5, S => gd (inb ((15 : Int32)) 2145) ((if (S 64 ((15 : Int32)).toNatClampNeg) ≤ x5 then some (.inl (some (.int x4)), S) else bI0 (f_X10_ofLog x5 x1 S) (fun r2 S1 => (if r2 = x2 then (if x3 = 0 then f_X10_loggedOf_b50 (fun x1 x2 x3 x4 x5 S => f_X10_loggedOf_b6 F n x1 x2 x3 x4 x5 S) F x1 x2 x3 x5 ((1 : Int32)) x4 S1 else bI0 (f_X10_ofLog x5 ((3 : Int32)) S1) (fun r5 S4 => f_X10_loggedOf_b50 (fun x1 x2 x3 x4 x5 S => f_X10_loggedOf_b6 F n x1 x2 x3 x4 x5 S) F x1 x2 x3 x5 r5 x4 S4)) else f_X10_loggedOf_b50 (fun x1 x2 x3 x4 x5 S => f_X10_loggedOf_b6 F n x1 x2 x3 x4 x5 S) F x1 x2 x3 x5 ((0 : Int32)) x4 S1))))
def f_X10_loggedOf (F : Nat) (p1 : Int32) (p2 : Int32) (p3 : Int32) (S : mS) : Option mR := f_X10_loggedOf_b6 F F p1 p2 p3 ((0 : Int32)) ((0 : Int32)) S
theorem f_X10_loggedOf_b50_ok {d F : Nat} {K6 : Int32 → Int32 → Int32 → Int32 → Int32 → mS → Option mR} (hK6 : ∀ {x1 : Int32} {x2 : Int32} {x3 : Int32} {x4 : Int32} {x5 : Int32} {S : mS} {r : mR}, K6 x1 x2 x3 x4 x5 S = some r → Ev (d + 1) Mx277 (6, [.ref 63, .int x1, .int x2, .int x3, .int x4, .int x5], [], S, 0) r) {x1 : Int32} {x2 : Int32} {x3 : Int32} {x5 : Int32} {t1 : Int32} {t0 : Int32} {S : mS} {r : mR} (hf : f_X10_loggedOf_b50 K6 F x1 x2 x3 x5 t1 t0 S = some r) : Ev (d + 1) Mx277 (50, [.ref 63, .int x1, .int x2, .int x3, mK, .int x5], [.int t1, .int t0], S, 0) r := by
  unfold f_X10_loggedOf_b50 at hf
  refine ev_sts 2 (c2 := (53, [.ref 63, .int x1, .int x2, .int x3, .int (t0 + t1), .int x5], [], S, 0)) rfl ?_
  refine ev_let (P := fun y3 => Ev (d + 1) Mx277 (53, [.ref 63, .int x1, .int x2, .int x3, .int y3, .int x5], [], S, 0) r) (fun y3 hf => ?_) hf
  exact ev_sts 2 (c2 := (6, [.ref 63, .int x1, .int x2, .int x3, .int y3, .int (x5 + (1 : Int32))], [], S, 0)) rfl (hK6 hf)
theorem f_X10_loggedOf_b6_ok {d F : Nat} : ∀ (n : Nat) {x1 : Int32} {x2 : Int32} {x3 : Int32} {x4 : Int32} {x5 : Int32} {S : mS} {r : mR}, f_X10_loggedOf_b6 F n x1 x2 x3 x4 x5 S = some r → Ev (d + 1) Mx277 (6, [.ref 63, .int x1, .int x2, .int x3, .int x4, .int x5], [], S, 0) r := by
  intro n
  induction n with
  | zero => intro x1 x2 x3 x4 x5 S r hf; cases hf
  | succ n ih =>
    intro x1 x2 x3 x4 x5 S r hf
    rw [f_X10_loggedOf_b6] at hf
    refine ev_sts 4 (c2 := (14, [.ref 63, .int x1, .int x2, .int x3, .int x4, .int x5], [.int ((15 : Int32)), .ref 64, .int x5], S, 0)) rfl ?_
    refine ev_gd (c1 := (15, [.ref 63, .int x1, .int x2, .int x3, .int x4, .int x5], [.int (S 64 ((15 : Int32)).toNatClampNeg), .int x5], S, 0)) hf rfl rfl (fun hf => ?_)
    refine ev_if (c1 := (59, [.ref 63, .int x1, .int x2, .int x3, .int x4, .int x5], [], S, 0)) (c2 := (18, [.ref 63, .int x1, .int x2, .int x3, .int x4, .int x5], [], S, 0)) hf rfl rfl (fun _ hf => ?_) (fun _ hf => ?_)
    · refine ev_sts 1 (c2 := (61, [.ref 63, .int x1, .int x2, .int x3, .int x4, .int x5], [.int x4], S, 0)) rfl ?_
      exact ev_ret hf rfl rfl
    · refine ev_sts 4 (c2 := (24, [.ref 63, .int x1, .int x2, .int x3, .int x4, .int x5], [.int x1, .int x5, .ref 63, .int x4], S, 0)) rfl ?_
      refine ev_bI0 (d := d) (M' := Mx276) (ct := (27, [.ref 63, .int x1, .int x2, .int x3, .int x4, .int x5], [.int x4], S, 0)) hf rfl rfl rfl rfl (fun r9 h9 => f_X10_ofLog_ok (d := d) h9) (fun r2 S1 hf => ?_)
      show Ev (d + 1) Mx277 (27, [.ref 63, .int x1, .int x2, .int x3, .int x4, .int x5], [.int r2, .int x4], S1, 0) r
      refine ev_sts 1 (c2 := (28, [.ref 63, .int x1, .int x2, .int x3, .int x4, .int x5], [.int x2, .int r2, .int x4], S1, 0)) rfl ?_
      refine ev_if (c1 := (35, [.ref 63, .int x1, .int x2, .int x3, .int x4, .int x5], [.int x4], S1, 0)) (c2 := (31, [.ref 63, .int x1, .int x2, .int x3, .int x4, .int x5], [.int x4], S1, 0)) hf rfl rfl (fun _ hf => ?_) (fun _ hf => ?_)
      · refine ev_sts 1 (c2 := (36, [.ref 63, .int x1, .int x2, .int x3, .int x4, .int x5], [.int x3, .int x4], S1, 0)) rfl ?_
        refine ev_if (c1 := (49, [.ref 63, .int x1, .int x2, .int x3, .int x4, .int x5], [.int x4], S1, 0)) (c2 := (39, [.ref 63, .int x1, .int x2, .int x3, .int x4, .int x5], [.int x4], S1, 0)) hf rfl rfl (fun _ hf => ?_) (fun _ hf => ?_)
        · exact ev_sts 1 (c2 := (50, [.ref 63, .int x1, .int x2, .int x3, mK, .int x5], [.int ((1 : Int32)), .int x4], S1, 0)) rfl (f_X10_loggedOf_b50_ok (fun h9 => ih h9) hf)
        · refine ev_sts 3 (c2 := (43, [.ref 63, .int x1, .int x2, .int x3, .int x4, .int x5], [.int ((3 : Int32)), .int x5, .ref 63, .int x4], S1, 0)) rfl ?_
          refine ev_bI0 (d := d) (M' := Mx276) (ct := (46, [.ref 63, .int x1, .int x2, .int x3, .int x4, .int x5], [.int x4], S1, 0)) hf rfl rfl rfl rfl (fun r9 h9 => f_X10_ofLog_ok (d := d) h9) (fun r5 S4 hf => ?_)
          show Ev (d + 1) Mx277 (46, [.ref 63, .int x1, .int x2, .int x3, .int x4, .int x5], [.int r5, .int x4], S4, 0) r
          exact ev_sts 1 (c2 := (50, [.ref 63, .int x1, .int x2, .int x3, mK, .int x5], [.int r5, .int x4], S4, 0)) rfl (f_X10_loggedOf_b50_ok (fun h9 => ih h9) hf)
      · exact ev_sts 2 (c2 := (50, [.ref 63, .int x1, .int x2, .int x3, mK, .int x5], [.int ((0 : Int32)), .int x4], S1, 0)) rfl (f_X10_loggedOf_b50_ok (fun h9 => ih h9) hf)
theorem f_X10_loggedOf_ok {d F : Nat} {p1 : Int32} {p2 : Int32} {p3 : Int32} {S : mS} {r : mR} (hf : f_X10_loggedOf F p1 p2 p3 S = some r) : Ev (d + 1) Mx277 (entry Mx277 [.ref 63, .int p1, .int p2, .int p3] S) r := by
  unfold f_X10_loggedOf at hf
  exact ev_sts 4 (c2 := (6, [.ref 63, .int p1, .int p2, .int p3, .int ((0 : Int32)), .int ((0 : Int32))], [], S, 0)) rfl (f_X10_loggedOf_b6_ok _ hf)
def f_X10_led_b29 (F : Nat) (t0 : Int32) (S : mS) : Option mR := some (.inl (some (.int t0)), S)
def f_X10_led (F : Nat) (p1 : Int32) (p2 : Int32) (S : mS) : Option mR := bnd (upS S 63 0 ((0 : Int32))) (fun S1 => bI0 (f_X10_noLedge p1 S1) (fun r3 S2 => bI0 (f_X10_throwsIf r3 ((1 : Int32)) S2) (fun r5 S4 => (if r5 = 0 then bI0 (f_X10_loggedOf F ((2 : Int32)) p1 p2 S4) (fun r7 S6 => f_X10_led_b29 F r7 S6) else f_X10_led_b29 F ((0 : Int32)) S4))))
theorem f_X10_led_b29_ok {d F : Nat} {t0 : Int32} {S : mS} {r : mR} (hf : f_X10_led_b29 F t0 S = some r) : Ev (d + 2) Mx278 (29, [mK, mK, mK], [.int t0], S, 0) r := by
  unfold f_X10_led_b29 at hf
  exact ev_ret hf rfl rfl
theorem f_X10_led_ok {d F : Nat} {p1 : Int32} {p2 : Int32} {S : mS} {r : mR} (hf : f_X10_led F p1 p2 S = some r) : Ev (d + 2) Mx278 (entry Mx278 [.ref 63, .int p1, .int p2] S) r := by
  unfold f_X10_led at hf
  refine ev_sts 3 (c2 := (5, [.ref 63, .int p1, .int p2], [], (upS S 63 0 ((0 : Int32))), 0)) rfl ?_
  refine ev_let (P := fun S1 => Ev (d + 2) Mx278 (5, [.ref 63, .int p1, .int p2], [], S1, 0) r) (fun S1 hf => ?_) hf
  refine ev_sts 3 (c2 := (8, [.ref 63, .int p1, .int p2], [.int p1, .ref 63, .ref 63], S1, 0)) rfl ?_
  refine ev_bI0 (d := d + 1) (M' := Mx169) (ct := (11, [.ref 63, .int p1, .int p2], [.ref 63], S1, 0)) hf rfl rfl rfl rfl (fun r9 h9 => f_X10_noLedge_ok (d := d) h9) (fun r3 S2 hf => ?_)
  show Ev (d + 2) Mx278 (11, [.ref 63, .int p1, .int p2], [.int r3, .ref 63], S2, 0) r
  refine ev_sts 1 (c2 := (12, [.ref 63, .int p1, .int p2], [.int ((1 : Int32)), .int r3, .ref 63], S2, 0)) rfl ?_
  refine ev_bI0 (d := d + 1) (M' := Mx155) (ct := (15, [.ref 63, .int p1, .int p2], [], S2, 0)) hf rfl rfl rfl rfl (fun r9 h9 => f_X10_throwsIf_ok (d := d + 1) h9) (fun r5 S4 hf => ?_)
  show Ev (d + 2) Mx278 (15, [.ref 63, .int p1, .int p2], [.int r5], S4, 0) r
  refine ev_if (c1 := (22, [.ref 63, .int p1, .int p2], [], S4, 0)) (c2 := (18, [.ref 63, .int p1, .int p2], [], S4, 0)) hf rfl rfl (fun _ hf => ?_) (fun _ hf => ?_)
  · refine ev_sts 4 (c2 := (26, [.ref 63, .int p1, .int p2], [.int p2, .int p1, .int ((2 : Int32)), .ref 63], S4, 0)) rfl ?_
    refine ev_bI0 (d := d + 1) (M' := Mx277) (ct := (29, [mK, mK, mK], [], S4, 0)) hf rfl rfl rfl rfl (fun r9 h9 => f_X10_loggedOf_ok (d := d) h9) (fun r7 S6 hf => ?_)
    show Ev (d + 2) Mx278 (29, [mK, mK, mK], [.int r7], S6, 0) r
    exact f_X10_led_b29_ok hf
  · exact ev_sts 2 (c2 := (29, [mK, mK, mK], [.int ((0 : Int32))], S4, 0)) rfl (f_X10_led_b29_ok hf)
def f_X10_nextTo_b58 (K9 : Int32 → Int32 → Int32 → Int32 → mS → Option mR) (F : Nat) (x1 : Int32) (x2 : Int32) (x3 : Int32) (x4 : Int32) (S : mS) : Option mR := K9 x1 x2 x3 (x4 + (1 : Int32)) S
def f_X10_nextTo_b9 (F : Nat) : Nat → Int32 → Int32 → Int32 → Int32 → mS → Option mR
  | 0, _, _, _, _, _ => none
  | n + 1, x1, x2, x3, x4, S => bI0 (f_X10_ledges S) (fun r2 S1 => (if r2 ≤ x4 then some (.inl (some (.int x2)), S1) else bI0 (f_X10_of x4 ((0 : Int32)) S1) (fun r4 S3 => bI0 (f_X10_of x1 ((0 : Int32)) S3) (fun r6 S5 => bnd (if 0 ≤ (r4 - r6) then (r4 - r6) else 0 - (r4 - r6) : Int32) (fun y7 => (if x4 = x1 then f_X10_nextTo_b58 (fun x1 x2 x3 x4 S => f_X10_nextTo_b9 F n x1 x2 x3 x4 S) F x1 x2 x3 x4 S5 else (if y7 < x3 then f_X10_nextTo_b58 (fun x1 x2 x3 x4 S => f_X10_nextTo_b9 F n x1 x2 x3 x4 S) F x1 x4 y7 x4 S5 else f_X10_nextTo_b58 (fun x1 x2 x3 x4 S => f_X10_nextTo_b9 F n x1 x2 x3 x4 S) F x1 x2 x3 x4 S5)))))))
def f_X10_nextTo (F : Nat) (p1 : Int32) (S : mS) : Option mR := f_X10_nextTo_b9 F F p1 ((-1 : Int32)) ((1000000 : Int32)) ((0 : Int32)) S
theorem f_X10_nextTo_b58_ok {d F : Nat} {K9 : Int32 → Int32 → Int32 → Int32 → mS → Option mR} (hK9 : ∀ {x1 : Int32} {x2 : Int32} {x3 : Int32} {x4 : Int32} {S : mS} {r : mR}, K9 x1 x2 x3 x4 S = some r → Ev (d + 2) Mx213 (9, [.ref 63, .int x1, .int x2, .int x3, .int x4, mK], [], S, 0) r) {x1 : Int32} {x2 : Int32} {x3 : Int32} {x4 : Int32} {S : mS} {r : mR} (hf : f_X10_nextTo_b58 K9 F x1 x2 x3 x4 S = some r) : Ev (d + 2) Mx213 (58, [.ref 63, .int x1, .int x2, .int x3, .int x4, mK], [], S, 0) r := by
  unfold f_X10_nextTo_b58 at hf
  exact ev_sts 2 (c2 := (9, [.ref 63, .int x1, .int x2, .int x3, .int (x4 + (1 : Int32)), mK], [], S, 0)) rfl (hK9 hf)
theorem f_X10_nextTo_b9_ok {d F : Nat} : ∀ (n : Nat) {x1 : Int32} {x2 : Int32} {x3 : Int32} {x4 : Int32} {S : mS} {r : mR}, f_X10_nextTo_b9 F n x1 x2 x3 x4 S = some r → Ev (d + 2) Mx213 (9, [.ref 63, .int x1, .int x2, .int x3, .int x4, mK], [], S, 0) r := by
  intro n
  induction n with
  | zero => intro x1 x2 x3 x4 S r hf; cases hf
  | succ n ih =>
    intro x1 x2 x3 x4 S r hf
    rw [f_X10_nextTo_b9] at hf
    refine ev_sts 2 (c2 := (12, [.ref 63, .int x1, .int x2, .int x3, .int x4, mK], [.ref 63, .int x4], S, 0)) rfl ?_
    refine ev_bI0 (d := d + 1) (M' := Mx162) (ct := (15, [.ref 63, .int x1, .int x2, .int x3, .int x4, mK], [.int x4], S, 0)) hf rfl rfl rfl rfl (fun r9 h9 => f_X10_ledges_ok (d := d + 1) h9) (fun r2 S1 hf => ?_)
    show Ev (d + 2) Mx213 (15, [.ref 63, .int x1, .int x2, .int x3, .int x4, mK], [.int r2, .int x4], S1, 0) r
    refine ev_if (c1 := (64, [.ref 63, .int x1, .int x2, .int x3, .int x4, mK], [], S1, 0)) (c2 := (18, [.ref 63, .int x1, .int x2, .int x3, .int x4, mK], [], S1, 0)) hf rfl rfl (fun _ hf => ?_) (fun _ hf => ?_)
    · refine ev_sts 1 (c2 := (65, [.ref 63, .int x1, .int x2, .int x3, .int x4, mK], [.int x2], S1, 0)) rfl ?_
      exact ev_ret hf rfl rfl
    · refine ev_sts 3 (c2 := (22, [.ref 63, .int x1, .int x2, .int x3, .int x4, mK], [.int ((0 : Int32)), .int x4, .ref 63], S1, 0)) rfl ?_
      refine ev_bI0 (d := d + 1) (M' := Mx166) (ct := (25, [.ref 63, .int x1, .int x2, .int x3, .int x4, mK], [], S1, 0)) hf rfl rfl rfl rfl (fun r9 h9 => f_X10_of_ok (d := d) h9) (fun r4 S3 hf => ?_)
      show Ev (d + 2) Mx213 (25, [.ref 63, .int x1, .int x2, .int x3, .int x4, mK], [.int r4], S3, 0) r
      refine ev_sts 3 (c2 := (28, [.ref 63, .int x1, .int x2, .int x3, .int x4, mK], [.int ((0 : Int32)), .int x1, .ref 63, .int r4], S3, 0)) rfl ?_
      refine ev_bI0 (d := d + 1) (M' := Mx166) (ct := (31, [.ref 63, .int x1, .int x2, .int x3, .int x4, mK], [.int r4], S3, 0)) hf rfl rfl rfl rfl (fun r9 h9 => f_X10_of_ok (d := d) h9) (fun r6 S5 hf => ?_)
      show Ev (d + 2) Mx213 (31, [.ref 63, .int x1, .int x2, .int x3, .int x4, mK], [.int r6, .int r4], S5, 0) r
      refine ev_sts 3 (c2 := (37, [.ref 63, .int x1, .int x2, .int x3, .int x4, .int (if 0 ≤ (r4 - r6) then (r4 - r6) else 0 - (r4 - r6))], [], S5, 0)) rfl ?_
      refine ev_let (P := fun y7 => Ev (d + 2) Mx213 (37, [.ref 63, .int x1, .int x2, .int x3, .int x4, .int y7], [], S5, 0) r) (fun y7 hf => ?_) hf
      refine ev_sts 2 (c2 := (40, [.ref 63, .int x1, .int x2, .int x3, .int x4, .int y7], [.int x1, .int x4], S5, 0)) rfl ?_
      refine ev_if (c1 := (58, [.ref 63, .int x1, .int x2, .int x3, .int x4, mK], [], S5, 0)) (c2 := (43, [.ref 63, .int x1, .int x2, .int x3, .int x4, .int y7], [], S5, 0)) hf rfl rfl (fun _ hf => ?_) (fun _ hf => ?_)
      · exact f_X10_nextTo_b58_ok (fun h9 => ih h9) hf
      · refine ev_sts 2 (c2 := (46, [.ref 63, .int x1, .int x2, .int x3, .int x4, .int y7], [.int x3, .int y7], S5, 0)) rfl ?_
        refine ev_if (c1 := (52, [.ref 63, .int x1, .int x2, .int x3, .int x4, .int y7], [], S5, 0)) (c2 := (49, [.ref 63, .int x1, .int x2, .int x3, .int x4, .int y7], [], S5, 0)) hf rfl rfl (fun _ hf => ?_) (fun _ hf => ?_)
        · exact ev_sts 4 (c2 := (58, [.ref 63, .int x1, .int x4, .int y7, .int x4, mK], [], S5, 0)) rfl (f_X10_nextTo_b58_ok (fun h9 => ih h9) hf)
        · exact ev_sts 1 (c2 := (58, [.ref 63, .int x1, .int x2, .int x3, .int x4, mK], [], S5, 0)) rfl (f_X10_nextTo_b58_ok (fun h9 => ih h9) hf)
theorem f_X10_nextTo_ok {d F : Nat} {p1 : Int32} {S : mS} {r : mR} (hf : f_X10_nextTo F p1 S = some r) : Ev (d + 2) Mx213 (entry Mx213 [.ref 63, .int p1] S) r := by
  unfold f_X10_nextTo at hf
  exact ev_sts 6 (c2 := (9, [.ref 63, .int p1, .int ((-1 : Int32)), .int ((1000000 : Int32)), .int ((0 : Int32)), mK], [], S, 0)) rfl (f_X10_nextTo_b9_ok _ hf)
def f_X10_windsTo_b27 (K4 : Int32 → Int32 → Int32 → mS → Option mR) (F : Nat) (x1 : Int32) (x3 : Int32) (t1 : Int32) (t0 : Int32) (S : mS) : Option mR := bnd (t0 ||| t1 : Int32) (fun y3 => K4 x1 y3 (x3 + (1 : Int32)) S)
def f_X10_windsTo_b4 (F : Nat) : Nat → Int32 → Int32 → Int32 → mS → Option mR
  | 0, _, _, _, _ => none
  | n + 1, x1, x2, x3, S => (if ((10 : Int32)) ≤ x3 then some (.inl (some (.int x2)), S) else bI0 (f_X10_kicksTo F x1 x3 S) (fun r2 S1 => (if r2 < 0 then f_X10_windsTo_b27 (fun x1 x2 x3 S => f_X10_windsTo_b4 F n x1 x2 x3 S) F x1 x3 ((0 : Int32)) x2 S1 else f_X10_windsTo_b27 (fun x1 x2 x3 S => f_X10_windsTo_b4 F n x1 x2 x3 S) F x1 x3 (((1 : Int32)) <<< (x3 &&& 31)) x2 S1)))
def f_X10_windsTo (F : Nat) (p1 : Int32) (S : mS) : Option mR := f_X10_windsTo_b4 F F p1 ((0 : Int32)) ((0 : Int32)) S
theorem f_X10_windsTo_b27_ok {d F : Nat} {K4 : Int32 → Int32 → Int32 → mS → Option mR} (hK4 : ∀ {x1 : Int32} {x2 : Int32} {x3 : Int32} {S : mS} {r : mR}, K4 x1 x2 x3 S = some r → Ev (d + 9) Mx212 (4, [.ref 63, .int x1, .int x2, .int x3], [], S, 0) r) {x1 : Int32} {x3 : Int32} {t1 : Int32} {t0 : Int32} {S : mS} {r : mR} (hf : f_X10_windsTo_b27 K4 F x1 x3 t1 t0 S = some r) : Ev (d + 9) Mx212 (27, [.ref 63, .int x1, mK, .int x3], [.int t1, .int t0], S, 0) r := by
  unfold f_X10_windsTo_b27 at hf
  refine ev_sts 2 (c2 := (29, [.ref 63, .int x1, .int (t0 ||| t1), .int x3], [], S, 0)) rfl ?_
  refine ev_let (P := fun y3 => Ev (d + 9) Mx212 (29, [.ref 63, .int x1, .int y3, .int x3], [], S, 0) r) (fun y3 hf => ?_) hf
  exact ev_sts 2 (c2 := (4, [.ref 63, .int x1, .int y3, .int (x3 + (1 : Int32))], [], S, 0)) rfl (hK4 hf)
theorem f_X10_windsTo_b4_ok {d F : Nat} : ∀ (n : Nat) {x1 : Int32} {x2 : Int32} {x3 : Int32} {S : mS} {r : mR}, f_X10_windsTo_b4 F n x1 x2 x3 S = some r → Ev (d + 9) Mx212 (4, [.ref 63, .int x1, .int x2, .int x3], [], S, 0) r := by
  intro n
  induction n with
  | zero => intro x1 x2 x3 S r hf; cases hf
  | succ n ih =>
    intro x1 x2 x3 S r hf
    rw [f_X10_windsTo_b4] at hf
    refine ev_sts 2 (c2 := (7, [.ref 63, .int x1, .int x2, .int x3], [.int ((10 : Int32)), .int x3], S, 0)) rfl ?_
    refine ev_if (c1 := (35, [.ref 63, .int x1, .int x2, .int x3], [], S, 0)) (c2 := (10, [.ref 63, .int x1, .int x2, .int x3], [], S, 0)) hf rfl rfl (fun _ hf => ?_) (fun _ hf => ?_)
    · refine ev_sts 1 (c2 := (36, [.ref 63, .int x1, .int x2, .int x3], [.int x2], S, 0)) rfl ?_
      exact ev_ret hf rfl rfl
    · refine ev_sts 4 (c2 := (14, [.ref 63, .int x1, .int x2, .int x3], [.int x3, .int x1, .ref 63, .int x2], S, 0)) rfl ?_
      refine ev_bI0 (d := d + 8) (M' := Mx209) (ct := (17, [.ref 63, .int x1, .int x2, .int x3], [.int x2], S, 0)) hf rfl rfl rfl rfl (fun r9 h9 => f_X10_kicksTo_ok (d := d) h9) (fun r2 S1 hf => ?_)
      show Ev (d + 9) Mx212 (17, [.ref 63, .int x1, .int x2, .int x3], [.int r2, .int x2], S1, 0) r
      refine ev_if (c1 := (26, [.ref 63, .int x1, .int x2, .int x3], [.int x2], S1, 0)) (c2 := (20, [.ref 63, .int x1, .int x2, .int x3], [.int x2], S1, 0)) hf rfl rfl (fun _ hf => ?_) (fun _ hf => ?_)
      · exact ev_sts 1 (c2 := (27, [.ref 63, .int x1, mK, .int x3], [.int ((0 : Int32)), .int x2], S1, 0)) rfl (f_X10_windsTo_b27_ok (fun h9 => ih h9) hf)
      · exact ev_sts 4 (c2 := (27, [.ref 63, .int x1, mK, .int x3], [.int (((1 : Int32)) <<< (x3 &&& 31)), .int x2], S1, 0)) rfl (f_X10_windsTo_b27_ok (fun h9 => ih h9) hf)
theorem f_X10_windsTo_ok {d F : Nat} {p1 : Int32} {S : mS} {r : mR} (hf : f_X10_windsTo F p1 S = some r) : Ev (d + 9) Mx212 (entry Mx212 [.ref 63, .int p1] S) r := by
  unfold f_X10_windsTo at hf
  exact ev_sts 4 (c2 := (4, [.ref 63, .int p1, .int ((0 : Int32)), .int ((0 : Int32))], [], S, 0)) rfl (f_X10_windsTo_b4_ok _ hf)
def f_X10_ledge_b41 (F : Nat) (S : mS) : Option mR := some (.inl (some (.int ((0 : Int32)))), S)
def f_X10_ledge_b34 (F : Nat) (x1 : Int32) (x2 : Int32) (t1 : Int32) (S : mS) : Option mR := bI0 (f_X10_throwsIf t1 ((2 : Int32)) S) (fun r9 S8 => (if r9 = 0 then (if x2 = (5 : Int32) then gd (inb ((6 : Int32)) 2145) (bI0 (f_X10_laysOf F x1 (S8 64 ((6 : Int32)).toNatClampNeg) S8) (fun r12 S11 => some (.inl (some (.int r12)), S11))) else if x2 = (6 : Int32) then bI0 (f_X10_windsTo F x1 S8) (fun r15 S14 => some (.inl (some (.int r15)), S14)) else if x2 = (7 : Int32) then bI0 (f_X10_nextTo F x1 S8) (fun r18 S17 => some (.inl (some (.int r18)), S17)) else bI0 (f_X10_of x1 x2 S8) (fun r20 S19 => some (.inl (some (.int r20)), S19))) else f_X10_ledge_b41 F S8))
def f_X10_ledge (F : Nat) (p1 : Int32) (p2 : Int32) (S : mS) : Option mR := bnd (upS S 63 0 ((0 : Int32))) (fun S1 => bI0 (f_X10_noLedge p1 S1) (fun r3 S2 => bI0 (f_X10_throwsIf r3 ((1 : Int32)) S2) (fun r5 S4 => (if ¬ r5 = 0 then f_X10_ledge_b41 F S4 else bI0 (f_X10_in p2 ((0 : Int32)) ((7 : Int32)) S4) (fun r7 S6 => (if ¬ r7 = 0 then f_X10_ledge_b34 F p1 p2 ((0 : Int32)) S6 else f_X10_ledge_b34 F p1 p2 ((1 : Int32)) S6))))))
theorem f_X10_ledge_b41_ok {d F : Nat} {S : mS} {r : mR} (hf : f_X10_ledge_b41 F  S = some r) : Ev (d + 10) Mx214 (41, [mK, mK, mK], [], S, 0) r := by
  unfold f_X10_ledge_b41 at hf
  refine ev_sts 1 (c2 := (42, [mK, mK, mK], [.int ((0 : Int32))], S, 0)) rfl ?_
  exact ev_ret hf rfl rfl
theorem f_X10_ledge_b34_ok {d F : Nat} {x1 : Int32} {x2 : Int32} {t1 : Int32} {S : mS} {r : mR} (hf : f_X10_ledge_b34 F x1 x2 t1 S = some r) : Ev (d + 10) Mx214 (34, [.ref 63, .int x1, .int x2], [.int t1, .ref 63], S, 0) r := by
  unfold f_X10_ledge_b34 at hf
  refine ev_sts 1 (c2 := (35, [.ref 63, .int x1, .int x2], [.int ((2 : Int32)), .int t1, .ref 63], S, 0)) rfl ?_
  refine ev_bI0 (d := d + 9) (M' := Mx155) (ct := (38, [.ref 63, .int x1, .int x2], [], S, 0)) hf rfl rfl rfl rfl (fun r9 h9 => f_X10_throwsIf_ok (d := d + 9) h9) (fun r9 S8 hf => ?_)
  show Ev (d + 10) Mx214 (38, [.ref 63, .int x1, .int x2], [.int r9], S8, 0) r
  refine ev_if (c1 := (43, [.ref 63, .int x1, .int x2], [], S8, 0)) (c2 := (41, [mK, mK, mK], [], S8, 0)) hf rfl rfl (fun _ hf => ?_) (fun _ hf => ?_)
  · refine ev_sts 1 (c2 := (44, [.ref 63, .int x1, .int x2], [.int x2], S8, 0)) rfl ?_
    rcases ite_or hf with ⟨h9, hf⟩ | ⟨h9, hf⟩
    · refine ev_sw (l2 := [.ref 63, .int x1, .int x2]) (st2 := []) (msw_p h9) rfl rfl ?_
      show Ev (d + 10) Mx214 (72, [.ref 63, .int x1, .int x2], [], S8, 0) r
      refine ev_sts 5 (c2 := (80, [.ref 63, .int x1, .int x2], [.int ((6 : Int32)), .ref 64, .int x1, .ref 63], S8, 0)) rfl ?_
      refine ev_gd (c1 := (81, [.ref 63, .int x1, .int x2], [.int (S8 64 ((6 : Int32)).toNatClampNeg), .int x1, .ref 63], S8, 0)) hf rfl rfl (fun hf => ?_)
      refine ev_bI0 (d := d + 9) (M' := Mx211) (ct := (84, [.ref 63, .int x1, .int x2], [], S8, 0)) hf rfl rfl rfl rfl (fun r9 h9 => f_X10_laysOf_ok (d := d + 3) h9) (fun r12 S11 hf => ?_)
      show Ev (d + 10) Mx214 (84, [.ref 63, .int x1, .int x2], [.int r12], S11, 0) r
      exact ev_ret hf rfl rfl
    rcases ite_or hf with ⟨h12, hf⟩ | ⟨h12, hf⟩
    · refine ev_sw (l2 := [.ref 63, .int x1, .int x2]) (st2 := []) (msw_n h9 (msw_p h12)) rfl rfl ?_
      show Ev (d + 10) Mx214 (85, [.ref 63, .int x1, .int x2], [], S8, 0) r
      refine ev_sts 2 (c2 := (87, [.ref 63, .int x1, .int x2], [.int x1, .ref 63], S8, 0)) rfl ?_
      refine ev_bI0 (d := d + 9) (M' := Mx212) (ct := (90, [.ref 63, .int x1, .int x2], [], S8, 0)) hf rfl rfl rfl rfl (fun r9 h9 => f_X10_windsTo_ok (d := d) h9) (fun r15 S14 hf => ?_)
      show Ev (d + 10) Mx214 (90, [.ref 63, .int x1, .int x2], [.int r15], S14, 0) r
      exact ev_ret hf rfl rfl
    rcases ite_or hf with ⟨h15, hf⟩ | ⟨h15, hf⟩
    · refine ev_sw (l2 := [.ref 63, .int x1, .int x2]) (st2 := []) (msw_n h9 (msw_n h12 (msw_p h15))) rfl rfl ?_
      show Ev (d + 10) Mx214 (91, [.ref 63, .int x1, .int x2], [], S8, 0) r
      refine ev_sts 2 (c2 := (93, [.ref 63, .int x1, .int x2], [.int x1, .ref 63], S8, 0)) rfl ?_
      refine ev_bI0 (d := d + 9) (M' := Mx213) (ct := (96, [.ref 63, .int x1, .int x2], [], S8, 0)) hf rfl rfl rfl rfl (fun r9 h9 => f_X10_nextTo_ok (d := d + 7) h9) (fun r18 S17 hf => ?_)
      show Ev (d + 10) Mx214 (96, [.ref 63, .int x1, .int x2], [.int r18], S17, 0) r
      exact ev_ret hf rfl rfl
    refine ev_sw (l2 := [.ref 63, .int x1, .int x2]) (st2 := []) (msw_n h9 (msw_n h12 (msw_n h15 rfl))) rfl rfl ?_
    show Ev (d + 10) Mx214 (97, [.ref 63, .int x1, .int x2], [], S8, 0) r
    refine ev_sts 3 (c2 := (100, [.ref 63, .int x1, .int x2], [.int x2, .int x1, .ref 63], S8, 0)) rfl ?_
    refine ev_bI0 (d := d + 9) (M' := Mx166) (ct := (103, [.ref 63, .int x1, .int x2], [], S8, 0)) hf rfl rfl rfl rfl (fun r9 h9 => f_X10_of_ok (d := d + 8) h9) (fun r20 S19 hf => ?_)
    show Ev (d + 10) Mx214 (103, [.ref 63, .int x1, .int x2], [.int r20], S19, 0) r
    exact ev_ret hf rfl rfl
  · exact f_X10_ledge_b41_ok hf
theorem f_X10_ledge_ok {d F : Nat} {p1 : Int32} {p2 : Int32} {S : mS} {r : mR} (hf : f_X10_ledge F p1 p2 S = some r) : Ev (d + 10) Mx214 (entry Mx214 [.ref 63, .int p1, .int p2] S) r := by
  unfold f_X10_ledge at hf
  refine ev_sts 3 (c2 := (5, [.ref 63, .int p1, .int p2], [], (upS S 63 0 ((0 : Int32))), 0)) rfl ?_
  refine ev_let (P := fun S1 => Ev (d + 10) Mx214 (5, [.ref 63, .int p1, .int p2], [], S1, 0) r) (fun S1 hf => ?_) hf
  refine ev_sts 3 (c2 := (8, [.ref 63, .int p1, .int p2], [.int p1, .ref 63, .ref 63], S1, 0)) rfl ?_
  refine ev_bI0 (d := d + 9) (M' := Mx169) (ct := (11, [.ref 63, .int p1, .int p2], [.ref 63], S1, 0)) hf rfl rfl rfl rfl (fun r9 h9 => f_X10_noLedge_ok (d := d + 8) h9) (fun r3 S2 hf => ?_)
  show Ev (d + 10) Mx214 (11, [.ref 63, .int p1, .int p2], [.int r3, .ref 63], S2, 0) r
  refine ev_sts 1 (c2 := (12, [.ref 63, .int p1, .int p2], [.int ((1 : Int32)), .int r3, .ref 63], S2, 0)) rfl ?_
  refine ev_bI0 (d := d + 9) (M' := Mx155) (ct := (15, [.ref 63, .int p1, .int p2], [], S2, 0)) hf rfl rfl rfl rfl (fun r9 h9 => f_X10_throwsIf_ok (d := d + 9) h9) (fun r5 S4 hf => ?_)
  show Ev (d + 10) Mx214 (15, [.ref 63, .int p1, .int p2], [.int r5], S4, 0) r
  refine ev_if (c1 := (41, [mK, mK, mK], [], S4, 0)) (c2 := (18, [.ref 63, .int p1, .int p2], [], S4, 0)) hf rfl rfl (fun _ hf => ?_) (fun _ hf => ?_)
  · exact f_X10_ledge_b41_ok hf
  · refine ev_sts 4 (c2 := (23, [.ref 63, .int p1, .int p2], [.int ((7 : Int32)), .int ((0 : Int32)), .int p2, .ref 63], S4, 0)) rfl ?_
    refine ev_bI0 (d := d + 9) (M' := Mx156) (ct := (26, [.ref 63, .int p1, .int p2], [.ref 63], S4, 0)) hf rfl rfl rfl rfl (fun r9 h9 => f_X10_in_ok (d := d + 9) h9) (fun r7 S6 hf => ?_)
    show Ev (d + 10) Mx214 (26, [.ref 63, .int p1, .int p2], [.int r7, .ref 63], S6, 0) r
    refine ev_if (c1 := (33, [.ref 63, .int p1, .int p2], [.ref 63], S6, 0)) (c2 := (29, [.ref 63, .int p1, .int p2], [.ref 63], S6, 0)) hf rfl rfl (fun _ hf => ?_) (fun _ hf => ?_)
    · exact ev_sts 1 (c2 := (34, [.ref 63, .int p1, .int p2], [.int ((0 : Int32)), .ref 63], S6, 0)) rfl (f_X10_ledge_b34_ok hf)
    · exact ev_sts 2 (c2 := (34, [.ref 63, .int p1, .int p2], [.int ((1 : Int32)), .ref 63], S6, 0)) rfl (f_X10_ledge_b34_ok hf)
def f_X10_takes_b87 (S : mS) : Option mR := some (.inl none, S)
def f_X10_takes_b34 (x1 : Int32) (x2 : Int32) (x3 : Int32) (t3 : Int32) (t2 : Int32) (t1 : Int32) (S : mS) : Option mR := gd (inb t1 2145) (bnd (upS S 64 t1.toNatClampNeg (t2 + t3)) (fun S4 => gd (inb ((((79 : Int32)) + (((2 : Int32)) * x1)) + ((1 : Int32))) 2145) (gd (inb ((((79 : Int32)) + (((2 : Int32)) * x1)) + ((1 : Int32))) 2145) (bnd (upS S4 64 ((((79 : Int32)) + (((2 : Int32)) * x1)) + ((1 : Int32))).toNatClampNeg ((S4 64 ((((79 : Int32)) + (((2 : Int32)) * x1)) + ((1 : Int32))).toNatClampNeg) + x3)) (fun S5 => bI0 (f_X10_at x2 ((2 : Int32)) S5) (fun r7 S6 => gd (inb r7 2145) (gd (inb r7 2145) (bnd (upS S6 64 r7.toNatClampNeg ((S6 64 r7.toNatClampNeg) - x3)) (fun S8 => bI0 (f_X10_of x2 ((2 : Int32)) S8) (fun r10 S9 => (if ¬ r10 = 0 then f_X10_takes_b87 S9 else bI0 (f_X10_at x2 ((3 : Int32)) S9) (fun r12 S11 => gd (inb r12 2145) (bnd (upS S11 64 r12.toNatClampNeg ((0 : Int32))) (fun S13 => f_X10_takes_b87 S13))))))))))))))
def f_X10_takes (p1 : Int32) (p2 : Int32) (p3 : Int32) (S : mS) : Option mR := gd (inb ((10 : Int32)) 2145) (gd (inb ((10 : Int32)) 2145) (bnd (upS S 64 ((10 : Int32)).toNatClampNeg ((S 64 ((10 : Int32)).toNatClampNeg) + p3)) (fun S1 => gd (inb ((11 : Int32)) 2145) (bI0 (f_X10_of p2 ((3 : Int32)) S1) (fun r3 S2 => (if r3 ≤ ((3 : Int32)) then f_X10_takes_b34 p1 p2 p3 ((0 : Int32)) (S1 64 ((11 : Int32)).toNatClampNeg) ((11 : Int32)) S2 else f_X10_takes_b34 p1 p2 p3 p3 (S1 64 ((11 : Int32)).toNatClampNeg) ((11 : Int32)) S2))))))
theorem f_X10_takes_b87_ok {d : Nat} {S : mS} {r : mR} (hf : f_X10_takes_b87  S = some r) : Ev (d + 2) Mx238 (87, [mK, mK, mK, mK], [], S, 0) r := by
  unfold f_X10_takes_b87 at hf
  exact ev_ret hf rfl rfl
theorem f_X10_takes_b34_ok {d : Nat} {x1 : Int32} {x2 : Int32} {x3 : Int32} {t3 : Int32} {t2 : Int32} {t1 : Int32} {S : mS} {r : mR} (hf : f_X10_takes_b34 x1 x2 x3 t3 t2 t1 S = some r) : Ev (d + 2) Mx238 (34, [.ref 63, .int x1, .int x2, .int x3], [.int t3, .int t2, .int t1, .ref 64], S, 0) r := by
  unfold f_X10_takes_b34 at hf
  refine ev_sts 1 (c2 := (35, [.ref 63, .int x1, .int x2, .int x3], [.int (t2 + t3), .int t1, .ref 64], S, 0)) rfl ?_
  refine ev_gd (c1 := (36, [.ref 63, .int x1, .int x2, .int x3], [], (upS S 64 t1.toNatClampNeg (t2 + t3)), 0)) hf rfl rfl (fun hf => ?_)
  refine ev_let (P := fun S4 => Ev (d + 2) Mx238 (36, [.ref 63, .int x1, .int x2, .int x3], [], S4, 0) r) (fun S4 hf => ?_) hf
  refine ev_sts 10 (c2 := (49, [.ref 63, .int x1, .int x2, .int x3], [.int ((((79 : Int32)) + (((2 : Int32)) * x1)) + ((1 : Int32))), .ref 64, .int ((((79 : Int32)) + (((2 : Int32)) * x1)) + ((1 : Int32))), .ref 64], S4, 0)) rfl ?_
  refine ev_gd (c1 := (50, [.ref 63, .int x1, .int x2, .int x3], [.int (S4 64 ((((79 : Int32)) + (((2 : Int32)) * x1)) + ((1 : Int32))).toNatClampNeg), .int ((((79 : Int32)) + (((2 : Int32)) * x1)) + ((1 : Int32))), .ref 64], S4, 0)) hf rfl rfl (fun hf => ?_)
  refine ev_sts 2 (c2 := (52, [.ref 63, .int x1, .int x2, .int x3], [.int ((S4 64 ((((79 : Int32)) + (((2 : Int32)) * x1)) + ((1 : Int32))).toNatClampNeg) + x3), .int ((((79 : Int32)) + (((2 : Int32)) * x1)) + ((1 : Int32))), .ref 64], S4, 0)) rfl ?_
  refine ev_gd (c1 := (53, [.ref 63, .int x1, .int x2, .int x3], [], (upS S4 64 ((((79 : Int32)) + (((2 : Int32)) * x1)) + ((1 : Int32))).toNatClampNeg ((S4 64 ((((79 : Int32)) + (((2 : Int32)) * x1)) + ((1 : Int32))).toNatClampNeg) + x3)), 0)) hf rfl rfl (fun hf => ?_)
  refine ev_let (P := fun S5 => Ev (d + 2) Mx238 (53, [.ref 63, .int x1, .int x2, .int x3], [], S5, 0) r) (fun S5 hf => ?_) hf
  refine ev_sts 4 (c2 := (59, [.ref 63, .int x1, .int x2, .int x3], [.int ((2 : Int32)), .int x2, .ref 64], S5, 0)) rfl ?_
  refine ev_bI0 (d := d + 1) (M' := Mx165) (ct := (62, [.ref 63, .int x1, .int x2, .int x3], [.ref 64], S5, 0)) hf rfl rfl rfl rfl (fun r9 h9 => f_X10_at_ok (d := d + 1) h9) (fun r7 S6 hf => ?_)
  show Ev (d + 2) Mx238 (62, [.ref 63, .int x1, .int x2, .int x3], [.int r7, .ref 64], S6, 0) r
  refine ev_sts 1 (c2 := (63, [.ref 63, .int x1, .int x2, .int x3], [.int r7, .ref 64, .int r7, .ref 64], S6, 0)) rfl ?_
  refine ev_gd (c1 := (64, [.ref 63, .int x1, .int x2, .int x3], [.int (S6 64 r7.toNatClampNeg), .int r7, .ref 64], S6, 0)) hf rfl rfl (fun hf => ?_)
  refine ev_sts 2 (c2 := (66, [.ref 63, .int x1, .int x2, .int x3], [.int ((S6 64 r7.toNatClampNeg) - x3), .int r7, .ref 64], S6, 0)) rfl ?_
  refine ev_gd (c1 := (67, [.ref 63, .int x1, .int x2, .int x3], [], (upS S6 64 r7.toNatClampNeg ((S6 64 r7.toNatClampNeg) - x3)), 0)) hf rfl rfl (fun hf => ?_)
  refine ev_let (P := fun S8 => Ev (d + 2) Mx238 (67, [.ref 63, .int x1, .int x2, .int x3], [], S8, 0) r) (fun S8 hf => ?_) hf
  refine ev_sts 3 (c2 := (70, [.ref 63, .int x1, .int x2, .int x3], [.int ((2 : Int32)), .int x2, .ref 63], S8, 0)) rfl ?_
  refine ev_bI0 (d := d + 1) (M' := Mx166) (ct := (73, [.ref 63, .int x1, .int x2, .int x3], [], S8, 0)) hf rfl rfl rfl rfl (fun r9 h9 => f_X10_of_ok (d := d) h9) (fun r10 S9 hf => ?_)
  show Ev (d + 2) Mx238 (73, [.ref 63, .int x1, .int x2, .int x3], [.int r10], S9, 0) r
  refine ev_if (c1 := (87, [mK, mK, mK, mK], [], S9, 0)) (c2 := (76, [.ref 63, .int x1, .int x2, .int x3], [], S9, 0)) hf rfl rfl (fun _ hf => ?_) (fun _ hf => ?_)
  · exact f_X10_takes_b87_ok hf
  · refine ev_sts 4 (c2 := (82, [.ref 63, .int x1, .int x2, .int x3], [.int ((3 : Int32)), .int x2, .ref 64], S9, 0)) rfl ?_
    refine ev_bI0 (d := d + 1) (M' := Mx165) (ct := (85, [.ref 63, .int x1, .int x2, .int x3], [.ref 64], S9, 0)) hf rfl rfl rfl rfl (fun r9 h9 => f_X10_at_ok (d := d + 1) h9) (fun r12 S11 hf => ?_)
    show Ev (d + 2) Mx238 (85, [.ref 63, .int x1, .int x2, .int x3], [.int r12, .ref 64], S11, 0) r
    refine ev_sts 1 (c2 := (86, [.ref 63, .int x1, .int x2, .int x3], [.int ((0 : Int32)), .int r12, .ref 64], S11, 0)) rfl ?_
    refine ev_gd (c1 := (87, [mK, mK, mK, mK], [], (upS S11 64 r12.toNatClampNeg ((0 : Int32))), 0)) hf rfl rfl (fun hf => ?_)
    refine ev_let (P := fun S13 => Ev (d + 2) Mx238 (87, [mK, mK, mK, mK], [], S13, 0) r) (fun S13 hf => ?_) hf
    exact f_X10_takes_b87_ok hf
theorem f_X10_takes_ok {d : Nat} {p1 : Int32} {p2 : Int32} {p3 : Int32} {S : mS} {r : mR} (hf : f_X10_takes p1 p2 p3 S = some r) : Ev (d + 2) Mx238 (entry Mx238 [.ref 63, .int p1, .int p2, .int p3] S) r := by
  unfold f_X10_takes at hf
  refine ev_sts 4 (c2 := (7, [.ref 63, .int p1, .int p2, .int p3], [.int ((10 : Int32)), .ref 64, .int ((10 : Int32)), .ref 64], S, 0)) rfl ?_
  refine ev_gd (c1 := (8, [.ref 63, .int p1, .int p2, .int p3], [.int (S 64 ((10 : Int32)).toNatClampNeg), .int ((10 : Int32)), .ref 64], S, 0)) hf rfl rfl (fun hf => ?_)
  refine ev_sts 2 (c2 := (10, [.ref 63, .int p1, .int p2, .int p3], [.int ((S 64 ((10 : Int32)).toNatClampNeg) + p3), .int ((10 : Int32)), .ref 64], S, 0)) rfl ?_
  refine ev_gd (c1 := (11, [.ref 63, .int p1, .int p2, .int p3], [], (upS S 64 ((10 : Int32)).toNatClampNeg ((S 64 ((10 : Int32)).toNatClampNeg) + p3)), 0)) hf rfl rfl (fun hf => ?_)
  refine ev_let (P := fun S1 => Ev (d + 2) Mx238 (11, [.ref 63, .int p1, .int p2, .int p3], [], S1, 0) r) (fun S1 hf => ?_) hf
  refine ev_sts 4 (c2 := (18, [.ref 63, .int p1, .int p2, .int p3], [.int ((11 : Int32)), .ref 64, .int ((11 : Int32)), .ref 64], S1, 0)) rfl ?_
  refine ev_gd (c1 := (19, [.ref 63, .int p1, .int p2, .int p3], [.int (S1 64 ((11 : Int32)).toNatClampNeg), .int ((11 : Int32)), .ref 64], S1, 0)) hf rfl rfl (fun hf => ?_)
  refine ev_sts 3 (c2 := (22, [.ref 63, .int p1, .int p2, .int p3], [.int ((3 : Int32)), .int p2, .ref 63, .int (S1 64 ((11 : Int32)).toNatClampNeg), .int ((11 : Int32)), .ref 64], S1, 0)) rfl ?_
  refine ev_bI0 (d := d + 1) (M' := Mx166) (ct := (25, [.ref 63, .int p1, .int p2, .int p3], [.int (S1 64 ((11 : Int32)).toNatClampNeg), .int ((11 : Int32)), .ref 64], S1, 0)) hf rfl rfl rfl rfl (fun r9 h9 => f_X10_of_ok (d := d) h9) (fun r3 S2 hf => ?_)
  show Ev (d + 2) Mx238 (25, [.ref 63, .int p1, .int p2, .int p3], [.int r3, .int (S1 64 ((11 : Int32)).toNatClampNeg), .int ((11 : Int32)), .ref 64], S2, 0) r
  refine ev_sts 1 (c2 := (26, [.ref 63, .int p1, .int p2, .int p3], [.int ((3 : Int32)), .int r3, .int (S1 64 ((11 : Int32)).toNatClampNeg), .int ((11 : Int32)), .ref 64], S2, 0)) rfl ?_
  refine ev_if (c1 := (33, [.ref 63, .int p1, .int p2, .int p3], [.int (S1 64 ((11 : Int32)).toNatClampNeg), .int ((11 : Int32)), .ref 64], S2, 0)) (c2 := (29, [.ref 63, .int p1, .int p2, .int p3], [.int (S1 64 ((11 : Int32)).toNatClampNeg), .int ((11 : Int32)), .ref 64], S2, 0)) hf rfl rfl (fun _ hf => ?_) (fun _ hf => ?_)
  · exact ev_sts 1 (c2 := (34, [.ref 63, .int p1, .int p2, .int p3], [.int ((0 : Int32)), .int (S1 64 ((11 : Int32)).toNatClampNeg), .int ((11 : Int32)), .ref 64], S2, 0)) rfl (f_X10_takes_b34_ok hf)
  · exact ev_sts 2 (c2 := (34, [.ref 63, .int p1, .int p2, .int p3], [.int p3, .int (S1 64 ((11 : Int32)).toNatClampNeg), .int ((11 : Int32)), .ref 64], S2, 0)) rfl (f_X10_takes_b34_ok hf)
def f_X10_tells_b103 (F : Nat) (t2 : Int32) (t1 : Int32) (S : mS) : Option mR := gd (inb t1 2145) (bnd (upS S 64 t1.toNatClampNeg t2) (fun S6 => gd (inb ((15 : Int32)) 2145) (gd (inb ((15 : Int32)) 2145) (bnd (upS S6 64 ((15 : Int32)).toNatClampNeg (if ((S6 64 ((15 : Int32)).toNatClampNeg) + ((1 : Int32))) < ((60 : Int32)) then ((S6 64 ((15 : Int32)).toNatClampNeg) + ((1 : Int32))) else ((60 : Int32)))) (fun S7 => some (.inl none, S7))))))
def f_X10_tells_b5 (F : Nat) : Nat → Int32 → Int32 → Int32 → Int32 → Int32 → Int32 → mS → Option mR
  | 0, _, _, _, _, _, _, _ => none
  | n + 1, x1, x2, x3, x4, x5, x6, S => (if x6 < ((6 : Int32)) then gd (inb ((5 : Int32)) 2145) (gd (inb ((87 : Int32)) 2145) (bnd (upS S 64 ((87 : Int32)).toNatClampNeg (S 64 ((5 : Int32)).toNatClampNeg)) (fun S1 => gd (inb ((88 : Int32)) 2145) (bnd (upS S1 64 ((88 : Int32)).toNatClampNeg x1) (fun S2 => gd (inb ((89 : Int32)) 2145) (bnd (upS S2 64 ((89 : Int32)).toNatClampNeg x2) (fun S3 => gd (inb ((90 : Int32)) 2145) (bnd (upS S3 64 ((90 : Int32)).toNatClampNeg x3) (fun S4 => gd (inb ((91 : Int32)) 2145) (bnd (upS S4 64 ((91 : Int32)).toNatClampNeg x4) (fun S5 => (if x5 = 0 then f_X10_tells_b103 F ((0 : Int32)) ((92 : Int32)) S5 else f_X10_tells_b103 F ((1 : Int32)) ((92 : Int32)) S5)))))))))))) else gd (inb ((((87 : Int32)) + x6) - ((6 : Int32))) 2145) (gd (inb (((87 : Int32)) + x6) 2145) (bnd (upS S 64 (((87 : Int32)) + x6).toNatClampNeg (S 64 ((((87 : Int32)) + x6) - ((6 : Int32))).toNatClampNeg)) (fun S8 => f_X10_tells_b5 F n x1 x2 x3 x4 x5 (x6 + (-1 : Int32)) S8))))
def f_X10_tells (F : Nat) (p1 : Int32) (p2 : Int32) (p3 : Int32) (p4 : Int32) (p5 : Int32) (S : mS) : Option mR := f_X10_tells_b5 F F p1 p2 p3 p4 p5 ((359 : Int32)) S
theorem f_X10_tells_b103_ok {d F : Nat} {t2 : Int32} {t1 : Int32} {S : mS} {r : mR} (hf : f_X10_tells_b103 F t2 t1 S = some r) : Ev (d) Mx237 (103, [.ref 63, mK, mK, mK, mK, mK, mK], [.int t2, .int t1, .ref 64], S, 0) r := by
  unfold f_X10_tells_b103 at hf
  refine ev_gd (c1 := (104, [.ref 63, mK, mK, mK, mK, mK, mK], [], (upS S 64 t1.toNatClampNeg t2), 0)) hf rfl rfl (fun hf => ?_)
  refine ev_let (P := fun S6 => Ev (d) Mx237 (104, [.ref 63, mK, mK, mK, mK, mK, mK], [], S6, 0) r) (fun S6 hf => ?_) hf
  refine ev_sts 7 (c2 := (118, [.ref 63, mK, mK, mK, mK, mK, mK], [.int ((15 : Int32)), .ref 64, .int ((60 : Int32)), .int ((15 : Int32)), .ref 64], S6, 0)) rfl ?_
  refine ev_gd (c1 := (119, [.ref 63, mK, mK, mK, mK, mK, mK], [.int (S6 64 ((15 : Int32)).toNatClampNeg), .int ((60 : Int32)), .int ((15 : Int32)), .ref 64], S6, 0)) hf rfl rfl (fun hf => ?_)
  refine ev_sts 3 (c2 := (124, [.ref 63, mK, mK, mK, mK, mK, mK], [.int (if ((S6 64 ((15 : Int32)).toNatClampNeg) + ((1 : Int32))) < ((60 : Int32)) then ((S6 64 ((15 : Int32)).toNatClampNeg) + ((1 : Int32))) else ((60 : Int32))), .int ((15 : Int32)), .ref 64], S6, 0)) rfl ?_
  refine ev_gd (c1 := (125, [.ref 63, mK, mK, mK, mK, mK, mK], [], (upS S6 64 ((15 : Int32)).toNatClampNeg (if ((S6 64 ((15 : Int32)).toNatClampNeg) + ((1 : Int32))) < ((60 : Int32)) then ((S6 64 ((15 : Int32)).toNatClampNeg) + ((1 : Int32))) else ((60 : Int32)))), 0)) hf rfl rfl (fun hf => ?_)
  refine ev_let (P := fun S7 => Ev (d) Mx237 (125, [.ref 63, mK, mK, mK, mK, mK, mK], [], S7, 0) r) (fun S7 hf => ?_) hf
  exact ev_ret hf rfl rfl
theorem f_X10_tells_b5_ok {d F : Nat} : ∀ (n : Nat) {x1 : Int32} {x2 : Int32} {x3 : Int32} {x4 : Int32} {x5 : Int32} {x6 : Int32} {S : mS} {r : mR}, f_X10_tells_b5 F n x1 x2 x3 x4 x5 x6 S = some r → Ev (d) Mx237 (5, [.ref 63, .int x1, .int x2, .int x3, .int x4, .int x5, .int x6], [], S, 0) r := by
  intro n
  induction n with
  | zero => intro x1 x2 x3 x4 x5 x6 S r hf; cases hf
  | succ n ih =>
    intro x1 x2 x3 x4 x5 x6 S r hf
    rw [f_X10_tells_b5] at hf
    refine ev_sts 2 (c2 := (9, [.ref 63, .int x1, .int x2, .int x3, .int x4, .int x5, .int x6], [.int ((6 : Int32)), .int x6], S, 0)) rfl ?_
    refine ev_if (c1 := (41, [.ref 63, .int x1, .int x2, .int x3, .int x4, .int x5, .int x6], [], S, 0)) (c2 := (12, [.ref 63, .int x1, .int x2, .int x3, .int x4, .int x5, .int x6], [], S, 0)) hf rfl rfl (fun _ hf => ?_) (fun _ hf => ?_)
    · refine ev_sts 6 (c2 := (52, [.ref 63, .int x1, .int x2, .int x3, .int x4, .int x5, .int x6], [.int ((5 : Int32)), .ref 64, .int ((87 : Int32)), .ref 64], S, 0)) rfl ?_
      refine ev_gd (c1 := (53, [.ref 63, .int x1, .int x2, .int x3, .int x4, .int x5, .int x6], [.int (S 64 ((5 : Int32)).toNatClampNeg), .int ((87 : Int32)), .ref 64], S, 0)) hf rfl rfl (fun hf => ?_)
      refine ev_gd (c1 := (54, [.ref 63, .int x1, .int x2, .int x3, .int x4, .int x5, .int x6], [], (upS S 64 ((87 : Int32)).toNatClampNeg (S 64 ((5 : Int32)).toNatClampNeg)), 0)) hf rfl rfl (fun hf => ?_)
      refine ev_let (P := fun S1 => Ev (d) Mx237 (54, [.ref 63, .int x1, .int x2, .int x3, .int x4, .int x5, .int x6], [], S1, 0) r) (fun S1 hf => ?_) hf
      refine ev_sts 4 (c2 := (61, [.ref 63, .int x1, .int x2, .int x3, .int x4, .int x5, .int x6], [.int x1, .int ((88 : Int32)), .ref 64], S1, 0)) rfl ?_
      refine ev_gd (c1 := (62, [.ref 63, .int x1, .int x2, .int x3, .int x4, .int x5, .int x6], [], (upS S1 64 ((88 : Int32)).toNatClampNeg x1), 0)) hf rfl rfl (fun hf => ?_)
      refine ev_let (P := fun S2 => Ev (d) Mx237 (62, [.ref 63, .int x1, .int x2, .int x3, .int x4, .int x5, .int x6], [], S2, 0) r) (fun S2 hf => ?_) hf
      refine ev_sts 4 (c2 := (69, [.ref 63, .int x1, .int x2, .int x3, .int x4, .int x5, .int x6], [.int x2, .int ((89 : Int32)), .ref 64], S2, 0)) rfl ?_
      refine ev_gd (c1 := (70, [.ref 63, .int x1, .int x2, .int x3, .int x4, .int x5, .int x6], [], (upS S2 64 ((89 : Int32)).toNatClampNeg x2), 0)) hf rfl rfl (fun hf => ?_)
      refine ev_let (P := fun S3 => Ev (d) Mx237 (70, [.ref 63, .int x1, .int x2, .int x3, .int x4, .int x5, .int x6], [], S3, 0) r) (fun S3 hf => ?_) hf
      refine ev_sts 4 (c2 := (77, [.ref 63, .int x1, .int x2, .int x3, .int x4, .int x5, .int x6], [.int x3, .int ((90 : Int32)), .ref 64], S3, 0)) rfl ?_
      refine ev_gd (c1 := (78, [.ref 63, .int x1, .int x2, .int x3, .int x4, .int x5, .int x6], [], (upS S3 64 ((90 : Int32)).toNatClampNeg x3), 0)) hf rfl rfl (fun hf => ?_)
      refine ev_let (P := fun S4 => Ev (d) Mx237 (78, [.ref 63, .int x1, .int x2, .int x3, .int x4, .int x5, .int x6], [], S4, 0) r) (fun S4 hf => ?_) hf
      refine ev_sts 4 (c2 := (86, [.ref 63, .int x1, .int x2, .int x3, .int x4, .int x5, .int x6], [.int x4, .int ((91 : Int32)), .ref 64], S4, 0)) rfl ?_
      refine ev_gd (c1 := (87, [.ref 63, .int x1, .int x2, .int x3, .int x4, .int x5, .int x6], [], (upS S4 64 ((91 : Int32)).toNatClampNeg x4), 0)) hf rfl rfl (fun hf => ?_)
      refine ev_let (P := fun S5 => Ev (d) Mx237 (87, [.ref 63, .int x1, .int x2, .int x3, .int x4, .int x5, .int x6], [], S5, 0) r) (fun S5 hf => ?_) hf
      refine ev_sts 4 (c2 := (95, [.ref 63, .int x1, .int x2, .int x3, .int x4, .int x5, .int x6], [.int x5, .int ((92 : Int32)), .ref 64], S5, 0)) rfl ?_
      refine ev_if (c1 := (102, [.ref 63, .int x1, .int x2, .int x3, .int x4, .int x5, .int x6], [.int ((92 : Int32)), .ref 64], S5, 0)) (c2 := (98, [.ref 63, .int x1, .int x2, .int x3, .int x4, .int x5, .int x6], [.int ((92 : Int32)), .ref 64], S5, 0)) hf rfl rfl (fun _ hf => ?_) (fun _ hf => ?_)
      · exact ev_sts 1 (c2 := (103, [.ref 63, mK, mK, mK, mK, mK, mK], [.int ((0 : Int32)), .int ((92 : Int32)), .ref 64], S5, 0)) rfl (f_X10_tells_b103_ok hf)
      · exact ev_sts 2 (c2 := (103, [.ref 63, mK, mK, mK, mK, mK, mK], [.int ((1 : Int32)), .int ((92 : Int32)), .ref 64], S5, 0)) rfl (f_X10_tells_b103_ok hf)
    · refine ev_sts 12 (c2 := (33, [.ref 63, .int x1, .int x2, .int x3, .int x4, .int x5, .int x6], [.int ((((87 : Int32)) + x6) - ((6 : Int32))), .ref 64, .int (((87 : Int32)) + x6), .ref 64], S, 0)) rfl ?_
      refine ev_gd (c1 := (34, [.ref 63, .int x1, .int x2, .int x3, .int x4, .int x5, .int x6], [.int (S 64 ((((87 : Int32)) + x6) - ((6 : Int32))).toNatClampNeg), .int (((87 : Int32)) + x6), .ref 64], S, 0)) hf rfl rfl (fun hf => ?_)
      refine ev_gd (c1 := (35, [.ref 63, .int x1, .int x2, .int x3, .int x4, .int x5, .int x6], [], (upS S 64 (((87 : Int32)) + x6).toNatClampNeg (S 64 ((((87 : Int32)) + x6) - ((6 : Int32))).toNatClampNeg)), 0)) hf rfl rfl (fun hf => ?_)
      refine ev_let (P := fun S8 => Ev (d) Mx237 (35, [.ref 63, .int x1, .int x2, .int x3, .int x4, .int x5, .int x6], [], S8, 0) r) (fun S8 hf => ?_) hf
      exact ev_sts 2 (c2 := (5, [.ref 63, .int x1, .int x2, .int x3, .int x4, .int x5, .int (x6 + (-1 : Int32))], [], S8, 0)) rfl (ih hf)
theorem f_X10_tells_ok {d F : Nat} {p1 : Int32} {p2 : Int32} {p3 : Int32} {p4 : Int32} {p5 : Int32} {S : mS} {r : mR} (hf : f_X10_tells F p1 p2 p3 p4 p5 S = some r) : Ev (d) Mx237 (entry Mx237 [.ref 63, .int p1, .int p2, .int p3, .int p4, .int p5] S) r := by
  unfold f_X10_tells at hf
  exact ev_sts 2 (c2 := (5, [.ref 63, .int p1, .int p2, .int p3, .int p4, .int p5, .int ((359 : Int32))], [], S, 0)) rfl (f_X10_tells_b5_ok _ hf)
