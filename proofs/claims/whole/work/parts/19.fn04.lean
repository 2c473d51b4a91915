def f_X1_numberBehind (F : Nat) (w1 : Nat) (p2 : Int32) (S : mS) : Option mR := bI0 (f_X8_takesWord F w1 S) (fun r2 S1 => (if ¬ r2 = 0 then bI0 (f_X8_takeNumber F ((0 : Int32)) p2 S1) (fun r4 S3 => some (.inl (some (.int r4)), S3)) else bI0 (f_X8_refuse S1) (fun r6 S5 => some (.inl (some (.int ((-1 : Int32)))), S5))))
theorem f_X1_numberBehind_ok_1004 {d F : Nat} {p2 : Int32} {S : mS} {r : mR} (hf : f_X1_numberBehind F 4 p2 S = some r) : Ev (d + 2) Mx22 (entry Mx22 [.ref 30, .ref 1004, .int p2] S) r := by
  unfold f_X1_numberBehind at hf
  refine ev_sts 3 (c2 := (5, [.ref 30, .ref 1004, .int p2], [.ref 1004, .ref 1], S, 0)) rfl ?_
  refine ev_bI0 (d := d + 1) (M' := Mx79) (ct := (8, [.ref 30, .ref 1004, .int p2], [], S, 0)) hf rfl rfl rfl rfl (fun r9 h9 => f_X8_takesWord_ok_1004 (d := d) h9) (fun r2 S1 hf => ?_)
  show Ev (d + 2) Mx22 (8, [.ref 30, .ref 1004, .int p2], [.int r2], S1, 0) r
  refine ev_if (c1 := (21, [.ref 30, .ref 1004, .int p2], [], S1, 0)) (c2 := (11, [.ref 30, .ref 1004, .int p2], [], S1, 0)) hf rfl rfl (fun _ hf => ?_) (fun _ hf => ?_)
  · refine ev_sts 4 (c2 := (27, [.ref 30, .ref 1004, .int p2], [.int p2, .int ((0 : Int32)), .ref 1], S1, 0)) rfl ?_
    refine ev_bI0 (d := d + 1) (M' := Mx82) (ct := (30, [.ref 30, .ref 1004, .int p2], [], S1, 0)) hf rfl rfl rfl rfl (fun r9 h9 => f_X8_takeNumber_ok (d := d) h9) (fun r4 S3 hf => ?_)
    show Ev (d + 2) Mx22 (30, [.ref 30, .ref 1004, .int p2], [.int r4], S3, 0) r
    exact ev_ret hf rfl rfl
  · refine ev_sts 2 (c2 := (15, [.ref 30, .ref 1004, .int p2], [.ref 1], S1, 0)) rfl ?_
    refine ev_bI0 (d := d + 1) (M' := Mx78) (ct := (18, [.ref 30, .ref 1004, .int p2], [], S1, 0)) hf rfl rfl rfl rfl (fun r9 h9 => f_X8_refuse_ok (d := d + 1) h9) (fun r6 S5 hf => ?_)
    show Ev (d + 2) Mx22 (18, [.ref 30, .ref 1004, .int p2], [.int r6], S5, 0) r
    refine ev_sts 2 (c2 := (20, [.ref 30, .ref 1004, .int p2], [.int ((-1 : Int32))], S5, 0)) rfl ?_
    exact ev_ret hf rfl rfl
theorem f_X1_numberBehind_ok_1003 {d F : Nat} {p2 : Int32} {S : mS} {r : mR} (hf : f_X1_numberBehind F 3 p2 S = some r) : Ev (d + 2) Mx22 (entry Mx22 [.ref 30, .ref 1003, .int p2] S) r := by
  unfold f_X1_numberBehind at hf
  refine ev_sts 3 (c2 := (5, [.ref 30, .ref 1003, .int p2], [.ref 1003, .ref 1], S, 0)) rfl ?_
  refine ev_bI0 (d := d + 1) (M' := Mx79) (ct := (8, [.ref 30, .ref 1003, .int p2], [], S, 0)) hf rfl rfl rfl rfl (fun r9 h9 => f_X8_takesWord_ok_1003 (d := d) h9) (fun r2 S1 hf => ?_)
  show Ev (d + 2) Mx22 (8, [.ref 30, .ref 1003, .int p2], [.int r2], S1, 0) r
  refine ev_if (c1 := (21, [.ref 30, .ref 1003, .int p2], [], S1, 0)) (c2 := (11, [.ref 30, .ref 1003, .int p2], [], S1, 0)) hf rfl rfl (fun _ hf => ?_) (fun _ hf => ?_)
  · refine ev_sts 4 (c2 := (27, [.ref 30, .ref 1003, .int p2], [.int p2, .int ((0 : Int32)), .ref 1], S1, 0)) rfl ?_
    refine ev_bI0 (d := d + 1) (M' := Mx82) (ct := (30, [.ref 30, .ref 1003, .int p2], [], S1, 0)) hf rfl rfl rfl rfl (fun r9 h9 => f_X8_takeNumber_ok (d := d) h9) (fun r4 S3 hf => ?_)
    show Ev (d + 2) Mx22 (30, [.ref 30, .ref 1003, .int p2], [.int r4], S3, 0) r
    exact ev_ret hf rfl rfl
  · refine ev_sts 2 (c2 := (15, [.ref 30, .ref 1003, .int p2], [.ref 1], S1, 0)) rfl ?_
    refine ev_bI0 (d := d + 1) (M' := Mx78) (ct := (18, [.ref 30, .ref 1003, .int p2], [], S1, 0)) hf rfl rfl rfl rfl (fun r9 h9 => f_X8_refuse_ok (d := d + 1) h9) (fun r6 S5 hf => ?_)
    show Ev (d + 2) Mx22 (18, [.ref 30, .ref 1003, .int p2], [.int r6], S5, 0) r
    refine ev_sts 2 (c2 := (20, [.ref 30, .ref 1003, .int p2], [.int ((-1 : Int32))], S5, 0)) rfl ?_
    exact ev_ret hf rfl rfl
theorem f_X1_numberBehind_ok_1002 {d F : Nat} {p2 : Int32} {S : mS} {r : mR} (hf : f_X1_numberBehind F 2 p2 S = some r) : Ev (d + 2) Mx22 (entry Mx22 [.ref 30, .ref 1002, .int p2] S) r := by
  unfold f_X1_numberBehind at hf
  refine ev_sts 3 (c2 := (5, [.ref 30, .ref 1002, .int p2], [.ref 1002, .ref 1], S, 0)) rfl ?_
  refine ev_bI0 (d := d + 1) (M' := Mx79) (ct := (8, [.ref 30, .ref 1002, .int p2], [], S, 0)) hf rfl rfl rfl rfl (fun r9 h9 => f_X8_takesWord_ok_1002 (d := d) h9) (fun r2 S1 hf => ?_)
  show Ev (d + 2) Mx22 (8, [.ref 30, .ref 1002, .int p2], [.int r2], S1, 0) r
  refine ev_if (c1 := (21, [.ref 30, .ref 1002, .int p2], [], S1, 0)) (c2 := (11, [.ref 30, .ref 1002, .int p2], [], S1, 0)) hf rfl rfl (fun _ hf => ?_) (fun _ hf => ?_)
  · refine ev_sts 4 (c2 := (27, [.ref 30, .ref 1002, .int p2], [.int p2, .int ((0 : Int32)), .ref 1], S1, 0)) rfl ?_
    refine ev_bI0 (d := d + 1) (M' := Mx82) (ct := (30, [.ref 30, .ref 1002, .int p2], [], S1, 0)) hf rfl rfl rfl rfl (fun r9 h9 => f_X8_takeNumber_ok (d := d) h9) (fun r4 S3 hf => ?_)
    show Ev (d + 2) Mx22 (30, [.ref 30, .ref 1002, .int p2], [.int r4], S3, 0) r
    exact ev_ret hf rfl rfl
  · refine ev_sts 2 (c2 := (15, [.ref 30, .ref 1002, .int p2], [.ref 1], S1, 0)) rfl ?_
    refine ev_bI0 (d := d + 1) (M' := Mx78) (ct := (18, [.ref 30, .ref 1002, .int p2], [], S1, 0)) hf rfl rfl rfl rfl (fun r9 h9 => f_X8_refuse_ok (d := d + 1) h9) (fun r6 S5 hf => ?_)
    show Ev (d + 2) Mx22 (18, [.ref 30, .ref 1002, .int p2], [.int r6], S5, 0) r
    refine ev_sts 2 (c2 := (20, [.ref 30, .ref 1002, .int p2], [.int ((-1 : Int32))], S5, 0)) rfl ?_
    exact ev_ret hf rfl rfl
theorem f_X1_numberBehind_ok_1001 {d F : Nat} {p2 : Int32} {S : mS} {r : mR} (hf : f_X1_numberBehind F 1 p2 S = some r) : Ev (d + 2) Mx22 (entry Mx22 [.ref 30, .ref 1001, .int p2] S) r := by
  unfold f_X1_numberBehind at hf
  refine ev_sts 3 (c2 := (5, [.ref 30, .ref 1001, .int p2], [.ref 1001, .ref 1], S, 0)) rfl ?_
  refine ev_bI0 (d := d + 1) (M' := Mx79) (ct := (8, [.ref 30, .ref 1001, .int p2], [], S, 0)) hf rfl rfl rfl rfl (fun r9 h9 => f_X8_takesWord_ok_1001 (d := d) h9) (fun r2 S1 hf => ?_)
  show Ev (d + 2) Mx22 (8, [.ref 30, .ref 1001, .int p2], [.int r2], S1, 0) r
  refine ev_if (c1 := (21, [.ref 30, .ref 1001, .int p2], [], S1, 0)) (c2 := (11, [.ref 30, .ref 1001, .int p2], [], S1, 0)) hf rfl rfl (fun _ hf => ?_) (fun _ hf => ?_)
  · refine ev_sts 4 (c2 := (27, [.ref 30, .ref 1001, .int p2], [.int p2, .int ((0 : Int32)), .ref 1], S1, 0)) rfl ?_
    refine ev_bI0 (d := d + 1) (M' := Mx82) (ct := (30, [.ref 30, .ref 1001, .int p2], [], S1, 0)) hf rfl rfl rfl rfl (fun r9 h9 => f_X8_takeNumber_ok (d := d) h9) (fun r4 S3 hf => ?_)
    show Ev (d + 2) Mx22 (30, [.ref 30, .ref 1001, .int p2], [.int r4], S3, 0) r
    exact ev_ret hf rfl rfl
  · refine ev_sts 2 (c2 := (15, [.ref 30, .ref 1001, .int p2], [.ref 1], S1, 0)) rfl ?_
    refine ev_bI0 (d := d + 1) (M' := Mx78) (ct := (18, [.ref 30, .ref 1001, .int p2], [], S1, 0)) hf rfl rfl rfl rfl (fun r9 h9 => f_X8_refuse_ok (d := d + 1) h9) (fun r6 S5 hf => ?_)
    show Ev (d + 2) Mx22 (18, [.ref 30, .ref 1001, .int p2], [.int r6], S5, 0) r
    refine ev_sts 2 (c2 := (20, [.ref 30, .ref 1001, .int p2], [.int ((-1 : Int32))], S5, 0)) rfl ?_
    exact ev_ret hf rfl rfl
def f_X8_isRight_b13 (t0 : Int32) (S : mS) : Option mR := some (.inl (some (.int (t0 &&& 1))), S)
def f_X8_isRight (S : mS) : Option mR := (if ¬ (S 1 3) = ((-1 : Int32)) then f_X8_isRight_b13 ((0 : Int32)) S else f_X8_isRight_b13 ((1 : Int32)) S)
theorem f_X8_isRight_b13_ok {d : Nat} {t0 : Int32} {S : mS} {r : mR} (hf : f_X8_isRight_b13 t0 S = some r) : Ev (d) Mx77 (13, [mK], [.int t0], S, 0) r := by
  unfold f_X8_isRight_b13 at hf
  exact ev_ret hf rfl rfl
theorem f_X8_isRight_ok {d : Nat} {S : mS} {r : mR} (hf : f_X8_isRight S = some r) : Ev (d) Mx77 (entry Mx77 [.ref 1] S) r := by
  unfold f_X8_isRight at hf
  refine ev_sts 3 (c2 := (5, [.ref 1], [.int ((-1 : Int32)), .int (S 1 3)], S, 0)) rfl ?_
  refine ev_if (c1 := (12, [.ref 1], [], S, 0)) (c2 := (8, [.ref 1], [], S, 0)) hf rfl rfl (fun _ hf => ?_) (fun _ hf => ?_)
  · exact ev_sts 1 (c2 := (13, [mK], [.int ((0 : Int32))], S, 0)) rfl (f_X8_isRight_b13_ok hf)
  · exact ev_sts 2 (c2 := (13, [mK], [.int ((1 : Int32))], S, 0)) rfl (f_X8_isRight_b13_ok hf)
def f_X1_readLedge_b122 (F : Nat) (x5 : Int32) (x6 : Int32) (t3 : Int32) (t2 : Int32) (t1 : Int32) (S : mS) : Option mR := bV0 (f_X0_putLedge 26 t1 t2 t3 S) (fun S18 => bV0 (f_X0_putLedge 26 x6 ((4 : Int32)) x5 S18) (fun S19 => bV0 (f_X0_add 26 ((12 : Int32)) ((1 : Int32)) S19) (fun S20 => some (.inl (some (.int (((1 : Int32)) &&& 1))), S20))))
def f_X1_readLedge (F : Nat) (S : mS) : Option mR := bI0 (f_X8_takeNumber F ((1 : Int32)) ((40 : Int32)) S) (fun r2 S1 => bI0 (f_X1_numberBehind F 1 ((30 : Int32)) S1) (fun r4 S3 => bI0 (f_X1_numberBehind F 2 ((20 : Int32)) S3) (fun r6 S5 => bI0 (f_X1_numberBehind F 3 ((99 : Int32)) S5) (fun r8 S7 => bI0 (f_X1_numberBehind F 4 ((9 : Int32)) S7) (fun r10 S9 => bI0 (f_X8_isRight S9) (fun r12 S11 => (if ¬ r12 = 0 then bI0 (f_X0_at 26 ((12 : Int32)) S11) (fun r14 S13 => bV0 (f_X0_putLedge 26 r14 ((0 : Int32)) r2 S13) (fun S15 => bV0 (f_X0_putLedge 26 r14 ((1 : Int32)) r4 S15) (fun S16 => bV0 (f_X0_putLedge 26 r14 ((2 : Int32)) r6 S16) (fun S17 => (if ¬ r6 = 0 then f_X1_readLedge_b122 F r10 r14 r8 ((3 : Int32)) r14 S17 else f_X1_readLedge_b122 F r10 r14 ((0 : Int32)) ((3 : Int32)) r14 S17))))) else some (.inl (some (.int (((0 : Int32)) &&& 1))), S11))))))))
theorem f_X1_readLedge_b122_ok {d F : Nat} {x5 : Int32} {x6 : Int32} {t3 : Int32} {t2 : Int32} {t1 : Int32} {S : mS} {r : mR} (hf : f_X1_readLedge_b122 F x5 x6 t3 t2 t1 S = some r) : Ev (d + 3) Mx21 (122, [.ref 30, mK, mK, mK, mK, .int x5, .int x6], [.int t3, .int t2, .int t1, .ref 26], S, 0) r := by
  unfold f_X1_readLedge_b122 at hf
  refine ev_bV0 (d := d + 2) (M' := Mx5) (ct := (125, [.ref 30, mK, mK, mK, mK, .int x5, .int x6], [], S, 0)) hf rfl rfl rfl rfl (fun r9 h9 => f_X0_putLedge_ok_26 (d := d + 1) h9) (fun S18 hf => ?_)
  show Ev (d + 3) Mx21 (125, [.ref 30, mK, mK, mK, mK, .int x5, .int x6], [], S18, 0) r
  refine ev_sts 5 (c2 := (134, [.ref 30, mK, mK, mK, mK, .int x5, .int x6], [.int x5, .int ((4 : Int32)), .int x6, .ref 26], S18, 0)) rfl ?_
  refine ev_bV0 (d := d + 2) (M' := Mx5) (ct := (137, [.ref 30, mK, mK, mK, mK, .int x5, .int x6], [], S18, 0)) hf rfl rfl rfl rfl (fun r9 h9 => f_X0_putLedge_ok_26 (d := d + 1) h9) (fun S19 hf => ?_)
  show Ev (d + 3) Mx21 (137, [.ref 30, mK, mK, mK, mK, .int x5, .int x6], [], S19, 0) r
  refine ev_sts 4 (c2 := (144, [.ref 30, mK, mK, mK, mK, .int x5, .int x6], [.int ((1 : Int32)), .int ((12 : Int32)), .ref 26], S19, 0)) rfl ?_
  refine ev_bV0 (d := d + 2) (M' := Mx3) (ct := (147, [.ref 30, mK, mK, mK, mK, .int x5, .int x6], [], S19, 0)) hf rfl rfl rfl rfl (fun r9 h9 => f_X0_add_ok_26 (d := d + 1) h9) (fun S20 hf => ?_)
  show Ev (d + 3) Mx21 (147, [.ref 30, mK, mK, mK, mK, .int x5, .int x6], [], S20, 0) r
  refine ev_sts 1 (c2 := (148, [.ref 30, mK, mK, mK, mK, .int x5, .int x6], [.int ((1 : Int32))], S20, 0)) rfl ?_
  exact ev_ret hf rfl rfl
theorem f_X1_readLedge_ok {d F : Nat} {S : mS} {r : mR} (hf : f_X1_readLedge F S = some r) : Ev (d + 3) Mx21 (entry Mx21 [.ref 30] S) r := by
  unfold f_X1_readLedge at hf
  refine ev_sts 4 (c2 := (7, [.ref 30, mK, mK, mK, mK, mK, mK], [.int ((40 : Int32)), .int ((1 : Int32)), .ref 1], S, 0)) rfl ?_
  refine ev_bI0 (d := d + 2) (M' := Mx82) (ct := (10, [.ref 30, mK, mK, mK, mK, mK, mK], [], S, 0)) hf rfl rfl rfl rfl (fun r9 h9 => f_X8_takeNumber_ok (d := d + 1) h9) (fun r2 S1 hf => ?_)
  show Ev (d + 3) Mx21 (10, [.ref 30, mK, mK, mK, mK, mK, mK], [.int r2], S1, 0) r
  refine ev_sts 4 (c2 := (16, [.ref 30, .int r2, mK, mK, mK, mK, mK], [.int ((30 : Int32)), .ref 1001, .ref 30], S1, 0)) rfl ?_
  refine ev_bI0 (d := d + 2) (M' := Mx22) (ct := (19, [.ref 30, .int r2, mK, mK, mK, mK, mK], [], S1, 0)) hf rfl rfl rfl rfl (fun r9 h9 => f_X1_numberBehind_ok_1001 (d := d) h9) (fun r4 S3 hf => ?_)
  show Ev (d + 3) Mx21 (19, [.ref 30, .int r2, mK, mK, mK, mK, mK], [.int r4], S3, 0) r
  refine ev_sts 4 (c2 := (25, [.ref 30, .int r2, .int r4, mK, mK, mK, mK], [.int ((20 : Int32)), .ref 1002, .ref 30], S3, 0)) rfl ?_
  refine ev_bI0 (d := d + 2) (M' := Mx22) (ct := (28, [.ref 30, .int r2, .int r4, mK, mK, mK, mK], [], S3, 0)) hf rfl rfl rfl rfl (fun r9 h9 => f_X1_numberBehind_ok_1002 (d := d) h9) (fun r6 S5 hf => ?_)
  show Ev (d + 3) Mx21 (28, [.ref 30, .int r2, .int r4, mK, mK, mK, mK], [.int r6], S5, 0) r
  refine ev_sts 4 (c2 := (34, [.ref 30, .int r2, .int r4, .int r6, mK, mK, mK], [.int ((99 : Int32)), .ref 1003, .ref 30], S5, 0)) rfl ?_
  refine ev_bI0 (d := d + 2) (M' := Mx22) (ct := (37, [.ref 30, .int r2, .int r4, .int r6, mK, mK, mK], [], S5, 0)) hf rfl rfl rfl rfl (fun r9 h9 => f_X1_numberBehind_ok_1003 (d := d) h9) (fun r8 S7 hf => ?_)
  show Ev (d + 3) Mx21 (37, [.ref 30, .int r2, .int r4, .int r6, mK, mK, mK], [.int r8], S7, 0) r
  refine ev_sts 4 (c2 := (44, [.ref 30, .int r2, .int r4, .int r6, .int r8, mK, mK], [.int ((9 : Int32)), .ref 1004, .ref 30], S7, 0)) rfl ?_
  refine ev_bI0 (d := d + 2) (M' := Mx22) (ct := (47, [.ref 30, .int r2, .int r4, .int r6, .int r8, mK, mK], [], S7, 0)) hf rfl rfl rfl rfl (fun r9 h9 => f_X1_numberBehind_ok_1004 (d := d) h9) (fun r10 S9 hf => ?_)
  show Ev (d + 3) Mx21 (47, [.ref 30, .int r2, .int r4, .int r6, .int r8, mK, mK], [.int r10], S9, 0) r
  refine ev_sts 3 (c2 := (53, [.ref 30, .int r2, .int r4, .int r6, .int r8, .int r10, mK], [.ref 1], S9, 0)) rfl ?_
  refine ev_bI0 (d := d + 2) (M' := Mx77) (ct := (56, [.ref 30, .int r2, .int r4, .int r6, .int r8, .int r10, mK], [], S9, 0)) hf rfl rfl rfl rfl (fun r9 h9 => f_X8_isRight_ok (d := d + 2) h9) (fun r12 S11 hf => ?_)
  show Ev (d + 3) Mx21 (56, [.ref 30, .int r2, .int r4, .int r6, .int r8, .int r10, mK], [.int r12], S11, 0) r
  refine ev_if (c1 := (61, [.ref 30, .int r2, .int r4, .int r6, .int r8, .int r10, mK], [], S11, 0)) (c2 := (59, [.ref 30, .int r2, .int r4, .int r6, .int r8, .int r10, mK], [], S11, 0)) hf rfl rfl (fun _ hf => ?_) (fun _ hf => ?_)
  · refine ev_sts 3 (c2 := (67, [.ref 30, .int r2, .int r4, .int r6, .int r8, .int r10, mK], [.int ((12 : Int32)), .ref 26], S11, 0)) rfl ?_
    refine ev_bI0 (d := d + 2) (M' := Mx1) (ct := (70, [.ref 30, .int r2, .int r4, .int r6, .int r8, .int r10, mK], [], S11, 0)) hf rfl rfl rfl rfl (fun r9 h9 => f_X0_at_ok_26 (d := d + 2) h9) (fun r14 S13 hf => ?_)
    show Ev (d + 3) Mx21 (70, [.ref 30, .int r2, .int r4, .int r6, .int r8, .int r10, mK], [.int r14], S13, 0) r
    refine ev_sts 6 (c2 := (80, [.ref 30, .int r2, .int r4, .int r6, .int r8, .int r10, .int r14], [.int r2, .int ((0 : Int32)), .int r14, .ref 26], S13, 0)) rfl ?_
    refine ev_bV0 (d := d + 2) (M' := Mx5) (ct := (83, [.ref 30, .int r2, .int r4, .int r6, .int r8, .int r10, .int r14], [], S13, 0)) hf rfl rfl rfl rfl (fun r9 h9 => f_X0_putLedge_ok_26 (d := d + 1) h9) (fun S15 hf => ?_)
    show Ev (d + 3) Mx21 (83, [.ref 30, .int r2, .int r4, .int r6, .int r8, .int r10, .int r14], [], S15, 0) r
    refine ev_sts 5 (c2 := (91, [.ref 30, .int r2, .int r4, .int r6, .int r8, .int r10, .int r14], [.int r4, .int ((1 : Int32)), .int r14, .ref 26], S15, 0)) rfl ?_
    refine ev_bV0 (d := d + 2) (M' := Mx5) (ct := (94, [.ref 30, .int r2, .int r4, .int r6, .int r8, .int r10, .int r14], [], S15, 0)) hf rfl rfl rfl rfl (fun r9 h9 => f_X0_putLedge_ok_26 (d := d + 1) h9) (fun S16 hf => ?_)
    show Ev (d + 3) Mx21 (94, [.ref 30, .int r2, .int r4, .int r6, .int r8, .int r10, .int r14], [], S16, 0) r
    refine ev_sts 5 (c2 := (102, [.ref 30, .int r2, .int r4, .int r6, .int r8, .int r10, .int r14], [.int r6, .int ((2 : Int32)), .int r14, .ref 26], S16, 0)) rfl ?_
    refine ev_bV0 (d := d + 2) (M' := Mx5) (ct := (105, [.ref 30, .int r2, .int r4, .int r6, .int r8, .int r10, .int r14], [], S16, 0)) hf rfl rfl rfl rfl (fun r9 h9 => f_X0_putLedge_ok_26 (d := d + 1) h9) (fun S17 hf => ?_)
    show Ev (d + 3) Mx21 (105, [.ref 30, .int r2, .int r4, .int r6, .int r8, .int r10, .int r14], [], S17, 0) r
    refine ev_sts 5 (c2 := (113, [.ref 30, .int r2, .int r4, .int r6, .int r8, .int r10, .int r14], [.int r6, .int ((3 : Int32)), .int r14, .ref 26], S17, 0)) rfl ?_
    refine ev_if (c1 := (120, [.ref 30, .int r2, .int r4, .int r6, .int r8, .int r10, .int r14], [.int ((3 : Int32)), .int r14, .ref 26], S17, 0)) (c2 := (116, [.ref 30, .int r2, .int r4, .int r6, .int r8, .int r10, .int r14], [.int ((3 : Int32)), .int r14, .ref 26], S17, 0)) hf rfl rfl (fun _ hf => ?_) (fun _ hf => ?_)
    · exact ev_sts 1 (c2 := (122, [.ref 30, mK, mK, mK, mK, .int r10, .int r14], [.int r8, .int ((3 : Int32)), .int r14, .ref 26], S17, 0)) rfl (f_X1_readLedge_b122_ok hf)
    · exact ev_sts 2 (c2 := (122, [.ref 30, mK, mK, mK, mK, .int r10, .int r14], [.int ((0 : Int32)), .int ((3 : Int32)), .int r14, .ref 26], S17, 0)) rfl (f_X1_readLedge_b122_ok hf)
  · refine ev_sts 1 (c2 := (60, [.ref 30, .int r2, .int r4, .int r6, .int r8, .int r10, mK], [.int ((0 : Int32))], S11, 0)) rfl ?_
    exact ev_ret hf rfl rfl
def f_X1_readRope (F : Nat) (S : mS) : Option mR := bI0 (f_X8_takeNumber F ((1 : Int32)) ((40 : Int32)) S) (fun r2 S1 => bI0 (f_X8_takesWord F 6 S1) (fun r4 S3 => (if ¬ r4 = 0 then bI0 (f_X8_takeNumber F ((1 : Int32)) ((999 : Int32)) S3) (fun r6 S5 => bI0 (f_X8_isRight S5) (fun r8 S7 => (if ¬ r8 = 0 then bV0 (f_X0_put 26 ((0 : Int32)) r2 S7) (fun S9 => bV0 (f_X0_put 26 ((2 : Int32)) r6 S9) (fun S10 => bV0 (f_X0_put 26 ((1 : Int32)) ((0 : Int32)) S10) (fun S11 => some (.inl (some (.int (((1 : Int32)) &&& 1))), S11)))) else some (.inl (some (.int (((0 : Int32)) &&& 1))), S7)))) else bI0 (f_X8_refuse S3) (fun r13 S12 => some (.inl (some (.int (r13 &&& 1))), S12)))))
theorem f_X1_readRope_ok {d F : Nat} {S : mS} {r : mR} (hf : f_X1_readRope F S = some r) : Ev (d + 2) Mx23 (entry Mx23 [.ref 30] S) r := by
  unfold f_X1_readRope at hf
  refine ev_sts 4 (c2 := (7, [.ref 30, mK, mK], [.int ((40 : Int32)), .int ((1 : Int32)), .ref 1], S, 0)) rfl ?_
  refine ev_bI0 (d := d + 1) (M' := Mx82) (ct := (10, [.ref 30, mK, mK], [], S, 0)) hf rfl rfl rfl rfl (fun r9 h9 => f_X8_takeNumber_ok (d := d) h9) (fun r2 S1 hf => ?_)
  show Ev (d + 2) Mx23 (10, [.ref 30, mK, mK], [.int r2], S1, 0) r
  refine ev_sts 4 (c2 := (17, [.ref 30, .int r2, mK], [.ref 1006, .ref 1], S1, 0)) rfl ?_
  refine ev_bI0 (d := d + 1) (M' := Mx79) (ct := (20, [.ref 30, .int r2, mK], [], S1, 0)) hf rfl rfl rfl rfl (fun r9 h9 => f_X8_takesWord_ok_1006 (d := d) h9) (fun r4 S3 hf => ?_)
  show Ev (d + 2) Mx23 (20, [.ref 30, .int r2, mK], [.int r4], S3, 0) r
  refine ev_if (c1 := (31, [.ref 30, .int r2, mK], [], S3, 0)) (c2 := (23, [.ref 30, .int r2, mK], [], S3, 0)) hf rfl rfl (fun _ hf => ?_) (fun _ hf => ?_)
  · refine ev_sts 4 (c2 := (39, [.ref 30, .int r2, mK], [.int ((999 : Int32)), .int ((1 : Int32)), .ref 1], S3, 0)) rfl ?_
    refine ev_bI0 (d := d + 1) (M' := Mx82) (ct := (42, [.ref 30, .int r2, mK], [], S3, 0)) hf rfl rfl rfl rfl (fun r9 h9 => f_X8_takeNumber_ok (d := d) h9) (fun r6 S5 hf => ?_)
    show Ev (d + 2) Mx23 (42, [.ref 30, .int r2, mK], [.int r6], S5, 0) r
    refine ev_sts 3 (c2 := (47, [.ref 30, .int r2, .int r6], [.ref 1], S5, 0)) rfl ?_
    refine ev_bI0 (d := d + 1) (M' := Mx77) (ct := (50, [.ref 30, .int r2, .int r6], [], S5, 0)) hf rfl rfl rfl rfl (fun r9 h9 => f_X8_isRight_ok (d := d + 1) h9) (fun r8 S7 hf => ?_)
    show Ev (d + 2) Mx23 (50, [.ref 30, .int r2, .int r6], [.int r8], S7, 0) r
    refine ev_if (c1 := (55, [.ref 30, .int r2, .int r6], [], S7, 0)) (c2 := (53, [.ref 30, .int r2, .int r6], [], S7, 0)) hf rfl rfl (fun _ hf => ?_) (fun _ hf => ?_)
    · refine ev_sts 4 (c2 := (61, [.ref 30, .int r2, .int r6], [.int r2, .int ((0 : Int32)), .ref 26], S7, 0)) rfl ?_
      refine ev_bV0 (d := d + 1) (M' := Mx2) (ct := (64, [.ref 30, .int r2, .int r6], [], S7, 0)) hf rfl rfl rfl rfl (fun r9 h9 => f_X0_put_ok_26 (d := d + 1) h9) (fun S9 hf => ?_)
      show Ev (d + 2) Mx23 (64, [.ref 30, .int r2, .int r6], [], S9, 0) r
      refine ev_sts 4 (c2 := (70, [.ref 30, .int r2, .int r6], [.int r6, .int ((2 : Int32)), .ref 26], S9, 0)) rfl ?_
      refine ev_bV0 (d := d + 1) (M' := Mx2) (ct := (73, [.ref 30, .int r2, .int r6], [], S9, 0)) hf rfl rfl rfl rfl (fun r9 h9 => f_X0_put_ok_26 (d := d + 1) h9) (fun S10 hf => ?_)
      show Ev (d + 2) Mx23 (73, [.ref 30, .int r2, .int r6], [], S10, 0) r
      refine ev_sts 4 (c2 := (79, [.ref 30, .int r2, .int r6], [.int ((0 : Int32)), .int ((1 : Int32)), .ref 26], S10, 0)) rfl ?_
      refine ev_bV0 (d := d + 1) (M' := Mx2) (ct := (82, [.ref 30, .int r2, .int r6], [], S10, 0)) hf rfl rfl rfl rfl (fun r9 h9 => f_X0_put_ok_26 (d := d + 1) h9) (fun S11 hf => ?_)
      show Ev (d + 2) Mx23 (82, [.ref 30, .int r2, .int r6], [], S11, 0) r
      refine ev_sts 1 (c2 := (83, [.ref 30, .int r2, .int r6], [.int ((1 : Int32))], S11, 0)) rfl ?_
      exact ev_ret hf rfl rfl
    · refine ev_sts 1 (c2 := (54, [.ref 30, .int r2, .int r6], [.int ((0 : Int32))], S7, 0)) rfl ?_
      exact ev_ret hf rfl rfl
  · refine ev_sts 2 (c2 := (27, [.ref 30, .int r2, mK], [.ref 1], S3, 0)) rfl ?_
    refine ev_bI0 (d := d + 1) (M' := Mx78) (ct := (30, [.ref 30, .int r2, mK], [], S3, 0)) hf rfl rfl rfl rfl (fun r9 h9 => f_X8_refuse_ok (d := d + 1) h9) (fun r13 S12 hf => ?_)
    show Ev (d + 2) Mx23 (30, [.ref 30, .int r2, mK], [.int r13], S12, 0) r
    exact ev_ret hf rfl rfl
def f_X1_readLine_b109 (F : Nat) (S : mS) : Option mR := bI0 (f_X8_takesWord F 9 S) (fun r10 S9 => (if r10 = 0 then bI0 (f_X8_takesWord F 10 S9) (fun r12 S11 => (if r12 = 0 then bI0 (f_X8_refuse S11) (fun r14 S13 => some (.inl (some (.int (r14 &&& 1))), S13)) else bI0 (f_X1_readChance F ((6 : Int32)) S11) (fun r16 S15 => some (.inl (some (.int (r16 &&& 1))), S15)))) else bI0 (f_X1_readChance F ((5 : Int32)) S9) (fun r18 S17 => some (.inl (some (.int (r18 &&& 1))), S17))))
def f_X1_readLine_b79 (F : Nat) (S : mS) : Option mR := bI0 (f_X0_at 26 ((14 : Int32)) S) (fun r8 S7 => (if ((4 : Int32)) ≤ r8 then f_X1_readLine_b109 F S7 else bI0 (f_X8_takesWord F 8 S7) (fun r20 S19 => (if r20 = 0 then f_X1_readLine_b109 F S19 else bI0 (f_X1_readClimber F S19) (fun r22 S21 => some (.inl (some (.int (r22 &&& 1))), S21))))))
def f_X1_readLine_b31 (F : Nat) (S : mS) : Option mR := bI0 (f_X8_takesWord F 5 S) (fun r4 S3 => (if r4 = 0 then bI0 (f_X0_at 26 ((13 : Int32)) S3) (fun r6 S5 => (if ((6 : Int32)) ≤ r6 then f_X1_readLine_b79 F S5 else bI0 (f_X8_takesWord F 7 S5) (fun r24 S23 => (if r24 = 0 then f_X1_readLine_b79 F S23 else bI0 (f_X1_readHolder F S23) (fun r26 S25 => some (.inl (some (.int (r26 &&& 1))), S25)))))) else bI0 (f_X1_readRope F S3) (fun r28 S27 => some (.inl (some (.int (r28 &&& 1))), S27))))
def f_X1_readLine (F : Nat) (S : mS) : Option mR := bI0 (f_X0_at 26 ((12 : Int32)) S) (fun r2 S1 => (if ((10 : Int32)) ≤ r2 then f_X1_readLine_b31 F S1 else bI0 (f_X8_takesWord F 0 S1) (fun r30 S29 => (if r30 = 0 then f_X1_readLine_b31 F S29 else bI0 (f_X1_readLedge F S29) (fun r32 S31 => some (.inl (some (.int (r32 &&& 1))), S31))))))
theorem f_X1_readLine_b109_ok {d F : Nat} {S : mS} {r : mR} (hf : f_X1_readLine_b109 F  S = some r) : Ev (d + 4) Mx20 (109, [.ref 30], [], S, 0) r := by
  unfold f_X1_readLine_b109 at hf
  refine ev_sts 3 (c2 := (115, [.ref 30], [.ref 1009, .ref 1], S, 0)) rfl ?_
  refine ev_bI0 (d := d + 3) (M' := Mx79) (ct := (118, [.ref 30], [], S, 0)) hf rfl rfl rfl rfl (fun r9 h9 => f_X8_takesWord_ok_1009 (d := d + 2) h9) (fun r10 S9 hf => ?_)
  show Ev (d + 4) Mx20 (118, [.ref 30], [.int r10], S9, 0) r
  refine ev_if (c1 := (127, [.ref 30], [], S9, 0)) (c2 := (121, [.ref 30], [], S9, 0)) hf rfl rfl (fun _ hf => ?_) (fun _ hf => ?_)
  · refine ev_sts 3 (c2 := (133, [.ref 30], [.ref 1010, .ref 1], S9, 0)) rfl ?_
    refine ev_bI0 (d := d + 3) (M' := Mx79) (ct := (136, [.ref 30], [], S9, 0)) hf rfl rfl rfl rfl (fun r9 h9 => f_X8_takesWord_ok_1010 (d := d + 2) h9) (fun r12 S11 hf => ?_)
    show Ev (d + 4) Mx20 (136, [.ref 30], [.int r12], S11, 0) r
    refine ev_if (c1 := (146, [.ref 30], [], S11, 0)) (c2 := (139, [.ref 30], [], S11, 0)) hf rfl rfl (fun _ hf => ?_) (fun _ hf => ?_)
    · refine ev_sts 2 (c2 := (150, [.ref 30], [.ref 1], S11, 0)) rfl ?_
      refine ev_bI0 (d := d + 3) (M' := Mx78) (ct := (153, [.ref 30], [], S11, 0)) hf rfl rfl rfl rfl (fun r9 h9 => f_X8_refuse_ok (d := d + 3) h9) (fun r14 S13 hf => ?_)
      show Ev (d + 4) Mx20 (153, [.ref 30], [.int r14], S13, 0) r
      exact ev_ret hf rfl rfl
    · refine ev_sts 2 (c2 := (142, [.ref 30], [.int ((6 : Int32)), .ref 30], S11, 0)) rfl ?_
      refine ev_bI0 (d := d + 3) (M' := Mx26) (ct := (145, [.ref 30], [], S11, 0)) hf rfl rfl rfl rfl (fun r9 h9 => f_X1_readChance_ok (d := d + 1) h9) (fun r16 S15 hf => ?_)
      show Ev (d + 4) Mx20 (145, [.ref 30], [.int r16], S15, 0) r
      exact ev_ret hf rfl rfl
  · refine ev_sts 2 (c2 := (123, [.ref 30], [.int ((5 : Int32)), .ref 30], S9, 0)) rfl ?_
    refine ev_bI0 (d := d + 3) (M' := Mx26) (ct := (126, [.ref 30], [], S9, 0)) hf rfl rfl rfl rfl (fun r9 h9 => f_X1_readChance_ok (d := d + 1) h9) (fun r18 S17 hf => ?_)
    show Ev (d + 4) Mx20 (126, [.ref 30], [.int r18], S17, 0) r
    exact ev_ret hf rfl rfl
theorem f_X1_readLine_b79_ok {d F : Nat} {S : mS} {r : mR} (hf : f_X1_readLine_b79 F  S = some r) : Ev (d + 4) Mx20 (79, [.ref 30], [], S, 0) r := by
  unfold f_X1_readLine_b79 at hf
  refine ev_sts 3 (c2 := (85, [.ref 30], [.int ((14 : Int32)), .ref 26], S, 0)) rfl ?_
  refine ev_bI0 (d := d + 3) (M' := Mx1) (ct := (88, [.ref 30], [], S, 0)) hf rfl rfl rfl rfl (fun r9 h9 => f_X0_at_ok_26 (d := d + 3) h9) (fun r8 S7 hf => ?_)
  show Ev (d + 4) Mx20 (88, [.ref 30], [.int r8], S7, 0) r
  refine ev_sts 1 (c2 := (89, [.ref 30], [.int ((4 : Int32)), .int r8], S7, 0)) rfl ?_
  refine ev_if (c1 := (109, [.ref 30], [], S7, 0)) (c2 := (92, [.ref 30], [], S7, 0)) hf rfl rfl (fun _ hf => ?_) (fun _ hf => ?_)
  · exact f_X1_readLine_b109_ok hf
  · refine ev_sts 3 (c2 := (98, [.ref 30], [.ref 1008, .ref 1], S7, 0)) rfl ?_
    refine ev_bI0 (d := d + 3) (M' := Mx79) (ct := (101, [.ref 30], [], S7, 0)) hf rfl rfl rfl rfl (fun r9 h9 => f_X8_takesWord_ok_1008 (d := d + 2) h9) (fun r20 S19 hf => ?_)
    show Ev (d + 4) Mx20 (101, [.ref 30], [.int r20], S19, 0) r
    refine ev_if (c1 := (109, [.ref 30], [], S19, 0)) (c2 := (104, [.ref 30], [], S19, 0)) hf rfl rfl (fun _ hf => ?_) (fun _ hf => ?_)
    · exact f_X1_readLine_b109_ok hf
    · refine ev_sts 1 (c2 := (105, [.ref 30], [.ref 30], S19, 0)) rfl ?_
      refine ev_bI0 (d := d + 3) (M' := Mx25) (ct := (108, [.ref 30], [], S19, 0)) hf rfl rfl rfl rfl (fun r9 h9 => f_X1_readClimber_ok (d := d + 1) h9) (fun r22 S21 hf => ?_)
      show Ev (d + 4) Mx20 (108, [.ref 30], [.int r22], S21, 0) r
      exact ev_ret hf rfl rfl
theorem f_X1_readLine_b31_ok {d F : Nat} {S : mS} {r : mR} (hf : f_X1_readLine_b31 F  S = some r) : Ev (d + 4) Mx20 (31, [.ref 30], [], S, 0) r := by
  unfold f_X1_readLine_b31 at hf
  refine ev_sts 3 (c2 := (37, [.ref 30], [.ref 1005, .ref 1], S, 0)) rfl ?_
  refine ev_bI0 (d := d + 3) (M' := Mx79) (ct := (40, [.ref 30], [], S, 0)) hf rfl rfl rfl rfl (fun r9 h9 => f_X8_takesWord_ok_1005 (d := d + 2) h9) (fun r4 S3 hf => ?_)
  show Ev (d + 4) Mx20 (40, [.ref 30], [.int r4], S3, 0) r
  refine ev_if (c1 := (48, [.ref 30], [], S3, 0)) (c2 := (43, [.ref 30], [], S3, 0)) hf rfl rfl (fun _ hf => ?_) (fun _ hf => ?_)
  · refine ev_sts 3 (c2 := (54, [.ref 30], [.int ((13 : Int32)), .ref 26], S3, 0)) rfl ?_
    refine ev_bI0 (d := d + 3) (M' := Mx1) (ct := (57, [.ref 30], [], S3, 0)) hf rfl rfl rfl rfl (fun r9 h9 => f_X0_at_ok_26 (d := d + 3) h9) (fun r6 S5 hf => ?_)
    show Ev (d + 4) Mx20 (57, [.ref 30], [.int r6], S5, 0) r
    refine ev_sts 1 (c2 := (59, [.ref 30], [.int ((6 : Int32)), .int r6], S5, 0)) rfl ?_
    refine ev_if (c1 := (79, [.ref 30], [], S5, 0)) (c2 := (62, [.ref 30], [], S5, 0)) hf rfl rfl (fun _ hf => ?_) (fun _ hf => ?_)
    · exact f_X1_readLine_b79_ok hf
    · refine ev_sts 3 (c2 := (68, [.ref 30], [.ref 1007, .ref 1], S5, 0)) rfl ?_
      refine ev_bI0 (d := d + 3) (M' := Mx79) (ct := (71, [.ref 30], [], S5, 0)) hf rfl rfl rfl rfl (fun r9 h9 => f_X8_takesWord_ok_1007 (d := d + 2) h9) (fun r24 S23 hf => ?_)
      show Ev (d + 4) Mx20 (71, [.ref 30], [.int r24], S23, 0) r
      refine ev_if (c1 := (79, [.ref 30], [], S23, 0)) (c2 := (74, [.ref 30], [], S23, 0)) hf rfl rfl (fun _ hf => ?_) (fun _ hf => ?_)
      · exact f_X1_readLine_b79_ok hf
      · refine ev_sts 1 (c2 := (75, [.ref 30], [.ref 30], S23, 0)) rfl ?_
        refine ev_bI0 (d := d + 3) (M' := Mx24) (ct := (78, [.ref 30], [], S23, 0)) hf rfl rfl rfl rfl (fun r9 h9 => f_X1_readHolder_ok (d := d + 1) h9) (fun r26 S25 hf => ?_)
        show Ev (d + 4) Mx20 (78, [.ref 30], [.int r26], S25, 0) r
        exact ev_ret hf rfl rfl
  · refine ev_sts 1 (c2 := (44, [.ref 30], [.ref 30], S3, 0)) rfl ?_
    refine ev_bI0 (d := d + 3) (M' := Mx23) (ct := (47, [.ref 30], [], S3, 0)) hf rfl rfl rfl rfl (fun r9 h9 => f_X1_readRope_ok (d := d + 1) h9) (fun r28 S27 hf => ?_)
    show Ev (d + 4) Mx20 (47, [.ref 30], [.int r28], S27, 0) r
    exact ev_ret hf rfl rfl
theorem f_X1_readLine_ok {d F : Nat} {S : mS} {r : mR} (hf : f_X1_readLine F S = some r) : Ev (d + 4) Mx20 (entry Mx20 [.ref 30] S) r := by
  unfold f_X1_readLine at hf
  refine ev_sts 3 (c2 := (6, [.ref 30], [.int ((12 : Int32)), .ref 26], S, 0)) rfl ?_
  refine ev_bI0 (d := d + 3) (M' := Mx1) (ct := (9, [.ref 30], [], S, 0)) hf rfl rfl rfl rfl (fun r9 h9 => f_X0_at_ok_26 (d := d + 3) h9) (fun r2 S1 hf => ?_)
  show Ev (d + 4) Mx20 (9, [.ref 30], [.int r2], S1, 0) r
  refine ev_sts 1 (c2 := (11, [.ref 30], [.int ((10 : Int32)), .int r2], S1, 0)) rfl ?_
  refine ev_if (c1 := (31, [.ref 30], [], S1, 0)) (c2 := (14, [.ref 30], [], S1, 0)) hf rfl rfl (fun _ hf => ?_) (fun _ hf => ?_)
  · exact f_X1_readLine_b31_ok hf
  · refine ev_sts 3 (c2 := (20, [.ref 30], [.ref 1000, .ref 1], S1, 0)) rfl ?_
    refine ev_bI0 (d := d + 3) (M' := Mx79) (ct := (23, [.ref 30], [], S1, 0)) hf rfl rfl rfl rfl (fun r9 h9 => f_X8_takesWord_ok_1000 (d := d + 2) h9) (fun r30 S29 hf => ?_)
    show Ev (d + 4) Mx20 (23, [.ref 30], [.int r30], S29, 0) r
    refine ev_if (c1 := (31, [.ref 30], [], S29, 0)) (c2 := (26, [.ref 30], [], S29, 0)) hf rfl rfl (fun _ hf => ?_) (fun _ hf => ?_)
    · exact f_X1_readLine_b31_ok hf
    · refine ev_sts 1 (c2 := (27, [.ref 30], [.ref 30], S29, 0)) rfl ?_
      refine ev_bI0 (d := d + 3) (M' := Mx21) (ct := (30, [.ref 30], [], S29, 0)) hf rfl rfl rfl rfl (fun r9 h9 => f_X1_readLedge_ok (d := d) h9) (fun r32 S31 hf => ?_)
      show Ev (d + 4) Mx20 (30, [.ref 30], [.int r32], S31, 0) r
      exact ev_ret hf rfl rfl
def f_X2_addLine_b59 (S : mS) : Option mR := some (.inl none, S)
def f_X2_addLine (p1 : Int32) (p2 : Int32) (S : mS) : Option mR := (if (S 10 6) < 0 then f_X2_addLine_b59 S else (if ((12 : Int32)) ≤ (S 10 6) then f_X2_addLine_b59 S else gd (inb (S 10 6) 12) (bnd (upS S 11 (S 10 6).toNatClampNeg p1) (fun S1 => gd (inb (S1 10 6) 12) (bnd (upS S1 12 (S1 10 6).toNatClampNeg p2) (fun S2 => gd (inb (S2 10 6) 12) (bnd (upS S2 13 (S2 10 6).toNatClampNeg (S2 10 7)) (fun S3 => bnd (upS S3 10 6 ((S3 10 6) + ((1 : Int32)))) (fun S4 => f_X2_addLine_b59 S4)))))))))
theorem f_X2_addLine_b59_ok {d : Nat} {S : mS} {r : mR} (hf : f_X2_addLine_b59  S = some r) : Ev (d) Mx29 (59, [mK, mK, mK], [], S, 0) r := by
  unfold f_X2_addLine_b59 at hf
  exact ev_ret hf rfl rfl
theorem f_X2_addLine_ok {d : Nat} {p1 : Int32} {p2 : Int32} {S : mS} {r : mR} (hf : f_X2_addLine p1 p2 S = some r) : Ev (d) Mx29 (entry Mx29 [.ref 10, .int p1, .int p2] S) r := by
  unfold f_X2_addLine at hf
  refine ev_sts 2 (c2 := (4, [.ref 10, .int p1, .int p2], [.int (S 10 6)], S, 0)) rfl ?_
  refine ev_if (c1 := (59, [mK, mK, mK], [], S, 0)) (c2 := (7, [.ref 10, .int p1, .int p2], [], S, 0)) hf rfl rfl (fun _ hf => ?_) (fun _ hf => ?_)
  · exact f_X2_addLine_b59_ok hf
  · refine ev_sts 3 (c2 := (13, [.ref 10, .int p1, .int p2], [.int ((12 : Int32)), .int (S 10 6)], S, 0)) rfl ?_
    refine ev_if (c1 := (59, [mK, mK, mK], [], S, 0)) (c2 := (16, [.ref 10, .int p1, .int p2], [], S, 0)) hf rfl rfl (fun _ hf => ?_) (fun _ hf => ?_)
    · exact f_X2_addLine_b59_ok hf
    · refine ev_sts 5 (c2 := (25, [.ref 10, .int p1, .int p2], [.int p1, .int (S 10 6), .ref 11], S, 0)) rfl ?_
      refine ev_gd (c1 := (26, [.ref 10, .int p1, .int p2], [], (upS S 11 (S 10 6).toNatClampNeg p1), 0)) hf rfl rfl (fun hf => ?_)
      refine ev_let (P := fun S1 => Ev (d) Mx29 (26, [.ref 10, .int p1, .int p2], [], S1, 0) r) (fun S1 hf => ?_) hf
      refine ev_sts 5 (c2 := (35, [.ref 10, .int p1, .int p2], [.int p2, .int (S1 10 6), .ref 12], S1, 0)) rfl ?_
      refine ev_gd (c1 := (36, [.ref 10, .int p1, .int p2], [], (upS S1 12 (S1 10 6).toNatClampNeg p2), 0)) hf rfl rfl (fun hf => ?_)
      refine ev_let (P := fun S2 => Ev (d) Mx29 (36, [.ref 10, .int p1, .int p2], [], S2, 0) r) (fun S2 hf => ?_) hf
      refine ev_sts 6 (c2 := (48, [.ref 10, .int p1, .int p2], [.int (S2 10 7), .int (S2 10 6), .ref 13], S2, 0)) rfl ?_
      refine ev_gd (c1 := (49, [.ref 10, .int p1, .int p2], [], (upS S2 13 (S2 10 6).toNatClampNeg (S2 10 7)), 0)) hf rfl rfl (fun hf => ?_)
      refine ev_let (P := fun S3 => Ev (d) Mx29 (49, [.ref 10, .int p1, .int p2], [], S3, 0) r) (fun S3 hf => ?_) hf
      refine ev_sts 6 (c2 := (59, [mK, mK, mK], [], (upS S3 10 6 ((S3 10 6) + ((1 : Int32)))), 0)) rfl ?_
      refine ev_let (P := fun S4 => Ev (d) Mx29 (59, [mK, mK, mK], [], S4, 0) r) (fun S4 hf => ?_) hf
      exact f_X2_addLine_b59_ok hf
def f_X2_addCode_b37 (S : mS) : Option mR := some (.inl none, S)
def f_X2_addCode (p1 : Int32) (S : mS) : Option mR := (if (S 10 7) < 0 then f_X2_addCode_b37 S else (if ((400 : Int32)) ≤ (S 10 7) then f_X2_addCode_b37 S else gd (inb (S 10 7) 400) (bnd (upS S 14 (S 10 7).toNatClampNeg p1) (fun S1 => bnd (upS S1 10 7 ((S1 10 7) + ((1 : Int32)))) (fun S2 => f_X2_addCode_b37 S2)))))
theorem f_X2_addCode_b37_ok {d : Nat} {S : mS} {r : mR} (hf : f_X2_addCode_b37  S = some r) : Ev (d) Mx30 (37, [mK, mK], [], S, 0) r := by
  unfold f_X2_addCode_b37 at hf
  exact ev_ret hf rfl rfl
theorem f_X2_addCode_ok {d : Nat} {p1 : Int32} {S : mS} {r : mR} (hf : f_X2_addCode p1 S = some r) : Ev (d) Mx30 (entry Mx30 [.ref 10, .int p1] S) r := by
  unfold f_X2_addCode at hf
  refine ev_sts 2 (c2 := (4, [.ref 10, .int p1], [.int (S 10 7)], S, 0)) rfl ?_
  refine ev_if (c1 := (37, [mK, mK], [], S, 0)) (c2 := (7, [.ref 10, .int p1], [], S, 0)) hf rfl rfl (fun _ hf => ?_) (fun _ hf => ?_)
  · exact f_X2_addCode_b37_ok hf
  · refine ev_sts 3 (c2 := (14, [.ref 10, .int p1], [.int ((400 : Int32)), .int (S 10 7)], S, 0)) rfl ?_
    refine ev_if (c1 := (37, [mK, mK], [], S, 0)) (c2 := (17, [.ref 10, .int p1], [], S, 0)) hf rfl rfl (fun _ hf => ?_) (fun _ hf => ?_)
    · exact f_X2_addCode_b37_ok hf
    · refine ev_sts 5 (c2 := (26, [.ref 10, .int p1], [.int p1, .int (S 10 7), .ref 14], S, 0)) rfl ?_
      refine ev_gd (c1 := (27, [.ref 10, .int p1], [], (upS S 14 (S 10 7).toNatClampNeg p1), 0)) hf rfl rfl (fun hf => ?_)
      refine ev_let (P := fun S1 => Ev (d) Mx30 (27, [.ref 10, .int p1], [], S1, 0) r) (fun S1 hf => ?_) hf
      refine ev_sts 6 (c2 := (37, [mK, mK], [], (upS S1 10 7 ((S1 10 7) + ((1 : Int32)))), 0)) rfl ?_
      refine ev_let (P := fun S2 => Ev (d) Mx30 (37, [mK, mK], [], S2, 0) r) (fun S2 hf => ?_) hf
      exact f_X2_addCode_b37_ok hf
def f_X3_nameOf (p0 : Int32) (S : mS) : Option mR := (if p0 = (0 : Int32) then some (.inl (some (.ref 1017)), S) else if p0 = (1 : Int32) then some (.inl (some (.ref 1001)), S) else if p0 = (2 : Int32) then some (.inl (some (.ref 1002)), S) else if p0 = (3 : Int32) then some (.inl (some (.ref 1003)), S) else if p0 = (4 : Int32) then some (.inl (some (.ref 1004)), S) else if p0 = (5 : Int32) then some (.inl (some (.ref 1018)), S) else if p0 = (6 : Int32) then some (.inl (some (.ref 1019)), S) else some (.inl (some (.ref 1020)), S))
theorem f_X3_nameOf_ok {d : Nat} {p0 : Int32} {S : mS} {r : mR} (hf : f_X3_nameOf p0 S = some r) : Ev (d) Mx41 (entry Mx41 [.int p0] S) r := by
  unfold f_X3_nameOf at hf
  refine ev_sts 1 (c2 := (1, [.int p0], [.int p0], S, 0)) rfl ?_
  rcases ite_or hf with ⟨h0, hf⟩ | ⟨h0, hf⟩
  · refine ev_sw (l2 := [.int p0]) (st2 := []) (msw_p h0) rfl rfl ?_
    show Ev (d) Mx41 (44, [.int p0], [], S, 0) r
    refine ev_sts 1 (c2 := (46, [.int p0], [.ref 1017], S, 0)) rfl ?_
    exact ev_ret hf rfl rfl
  rcases ite_or hf with ⟨h1, hf⟩ | ⟨h1, hf⟩
  · refine ev_sw (l2 := [.int p0]) (st2 := []) (msw_n h0 (msw_p h1)) rfl rfl ?_
    show Ev (d) Mx41 (47, [.int p0], [], S, 0) r
    refine ev_sts 1 (c2 := (49, [.int p0], [.ref 1001], S, 0)) rfl ?_
    exact ev_ret hf rfl rfl
  rcases ite_or hf with ⟨h2, hf⟩ | ⟨h2, hf⟩
  · refine ev_sw (l2 := [.int p0]) (st2 := []) (msw_n h0 (msw_n h1 (msw_p h2))) rfl rfl ?_
    show Ev (d) Mx41 (50, [.int p0], [], S, 0) r
    refine ev_sts 1 (c2 := (52, [.int p0], [.ref 1002], S, 0)) rfl ?_
    exact ev_ret hf rfl rfl
  rcases ite_or hf with ⟨h3, hf⟩ | ⟨h3, hf⟩
  · refine ev_sw (l2 := [.int p0]) (st2 := []) (msw_n h0 (msw_n h1 (msw_n h2 (msw_p h3)))) rfl rfl ?_
    show Ev (d) Mx41 (53, [.int p0], [], S, 0) r
    refine ev_sts 1 (c2 := (55, [.int p0], [.ref 1003], S, 0)) rfl ?_
    exact ev_ret hf rfl rfl
  rcases ite_or hf with ⟨h4, hf⟩ | ⟨h4, hf⟩
  · refine ev_sw (l2 := [.int p0]) (st2 := []) (msw_n h0 (msw_n h1 (msw_n h2 (msw_n h3 (msw_p h4))))) rfl rfl ?_
    show Ev (d) Mx41 (56, [.int p0], [], S, 0) r
    refine ev_sts 1 (c2 := (58, [.int p0], [.ref 1004], S, 0)) rfl ?_
    exact ev_ret hf rfl rfl
  rcases ite_or hf with ⟨h5, hf⟩ | ⟨h5, hf⟩
  · refine ev_sw (l2 := [.int p0]) (st2 := []) (msw_n h0 (msw_n h1 (msw_n h2 (msw_n h3 (msw_n h4 (msw_p h5)))))) rfl rfl ?_
    show Ev (d) Mx41 (59, [.int p0], [], S, 0) r
    refine ev_sts 1 (c2 := (61, [.int p0], [.ref 1018], S, 0)) rfl ?_
    exact ev_ret hf rfl rfl
  rcases ite_or hf with ⟨h6, hf⟩ | ⟨h6, hf⟩
  · refine ev_sw (l2 := [.int p0]) (st2 := []) (msw_n h0 (msw_n h1 (msw_n h2 (msw_n h3 (msw_n h4 (msw_n h5 (msw_p h6))))))) rfl rfl ?_
    show Ev (d) Mx41 (62, [.int p0], [], S, 0) r
    refine ev_sts 1 (c2 := (64, [.int p0], [.ref 1019], S, 0)) rfl ?_
    exact ev_ret hf rfl rfl
  refine ev_sw (l2 := [.int p0]) (st2 := []) (msw_n h0 (msw_n h1 (msw_n h2 (msw_n h3 (msw_n h4 (msw_n h5 (msw_n h6 rfl))))))) rfl rfl ?_
  show Ev (d) Mx41 (65, [.int p0], [], S, 0) r
  refine ev_sts 1 (c2 := (67, [.int p0], [.ref 1020], S, 0)) rfl ?_
  exact ev_ret hf rfl rfl
def f_X8_isAtDigit (S : mS) : Option mR := bI0 (f_X8_byteAt (S 1 2) S) (fun r2 S1 => bI0 (f_X8_isDigit r2 S1) (fun r4 S3 => some (.inl (some (.int (r4 &&& 1))), S3)))
theorem f_X8_isAtDigit_ok {d : Nat} {S : mS} {r : mR} (hf : f_X8_isAtDigit S = some r) : Ev (d + 1) Mx81 (entry Mx81 [.ref 1] S) r := by
  unfold f_X8_isAtDigit at hf
  refine ev_sts 3 (c2 := (5, [.ref 1], [.int (S 1 2), .ref 1], S, 0)) rfl ?_
  refine ev_bI0 (d := d) (M' := Mx84) (ct := (8, [.ref 1], [], S, 0)) hf rfl rfl rfl rfl (fun r9 h9 => f_X8_byteAt_ok (d := d) h9) (fun r2 S1 hf => ?_)
  show Ev (d + 1) Mx81 (8, [.ref 1], [.int r2], S1, 0) r
  refine ev_bI0 (d := d) (M' := Mx86) (ct := (11, [.ref 1], [], S1, 0)) hf rfl rfl rfl rfl (fun r9 h9 => f_X8_isDigit_ok (d := d) h9) (fun r4 S3 hf => ?_)
  show Ev (d + 1) Mx81 (11, [.ref 1], [.int r4], S3, 0) r
  exact ev_ret hf rfl rfl
def f_X8_takesSign (F : Nat) (p1 : Int32) (S : mS) : Option mR := bI0 (f_X8_byteAt (S 1 2) S) (fun r2 S1 => (if r2 = p1 then bV0 (f_X8_moveTo F ((S1 1 2) + ((1 : Int32))) S1) (fun S3 => some (.inl (some (.int (((1 : Int32)) &&& 1))), S3)) else some (.inl (some (.int (((0 : Int32)) &&& 1))), S1)))
theorem f_X8_takesSign_ok {d F : Nat} {p1 : Int32} {S : mS} {r : mR} (hf : f_X8_takesSign F p1 S = some r) : Ev (d + 1) Mx80 (entry Mx80 [.ref 1, .int p1] S) r := by
  unfold f_X8_takesSign at hf
  refine ev_sts 3 (c2 := (5, [.ref 1, .int p1], [.int (S 1 2), .ref 1], S, 0)) rfl ?_
  refine ev_bI0 (d := d) (M' := Mx84) (ct := (8, [.ref 1, .int p1], [], S, 0)) hf rfl rfl rfl rfl (fun r9 h9 => f_X8_byteAt_ok (d := d) h9) (fun r2 S1 hf => ?_)
  show Ev (d + 1) Mx80 (8, [.ref 1, .int p1], [.int r2], S1, 0) r
  refine ev_sts 1 (c2 := (9, [.ref 1, .int p1], [.int p1, .int r2], S1, 0)) rfl ?_
  refine ev_if (c1 := (14, [.ref 1, .int p1], [], S1, 0)) (c2 := (12, [.ref 1, .int p1], [], S1, 0)) hf rfl rfl (fun _ hf => ?_) (fun _ hf => ?_)
  · refine ev_sts 5 (c2 := (21, [.ref 1, .int p1], [.int ((S1 1 2) + ((1 : Int32))), .ref 1], S1, 0)) rfl ?_
    refine ev_bV0 (d := d) (M' := Mx83) (ct := (24, [.ref 1, .int p1], [], S1, 0)) hf rfl rfl rfl rfl (fun r9 h9 => f_X8_moveTo_ok (d := d) h9) (fun S3 hf => ?_)
    show Ev (d + 1) Mx80 (24, [.ref 1, .int p1], [], S3, 0) r
    refine ev_sts 1 (c2 := (25, [.ref 1, .int p1], [.int ((1 : Int32))], S3, 0)) rfl ?_
    exact ev_ret hf rfl rfl
  · refine ev_sts 1 (c2 := (13, [.ref 1, .int p1], [.int ((0 : Int32))], S1, 0)) rfl ?_
    exact ev_ret hf rfl rfl
def f_X3_readSum_b109 (K2 : Int32 → mS → Option mR) (F : Nat) (x1 : Int32) (S : mS) : Option mR := bI0 (f_X8_takesSign F ((43 : Int32)) S) (fun r7 S6 => (if ¬ r7 = 0 then K2 (x1 + (1 : Int32)) S6 else some (.inl (some (.int (((1 : Int32)) &&& 1))), S6)))
def f_X3_readSum_b74 (K2 : Int32 → mS → Option mR) (F : Nat) (x1 : Int32) (x2 : Int32) (S : mS) : Option mR := (if ¬ x2 = ((-1 : Int32)) then bV0 (f_X2_addCode x2 S) (fun S5 => (if x1 ≤ 0 then f_X3_readSum_b109 K2 F x1 S5 else bV0 (f_X2_addCode ((2005 : Int32)) S5) (fun S8 => f_X3_readSum_b109 K2 F x1 S8))) else bI0 (f_X8_refuse S) (fun r10 S9 => some (.inl (some (.int (r10 &&& 1))), S9)))
def f_X3_readSum_b68 (K2 : Int32 → mS → Option mR) (K37 : Int32 → Int32 → Int32 → mS → Option mR) (F : Nat) (x1 : Int32) (x2 : Int32) (x3 : Int32) (S : mS) : Option mR := K37 x1 x2 (x3 + (1 : Int32)) S
def f_X3_readSum_b37 (K2 : Int32 → mS → Option mR) (F : Nat) : Nat → Int32 → Int32 → Int32 → mS → Option mR
  | 0, _, _, _, _ => none
  | n + 1, x1, x2, x3, S => (if ((8 : Int32)) ≤ x3 then f_X3_readSum_b74 K2 F x1 x2 S else (if ¬ x2 = ((-1 : Int32)) then f_X3_readSum_b74 K2 F x1 x2 S else (if x3 = (0 : Int32) then bI0 (f_X8_takesWord F 17 S) (fun r13 S12 => (if r13 = 0 then f_X3_readSum_b68 K2 (fun x1 x2 x3 S => f_X3_readSum_b37 K2 F n x1 x2 x3 S) F x1 x2 x3 S12 else bnd (((1000 : Int32)) + x3 : Int32) (fun y14 => f_X3_readSum_b68 K2 (fun x1 x2 x3 S => f_X3_readSum_b37 K2 F n x1 x2 x3 S) F x1 y14 x3 S12))) else if x3 = (1 : Int32) then bI0 (f_X8_takesWord F 1 S) (fun r17 S16 => (if r17 = 0 then f_X3_readSum_b68 K2 (fun x1 x2 x3 S => f_X3_readSum_b37 K2 F n x1 x2 x3 S) F x1 x2 x3 S16 else bnd (((1000 : Int32)) + x3 : Int32) (fun y18 => f_X3_readSum_b68 K2 (fun x1 x2 x3 S => f_X3_readSum_b37 K2 F n x1 x2 x3 S) F x1 y18 x3 S16))) else if x3 = (2 : Int32) then bI0 (f_X8_takesWord F 2 S) (fun r21 S20 => (if r21 = 0 then f_X3_readSum_b68 K2 (fun x1 x2 x3 S => f_X3_readSum_b37 K2 F n x1 x2 x3 S) F x1 x2 x3 S20 else bnd (((1000 : Int32)) + x3 : Int32) (fun y22 => f_X3_readSum_b68 K2 (fun x1 x2 x3 S => f_X3_readSum_b37 K2 F n x1 x2 x3 S) F x1 y22 x3 S20))) else if x3 = (3 : Int32) then bI0 (f_X8_takesWord F 3 S) (fun r25 S24 => (if r25 = 0 then f_X3_readSum_b68 K2 (fun x1 x2 x3 S => f_X3_readSum_b37 K2 F n x1 x2 x3 S) F x1 x2 x3 S24 else bnd (((1000 : Int32)) + x3 : Int32) (fun y26 => f_X3_readSum_b68 K2 (fun x1 x2 x3 S => f_X3_readSum_b37 K2 F n x1 x2 x3 S) F x1 y26 x3 S24))) else if x3 = (4 : Int32) then bI0 (f_X8_takesWord F 4 S) (fun r29 S28 => (if r29 = 0 then f_X3_readSum_b68 K2 (fun x1 x2 x3 S => f_X3_readSum_b37 K2 F n x1 x2 x3 S) F x1 x2 x3 S28 else bnd (((1000 : Int32)) + x3 : Int32) (fun y30 => f_X3_readSum_b68 K2 (fun x1 x2 x3 S => f_X3_readSum_b37 K2 F n x1 x2 x3 S) F x1 y30 x3 S28))) else if x3 = (5 : Int32) then bI0 (f_X8_takesWord F 18 S) (fun r33 S32 => (if r33 = 0 then f_X3_readSum_b68 K2 (fun x1 x2 x3 S => f_X3_readSum_b37 K2 F n x1 x2 x3 S) F x1 x2 x3 S32 else bnd (((1000 : Int32)) + x3 : Int32) (fun y34 => f_X3_readSum_b68 K2 (fun x1 x2 x3 S => f_X3_readSum_b37 K2 F n x1 x2 x3 S) F x1 y34 x3 S32))) else if x3 = (6 : Int32) then bI0 (f_X8_takesWord F 19 S) (fun r37 S36 => (if r37 = 0 then f_X3_readSum_b68 K2 (fun x1 x2 x3 S => f_X3_readSum_b37 K2 F n x1 x2 x3 S) F x1 x2 x3 S36 else bnd (((1000 : Int32)) + x3 : Int32) (fun y38 => f_X3_readSum_b68 K2 (fun x1 x2 x3 S => f_X3_readSum_b37 K2 F n x1 x2 x3 S) F x1 y38 x3 S36))) else bI0 (f_X8_takesWord F 20 S) (fun r40 S39 => (if r40 = 0 then f_X3_readSum_b68 K2 (fun x1 x2 x3 S => f_X3_readSum_b37 K2 F n x1 x2 x3 S) F x1 x2 x3 S39 else bnd (((1000 : Int32)) + x3 : Int32) (fun y41 => f_X3_readSum_b68 K2 (fun x1 x2 x3 S => f_X3_readSum_b37 K2 F n x1 x2 x3 S) F x1 y41 x3 S39))))))
def f_X3_readSum_b34 (K2 : Int32 → mS → Option mR) (F : Nat) (x1 : Int32) (t0 : Int32) (S : mS) : Option mR := f_X3_readSum_b37 K2 F F x1 t0 ((0 : Int32)) S
def f_X3_readSum_b2 (F : Nat) : Nat → Int32 → mS → Option mR
  | 0, _, _ => none
  | n + 1, x1, S => (if ((400 : Int32)) ≤ x1 then bI0 (f_X8_refuse S) (fun r2 S1 => some (.inl (some (.int (r2 &&& 1))), S1)) else bI0 (f_X8_isAtDigit S) (fun r4 S3 => (if r4 = 0 then f_X3_readSum_b34 (fun x1 S => f_X3_readSum_b2 F n x1 S) F x1 ((-1 : Int32)) S3 else bI0 (f_X8_takeNumber F ((0 : Int32)) ((999 : Int32)) S3) (fun r43 S42 => f_X3_readSum_b34 (fun x1 S => f_X3_readSum_b2 F n x1 S) F x1 r43 S42))))
def f_X3_readSum (F : Nat) (S : mS) : Option mR := f_X3_readSum_b2 F F ((0 : Int32)) S
theorem f_X3_readSum_b109_ok {d F : Nat} {K2 : Int32 → mS → Option mR} (hK2 : ∀ {x1 : Int32} {S : mS} {r : mR}, K2 x1 S = some r → Ev (d + 2) Mx40 (2, [.ref 31, .int x1, mK, mK], [], S, 0) r) {x1 : Int32} {S : mS} {r : mR} (hf : f_X3_readSum_b109 K2 F x1 S = some r) : Ev (d + 2) Mx40 (109, [.ref 31, .int x1, mK, mK], [], S, 0) r := by
  unfold f_X3_readSum_b109 at hf
  refine ev_sts 3 (c2 := (115, [.ref 31, .int x1, mK, mK], [.int ((43 : Int32)), .ref 1], S, 0)) rfl ?_
  refine ev_bI0 (d := d + 1) (M' := Mx80) (ct := (118, [.ref 31, .int x1, mK, mK], [], S, 0)) hf rfl rfl rfl rfl (fun r9 h9 => f_X8_takesSign_ok (d := d) h9) (fun r7 S6 hf => ?_)
  show Ev (d + 2) Mx40 (118, [.ref 31, .int x1, mK, mK], [.int r7], S6, 0) r
  refine ev_if (c1 := (123, [.ref 31, .int x1, mK, mK], [], S6, 0)) (c2 := (121, [.ref 31, .int x1, mK, mK], [], S6, 0)) hf rfl rfl (fun _ hf => ?_) (fun _ hf => ?_)
  · exact ev_sts 2 (c2 := (2, [.ref 31, .int (x1 + (1 : Int32)), mK, mK], [], S6, 0)) rfl (hK2 hf)
  · refine ev_sts 1 (c2 := (122, [.ref 31, .int x1, mK, mK], [.int ((1 : Int32))], S6, 0)) rfl ?_
    exact ev_ret hf rfl rfl
theorem f_X3_readSum_b74_ok {d F : Nat} {K2 : Int32 → mS → Option mR} (hK2 : ∀ {x1 : Int32} {S : mS} {r : mR}, K2 x1 S = some r → Ev (d + 2) Mx40 (2, [.ref 31, .int x1, mK, mK], [], S, 0) r) {x1 : Int32} {x2 : Int32} {S : mS} {r : mR} (hf : f_X3_readSum_b74 K2 F x1 x2 S = some r) : Ev (d + 2) Mx40 (74, [.ref 31, .int x1, .int x2, mK], [], S, 0) r := by
  unfold f_X3_readSum_b74 at hf
  refine ev_sts 2 (c2 := (76, [.ref 31, .int x1, .int x2, mK], [.int ((-1 : Int32)), .int x2], S, 0)) rfl ?_
  refine ev_if (c1 := (87, [.ref 31, .int x1, .int x2, mK], [], S, 0)) (c2 := (79, [.ref 31, .int x1, .int x2, mK], [], S, 0)) hf rfl rfl (fun _ hf => ?_) (fun _ hf => ?_)
  · refine ev_sts 3 (c2 := (92, [.ref 31, .int x1, .int x2, mK], [.int x2, .ref 10], S, 0)) rfl ?_
    refine ev_bV0 (d := d + 1) (M' := Mx30) (ct := (95, [.ref 31, .int x1, .int x2, mK], [], S, 0)) hf rfl rfl rfl rfl (fun r9 h9 => f_X2_addCode_ok (d := d + 1) h9) (fun S5 hf => ?_)
    show Ev (d + 2) Mx40 (95, [.ref 31, .int x1, .int x2, mK], [], S5, 0) r
    refine ev_sts 1 (c2 := (96, [.ref 31, .int x1, .int x2, mK], [.int x1], S5, 0)) rfl ?_
    refine ev_if (c1 := (109, [.ref 31, .int x1, mK, mK], [], S5, 0)) (c2 := (99, [.ref 31, .int x1, .int x2, mK], [], S5, 0)) hf rfl rfl (fun _ hf => ?_) (fun _ hf => ?_)
    · exact f_X3_readSum_b109_ok hK2 hf
    · refine ev_sts 3 (c2 := (106, [.ref 31, .int x1, .int x2, mK], [.int ((2005 : Int32)), .ref 10], S5, 0)) rfl ?_
      refine ev_bV0 (d := d + 1) (M' := Mx30) (ct := (109, [.ref 31, .int x1, mK, mK], [], S5, 0)) hf rfl rfl rfl rfl (fun r9 h9 => f_X2_addCode_ok (d := d + 1) h9) (fun S8 hf => ?_)
      show Ev (d + 2) Mx40 (109, [.ref 31, .int x1, mK, mK], [], S8, 0) r
      exact f_X3_readSum_b109_ok hK2 hf
  · refine ev_sts 2 (c2 := (83, [.ref 31, .int x1, .int x2, mK], [.ref 1], S, 0)) rfl ?_
    refine ev_bI0 (d := d + 1) (M' := Mx78) (ct := (86, [.ref 31, .int x1, .int x2, mK], [], S, 0)) hf rfl rfl rfl rfl (fun r9 h9 => f_X8_refuse_ok (d := d + 1) h9) (fun r10 S9 hf => ?_)
    show Ev (d + 2) Mx40 (86, [.ref 31, .int x1, .int x2, mK], [.int r10], S9, 0) r
    exact ev_ret hf rfl rfl
theorem f_X3_readSum_b68_ok {d F : Nat} {K2 : Int32 → mS → Option mR} (hK2 : ∀ {x1 : Int32} {S : mS} {r : mR}, K2 x1 S = some r → Ev (d + 2) Mx40 (2, [.ref 31, .int x1, mK, mK], [], S, 0) r) {K37 : Int32 → Int32 → Int32 → mS → Option mR} (hK37 : ∀ {x1 : Int32} {x2 : Int32} {x3 : Int32} {S : mS} {r : mR}, K37 x1 x2 x3 S = some r → Ev (d + 2) Mx40 (37, [.ref 31, .int x1, .int x2, .int x3], [], S, 0) r) {x1 : Int32} {x2 : Int32} {x3 : Int32} {S : mS} {r : mR} (hf : f_X3_readSum_b68 K2 K37 F x1 x2 x3 S = some r) : Ev (d + 2) Mx40 (68, [.ref 31, .int x1, .int x2, .int x3], [], S, 0) r := by
  unfold f_X3_readSum_b68 at hf
  exact ev_sts 2 (c2 := (37, [.ref 31, .int x1, .int x2, .int (x3 + (1 : Int32))], [], S, 0)) rfl (hK37 hf)
theorem f_X3_readSum_b37_ok {d F : Nat} {K2 : Int32 → mS → Option mR} (hK2 : ∀ {x1 : Int32} {S : mS} {r : mR}, K2 x1 S = some r → Ev (d + 2) Mx40 (2, [.ref 31, .int x1, mK, mK], [], S, 0) r) : ∀ (n : Nat) {x1 : Int32} {x2 : Int32} {x3 : Int32} {S : mS} {r : mR}, f_X3_readSum_b37 K2 F n x1 x2 x3 S = some r → Ev (d + 2) Mx40 (37, [.ref 31, .int x1, .int x2, .int x3], [], S, 0) r := by
  intro n
  induction n with
  | zero => intro x1 x2 x3 S r hf; cases hf
  | succ n ih =>
    intro x1 x2 x3 S r hf
    rw [f_X3_readSum_b37] at hf
    refine ev_sts 2 (c2 := (40, [.ref 31, .int x1, .int x2, .int x3], [.int ((8 : Int32)), .int x3], S, 0)) rfl ?_
    refine ev_if (c1 := (74, [.ref 31, .int x1, .int x2, mK], [], S, 0)) (c2 := (43, [.ref 31, .int x1, .int x2, .int x3], [], S, 0)) hf rfl rfl (fun _ hf => ?_) (fun _ hf => ?_)
    · exact f_X3_readSum_b74_ok hK2 hf
    · refine ev_sts 2 (c2 := (45, [.ref 31, .int x1, .int x2, .int x3], [.int ((-1 : Int32)), .int x2], S, 0)) rfl ?_
      refine ev_if (c1 := (74, [.ref 31, .int x1, .int x2, mK], [], S, 0)) (c2 := (48, [.ref 31, .int x1, .int x2, .int x3], [], S, 0)) hf rfl rfl (fun _ hf => ?_) (fun _ hf => ?_)
      · exact f_X3_readSum_b74_ok hK2 hf
      · refine ev_sts 3 (c2 := (53, [.ref 31, .int x1, .int x2, .int x3], [.int x3, .ref 1], S, 0)) rfl ?_
        rcases ite_or hf with ⟨h10, hf⟩ | ⟨h10, hf⟩
        · refine ev_callr (d := d + 1) (M' := Mx41) (ct := (56, [.ref 31, .int x1, .int x2, .int x3], [.ref 1], S, 0)) (w := some (.ref 1017)) (S1 := S) rfl rfl rfl rfl (f_X3_nameOf_ok (d := d + 1) (by unfold f_X3_nameOf; rw [if_pos h10])) ?_
          show Ev (d + 2) Mx40 (56, [.ref 31, .int x1, .int x2, .int x3], [.ref 1017, .ref 1], S, 0) r
          refine ev_bI0 (d := d + 1) (M' := Mx79) (ct := (59, [.ref 31, .int x1, .int x2, .int x3], [], S, 0)) hf rfl rfl rfl rfl (fun r9 h9 => f_X8_takesWord_ok_1017 (d := d) h9) (fun r13 S12 hf => ?_)
          show Ev (d + 2) Mx40 (59, [.ref 31, .int x1, .int x2, .int x3], [.int r13], S12, 0) r
          refine ev_if (c1 := (68, [.ref 31, .int x1, .int x2, .int x3], [], S12, 0)) (c2 := (62, [.ref 31, .int x1, .int x2, .int x3], [], S12, 0)) hf rfl rfl (fun _ hf => ?_) (fun _ hf => ?_)
          · exact f_X3_readSum_b68_ok hK2 (fun h9 => ih h9) hf
          · refine ev_sts 4 (c2 := (68, [.ref 31, .int x1, .int (((1000 : Int32)) + x3), .int x3], [], S12, 0)) rfl ?_
            refine ev_let (P := fun y14 => Ev (d + 2) Mx40 (68, [.ref 31, .int x1, .int y14, .int x3], [], S12, 0) r) (fun y14 hf => ?_) hf
            exact f_X3_readSum_b68_ok hK2 (fun h9 => ih h9) hf
        rcases ite_or hf with ⟨h14, hf⟩ | ⟨h14, hf⟩
        · refine ev_callr (d := d + 1) (M' := Mx41) (ct := (56, [.ref 31, .int x1, .int x2, .int x3], [.ref 1], S, 0)) (w := some (.ref 1001)) (S1 := S) rfl rfl rfl rfl (f_X3_nameOf_ok (d := d + 1) (by unfold f_X3_nameOf; rw [if_neg h10, if_pos h14])) ?_
          show Ev (d + 2) Mx40 (56, [.ref 31, .int x1, .int x2, .int x3], [.ref 1001, .ref 1], S, 0) r
          refine ev_bI0 (d := d + 1) (M' := Mx79) (ct := (59, [.ref 31, .int x1, .int x2, .int x3], [], S, 0)) hf rfl rfl rfl rfl (fun r9 h9 => f_X8_takesWord_ok_1001 (d := d) h9) (fun r17 S16 hf => ?_)
          show Ev (d + 2) Mx40 (59, [.ref 31, .int x1, .int x2, .int x3], [.int r17], S16, 0) r
          refine ev_if (c1 := (68, [.ref 31, .int x1, .int x2, .int x3], [], S16, 0)) (c2 := (62, [.ref 31, .int x1, .int x2, .int x3], [], S16, 0)) hf rfl rfl (fun _ hf => ?_) (fun _ hf => ?_)
          · exact f_X3_readSum_b68_ok hK2 (fun h9 => ih h9) hf
          · refine ev_sts 4 (c2 := (68, [.ref 31, .int x1, .int (((1000 : Int32)) + x3), .int x3], [], S16, 0)) rfl ?_
            refine ev_let (P := fun y18 => Ev (d + 2) Mx40 (68, [.ref 31, .int x1, .int y18, .int x3], [], S16, 0) r) (fun y18 hf => ?_) hf
            exact f_X3_readSum_b68_ok hK2 (fun h9 => ih h9) hf
        rcases ite_or hf with ⟨h18, hf⟩ | ⟨h18, hf⟩
        · refine ev_callr (d := d + 1) (M' := Mx41) (ct := (56, [.ref 31, .int x1, .int x2, .int x3], [.ref 1], S, 0)) (w := some (.ref 1002)) (S1 := S) rfl rfl rfl rfl (f_X3_nameOf_ok (d := d + 1) (by unfold f_X3_nameOf; rw [if_neg h10, if_neg h14, if_pos h18])) ?_
          show Ev (d + 2) Mx40 (56, [.ref 31, .int x1, .int x2, .int x3], [.ref 1002, .ref 1], S, 0) r
          refine ev_bI0 (d := d + 1) (M' := Mx79) (ct := (59, [.ref 31, .int x1, .int x2, .int x3], [], S, 0)) hf rfl rfl rfl rfl (fun r9 h9 => f_X8_takesWord_ok_1002 (d := d) h9) (fun r21 S20 hf => ?_)
          show Ev (d + 2) Mx40 (59, [.ref 31, .int x1, .int x2, .int x3], [.int r21], S20, 0) r
          refine ev_if (c1 := (68, [.ref 31, .int x1, .int x2, .int x3], [], S20, 0)) (c2 := (62, [.ref 31, .int x1, .int x2, .int x3], [], S20, 0)) hf rfl rfl (fun _ hf => ?_) (fun _ hf => ?_)
          · exact f_X3_readSum_b68_ok hK2 (fun h9 => ih h9) hf
          · refine ev_sts 4 (c2 := (68, [.ref 31, .int x1, .int (((1000 : Int32)) + x3), .int x3], [], S20, 0)) rfl ?_
            refine ev_let (P := fun y22 => Ev (d + 2) Mx40 (68, [.ref 31, .int x1, .int y22, .int x3], [], S20, 0) r) (fun y22 hf => ?_) hf
            exact f_X3_readSum_b68_ok hK2 (fun h9 => ih h9) hf
        rcases ite_or hf with ⟨h22, hf⟩ | ⟨h22, hf⟩
        · refine ev_callr (d := d + 1) (M' := Mx41) (ct := (56, [.ref 31, .int x1, .int x2, .int x3], [.ref 1], S, 0)) (w := some (.ref 1003)) (S1 := S) rfl rfl rfl rfl (f_X3_nameOf_ok (d := d + 1) (by unfold f_X3_nameOf; rw [if_neg h10, if_neg h14, if_neg h18, if_pos h22])) ?_
          show Ev (d + 2) Mx40 (56, [.ref 31, .int x1, .int x2, .int x3], [.ref 1003, .ref 1], S, 0) r
          refine ev_bI0 (d := d + 1) (M' := Mx79) (ct := (59, [.ref 31, .int x1, .int x2, .int x3], [], S, 0)) hf rfl rfl rfl rfl (fun r9 h9 => f_X8_takesWord_ok_1003 (d := d) h9) (fun r25 S24 hf => ?_)
          show Ev (d + 2) Mx40 (59, [.ref 31, .int x1, .int x2, .int x3], [.int r25], S24, 0) r
          refine ev_if (c1 := (68, [.ref 31, .int x1, .int x2, .int x3], [], S24, 0)) (c2 := (62, [.ref 31, .int x1, .int x2, .int x3], [], S24, 0)) hf rfl rfl (fun _ hf => ?_) (fun _ hf => ?_)
          · exact f_X3_readSum_b68_ok hK2 (fun h9 => ih h9) hf
          · refine ev_sts 4 (c2 := (68, [.ref 31, .int x1, .int (((1000 : Int32)) + x3), .int x3], [], S24, 0)) rfl ?_
            refine ev_let (P := fun y26 => Ev (d + 2) Mx40 (68, [.ref 31, .int x1, .int y26, .int x3], [], S24, 0) r) (fun y26 hf => ?_) hf
            exact f_X3_readSum_b68_ok hK2 (fun h9 => ih h9) hf
        rcases ite_or hf with ⟨h26, hf⟩ | ⟨h26, hf⟩
        · refine ev_callr (d := d + 1) (M' := Mx41) (ct := (56, [.ref 31, .int x1, .int x2, .int x3], [.ref 1], S, 0)) (w := some (.ref 1004)) (S1 := S) rfl rfl rfl rfl (f_X3_nameOf_ok (d := d + 1) (by unfold f_X3_nameOf; rw [if_neg h10, if_neg h14, if_neg h18, if_neg h22, if_pos h26])) ?_
          show Ev (d + 2) Mx40 (56, [.ref 31, .int x1, .int x2, .int x3], [.ref 1004, .ref 1], S, 0) r
          refine ev_bI0 (d := d + 1) (M' := Mx79) (ct := (59, [.ref 31, .int x1, .int x2, .int x3], [], S, 0)) hf rfl rfl rfl rfl (fun r9 h9 => f_X8_takesWord_ok_1004 (d := d) h9) (fun r29 S28 hf => ?_)
          show Ev (d + 2) Mx40 (59, [.ref 31, .int x1, .int x2, .int x3], [.int r29], S28, 0) r
          refine ev_if (c1 := (68, [.ref 31, .int x1, .int x2, .int x3], [], S28, 0)) (c2 := (62, [.ref 31, .int x1, .int x2, .int x3], [], S28, 0)) hf rfl rfl (fun _ hf => ?_) (fun _ hf => ?_)
          · exact f_X3_readSum_b68_ok hK2 (fun h9 => ih h9) hf
          · refine ev_sts 4 (c2 := (68, [.ref 31, .int x1, .int (((1000 : Int32)) + x3), .int x3], [], S28, 0)) rfl ?_
            refine ev_let (P := fun y30 => Ev (d + 2) Mx40 (68, [.ref 31, .int x1, .int y30, .int x3], [], S28, 0) r) (fun y30 hf => ?_) hf
            exact f_X3_readSum_b68_ok hK2 (fun h9 => ih h9) hf
        rcases ite_or hf with ⟨h30, hf⟩ | ⟨h30, hf⟩
        · refine ev_callr (d := d + 1) (M' := Mx41) (ct := (56, [.ref 31, .int x1, .int x2, .int x3], [.ref 1], S, 0)) (w := some (.ref 1018)) (S1 := S) rfl rfl rfl rfl (f_X3_nameOf_ok (d := d + 1) (by unfold f_X3_nameOf; rw [if_neg h10, if_neg h14, if_neg h18, if_neg h22, if_neg h26, if_pos h30])) ?_
          show Ev (d + 2) Mx40 (56, [.ref 31, .int x1, .int x2, .int x3], [.ref 1018, .ref 1], S, 0) r
          refine ev_bI0 (d := d + 1) (M' := Mx79) (ct := (59, [.ref 31, .int x1, .int x2, .int x3], [], S, 0)) hf rfl rfl rfl rfl (fun r9 h9 => f_X8_takesWord_ok_1018 (d := d) h9) (fun r33 S32 hf => ?_)
          show Ev (d + 2) Mx40 (59, [.ref 31, .int x1, .int x2, .int x3], [.int r33], S32, 0) r
          refine ev_if (c1 := (68, [.ref 31, .int x1, .int x2, .int x3], [], S32, 0)) (c2 := (62, [.ref 31, .int x1, .int x2, .int x3], [], S32, 0)) hf rfl rfl (fun _ hf => ?_) (fun _ hf => ?_)
          · exact f_X3_readSum_b68_ok hK2 (fun h9 => ih h9) hf
          · refine ev_sts 4 (c2 := (68, [.ref 31, .int x1, .int (((1000 : Int32)) + x3), .int x3], [], S32, 0)) rfl ?_
            refine ev_let (P := fun y34 => Ev (d + 2) Mx40 (68, [.ref 31, .int x1, .int y34, .int x3], [], S32, 0) r) (fun y34 hf => ?_) hf
            exact f_X3_readSum_b68_ok hK2 (fun h9 => ih h9) hf
        rcases ite_or hf with ⟨h34, hf⟩ | ⟨h34, hf⟩
        · refine ev_callr (d := d + 1) (M' := Mx41) (ct := (56, [.ref 31, .int x1, .int x2, .int x3], [.ref 1], S, 0)) (w := some (.ref 1019)) (S1 := S) rfl rfl rfl rfl (f_X3_nameOf_ok (d := d + 1) (by unfold f_X3_nameOf; rw [if_neg h10, if_neg h14, if_neg h18, if_neg h22, if_neg h26, if_neg h30, if_pos h34])) ?_
          show Ev (d + 2) Mx40 (56, [.ref 31, .int x1, .int x2, .int x3], [.ref 1019, .ref 1], S, 0) r
          refine ev_bI0 (d := d + 1) (M' := Mx79) (ct := (59, [.ref 31, .int x1, .int x2, .int x3], [], S, 0)) hf rfl rfl rfl rfl (fun r9 h9 => f_X8_takesWord_ok_1019 (d := d) h9) (fun r37 S36 hf => ?_)
          show Ev (d + 2) Mx40 (59, [.ref 31, .int x1, .int x2, .int x3], [.int r37], S36, 0) r
          refine ev_if (c1 := (68, [.ref 31, .int x1, .int x2, .int x3], [], S36, 0)) (c2 := (62, [.ref 31, .int x1, .int x2, .int x3], [], S36, 0)) hf rfl rfl (fun _ hf => ?_) (fun _ hf => ?_)
          · exact f_X3_readSum_b68_ok hK2 (fun h9 => ih h9) hf
          · refine ev_sts 4 (c2 := (68, [.ref 31, .int x1, .int (((1000 : Int32)) + x3), .int x3], [], S36, 0)) rfl ?_
            refine ev_let (P := fun y38 => Ev (d + 2) Mx40 (68, [.ref 31, .int x1, .int y38, .int x3], [], S36, 0) r) (fun y38 hf => ?_) hf
            exact f_X3_readSum_b68_ok hK2 (fun h9 => ih h9) hf
        refine ev_callr (d := d + 1) (M' := Mx41) (ct := (56, [.ref 31, .int x1, .int x2, .int x3], [.ref 1], S, 0)) (w := some (.ref 1020)) (S1 := S) rfl rfl rfl rfl (f_X3_nameOf_ok (d := d + 1) (by unfold f_X3_nameOf; rw [if_neg h10, if_neg h14, if_neg h18, if_neg h22, if_neg h26, if_neg h30, if_neg h34])) ?_
        show Ev (d + 2) Mx40 (56, [.ref 31, .int x1, .int x2, .int x3], [.ref 1020, .ref 1], S, 0) r
        refine ev_bI0 (d := d + 1) (M' := Mx79) (ct := (59, [.ref 31, .int x1, .int x2, .int x3], [], S, 0)) hf rfl rfl rfl rfl (fun r9 h9 => f_X8_takesWord_ok_1020 (d := d) h9) (fun r40 S39 hf => ?_)
        show Ev (d + 2) Mx40 (59, [.ref 31, .int x1, .int x2, .int x3], [.int r40], S39, 0) r
        refine ev_if (c1 := (68, [.ref 31, .int x1, .int x2, .int x3], [], S39, 0)) (c2 := (62, [.ref 31, .int x1, .int x2, .int x3], [], S39, 0)) hf rfl rfl (fun _ hf => ?_) (fun _ hf => ?_)
        · exact f_X3_readSum_b68_ok hK2 (fun h9 => ih h9) hf
        · refine ev_sts 4 (c2 := (68, [.ref 31, .int x1, .int (((1000 : Int32)) + x3), .int x3], [], S39, 0)) rfl ?_
          refine ev_let (P := fun y41 => Ev (d + 2) Mx40 (68, [.ref 31, .int x1, .int y41, .int x3], [], S39, 0) r) (fun y41 hf => ?_) hf
          exact f_X3_readSum_b68_ok hK2 (fun h9 => ih h9) hf
theorem f_X3_readSum_b34_ok {d F : Nat} {K2 : Int32 → mS → Option mR} (hK2 : ∀ {x1 : Int32} {S : mS} {r : mR}, K2 x1 S = some r → Ev (d + 2) Mx40 (2, [.ref 31, .int x1, mK, mK], [], S, 0) r) {x1 : Int32} {t0 : Int32} {S : mS} {r : mR} (hf : f_X3_readSum_b34 K2 F x1 t0 S = some r) : Ev (d + 2) Mx40 (34, [.ref 31, .int x1, mK, mK], [.int t0], S, 0) r := by
  unfold f_X3_readSum_b34 at hf
  exact ev_sts 3 (c2 := (37, [.ref 31, .int x1, .int t0, .int ((0 : Int32))], [], S, 0)) rfl (f_X3_readSum_b37_ok hK2 _ hf)
theorem f_X3_readSum_b2_ok {d F : Nat} : ∀ (n : Nat) {x1 : Int32} {S : mS} {r : mR}, f_X3_readSum_b2 F n x1 S = some r → Ev (d + 2) Mx40 (2, [.ref 31, .int x1, mK, mK], [], S, 0) r := by
  intro n
  induction n with
  | zero => intro x1 S r hf; cases hf
  | succ n ih =>
    intro x1 S r hf
    rw [f_X3_readSum_b2] at hf
    refine ev_sts 2 (c2 := (6, [.ref 31, .int x1, mK, mK], [.int ((400 : Int32)), .int x1], S, 0)) rfl ?_
    refine ev_if (c1 := (129, [.ref 31, .int x1, mK, mK], [], S, 0)) (c2 := (9, [.ref 31, .int x1, mK, mK], [], S, 0)) hf rfl rfl (fun _ hf => ?_) (fun _ hf => ?_)
    · refine ev_sts 2 (c2 := (133, [.ref 31, .int x1, mK, mK], [.ref 1], S, 0)) rfl ?_
      refine ev_bI0 (d := d + 1) (M' := Mx78) (ct := (136, [.ref 31, .int x1, mK, mK], [], S, 0)) hf rfl rfl rfl rfl (fun r9 h9 => f_X8_refuse_ok (d := d + 1) h9) (fun r2 S1 hf => ?_)
      show Ev (d + 2) Mx40 (136, [.ref 31, .int x1, mK, mK], [.int r2], S1, 0) r
      exact ev_ret hf rfl rfl
    · refine ev_sts 2 (c2 := (13, [.ref 31, .int x1, mK, mK], [.ref 1], S, 0)) rfl ?_
      refine ev_bI0 (d := d + 1) (M' := Mx81) (ct := (16, [.ref 31, .int x1, mK, mK], [], S, 0)) hf rfl rfl rfl rfl (fun r9 h9 => f_X8_isAtDigit_ok (d := d) h9) (fun r4 S3 hf => ?_)
      show Ev (d + 2) Mx40 (16, [.ref 31, .int x1, mK, mK], [.int r4], S3, 0) r
      refine ev_if (c1 := (33, [.ref 31, .int x1, mK, mK], [], S3, 0)) (c2 := (19, [.ref 31, .int x1, mK, mK], [], S3, 0)) hf rfl rfl (fun _ hf => ?_) (fun _ hf => ?_)
      · exact ev_sts 1 (c2 := (34, [.ref 31, .int x1, mK, mK], [.int ((-1 : Int32))], S3, 0)) rfl (f_X3_readSum_b34_ok (fun h9 => ih h9) hf)
      · refine ev_sts 4 (c2 := (27, [.ref 31, .int x1, mK, mK], [.int ((999 : Int32)), .int ((0 : Int32)), .ref 1], S3, 0)) rfl ?_
        refine ev_bI0 (d := d + 1) (M' := Mx82) (ct := (30, [.ref 31, .int x1, mK, mK], [], S3, 0)) hf rfl rfl rfl rfl (fun r9 h9 => f_X8_takeNumber_ok (d := d) h9) (fun r43 S42 hf => ?_)
        show Ev (d + 2) Mx40 (30, [.ref 31, .int x1, mK, mK], [.int r43], S42, 0) r
        exact ev_sts 1 (c2 := (34, [.ref 31, .int x1, mK, mK], [.int r43], S42, 0)) rfl (f_X3_readSum_b34_ok (fun h9 => ih h9) hf)
theorem f_X3_readSum_ok {d F : Nat} {S : mS} {r : mR} (hf : f_X3_readSum F S = some r) : Ev (d + 2) Mx40 (entry Mx40 [.ref 31] S) r := by
  unfold f_X3_readSum at hf
  exact ev_sts 2 (c2 := (2, [.ref 31, .int ((0 : Int32)), mK, mK], [], S, 0)) rfl (f_X3_readSum_b2_ok _ hf)
def f_X3_readAny_b80 (G_X3_readAny : Int32 → mS → Option mR) (G_X3_readAtom : Int32 → mS → Option mR) (K2 : Int32 → Int32 → mS → Option mR) (F : Nat) (x1 : Int32) (x2 : Int32) (S : mS) : Option mR := bI0 (f_X8_takesWord F 22 S) (fun r6 S5 => (if ¬ r6 = 0 then K2 x1 (x2 + (1 : Int32)) S5 else some (.inl (some (.int (((1 : Int32)) &&& 1))), S5)))
def f_X3_readAny_b66 (G_X3_readAny : Int32 → mS → Option mR) (G_X3_readAtom : Int32 → mS → Option mR) (K2 : Int32 → Int32 → mS → Option mR) (F : Nat) (x1 : Int32) (x2 : Int32) (S : mS) : Option mR := (if x2 ≤ 0 then f_X3_readAny_b80 G_X3_readAny G_X3_readAtom K2 F x1 x2 S else bV0 (f_X2_addCode ((2002 : Int32)) S) (fun S7 => f_X3_readAny_b80 G_X3_readAny G_X3_readAtom K2 F x1 x2 S7))
def f_X3_readAny_b21 (G_X3_readAny : Int32 → mS → Option mR) (G_X3_readAtom : Int32 → mS → Option mR) (K2 : Int32 → Int32 → mS → Option mR) (F : Nat) : Nat → Int32 → Int32 → Int32 → mS → Option mR
  | 0, _, _, _, _ => none
  | n + 1, x1, x2, x3, S => (if ((400 : Int32)) ≤ x3 then f_X3_readAny_b66 G_X3_readAny G_X3_readAtom K2 F x1 x2 S else bI0 (f_X8_takesWord F 21 S) (fun r9 S8 => (if r9 = 0 then f_X3_readAny_b66 G_X3_readAny G_X3_readAtom K2 F x1 x2 S8 else bI0 (G_X3_readAtom x1 S8) (fun r11 S10 => (if ¬ r11 = 0 then bV0 (f_X2_addCode ((2001 : Int32)) S10) (fun S12 => f_X3_readAny_b21 G_X3_readAny G_X3_readAtom K2 F n x1 x2 (x3 + (1 : Int32)) S12) else some (.inl (some (.int (((0 : Int32)) &&& 1))), S10))))))
def f_X3_readAny_b2 (G_X3_readAny : Int32 → mS → Option mR) (G_X3_readAtom : Int32 → mS → Option mR) (F : Nat) : Nat → Int32 → Int32 → mS → Option mR
  | 0, _, _, _ => none
  | n + 1, x1, x2, S => (if ((400 : Int32)) ≤ x2 then bI0 (f_X8_refuse S) (fun r2 S1 => some (.inl (some (.int (r2 &&& 1))), S1)) else bI0 (G_X3_readAtom x1 S) (fun r4 S3 => (if ¬ r4 = 0 then f_X3_readAny_b21 G_X3_readAny G_X3_readAtom (fun x1 x2 S => f_X3_readAny_b2 G_X3_readAny G_X3_readAtom F n x1 x2 S) F F x1 x2 ((0 : Int32)) S3 else some (.inl (some (.int (((0 : Int32)) &&& 1))), S3))))
def f_X3_readAny (G_X3_readAny : Int32 → mS → Option mR) (G_X3_readAtom : Int32 → mS → Option mR) (F : Nat) (p1 : Int32) (S : mS) : Option mR := f_X3_readAny_b2 G_X3_readAny G_X3_readAtom F F p1 ((0 : Int32)) S
def f_X3_readAtom_b191 (G_X3_readAny : Int32 → mS → Option mR) (G_X3_readAtom : Int32 → mS → Option mR) (F : Nat) (t1 : Int32) (S : mS) : Option mR := bV0 (f_X2_addCode t1 S) (fun S9 => some (.inl (some (.int (((1 : Int32)) &&& 1))), S9))
def f_X3_readAtom_b165 (G_X3_readAny : Int32 → mS → Option mR) (G_X3_readAtom : Int32 → mS → Option mR) (F : Nat) (x2 : Int32) (S : mS) : Option mR := bI0 (f_X3_readSum F S) (fun r8 S7 => (if ¬ r8 = 0 then (if x2 = 0 then f_X3_readAtom_b191 G_X3_readAny G_X3_readAtom F ((2004 : Int32)) S7 else f_X3_readAtom_b191 G_X3_readAny G_X3_readAtom F ((2003 : Int32)) S7) else some (.inl (some (.int (((0 : Int32)) &&& 1))), S7)))
def f_X3_readAtom_b98 (G_X3_readAny : Int32 → mS → Option mR) (G_X3_readAtom : Int32 → mS → Option mR) (F : Nat) (S : mS) : Option mR := bI0 (f_X8_takesWord F 16 S) (fun r2 S1 => (if r2 = 0 then bI0 (f_X3_readSum F S1) (fun r4 S3 => (if ¬ r4 = 0 then bI0 (f_X8_takesSign F ((60 : Int32)) S3) (fun r6 S5 => (if ¬ r6 = 0 then f_X3_readAtom_b165 G_X3_readAny G_X3_readAtom F r6 S5 else bI0 (f_X8_takesSign F ((62 : Int32)) S5) (fun r11 S10 => (if ¬ r11 = 0 then f_X3_readAtom_b165 G_X3_readAny G_X3_readAtom F r6 S10 else bI0 (f_X8_refuse S10) (fun r13 S12 => some (.inl (some (.int (r13 &&& 1))), S12)))))) else some (.inl (some (.int (((0 : Int32)) &&& 1))), S3))) else bV0 (f_X2_addCode ((1008 : Int32)) S1) (fun S14 => some (.inl (some (.int (((1 : Int32)) &&& 1))), S14))))
def f_X3_readAtom_b97 (G_X3_readAny : Int32 → mS → Option mR) (G_X3_readAtom : Int32 → mS → Option mR) (F : Nat) (t0 : Int32) (S : mS) : Option mR := some (.inl (some (.int (t0 &&& 1))), S)
def f_X3_readAtom_b96 (G_X3_readAny : Int32 → mS → Option mR) (G_X3_readAtom : Int32 → mS → Option mR) (F : Nat) (S : mS) : Option mR := f_X3_readAtom_b97 G_X3_readAny G_X3_readAtom F ((0 : Int32)) S
def f_X3_readAtom_b92 (G_X3_readAny : Int32 → mS → Option mR) (G_X3_readAtom : Int32 → mS → Option mR) (F : Nat) (S : mS) : Option mR := f_X3_readAtom_b97 G_X3_readAny G_X3_readAtom F ((1 : Int32)) S
def f_X3_readAtom_b42 (G_X3_readAny : Int32 → mS → Option mR) (G_X3_readAtom : Int32 → mS → Option mR) (F : Nat) (x1 : Int32) (S : mS) : Option mR := (if ((6 : Int32)) ≤ x1 then f_X3_readAtom_b98 G_X3_readAny G_X3_readAtom F S else bI0 (f_X8_takesSign F ((40 : Int32)) S) (fun r16 S15 => (if r16 = 0 then f_X3_readAtom_b98 G_X3_readAny G_X3_readAtom F S15 else bI0 (G_X3_readAny (x1 + ((1 : Int32))) S15) (fun r18 S17 => (if r18 = 0 then f_X3_readAtom_b96 G_X3_readAny G_X3_readAtom F S17 else bI0 (f_X8_takesSign F ((41 : Int32)) S17) (fun r20 S19 => (if ¬ r20 = 0 then f_X3_readAtom_b92 G_X3_readAny G_X3_readAtom F S19 else bI0 (f_X8_refuse S19) (fun r22 S21 => (if r22 = 0 then f_X3_readAtom_b96 G_X3_readAny G_X3_readAtom F S21 else f_X3_readAtom_b92 G_X3_readAny G_X3_readAtom F S21)))))))))
def f_X3_readAtom (G_X3_readAny : Int32 → mS → Option mR) (G_X3_readAtom : Int32 → mS → Option mR) (F : Nat) (p1 : Int32) (S : mS) : Option mR := (if ((6 : Int32)) ≤ p1 then f_X3_readAtom_b42 G_X3_readAny G_X3_readAtom F p1 S else bI0 (f_X8_takesWord F 15 S) (fun r24 S23 => (if r24 = 0 then f_X3_readAtom_b42 G_X3_readAny G_X3_readAtom F p1 S23 else bI0 (G_X3_readAtom (p1 + ((1 : Int32))) S23) (fun r26 S25 => (if ¬ r26 = 0 then bV0 (f_X2_addCode ((2000 : Int32)) S25) (fun S27 => some (.inl (some (.int (((1 : Int32)) &&& 1))), S27)) else some (.inl (some (.int (((0 : Int32)) &&& 1))), S25))))))
theorem f_X3_readAny_b80_ok {d F : Nat} {G_X3_readAny : Int32 → mS → Option mR} (hG_X3_readAny : ∀ {a1 : Int32} {S : mS} {r : mR}, G_X3_readAny a1 S = some r → Ev (d + 2) Mx38 (entry Mx38 [.ref 31, .int a1] S) r) {G_X3_readAtom : Int32 → mS → Option mR} (hG_X3_readAtom : ∀ {a1 : Int32} {S : mS} {r : mR}, G_X3_readAtom a1 S = some r → Ev (d + 2) Mx39 (entry Mx39 [.ref 31, .int a1] S) r) {K2 : Int32 → Int32 → mS → Option mR} (hK2 : ∀ {x1 : Int32} {x2 : Int32} {S : mS} {r : mR}, K2 x1 x2 S = some r → Ev (d + 3) Mx38 (2, [.ref 31, .int x1, .int x2, mK], [], S, 0) r) {x1 : Int32} {x2 : Int32} {S : mS} {r : mR} (hf : f_X3_readAny_b80 G_X3_readAny G_X3_readAtom K2 F x1 x2 S = some r) : Ev (d + 3) Mx38 (80, [.ref 31, .int x1, .int x2, mK], [], S, 0) r := by
  unfold f_X3_readAny_b80 at hf
  refine ev_sts 3 (c2 := (86, [.ref 31, .int x1, .int x2, mK], [.ref 1022, .ref 1], S, 0)) rfl ?_
  refine ev_bI0 (d := d + 2) (M' := Mx79) (ct := (89, [.ref 31, .int x1, .int x2, mK], [], S, 0)) hf rfl rfl rfl rfl (fun r9 h9 => f_X8_takesWord_ok_1022 (d := d + 1) h9) (fun r6 S5 hf => ?_)
  show Ev (d + 3) Mx38 (89, [.ref 31, .int x1, .int x2, mK], [.int r6], S5, 0) r
  refine ev_if (c1 := (94, [.ref 31, .int x1, .int x2, mK], [], S5, 0)) (c2 := (92, [.ref 31, .int x1, .int x2, mK], [], S5, 0)) hf rfl rfl (fun _ hf => ?_) (fun _ hf => ?_)
  · exact ev_sts 2 (c2 := (2, [.ref 31, .int x1, .int (x2 + (1 : Int32)), mK], [], S5, 0)) rfl (hK2 hf)
  · refine ev_sts 1 (c2 := (93, [.ref 31, .int x1, .int x2, mK], [.int ((1 : Int32))], S5, 0)) rfl ?_
    exact ev_ret hf rfl rfl
theorem f_X3_readAny_b66_ok {d F : Nat} {G_X3_readAny : Int32 → mS → Option mR} (hG_X3_readAny : ∀ {a1 : Int32} {S : mS} {r : mR}, G_X3_readAny a1 S = some r → Ev (d + 2) Mx38 (entry Mx38 [.ref 31, .int a1] S) r) {G_X3_readAtom : Int32 → mS → Option mR} (hG_X3_readAtom : ∀ {a1 : Int32} {S : mS} {r : mR}, G_X3_readAtom a1 S = some r → Ev (d + 2) Mx39 (entry Mx39 [.ref 31, .int a1] S) r) {K2 : Int32 → Int32 → mS → Option mR} (hK2 : ∀ {x1 : Int32} {x2 : Int32} {S : mS} {r : mR}, K2 x1 x2 S = some r → Ev (d + 3) Mx38 (2, [.ref 31, .int x1, .int x2, mK], [], S, 0) r) {x1 : Int32} {x2 : Int32} {S : mS} {r : mR} (hf : f_X3_readAny_b66 G_X3_readAny G_X3_readAtom K2 F x1 x2 S = some r) : Ev (d + 3) Mx38 (66, [.ref 31, .int x1, .int x2, mK], [], S, 0) r := by
  unfold f_X3_readAny_b66 at hf
  refine ev_sts 1 (c2 := (67, [.ref 31, .int x1, .int x2, mK], [.int x2], S, 0)) rfl ?_
  refine ev_if (c1 := (80, [.ref 31, .int x1, .int x2, mK], [], S, 0)) (c2 := (70, [.ref 31, .int x1, .int x2, mK], [], S, 0)) hf rfl rfl (fun _ hf => ?_) (fun _ hf => ?_)
  · exact f_X3_readAny_b80_ok hG_X3_readAny hG_X3_readAtom hK2 hf
  · refine ev_sts 3 (c2 := (77, [.ref 31, .int x1, .int x2, mK], [.int ((2002 : Int32)), .ref 10], S, 0)) rfl ?_
    refine ev_bV0 (d := d + 2) (M' := Mx30) (ct := (80, [.ref 31, .int x1, .int x2, mK], [], S, 0)) hf rfl rfl rfl rfl (fun r9 h9 => f_X2_addCode_ok (d := d + 2) h9) (fun S7 hf => ?_)
    show Ev (d + 3) Mx38 (80, [.ref 31, .int x1, .int x2, mK], [], S7, 0) r
    exact f_X3_readAny_b80_ok hG_X3_readAny hG_X3_readAtom hK2 hf
theorem f_X3_readAny_b21_ok {d F : Nat} {G_X3_readAny : Int32 → mS → Option mR} (hG_X3_readAny : ∀ {a1 : Int32} {S : mS} {r : mR}, G_X3_readAny a1 S = some r → Ev (d + 2) Mx38 (entry Mx38 [.ref 31, .int a1] S) r) {G_X3_readAtom : Int32 → mS → Option mR} (hG_X3_readAtom : ∀ {a1 : Int32} {S : mS} {r : mR}, G_X3_readAtom a1 S = some r → Ev (d + 2) Mx39 (entry Mx39 [.ref 31, .int a1] S) r) {K2 : Int32 → Int32 → mS → Option mR} (hK2 : ∀ {x1 : Int32} {x2 : Int32} {S : mS} {r : mR}, K2 x1 x2 S = some r → Ev (d + 3) Mx38 (2, [.ref 31, .int x1, .int x2, mK], [], S, 0) r) : ∀ (n : Nat) {x1 : Int32} {x2 : Int32} {x3 : Int32} {S : mS} {r : mR}, f_X3_readAny_b21 G_X3_readAny G_X3_readAtom K2 F n x1 x2 x3 S = some r → Ev (d + 3) Mx38 (21, [.ref 31, .int x1, .int x2, .int x3], [], S, 0) r := by
  intro n
  induction n with
  | zero => intro x1 x2 x3 S r hf; cases hf
  | succ n ih =>
    intro x1 x2 x3 S r hf
    rw [f_X3_readAny_b21] at hf
    refine ev_sts 2 (c2 := (25, [.ref 31, .int x1, .int x2, .int x3], [.int ((400 : Int32)), .int x3], S, 0)) rfl ?_
    refine ev_if (c1 := (66, [.ref 31, .int x1, .int x2, mK], [], S, 0)) (c2 := (28, [.ref 31, .int x1, .int x2, .int x3], [], S, 0)) hf rfl rfl (fun _ hf => ?_) (fun _ hf => ?_)
    · exact f_X3_readAny_b66_ok hG_X3_readAny hG_X3_readAtom hK2 hf
    · refine ev_sts 3 (c2 := (34, [.ref 31, .int x1, .int x2, .int x3], [.ref 1021, .ref 1], S, 0)) rfl ?_
      refine ev_bI0 (d := d + 2) (M' := Mx79) (ct := (37, [.ref 31, .int x1, .int x2, .int x3], [], S, 0)) hf rfl rfl rfl rfl (fun r9 h9 => f_X8_takesWord_ok_1021 (d := d + 1) h9) (fun r9 S8 hf => ?_)
      show Ev (d + 3) Mx38 (37, [.ref 31, .int x1, .int x2, .int x3], [.int r9], S8, 0) r
      refine ev_if (c1 := (66, [.ref 31, .int x1, .int x2, mK], [], S8, 0)) (c2 := (40, [.ref 31, .int x1, .int x2, .int x3], [], S8, 0)) hf rfl rfl (fun _ hf => ?_) (fun _ hf => ?_)
      · exact f_X3_readAny_b66_ok hG_X3_readAny hG_X3_readAtom hK2 hf
      · refine ev_sts 2 (c2 := (42, [.ref 31, .int x1, .int x2, .int x3], [.int x1, .ref 31], S8, 0)) rfl ?_
        refine ev_bI0 (d := d + 2) (M' := Mx39) (ct := (45, [.ref 31, .int x1, .int x2, .int x3], [], S8, 0)) hf rfl rfl rfl rfl (fun r9 h9 => hG_X3_readAtom h9) (fun r11 S10 hf => ?_)
        show Ev (d + 3) Mx38 (45, [.ref 31, .int x1, .int x2, .int x3], [.int r11], S10, 0) r
        refine ev_if (c1 := (50, [.ref 31, .int x1, .int x2, .int x3], [], S10, 0)) (c2 := (48, [.ref 31, .int x1, .int x2, .int x3], [], S10, 0)) hf rfl rfl (fun _ hf => ?_) (fun _ hf => ?_)
        · refine ev_sts 3 (c2 := (57, [.ref 31, .int x1, .int x2, .int x3], [.int ((2001 : Int32)), .ref 10], S10, 0)) rfl ?_
          refine ev_bV0 (d := d + 2) (M' := Mx30) (ct := (60, [.ref 31, .int x1, .int x2, .int x3], [], S10, 0)) hf rfl rfl rfl rfl (fun r9 h9 => f_X2_addCode_ok (d := d + 2) h9) (fun S12 hf => ?_)
          show Ev (d + 3) Mx38 (60, [.ref 31, .int x1, .int x2, .int x3], [], S12, 0) r
          exact ev_sts 2 (c2 := (21, [.ref 31, .int x1, .int x2, .int (x3 + (1 : Int32))], [], S12, 0)) rfl (ih hf)
        · refine ev_sts 1 (c2 := (49, [.ref 31, .int x1, .int x2, .int x3], [.int ((0 : Int32))], S10, 0)) rfl ?_
          exact ev_ret hf rfl rfl
theorem f_X3_readAny_b2_ok {d F : Nat} {G_X3_readAny : Int32 → mS → Option mR} (hG_X3_readAny : ∀ {a1 : Int32} {S : mS} {r : mR}, G_X3_readAny a1 S = some r → Ev (d + 2) Mx38 (entry Mx38 [.ref 31, .int a1] S) r) {G_X3_readAtom : Int32 → mS → Option mR} (hG_X3_readAtom : ∀ {a1 : Int32} {S : mS} {r : mR}, G_X3_readAtom a1 S = some r → Ev (d + 2) Mx39 (entry Mx39 [.ref 31, .int a1] S) r) : ∀ (n : Nat) {x1 : Int32} {x2 : Int32} {S : mS} {r : mR}, f_X3_readAny_b2 G_X3_readAny G_X3_readAtom F n x1 x2 S = some r → Ev (d + 3) Mx38 (2, [.ref 31, .int x1, .int x2, mK], [], S, 0) r := by
  intro n
  induction n with
  | zero => intro x1 x2 S r hf; cases hf
  | succ n ih =>
    intro x1 x2 S r hf
    rw [f_X3_readAny_b2] at hf
    refine ev_sts 2 (c2 := (6, [.ref 31, .int x1, .int x2, mK], [.int ((400 : Int32)), .int x2], S, 0)) rfl ?_
    refine ev_if (c1 := (100, [.ref 31, .int x1, .int x2, mK], [], S, 0)) (c2 := (9, [.ref 31, .int x1, .int x2, mK], [], S, 0)) hf rfl rfl (fun _ hf => ?_) (fun _ hf => ?_)
    · refine ev_sts 2 (c2 := (104, [.ref 31, .int x1, .int x2, mK], [.ref 1], S, 0)) rfl ?_
      refine ev_bI0 (d := d + 2) (M' := Mx78) (ct := (107, [.ref 31, .int x1, .int x2, mK], [], S, 0)) hf rfl rfl rfl rfl (fun r9 h9 => f_X8_refuse_ok (d := d + 2) h9) (fun r2 S1 hf => ?_)
      show Ev (d + 3) Mx38 (107, [.ref 31, .int x1, .int x2, mK], [.int r2], S1, 0) r
      exact ev_ret hf rfl rfl
    · refine ev_sts 2 (c2 := (11, [.ref 31, .int x1, .int x2, mK], [.int x1, .ref 31], S, 0)) rfl ?_
      refine ev_bI0 (d := d + 2) (M' := Mx39) (ct := (14, [.ref 31, .int x1, .int x2, mK], [], S, 0)) hf rfl rfl rfl rfl (fun r9 h9 => hG_X3_readAtom h9) (fun r4 S3 hf => ?_)
      show Ev (d + 3) Mx38 (14, [.ref 31, .int x1, .int x2, mK], [.int r4], S3, 0) r
      refine ev_if (c1 := (19, [.ref 31, .int x1, .int x2, mK], [], S3, 0)) (c2 := (17, [.ref 31, .int x1, .int x2, mK], [], S3, 0)) hf rfl rfl (fun _ hf => ?_) (fun _ hf => ?_)
      · exact ev_sts 2 (c2 := (21, [.ref 31, .int x1, .int x2, .int ((0 : Int32))], [], S3, 0)) rfl (f_X3_readAny_b21_ok hG_X3_readAny hG_X3_readAtom (fun h9 => ih h9) _ hf)
      · refine ev_sts 1 (c2 := (18, [.ref 31, .int x1, .int x2, mK], [.int ((0 : Int32))], S3, 0)) rfl ?_
        exact ev_ret hf rfl rfl
theorem f_X3_readAny_ok {d F : Nat} {G_X3_readAny : Int32 → mS → Option mR} (hG_X3_readAny : ∀ {a1 : Int32} {S : mS} {r : mR}, G_X3_readAny a1 S = some r → Ev (d + 2) Mx38 (entry Mx38 [.ref 31, .int a1] S) r) {G_X3_readAtom : Int32 → mS → Option mR} (hG_X3_readAtom : ∀ {a1 : Int32} {S : mS} {r : mR}, G_X3_readAtom a1 S = some r → Ev (d + 2) Mx39 (entry Mx39 [.ref 31, .int a1] S) r) {p1 : Int32} {S : mS} {r : mR} (hf : f_X3_readAny G_X3_readAny G_X3_readAtom F p1 S = some r) : Ev (d + 3) Mx38 (entry Mx38 [.ref 31, .int p1] S) r := by
  unfold f_X3_readAny at hf
  exact ev_sts 2 (c2 := (2, [.ref 31, .int p1, .int ((0 : Int32)), mK], [], S, 0)) rfl (f_X3_readAny_b2_ok hG_X3_readAny hG_X3_readAtom _ hf)
theorem f_X3_readAtom_b191_ok {d F : Nat} {G_X3_readAny : Int32 → mS → Option mR} (hG_X3_readAny : ∀ {a1 : Int32} {S : mS} {r : mR}, G_X3_readAny a1 S = some r → Ev (d + 2) Mx38 (entry Mx38 [.ref 31, .int a1] S) r) {G_X3_readAtom : Int32 → mS → Option mR} (hG_X3_readAtom : ∀ {a1 : Int32} {S : mS} {r : mR}, G_X3_readAtom a1 S = some r → Ev (d + 2) Mx39 (entry Mx39 [.ref 31, .int a1] S) r) {t1 : Int32} {S : mS} {r : mR} (hf : f_X3_readAtom_b191 G_X3_readAny G_X3_readAtom F t1 S = some r) : Ev (d + 3) Mx39 (191, [mK, mK, mK], [.int t1, .ref 10], S, 0) r := by
  unfold f_X3_readAtom_b191 at hf
  refine ev_bV0 (d := d + 2) (M' := Mx30) (ct := (194, [mK, mK, mK], [], S, 0)) hf rfl rfl rfl rfl (fun r9 h9 => f_X2_addCode_ok (d := d + 2) h9) (fun S9 hf => ?_)
  show Ev (d + 3) Mx39 (194, [mK, mK, mK], [], S9, 0) r
  refine ev_sts 1 (c2 := (195, [mK, mK, mK], [.int ((1 : Int32))], S9, 0)) rfl ?_
  exact ev_ret hf rfl rfl
theorem f_X3_readAtom_b165_ok {d F : Nat} {G_X3_readAny : Int32 → mS → Option mR} (hG_X3_readAny : ∀ {a1 : Int32} {S : mS} {r : mR}, G_X3_readAny a1 S = some r → Ev (d + 2) Mx38 (entry Mx38 [.ref 31, .int a1] S) r) {G_X3_readAtom : Int32 → mS → Option mR} (hG_X3_readAtom : ∀ {a1 : Int32} {S : mS} {r : mR}, G_X3_readAtom a1 S = some r → Ev (d + 2) Mx39 (entry Mx39 [.ref 31, .int a1] S) r) {x2 : Int32} {S : mS} {r : mR} (hf : f_X3_readAtom_b165 G_X3_readAny G_X3_readAtom F x2 S = some r) : Ev (d + 3) Mx39 (165, [.ref 31, mK, .int x2], [], S, 0) r := by
  unfold f_X3_readAtom_b165 at hf
  refine ev_sts 1 (c2 := (166, [.ref 31, mK, .int x2], [.ref 31], S, 0)) rfl ?_
  refine ev_bI0 (d := d + 2) (M' := Mx40) (ct := (169, [.ref 31, mK, .int x2], [], S, 0)) hf rfl rfl rfl rfl (fun r9 h9 => f_X3_readSum_ok (d := d) h9) (fun r8 S7 hf => ?_)
  show Ev (d + 3) Mx39 (169, [.ref 31, mK, .int x2], [.int r8], S7, 0) r
  refine ev_if (c1 := (174, [.ref 31, mK, .int x2], [], S7, 0)) (c2 := (172, [.ref 31, mK, .int x2], [], S7, 0)) hf rfl rfl (fun _ hf => ?_) (fun _ hf => ?_)
  · refine ev_sts 3 (c2 := (179, [.ref 31, mK, .int x2], [.int x2, .ref 10], S7, 0)) rfl ?_
    refine ev_if (c1 := (188, [.ref 31, mK, .int x2], [.ref 10], S7, 0)) (c2 := (182, [.ref 31, mK, .int x2], [.ref 10], S7, 0)) hf rfl rfl (fun _ hf => ?_) (fun _ hf => ?_)
    · exact ev_sts 1 (c2 := (191, [mK, mK, mK], [.int ((2004 : Int32)), .ref 10], S7, 0)) rfl (f_X3_readAtom_b191_ok hG_X3_readAny hG_X3_readAtom hf)
    · exact ev_sts 2 (c2 := (191, [mK, mK, mK], [.int ((2003 : Int32)), .ref 10], S7, 0)) rfl (f_X3_readAtom_b191_ok hG_X3_readAny hG_X3_readAtom hf)
  · refine ev_sts 1 (c2 := (173, [.ref 31, mK, .int x2], [.int ((0 : Int32))], S7, 0)) rfl ?_
    exact ev_ret hf rfl rfl
theorem f_X3_readAtom_b98_ok {d F : Nat} {G_X3_readAny : Int32 → mS → Option mR} (hG_X3_readAny : ∀ {a1 : Int32} {S : mS} {r : mR}, G_X3_readAny a1 S = some r → Ev (d + 2) Mx38 (entry Mx38 [.ref 31, .int a1] S) r) {G_X3_readAtom : Int32 → mS → Option mR} (hG_X3_readAtom : ∀ {a1 : Int32} {S : mS} {r : mR}, G_X3_readAtom a1 S = some r → Ev (d + 2) Mx39 (entry Mx39 [.ref 31, .int a1] S) r) {S : mS} {r : mR} (hf : f_X3_readAtom_b98 G_X3_readAny G_X3_readAtom F  S = some r) : Ev (d + 3) Mx39 (98, [.ref 31, mK, mK], [], S, 0) r := by
  unfold f_X3_readAtom_b98 at hf
  refine ev_sts 3 (c2 := (104, [.ref 31, mK, mK], [.ref 1016, .ref 1], S, 0)) rfl ?_
  refine ev_bI0 (d := d + 2) (M' := Mx79) (ct := (107, [.ref 31, mK, mK], [], S, 0)) hf rfl rfl rfl rfl (fun r9 h9 => f_X8_takesWord_ok_1016 (d := d + 1) h9) (fun r2 S1 hf => ?_)
  show Ev (d + 3) Mx39 (107, [.ref 31, mK, mK], [.int r2], S1, 0) r
  refine ev_if (c1 := (122, [.ref 31, mK, mK], [], S1, 0)) (c2 := (110, [.ref 31, mK, mK], [], S1, 0)) hf rfl rfl (fun _ hf => ?_) (fun _ hf => ?_)
  · refine ev_sts 1 (c2 := (123, [.ref 31, mK, mK], [.ref 31], S1, 0)) rfl ?_
    refine ev_bI0 (d := d + 2) (M' := Mx40) (ct := (126, [.ref 31, mK, mK], [], S1, 0)) hf rfl rfl rfl rfl (fun r9 h9 => f_X3_readSum_ok (d := d) h9) (fun r4 S3 hf => ?_)
    show Ev (d + 3) Mx39 (126, [.ref 31, mK, mK], [.int r4], S3, 0) r
    refine ev_if (c1 := (131, [.ref 31, mK, mK], [], S3, 0)) (c2 := (129, [.ref 31, mK, mK], [], S3, 0)) hf rfl rfl (fun _ hf => ?_) (fun _ hf => ?_)
    · refine ev_sts 3 (c2 := (137, [.ref 31, mK, mK], [.int ((60 : Int32)), .ref 1], S3, 0)) rfl ?_
      refine ev_bI0 (d := d + 2) (M' := Mx80) (ct := (140, [.ref 31, mK, mK], [], S3, 0)) hf rfl rfl rfl rfl (fun r9 h9 => f_X8_takesSign_ok (d := d + 1) h9) (fun r6 S5 hf => ?_)
      show Ev (d + 3) Mx39 (140, [.ref 31, mK, mK], [.int r6], S5, 0) r
      refine ev_sts 2 (c2 := (142, [.ref 31, mK, .int r6], [.int r6], S5, 0)) rfl ?_
      refine ev_if (c1 := (165, [.ref 31, mK, .int r6], [], S5, 0)) (c2 := (145, [.ref 31, mK, .int r6], [], S5, 0)) hf rfl rfl (fun _ hf => ?_) (fun _ hf => ?_)
      · exact f_X3_readAtom_b165_ok hG_X3_readAny hG_X3_readAtom hf
      · refine ev_sts 3 (c2 := (151, [.ref 31, mK, .int r6], [.int ((62 : Int32)), .ref 1], S5, 0)) rfl ?_
        refine ev_bI0 (d := d + 2) (M' := Mx80) (ct := (154, [.ref 31, mK, .int r6], [], S5, 0)) hf rfl rfl rfl rfl (fun r9 h9 => f_X8_takesSign_ok (d := d + 1) h9) (fun r11 S10 hf => ?_)
        show Ev (d + 3) Mx39 (154, [.ref 31, mK, .int r6], [.int r11], S10, 0) r
        refine ev_if (c1 := (165, [.ref 31, mK, .int r6], [], S10, 0)) (c2 := (157, [.ref 31, mK, .int r6], [], S10, 0)) hf rfl rfl (fun _ hf => ?_) (fun _ hf => ?_)
        · exact f_X3_readAtom_b165_ok hG_X3_readAny hG_X3_readAtom hf
        · refine ev_sts 2 (c2 := (161, [.ref 31, mK, .int r6], [.ref 1], S10, 0)) rfl ?_
          refine ev_bI0 (d := d + 2) (M' := Mx78) (ct := (164, [.ref 31, mK, .int r6], [], S10, 0)) hf rfl rfl rfl rfl (fun r9 h9 => f_X8_refuse_ok (d := d + 2) h9) (fun r13 S12 hf => ?_)
          show Ev (d + 3) Mx39 (164, [.ref 31, mK, .int r6], [.int r13], S12, 0) r
          exact ev_ret hf rfl rfl
    · refine ev_sts 1 (c2 := (130, [.ref 31, mK, mK], [.int ((0 : Int32))], S3, 0)) rfl ?_
      exact ev_ret hf rfl rfl
  · refine ev_sts 3 (c2 := (117, [.ref 31, mK, mK], [.int ((1008 : Int32)), .ref 10], S1, 0)) rfl ?_
    refine ev_bV0 (d := d + 2) (M' := Mx30) (ct := (120, [.ref 31, mK, mK], [], S1, 0)) hf rfl rfl rfl rfl (fun r9 h9 => f_X2_addCode_ok (d := d + 2) h9) (fun S14 hf => ?_)
    show Ev (d + 3) Mx39 (120, [.ref 31, mK, mK], [], S14, 0) r
    refine ev_sts 1 (c2 := (121, [.ref 31, mK, mK], [.int ((1 : Int32))], S14, 0)) rfl ?_
    exact ev_ret hf rfl rfl
theorem f_X3_readAtom_b97_ok {d F : Nat} {G_X3_readAny : Int32 → mS → Option mR} (hG_X3_readAny : ∀ {a1 : Int32} {S : mS} {r : mR}, G_X3_readAny a1 S = some r → Ev (d + 2) Mx38 (entry Mx38 [.ref 31, .int a1] S) r) {G_X3_readAtom : Int32 → mS → Option mR} (hG_X3_readAtom : ∀ {a1 : Int32} {S : mS} {r : mR}, G_X3_readAtom a1 S = some r → Ev (d + 2) Mx39 (entry Mx39 [.ref 31, .int a1] S) r) {t0 : Int32} {S : mS} {r : mR} (hf : f_X3_readAtom_b97 G_X3_readAny G_X3_readAtom F t0 S = some r) : Ev (d + 3) Mx39 (97, [mK, mK, mK], [.int t0], S, 0) r := by
  unfold f_X3_readAtom_b97 at hf
  exact ev_ret hf rfl rfl
theorem f_X3_readAtom_b96_ok {d F : Nat} {G_X3_readAny : Int32 → mS → Option mR} (hG_X3_readAny : ∀ {a1 : Int32} {S : mS} {r : mR}, G_X3_readAny a1 S = some r → Ev (d + 2) Mx38 (entry Mx38 [.ref 31, .int a1] S) r) {G_X3_readAtom : Int32 → mS → Option mR} (hG_X3_readAtom : ∀ {a1 : Int32} {S : mS} {r : mR}, G_X3_readAtom a1 S = some r → Ev (d + 2) Mx39 (entry Mx39 [.ref 31, .int a1] S) r) {S : mS} {r : mR} (hf : f_X3_readAtom_b96 G_X3_readAny G_X3_readAtom F  S = some r) : Ev (d + 3) Mx39 (96, [mK, mK, mK], [], S, 0) r := by
  unfold f_X3_readAtom_b96 at hf
  exact ev_sts 1 (c2 := (97, [mK, mK, mK], [.int ((0 : Int32))], S, 0)) rfl (f_X3_readAtom_b97_ok hG_X3_readAny hG_X3_readAtom hf)
theorem f_X3_readAtom_b92_ok {d F : Nat} {G_X3_readAny : Int32 → mS → Option mR} (hG_X3_readAny : ∀ {a1 : Int32} {S : mS} {r : mR}, G_X3_readAny a1 S = some r → Ev (d + 2) Mx38 (entry Mx38 [.ref 31, .int a1] S) r) {G_X3_readAtom : Int32 → mS → Option mR} (hG_X3_readAtom : ∀ {a1 : Int32} {S : mS} {r : mR}, G_X3_readAtom a1 S = some r → Ev (d + 2) Mx39 (entry Mx39 [.ref 31, .int a1] S) r) {S : mS} {r : mR} (hf : f_X3_readAtom_b92 G_X3_readAny G_X3_readAtom F  S = some r) : Ev (d + 3) Mx39 (92, [mK, mK, mK], [], S, 0) r := by
  unfold f_X3_readAtom_b92 at hf
  exact ev_sts 2 (c2 := (97, [mK, mK, mK], [.int ((1 : Int32))], S, 0)) rfl (f_X3_readAtom_b97_ok hG_X3_readAny hG_X3_readAtom hf)
theorem f_X3_readAtom_b42_ok {d F : Nat} {G_X3_readAny : Int32 → mS → Option mR} (hG_X3_readAny : ∀ {a1 : Int32} {S : mS} {r : mR}, G_X3_readAny a1 S = some r → Ev (d + 2) Mx38 (entry Mx38 [.ref 31, .int a1] S) r) {G_X3_readAtom : Int32 → mS → Option mR} (hG_X3_readAtom : ∀ {a1 : Int32} {S : mS} {r : mR}, G_X3_readAtom a1 S = some r → Ev (d + 2) Mx39 (entry Mx39 [.ref 31, .int a1] S) r) {x1 : Int32} {S : mS} {r : mR} (hf : f_X3_readAtom_b42 G_X3_readAny G_X3_readAtom F x1 S = some r) : Ev (d + 3) Mx39 (42, [.ref 31, .int x1, mK], [], S, 0) r := by
  unfold f_X3_readAtom_b42 at hf
  refine ev_sts 2 (c2 := (45, [.ref 31, .int x1, mK], [.int ((6 : Int32)), .int x1], S, 0)) rfl ?_
  refine ev_if (c1 := (98, [.ref 31, mK, mK], [], S, 0)) (c2 := (48, [.ref 31, .int x1, mK], [], S, 0)) hf rfl rfl (fun _ hf => ?_) (fun _ hf => ?_)
  · exact f_X3_readAtom_b98_ok hG_X3_readAny hG_X3_readAtom hf
  · refine ev_sts 3 (c2 := (54, [.ref 31, .int x1, mK], [.int ((40 : Int32)), .ref 1], S, 0)) rfl ?_
    refine ev_bI0 (d := d + 2) (M' := Mx80) (ct := (57, [.ref 31, .int x1, mK], [], S, 0)) hf rfl rfl rfl rfl (fun r9 h9 => f_X8_takesSign_ok (d := d + 1) h9) (fun r16 S15 hf => ?_)
    show Ev (d + 3) Mx39 (57, [.ref 31, .int x1, mK], [.int r16], S15, 0) r
    refine ev_if (c1 := (98, [.ref 31, mK, mK], [], S15, 0)) (c2 := (60, [.ref 31, .int x1, mK], [], S15, 0)) hf rfl rfl (fun _ hf => ?_) (fun _ hf => ?_)
    · exact f_X3_readAtom_b98_ok hG_X3_readAny hG_X3_readAtom hf
    · refine ev_sts 4 (c2 := (64, [.ref 31, .int x1, mK], [.int (x1 + ((1 : Int32))), .ref 31], S15, 0)) rfl ?_
      refine ev_bI0 (d := d + 2) (M' := Mx38) (ct := (67, [.ref 31, .int x1, mK], [], S15, 0)) hf rfl rfl rfl rfl (fun r9 h9 => hG_X3_readAny h9) (fun r18 S17 hf => ?_)
      show Ev (d + 3) Mx39 (67, [.ref 31, .int x1, mK], [.int r18], S17, 0) r
      refine ev_if (c1 := (96, [mK, mK, mK], [], S17, 0)) (c2 := (70, [.ref 31, .int x1, mK], [], S17, 0)) hf rfl rfl (fun _ hf => ?_) (fun _ hf => ?_)
      · exact f_X3_readAtom_b96_ok hG_X3_readAny hG_X3_readAtom hf
      · refine ev_sts 3 (c2 := (76, [.ref 31, .int x1, mK], [.int ((41 : Int32)), .ref 1], S17, 0)) rfl ?_
        refine ev_bI0 (d := d + 2) (M' := Mx80) (ct := (79, [.ref 31, .int x1, mK], [], S17, 0)) hf rfl rfl rfl rfl (fun r9 h9 => f_X8_takesSign_ok (d := d + 1) h9) (fun r20 S19 hf => ?_)
        show Ev (d + 3) Mx39 (79, [.ref 31, .int x1, mK], [.int r20], S19, 0) r
        refine ev_if (c1 := (92, [mK, mK, mK], [], S19, 0)) (c2 := (82, [.ref 31, .int x1, mK], [], S19, 0)) hf rfl rfl (fun _ hf => ?_) (fun _ hf => ?_)
        · exact f_X3_readAtom_b92_ok hG_X3_readAny hG_X3_readAtom hf
        · refine ev_sts 2 (c2 := (86, [.ref 31, .int x1, mK], [.ref 1], S19, 0)) rfl ?_
          refine ev_bI0 (d := d + 2) (M' := Mx78) (ct := (89, [.ref 31, .int x1, mK], [], S19, 0)) hf rfl rfl rfl rfl (fun r9 h9 => f_X8_refuse_ok (d := d + 2) h9) (fun r22 S21 hf => ?_)
          show Ev (d + 3) Mx39 (89, [.ref 31, .int x1, mK], [.int r22], S21, 0) r
          refine ev_if (c1 := (96, [mK, mK, mK], [], S21, 0)) (c2 := (92, [mK, mK, mK], [], S21, 0)) hf rfl rfl (fun _ hf => ?_) (fun _ hf => ?_)
          · exact f_X3_readAtom_b96_ok hG_X3_readAny hG_X3_readAtom hf
          · exact f_X3_readAtom_b92_ok hG_X3_readAny hG_X3_readAtom hf
theorem f_X3_readAtom_ok {d F : Nat} {G_X3_readAny : Int32 → mS → Option mR} (hG_X3_readAny : ∀ {a1 : Int32} {S : mS} {r : mR}, G_X3_readAny a1 S = some r → Ev (d + 2) Mx38 (entry Mx38 [.ref 31, .int a1] S) r) {G_X3_readAtom : Int32 → mS → Option mR} (hG_X3_readAtom : ∀ {a1 : Int32} {S : mS} {r : mR}, G_X3_readAtom a1 S = some r → Ev (d + 2) Mx39 (entry Mx39 [.ref 31, .int a1] S) r) {p1 : Int32} {S : mS} {r : mR} (hf : f_X3_readAtom G_X3_readAny G_X3_readAtom F p1 S = some r) : Ev (d + 3) Mx39 (entry Mx39 [.ref 31, .int p1] S) r := by
  unfold f_X3_readAtom at hf
  refine ev_sts 2 (c2 := (3, [.ref 31, .int p1, mK], [.int ((6 : Int32)), .int p1], S, 0)) rfl ?_
  refine ev_if (c1 := (42, [.ref 31, .int p1, mK], [], S, 0)) (c2 := (6, [.ref 31, .int p1, mK], [], S, 0)) hf rfl rfl (fun _ hf => ?_) (fun _ hf => ?_)
  · exact f_X3_readAtom_b42_ok hG_X3_readAny hG_X3_readAtom hf
  · refine ev_sts 3 (c2 := (12, [.ref 31, .int p1, mK], [.ref 1015, .ref 1], S, 0)) rfl ?_
    refine ev_bI0 (d := d + 2) (M' := Mx79) (ct := (15, [.ref 31, .int p1, mK], [], S, 0)) hf rfl rfl rfl rfl (fun r9 h9 => f_X8_takesWord_ok_1015 (d := d + 1) h9) (fun r24 S23 hf => ?_)
    show Ev (d + 3) Mx39 (15, [.ref 31, .int p1, mK], [.int r24], S23, 0) r
    refine ev_if (c1 := (42, [.ref 31, .int p1, mK], [], S23, 0)) (c2 := (18, [.ref 31, .int p1, mK], [], S23, 0)) hf rfl rfl (fun _ hf => ?_) (fun _ hf => ?_)
    · exact f_X3_readAtom_b42_ok hG_X3_readAny hG_X3_readAtom hf
    · refine ev_sts 4 (c2 := (22, [.ref 31, .int p1, mK], [.int (p1 + ((1 : Int32))), .ref 31], S23, 0)) rfl ?_
      refine ev_bI0 (d := d + 2) (M' := Mx39) (ct := (25, [.ref 31, .int p1, mK], [], S23, 0)) hf rfl rfl rfl rfl (fun r9 h9 => hG_X3_readAtom h9) (fun r26 S25 hf => ?_)
      show Ev (d + 3) Mx39 (25, [.ref 31, .int p1, mK], [.int r26], S25, 0) r
      refine ev_if (c1 := (30, [.ref 31, .int p1, mK], [], S25, 0)) (c2 := (28, [.ref 31, .int p1, mK], [], S25, 0)) hf rfl rfl (fun _ hf => ?_) (fun _ hf => ?_)
      · refine ev_sts 3 (c2 := (37, [.ref 31, .int p1, mK], [.int ((2000 : Int32)), .ref 10], S25, 0)) rfl ?_
        refine ev_bV0 (d := d + 2) (M' := Mx30) (ct := (40, [.ref 31, .int p1, mK], [], S25, 0)) hf rfl rfl rfl rfl (fun r9 h9 => f_X2_addCode_ok (d := d + 2) h9) (fun S27 hf => ?_)
        show Ev (d + 3) Mx39 (40, [.ref 31, .int p1, mK], [], S27, 0) r
        refine ev_sts 1 (c2 := (41, [.ref 31, .int p1, mK], [.int ((1 : Int32))], S27, 0)) rfl ?_
        exact ev_ret hf rfl rfl
      · refine ev_sts 1 (c2 := (29, [.ref 31, .int p1, mK], [.int ((0 : Int32))], S25, 0)) rfl ?_
        exact ev_ret hf rfl rfl
def f_rec_X3 (F : Nat) : Nat → Nat → Int32 → mS → Option mR
  | 0, _, _, _ => none
  | n + 1, 0, a0, S => f_X3_readAny (fun a0 S => f_rec_X3 F n 0 a0 S) (fun a0 S => f_rec_X3 F n 1 a0 S) F a0 S
  | n + 1, _, a0, S => f_X3_readAtom (fun a0 S => f_rec_X3 F n 0 a0 S) (fun a0 S => f_rec_X3 F n 1 a0 S) F a0 S
theorem f_rec_X3_ok {F : Nat} : ∀ (n d : Nat), (∀ {a0 : Int32} {S : mS} {r : mR}, f_rec_X3 F n 0 a0 S = some r → Ev (d + 2 + n) Mx38 (entry Mx38 [.ref 31, .int a0] S) r) ∧ (∀ {a0 : Int32} {S : mS} {r : mR}, f_rec_X3 F n 1 a0 S = some r → Ev (d + 2 + n) Mx39 (entry Mx39 [.ref 31, .int a0] S) r) := by
  intro n
  induction n with
  | zero => intro d; exact ⟨(fun hf => by cases hf), (fun hf => by cases hf)⟩
  | succ n ih =>
    intro d
    have h9 := ih d
    obtain ⟨g0, g1⟩ := h9
    refine ⟨?_, ?_⟩
    · intro a0 S r hf
      have h8 := f_X3_readAny_ok (d := d + n) (fun h => (g0 h).upN (by omega)) (fun h => (g1 h).upN (by omega)) (F := F) hf
      exact h8.upN (by omega)
    · intro a0 S r hf
      have h8 := f_X3_readAtom_ok (d := d + n) (fun h => (g0 h).upN (by omega)) (fun h => (g1 h).upN (by omega)) (F := F) hf
      exact h8.upN (by omega)
def f_X3_readAny_r (F : Nat) (a0 : Int32) (S : mS) : Option mR := f_rec_X3 F 40 0 a0 S
theorem f_X3_readAny_r_ok {d F : Nat} {a0 : Int32} {S : mS} {r : mR} (hf : f_X3_readAny_r F a0 S = some r) : Ev (d + 42) Mx38 (entry Mx38 [.ref 31, .int a0] S) r := ((f_rec_X3_ok (F := F) 40 d).1 hf).upN (by omega)
def f_X3_readAtom_r (F : Nat) (a0 : Int32) (S : mS) : Option mR := f_rec_X3 F 40 1 a0 S
theorem f_X3_readAtom_r_ok {d F : Nat} {a0 : Int32} {S : mS} {r : mR} (hf : f_X3_readAtom_r F a0 S = some r) : Ev (d + 42) Mx39 (entry Mx39 [.ref 31, .int a0] S) r := ((f_rec_X3_ok (F := F) 40 d).2 hf).upN (by omega)
def f_X3_takeKind_b45 (F : Nat) (t0 : Int32) (S : mS) : Option mR := some (.inl (some (.int t0)), S)
def f_X3_takeKind (F : Nat) (S : mS) : Option mR := bI0 (f_X8_takesWord F 11 S) (fun r2 S1 => (if r2 = 0 then bI0 (f_X8_takesWord F 12 S1) (fun r4 S3 => (if r4 = 0 then bI0 (f_X8_takesWord F 13 S3) (fun r6 S5 => (if r6 = 0 then f_X3_takeKind_b45 F ((-1 : Int32)) S5 else f_X3_takeKind_b45 F ((2 : Int32)) S5)) else some (.inl (some (.int ((1 : Int32)))), S3))) else some (.inl (some (.int ((0 : Int32)))), S1)))
theorem f_X3_takeKind_b45_ok {d F : Nat} {t0 : Int32} {S : mS} {r : mR} (hf : f_X3_takeKind_b45 F t0 S = some r) : Ev (d + 2) Mx37 (45, [mK], [.int t0], S, 0) r := by
  unfold f_X3_takeKind_b45 at hf
  exact ev_ret hf rfl rfl
theorem f_X3_takeKind_ok {d F : Nat} {S : mS} {r : mR} (hf : f_X3_takeKind F S = some r) : Ev (d + 2) Mx37 (entry Mx37 [.ref 31] S) r := by
  unfold f_X3_takeKind at hf
  refine ev_sts 3 (c2 := (6, [.ref 31], [.ref 1011, .ref 1], S, 0)) rfl ?_
  refine ev_bI0 (d := d + 1) (M' := Mx79) (ct := (9, [.ref 31], [], S, 0)) hf rfl rfl rfl rfl (fun r9 h9 => f_X8_takesWord_ok_1011 (d := d) h9) (fun r2 S1 hf => ?_)
  show Ev (d + 2) Mx37 (9, [.ref 31], [.int r2], S1, 0) r
  refine ev_if (c1 := (14, [.ref 31], [], S1, 0)) (c2 := (12, [.ref 31], [], S1, 0)) hf rfl rfl (fun _ hf => ?_) (fun _ hf => ?_)
  · refine ev_sts 3 (c2 := (20, [.ref 31], [.ref 1012, .ref 1], S1, 0)) rfl ?_
    refine ev_bI0 (d := d + 1) (M' := Mx79) (ct := (23, [.ref 31], [], S1, 0)) hf rfl rfl rfl rfl (fun r9 h9 => f_X8_takesWord_ok_1012 (d := d) h9) (fun r4 S3 hf => ?_)
    show Ev (d + 2) Mx37 (23, [.ref 31], [.int r4], S3, 0) r
    refine ev_if (c1 := (28, [.ref 31], [], S3, 0)) (c2 := (26, [.ref 31], [], S3, 0)) hf rfl rfl (fun _ hf => ?_) (fun _ hf => ?_)
    · refine ev_sts 3 (c2 := (34, [.ref 31], [.ref 1013, .ref 1], S3, 0)) rfl ?_
      refine ev_bI0 (d := d + 1) (M' := Mx79) (ct := (37, [.ref 31], [], S3, 0)) hf rfl rfl rfl rfl (fun r9 h9 => f_X8_takesWord_ok_1013 (d := d) h9) (fun r6 S5 hf => ?_)
      show Ev (d + 2) Mx37 (37, [.ref 31], [.int r6], S5, 0) r
      refine ev_if (c1 := (44, [.ref 31], [], S5, 0)) (c2 := (40, [.ref 31], [], S5, 0)) hf rfl rfl (fun _ hf => ?_) (fun _ hf => ?_)
      · exact ev_sts 1 (c2 := (45, [mK], [.int ((-1 : Int32))], S5, 0)) rfl (f_X3_takeKind_b45_ok hf)
      · exact ev_sts 2 (c2 := (45, [mK], [.int ((2 : Int32))], S5, 0)) rfl (f_X3_takeKind_b45_ok hf)
    · refine ev_sts 1 (c2 := (27, [.ref 31], [.int ((1 : Int32))], S3, 0)) rfl ?_
      exact ev_ret hf rfl rfl
  · refine ev_sts 1 (c2 := (13, [.ref 31], [.int ((0 : Int32))], S1, 0)) rfl ?_
    exact ev_ret hf rfl rfl
def f_X3_readLine_b58 (F : Nat) (x1 : Int32) (x2 : Int32) (S : mS) : Option mR := bV0 (f_X2_addLine x1 x2 S) (fun S7 => some (.inl (some (.int (((1 : Int32)) &&& 1))), S7))
def f_X3_readLine (F : Nat) (S : mS) : Option mR := bI0 (f_X3_takeKind F S) (fun r2 S1 => (if ¬ r2 = ((-1 : Int32)) then bI0 (f_X8_takeNumber F ((0 : Int32)) ((20 : Int32)) S1) (fun r4 S3 => (if ¬ r4 = ((-1 : Int32)) then bI0 (f_X8_takesWord F 14 S3) (fun r6 S5 => (if r6 = 0 then f_X3_readLine_b58 F r2 r4 S5 else bI0 (f_X3_readAny_r F ((0 : Int32)) S5) (fun r9 S8 => (if ¬ r9 = 0 then f_X3_readLine_b58 F r2 r4 S8 else some (.inl (some (.int (((0 : Int32)) &&& 1))), S8))))) else some (.inl (some (.int (((0 : Int32)) &&& 1))), S3))) else bI0 (f_X8_refuse S1) (fun r11 S10 => some (.inl (some (.int (r11 &&& 1))), S10))))
theorem f_X3_readLine_b58_ok {d F : Nat} {x1 : Int32} {x2 : Int32} {S : mS} {r : mR} (hf : f_X3_readLine_b58 F x1 x2 S = some r) : Ev (d + 43) Mx36 (58, [.ref 31, .int x1, .int x2], [], S, 0) r := by
  unfold f_X3_readLine_b58 at hf
  refine ev_sts 4 (c2 := (64, [.ref 31, .int x1, .int x2], [.int x2, .int x1, .ref 10], S, 0)) rfl ?_
  refine ev_bV0 (d := d + 42) (M' := Mx29) (ct := (67, [.ref 31, .int x1, .int x2], [], S, 0)) hf rfl rfl rfl rfl (fun r9 h9 => f_X2_addLine_ok (d := d + 42) h9) (fun S7 hf => ?_)
  show Ev (d + 43) Mx36 (67, [.ref 31, .int x1, .int x2], [], S7, 0) r
  refine ev_sts 1 (c2 := (68, [.ref 31, .int x1, .int x2], [.int ((1 : Int32))], S7, 0)) rfl ?_
  exact ev_ret hf rfl rfl
theorem f_X3_readLine_ok {d F : Nat} {S : mS} {r : mR} (hf : f_X3_readLine F S = some r) : Ev (d + 43) Mx36 (entry Mx36 [.ref 31] S) r := by
  unfold f_X3_readLine at hf
  refine ev_sts 1 (c2 := (1, [.ref 31, mK, mK], [.ref 31], S, 0)) rfl ?_
  refine ev_bI0 (d := d + 42) (M' := Mx37) (ct := (4, [.ref 31, mK, mK], [], S, 0)) hf rfl rfl rfl rfl (fun r9 h9 => f_X3_takeKind_ok (d := d + 40) h9) (fun r2 S1 hf => ?_)
  show Ev (d + 43) Mx36 (4, [.ref 31, mK, mK], [.int r2], S1, 0) r
  refine ev_sts 3 (c2 := (7, [.ref 31, .int r2, mK], [.int ((-1 : Int32)), .int r2], S1, 0)) rfl ?_
  refine ev_if (c1 := (18, [.ref 31, .int r2, mK], [], S1, 0)) (c2 := (10, [.ref 31, .int r2, mK], [], S1, 0)) hf rfl rfl (fun _ hf => ?_) (fun _ hf => ?_)
  · refine ev_sts 4 (c2 := (25, [.ref 31, .int r2, mK], [.int ((20 : Int32)), .int ((0 : Int32)), .ref 1], S1, 0)) rfl ?_
    refine ev_bI0 (d := d + 42) (M' := Mx82) (ct := (28, [.ref 31, .int r2, mK], [], S1, 0)) hf rfl rfl rfl rfl (fun r9 h9 => f_X8_takeNumber_ok (d := d + 41) h9) (fun r4 S3 hf => ?_)
    show Ev (d + 43) Mx36 (28, [.ref 31, .int r2, mK], [.int r4], S3, 0) r
    refine ev_sts 3 (c2 := (31, [.ref 31, .int r2, .int r4], [.int ((-1 : Int32)), .int r4], S3, 0)) rfl ?_
    refine ev_if (c1 := (36, [.ref 31, .int r2, .int r4], [], S3, 0)) (c2 := (34, [.ref 31, .int r2, .int r4], [], S3, 0)) hf rfl rfl (fun _ hf => ?_) (fun _ hf => ?_)
    · refine ev_sts 3 (c2 := (42, [.ref 31, .int r2, .int r4], [.ref 1014, .ref 1], S3, 0)) rfl ?_
      refine ev_bI0 (d := d + 42) (M' := Mx79) (ct := (45, [.ref 31, .int r2, .int r4], [], S3, 0)) hf rfl rfl rfl rfl (fun r9 h9 => f_X8_takesWord_ok_1014 (d := d + 41) h9) (fun r6 S5 hf => ?_)
      show Ev (d + 43) Mx36 (45, [.ref 31, .int r2, .int r4], [.int r6], S5, 0) r
      refine ev_if (c1 := (58, [.ref 31, .int r2, .int r4], [], S5, 0)) (c2 := (48, [.ref 31, .int r2, .int r4], [], S5, 0)) hf rfl rfl (fun _ hf => ?_) (fun _ hf => ?_)
      · exact f_X3_readLine_b58_ok hf
      · refine ev_sts 2 (c2 := (50, [.ref 31, .int r2, .int r4], [.int ((0 : Int32)), .ref 31], S5, 0)) rfl ?_
        refine ev_bI0 (d := d + 42) (M' := Mx38) (ct := (53, [.ref 31, .int r2, .int r4], [], S5, 0)) hf rfl rfl rfl rfl (fun r9 h9 => f_X3_readAny_r_ok (d := d) h9) (fun r9 S8 hf => ?_)
        show Ev (d + 43) Mx36 (53, [.ref 31, .int r2, .int r4], [.int r9], S8, 0) r
        refine ev_if (c1 := (58, [.ref 31, .int r2, .int r4], [], S8, 0)) (c2 := (56, [.ref 31, .int r2, .int r4], [], S8, 0)) hf rfl rfl (fun _ hf => ?_) (fun _ hf => ?_)
        · exact f_X3_readLine_b58_ok hf
        · refine ev_sts 1 (c2 := (57, [.ref 31, .int r2, .int r4], [.int ((0 : Int32))], S8, 0)) rfl ?_
          exact ev_ret hf rfl rfl
    · refine ev_sts 1 (c2 := (35, [.ref 31, .int r2, .int r4], [.int ((0 : Int32))], S3, 0)) rfl ?_
      exact ev_ret hf rfl rfl
  · refine ev_sts 2 (c2 := (14, [.ref 31, .int r2, mK], [.ref 1], S1, 0)) rfl ?_
    refine ev_bI0 (d := d + 42) (M' := Mx78) (ct := (17, [.ref 31, .int r2, mK], [], S1, 0)) hf rfl rfl rfl rfl (fun r9 h9 => f_X8_refuse_ok (d := d + 42) h9) (fun r11 S10 hf => ?_)
    show Ev (d + 43) Mx36 (17, [.ref 31, .int r2, mK], [.int r11], S10, 0) r
    exact ev_ret hf rfl rfl
def f_X8_begin (F : Nat) (S : mS) : Option mR := bnd (upS S 1 3 ((-1 : Int32))) (fun S1 => bV0 (f_X8_moveTo F ((0 : Int32)) S1) (fun S2 => some (.inl none, S2)))
theorem f_X8_begin_ok {d F : Nat} {S : mS} {r : mR} (hf : f_X8_begin F S = some r) : Ev (d + 1) Mx75 (entry Mx75 [.ref 1] S) r := by
  unfold f_X8_begin at hf
  refine ev_sts 3 (c2 := (5, [.ref 1], [], (upS S 1 3 ((-1 : Int32))), 0)) rfl ?_
  refine ev_let (P := fun S1 => Ev (d + 1) Mx75 (5, [.ref 1], [], S1, 0) r) (fun S1 hf => ?_) hf
  refine ev_sts 2 (c2 := (7, [.ref 1], [.int ((0 : Int32)), .ref 1], S1, 0)) rfl ?_
  refine ev_bV0 (d := d) (M' := Mx83) (ct := (10, [.ref 1], [], S1, 0)) hf rfl rfl rfl rfl (fun r9 h9 => f_X8_moveTo_ok (d := d) h9) (fun S2 hf => ?_)
  show Ev (d + 1) Mx75 (10, [.ref 1], [], S2, 0) r
  exact ev_ret hf rfl rfl
def f_X8_isAtEnd_b16 (t0 : Int32) (S : mS) : Option mR := some (.inl (some (.int (t0 &&& 1))), S)
def f_X8_isAtEnd (S : mS) : Option mR := (if (S 1 2) < (S 1 1) then f_X8_isAtEnd_b16 ((0 : Int32)) S else f_X8_isAtEnd_b16 ((1 : Int32)) S)
theorem f_X8_isAtEnd_b16_ok {d : Nat} {t0 : Int32} {S : mS} {r : mR} (hf : f_X8_isAtEnd_b16 t0 S = some r) : Ev (d) Mx76 (16, [mK], [.int t0], S, 0) r := by
  unfold f_X8_isAtEnd_b16 at hf
  exact ev_ret hf rfl rfl
theorem f_X8_isAtEnd_ok {d : Nat} {S : mS} {r : mR} (hf : f_X8_isAtEnd S = some r) : Ev (d) Mx76 (entry Mx76 [.ref 1] S) r := by
  unfold f_X8_isAtEnd at hf
  refine ev_sts 4 (c2 := (8, [.ref 1], [.int (S 1 1), .int (S 1 2)], S, 0)) rfl ?_
  refine ev_if (c1 := (15, [.ref 1], [], S, 0)) (c2 := (11, [.ref 1], [], S, 0)) hf rfl rfl (fun _ hf => ?_) (fun _ hf => ?_)
  · exact ev_sts 1 (c2 := (16, [mK], [.int ((0 : Int32))], S, 0)) rfl (f_X8_isAtEnd_b16_ok hf)
  · exact ev_sts 2 (c2 := (16, [mK], [.int ((1 : Int32))], S, 0)) rfl (f_X8_isAtEnd_b16_ok hf)
def f_X4_readLines_31_b21 (F : Nat) : Nat → Int32 → Int32 → mS → Option mR
  | 0, _, _, _ => none
  | n + 1, x1, x2, S => (if x1 ≤ x2 then bI0 (f_X8_refuse S) (fun r5 S4 => some (.inl (some (.int (r5 &&& 1))), S4)) else bI0 (f_X3_readLine F S) (fun r7 S6 => (if ¬ r7 = 0 then bI0 (f_X8_isAtEnd S6) (fun r9 S8 => (if r9 = 0 then bI0 (f_X8_takesSign F ((59 : Int32)) S8) (fun r11 S10 => (if ¬ r11 = 0 then f_X4_readLines_31_b21 F n x1 (x2 + (1 : Int32)) S10 else bI0 (f_X8_refuse S10) (fun r13 S12 => some (.inl (some (.int (r13 &&& 1))), S12)))) else some (.inl (some (.int (((1 : Int32)) &&& 1))), S8))) else some (.inl (some (.int (((0 : Int32)) &&& 1))), S6))))
def f_X4_readLines_31 (F : Nat) (p1 : Int32) (S : mS) : Option mR := bV0 (f_X8_begin F S) (fun S1 => bI0 (f_X8_isAtEnd S1) (fun r3 S2 => (if r3 = 0 then f_X4_readLines_31_b21 F F p1 ((0 : Int32)) S2 else some (.inl (some (.int (((1 : Int32)) &&& 1))), S2))))
def f_X4_readLines_30_b21 (F : Nat) : Nat → Int32 → Int32 → mS → Option mR
  | 0, _, _, _ => none
  | n + 1, x1, x2, S => (if x1 ≤ x2 then bI0 (f_X8_refuse S) (fun r5 S4 => some (.inl (some (.int (r5 &&& 1))), S4)) else bI0 (f_X1_readLine F S) (fun r7 S6 => (if ¬ r7 = 0 then bI0 (f_X8_isAtEnd S6) (fun r9 S8 => (if r9 = 0 then bI0 (f_X8_takesSign F ((59 : Int32)) S8) (fun r11 S10 => (if ¬ r11 = 0 then f_X4_readLines_30_b21 F n x1 (x2 + (1 : Int32)) S10 else bI0 (f_X8_refuse S10) (fun r13 S12 => some (.inl (some (.int (r13 &&& 1))), S12)))) else some (.inl (some (.int (((1 : Int32)) &&& 1))), S8))) else some (.inl (some (.int (((0 : Int32)) &&& 1))), S6))))
def f_X4_readLines_30 (F : Nat) (p1 : Int32) (S : mS) : Option mR := bV0 (f_X8_begin F S) (fun S1 => bI0 (f_X8_isAtEnd S1) (fun r3 S2 => (if r3 = 0 then f_X4_readLines_30_b21 F F p1 ((0 : Int32)) S2 else some (.inl (some (.int (((1 : Int32)) &&& 1))), S2))))
theorem f_X4_readLines_31_b21_ok {d F : Nat} : ∀ (n : Nat) {x1 : Int32} {x2 : Int32} {S : mS} {r : mR}, f_X4_readLines_31_b21 F n x1 x2 S = some r → Ev (d + 44) Mx283 (21, [.ref 31, .int x1, .int x2], [], S, 0) r := by
  intro n
  induction n with
  | zero => intro x1 x2 S r hf; cases hf
  | succ n ih =>
    intro x1 x2 S r hf
    rw [f_X4_readLines_31_b21] at hf
    refine ev_sts 2 (c2 := (23, [.ref 31, .int x1, .int x2], [.int x1, .int x2], S, 0)) rfl ?_
    refine ev_if (c1 := (73, [.ref 31, .int x1, .int x2], [], S, 0)) (c2 := (26, [.ref 31, .int x1, .int x2], [], S, 0)) hf rfl rfl (fun _ hf => ?_) (fun _ hf => ?_)
    · refine ev_sts 2 (c2 := (77, [.ref 31, .int x1, .int x2], [.ref 1], S, 0)) rfl ?_
      refine ev_bI0 (d := d + 43) (M' := Mx78) (ct := (80, [.ref 31, .int x1, .int x2], [], S, 0)) hf rfl rfl rfl rfl (fun r9 h9 => f_X8_refuse_ok (d := d + 43) h9) (fun r5 S4 hf => ?_)
      show Ev (d + 44) Mx283 (80, [.ref 31, .int x1, .int x2], [.int r5], S4, 0) r
      exact ev_ret hf rfl rfl
    · refine ev_sts 1 (c2 := (27, [.ref 31, .int x1, .int x2], [.ref 31], S, 0)) rfl ?_
      refine ev_bI0 (d := d + 43) (M' := Mx36) (ct := (30, [.ref 31, .int x1, .int x2], [], S, 0)) hf rfl rfl rfl rfl (fun r9 h9 => f_X3_readLine_ok (d := d) h9) (fun r7 S6 hf => ?_)
      show Ev (d + 44) Mx283 (30, [.ref 31, .int x1, .int x2], [.int r7], S6, 0) r
      refine ev_if (c1 := (35, [.ref 31, .int x1, .int x2], [], S6, 0)) (c2 := (33, [.ref 31, .int x1, .int x2], [], S6, 0)) hf rfl rfl (fun _ hf => ?_) (fun _ hf => ?_)
      · refine ev_sts 2 (c2 := (39, [.ref 31, .int x1, .int x2], [.ref 1], S6, 0)) rfl ?_
        refine ev_bI0 (d := d + 43) (M' := Mx76) (ct := (42, [.ref 31, .int x1, .int x2], [], S6, 0)) hf rfl rfl rfl rfl (fun r9 h9 => f_X8_isAtEnd_ok (d := d + 43) h9) (fun r9 S8 hf => ?_)
        show Ev (d + 44) Mx283 (42, [.ref 31, .int x1, .int x2], [.int r9], S8, 0) r
        refine ev_if (c1 := (47, [.ref 31, .int x1, .int x2], [], S8, 0)) (c2 := (45, [.ref 31, .int x1, .int x2], [], S8, 0)) hf rfl rfl (fun _ hf => ?_) (fun _ hf => ?_)
        · refine ev_sts 3 (c2 := (53, [.ref 31, .int x1, .int x2], [.int ((59 : Int32)), .ref 1], S8, 0)) rfl ?_
          refine ev_bI0 (d := d + 43) (M' := Mx80) (ct := (56, [.ref 31, .int x1, .int x2], [], S8, 0)) hf rfl rfl rfl rfl (fun r9 h9 => f_X8_takesSign_ok (d := d + 42) h9) (fun r11 S10 hf => ?_)
          show Ev (d + 44) Mx283 (56, [.ref 31, .int x1, .int x2], [.int r11], S10, 0) r
          refine ev_if (c1 := (67, [.ref 31, .int x1, .int x2], [], S10, 0)) (c2 := (59, [.ref 31, .int x1, .int x2], [], S10, 0)) hf rfl rfl (fun _ hf => ?_) (fun _ hf => ?_)
          · exact ev_sts 2 (c2 := (21, [.ref 31, .int x1, .int (x2 + (1 : Int32))], [], S10, 0)) rfl (ih hf)
          · refine ev_sts 2 (c2 := (63, [.ref 31, .int x1, .int x2], [.ref 1], S10, 0)) rfl ?_
            refine ev_bI0 (d := d + 43) (M' := Mx78) (ct := (66, [.ref 31, .int x1, .int x2], [], S10, 0)) hf rfl rfl rfl rfl (fun r9 h9 => f_X8_refuse_ok (d := d + 43) h9) (fun r13 S12 hf => ?_)
            show Ev (d + 44) Mx283 (66, [.ref 31, .int x1, .int x2], [.int r13], S12, 0) r
            exact ev_ret hf rfl rfl
        · refine ev_sts 1 (c2 := (46, [.ref 31, .int x1, .int x2], [.int ((1 : Int32))], S8, 0)) rfl ?_
          exact ev_ret hf rfl rfl
      · refine ev_sts 1 (c2 := (34, [.ref 31, .int x1, .int x2], [.int ((0 : Int32))], S6, 0)) rfl ?_
        exact ev_ret hf rfl rfl
theorem f_X4_readLines_31_ok {d F : Nat} {p1 : Int32} {S : mS} {r : mR} (hf : f_X4_readLines_31 F p1 S = some r) : Ev (d + 44) Mx283 (entry Mx283 [.ref 31, .int p1] S) r := by
  unfold f_X4_readLines_31 at hf
  refine ev_sts 2 (c2 := (4, [.ref 31, .int p1, mK], [.ref 1], S, 0)) rfl ?_
  refine ev_bV0 (d := d + 43) (M' := Mx75) (ct := (7, [.ref 31, .int p1, mK], [], S, 0)) hf rfl rfl rfl rfl (fun r9 h9 => f_X8_begin_ok (d := d + 42) h9) (fun S1 hf => ?_)
  show Ev (d + 44) Mx283 (7, [.ref 31, .int p1, mK], [], S1, 0) r
  refine ev_sts 2 (c2 := (11, [.ref 31, .int p1, mK], [.ref 1], S1, 0)) rfl ?_
  refine ev_bI0 (d := d + 43) (M' := Mx76) (ct := (14, [.ref 31, .int p1, mK], [], S1, 0)) hf rfl rfl rfl rfl (fun r9 h9 => f_X8_isAtEnd_ok (d := d + 43) h9) (fun r3 S2 hf => ?_)
  show Ev (d + 44) Mx283 (14, [.ref 31, .int p1, mK], [.int r3], S2, 0) r
  refine ev_if (c1 := (19, [.ref 31, .int p1, mK], [], S2, 0)) (c2 := (17, [.ref 31, .int p1, mK], [], S2, 0)) hf rfl rfl (fun _ hf => ?_) (fun _ hf => ?_)
  · exact ev_sts 2 (c2 := (21, [.ref 31, .int p1, .int ((0 : Int32))], [], S2, 0)) rfl (f_X4_readLines_31_b21_ok _ hf)
  · refine ev_sts 1 (c2 := (18, [.ref 31, .int p1, mK], [.int ((1 : Int32))], S2, 0)) rfl ?_
    exact ev_ret hf rfl rfl
theorem f_X4_readLines_30_b21_ok {d F : Nat} : ∀ (n : Nat) {x1 : Int32} {x2 : Int32} {S : mS} {r : mR}, f_X4_readLines_30_b21 F n x1 x2 S = some r → Ev (d + 44) Mx283 (21, [.ref 30, .int x1, .int x2], [], S, 0) r := by
  intro n
  induction n with
  | zero => intro x1 x2 S r hf; cases hf
  | succ n ih =>
    intro x1 x2 S r hf
    rw [f_X4_readLines_30_b21] at hf
    refine ev_sts 2 (c2 := (23, [.ref 30, .int x1, .int x2], [.int x1, .int x2], S, 0)) rfl ?_
    refine ev_if (c1 := (73, [.ref 30, .int x1, .int x2], [], S, 0)) (c2 := (26, [.ref 30, .int x1, .int x2], [], S, 0)) hf rfl rfl (fun _ hf => ?_) (fun _ hf => ?_)
    · refine ev_sts 2 (c2 := (77, [.ref 30, .int x1, .int x2], [.ref 1], S, 0)) rfl ?_
      refine ev_bI0 (d := d + 43) (M' := Mx78) (ct := (80, [.ref 30, .int x1, .int x2], [], S, 0)) hf rfl rfl rfl rfl (fun r9 h9 => f_X8_refuse_ok (d := d + 43) h9) (fun r5 S4 hf => ?_)
      show Ev (d + 44) Mx283 (80, [.ref 30, .int x1, .int x2], [.int r5], S4, 0) r
      exact ev_ret hf rfl rfl
    · refine ev_sts 1 (c2 := (27, [.ref 30, .int x1, .int x2], [.ref 30], S, 0)) rfl ?_
      refine ev_bI0 (d := d + 43) (M' := Mx20) (ct := (30, [.ref 30, .int x1, .int x2], [], S, 0)) hf rfl rfl rfl rfl (fun r9 h9 => f_X1_readLine_ok (d := d + 39) h9) (fun r7 S6 hf => ?_)
      show Ev (d + 44) Mx283 (30, [.ref 30, .int x1, .int x2], [.int r7], S6, 0) r
      refine ev_if (c1 := (35, [.ref 30, .int x1, .int x2], [], S6, 0)) (c2 := (33, [.ref 30, .int x1, .int x2], [], S6, 0)) hf rfl rfl (fun _ hf => ?_) (fun _ hf => ?_)
      · refine ev_sts 2 (c2 := (39, [.ref 30, .int x1, .int x2], [.ref 1], S6, 0)) rfl ?_
        refine ev_bI0 (d := d + 43) (M' := Mx76) (ct := (42, [.ref 30, .int x1, .int x2], [], S6, 0)) hf rfl rfl rfl rfl (fun r9 h9 => f_X8_isAtEnd_ok (d := d + 43) h9) (fun r9 S8 hf => ?_)
        show Ev (d + 44) Mx283 (42, [.ref 30, .int x1, .int x2], [.int r9], S8, 0) r
        refine ev_if (c1 := (47, [.ref 30, .int x1, .int x2], [], S8, 0)) (c2 := (45, [.ref 30, .int x1, .int x2], [], S8, 0)) hf rfl rfl (fun _ hf => ?_) (fun _ hf => ?_)
        · refine ev_sts 3 (c2 := (53, [.ref 30, .int x1, .int x2], [.int ((59 : Int32)), .ref 1], S8, 0)) rfl ?_
          refine ev_bI0 (d := d + 43) (M' := Mx80) (ct := (56, [.ref 30, .int x1, .int x2], [], S8, 0)) hf rfl rfl rfl rfl (fun r9 h9 => f_X8_takesSign_ok (d := d + 42) h9) (fun r11 S10 hf => ?_)
          show Ev (d + 44) Mx283 (56, [.ref 30, .int x1, .int x2], [.int r11], S10, 0) r
          refine ev_if (c1 := (67, [.ref 30, .int x1, .int x2], [], S10, 0)) (c2 := (59, [.ref 30, .int x1, .int x2], [], S10, 0)) hf rfl rfl (fun _ hf => ?_) (fun _ hf => ?_)
          · exact ev_sts 2 (c2 := (21, [.ref 30, .int x1, .int (x2 + (1 : Int32))], [], S10, 0)) rfl (ih hf)
          · refine ev_sts 2 (c2 := (63, [.ref 30, .int x1, .int x2], [.ref 1], S10, 0)) rfl ?_
            refine ev_bI0 (d := d + 43) (M' := Mx78) (ct := (66, [.ref 30, .int x1, .int x2], [], S10, 0)) hf rfl rfl rfl rfl (fun r9 h9 => f_X8_refuse_ok (d := d + 43) h9) (fun r13 S12 hf => ?_)
            show Ev (d + 44) Mx283 (66, [.ref 30, .int x1, .int x2], [.int r13], S12, 0) r
            exact ev_ret hf rfl rfl
        · refine ev_sts 1 (c2 := (46, [.ref 30, .int x1, .int x2], [.int ((1 : Int32))], S8, 0)) rfl ?_
          exact ev_ret hf rfl rfl
      · refine ev_sts 1 (c2 := (34, [.ref 30, .int x1, .int x2], [.int ((0 : Int32))], S6, 0)) rfl ?_
        exact ev_ret hf rfl rfl
theorem f_X4_readLines_30_ok {d F : Nat} {p1 : Int32} {S : mS} {r : mR} (hf : f_X4_readLines_30 F p1 S = some r) : Ev (d + 44) Mx283 (entry Mx283 [.ref 30, .int p1] S) r := by
  unfold f_X4_readLines_30 at hf
  refine ev_sts 2 (c2 := (4, [.ref 30, .int p1, mK], [.ref 1], S, 0)) rfl ?_
  refine ev_bV0 (d := d + 43) (M' := Mx75) (ct := (7, [.ref 30, .int p1, mK], [], S, 0)) hf rfl rfl rfl rfl (fun r9 h9 => f_X8_begin_ok (d := d + 42) h9) (fun S1 hf => ?_)
  show Ev (d + 44) Mx283 (7, [.ref 30, .int p1, mK], [], S1, 0) r
  refine ev_sts 2 (c2 := (11, [.ref 30, .int p1, mK], [.ref 1], S1, 0)) rfl ?_
  refine ev_bI0 (d := d + 43) (M' := Mx76) (ct := (14, [.ref 30, .int p1, mK], [], S1, 0)) hf rfl rfl rfl rfl (fun r9 h9 => f_X8_isAtEnd_ok (d := d + 43) h9) (fun r3 S2 hf => ?_)
  show Ev (d + 44) Mx283 (14, [.ref 30, .int p1, mK], [.int r3], S2, 0) r
  refine ev_if (c1 := (19, [.ref 30, .int p1, mK], [], S2, 0)) (c2 := (17, [.ref 30, .int p1, mK], [], S2, 0)) hf rfl rfl (fun _ hf => ?_) (fun _ hf => ?_)
  · exact ev_sts 2 (c2 := (21, [.ref 30, .int p1, .int ((0 : Int32))], [], S2, 0)) rfl (f_X4_readLines_30_b21_ok _ hf)
  · refine ev_sts 1 (c2 := (18, [.ref 30, .int p1, mK], [.int ((1 : Int32))], S2, 0)) rfl ?_
    exact ev_ret hf rfl rfl
