def f_X1_numberBehind (F : Nat) (w1 : Nat) (p2 : Int32) (S : mS) : Option mR := bI0 (f_X8_takesWord F w1 S) (fun r2 S1 => (if ¬ r2 = 0 then bI0 (f_X8_takeNumber F ((0 : Int32)) p2 S1) (fun r4 S3 => some (.inl (some (.int r4)), S3)) else bI0 (f_X8_refuse S1) (fun r6 S5 => some (.inl (some (.int ((-1 : Int32)))), S5))))
theorem f_X1_numberBehind_ok_1004 {d F : Nat} {p2 : Int32} {S : mS} {r : mR} (hf : f_X1_numberBehind F 4 p2 S = some r) : Ev (d + 2) Mx22 (entry Mx22 [.ref 30, .ref 1004, .int p2] S) r := by
  unfold f_X1_numberBehind at hf
  refine ev_sts 3 (c2 := (5, [.ref 30, .ref 1004, .int p2], [.ref 1004, .ref 1], S, 0)) rfl ?_
  refine ev_bI0 (d := d + 1) (M' := Mx79) (ct := (8, [.ref 30, .ref 1004, .int p2], [], S, 0)) hf rfl rfl rfl rfl (fun r9 h9 => f_X8_takesWord_ok_1004 (d := d) h9) (fun r2 S1 hf => ?_)
  show Ev (d + 2) Mx22 (8, [.ref 30, .ref 1004, .int p2], [.int r2], S1, 0) r
  refine ev_if (c1 := (21, [.ref 30, .ref 1004, .int p2], [], S1, 0)) (c2 := (11, [.ref 30, .ref 1004, .int p2], [], S1, 0)) hf rfl rfl (fun _ hf => ?_) (fun _ hf => ?_)
  · refine ev_sts 4 (c2 := (27, [.ref 30, .ref 1004, .int p2], [.int p2, .int ((0 : Int32)), .ref 1], S1, 0)) rfl ?_
    refine ev_bI0 (d := d + 1) (M' := Mx82) (ct := (30, [.ref 30, .ref 1004, .int p2], [], S1, 0)) hf rfl rfl rfl rfl (fun r9 h9 => f_X8_takeNumber_ok (d := d) h9) (fun r4 S3 hf => ?_)
    show Ev (d + 2) Mx22 (30, [.ref 30, .ref 1004, .int p2], [.int r4], S3, 0) r
    exact ev_ret hf rfl rfl
  · refine ev_sts 2 (c2 := (15, [.ref 30, .ref 1004, .int p2], [.ref 1], S1, 0)) rfl ?_
    refine ev_bI0 (d := d + 1) (M' := Mx78) (ct := (18, [.ref 30, .ref 1004, .int p2], [], S1, 0)) hf rfl rfl rfl rfl (fun r9 h9 => f_X8_refuse_ok (d := d + 1) h9) (fun r6 S5 hf => ?_)
    show Ev (d + 2) Mx22 (18, [.ref 30, .ref 1004, .int p2], [.int r6], S5, 0) r
    refine ev_sts 2 (c2 := (20, [.ref 30, .ref 1004, .int p2], [.int ((-1 : Int32))], S5, 0)) rfl ?_
    exact ev_ret hf rfl rfl
theorem f_X1_numberBehind_ok_1003 {d F : Nat} {p2 : Int32} {S : mS} {r : mR} (hf : f_X1_numberBehind F 3 p2 S = some r) : Ev (d + 2) Mx22 (entry Mx22 [.ref 30, .ref 1003, .int p2] S) r := by
  unfold f_X1_numberBehind at hf
  refine ev_sts 3 (c2 := (5, [.ref 30, .ref 1003, .int p2], [.ref 1003, .ref 1], S, 0)) rfl ?_
  refine ev_bI0 (d := d + 1) (M' := Mx79) (ct := (8, [.ref 30, .ref 1003, .int p2], [], S, 0)) hf rfl rfl rfl rfl (fun r9 h9 => f_X8_takesWord_ok_1003 (d := d) h9) (fun r2 S1 hf => ?_)
  show Ev (d + 2) Mx22 (8, [.ref 30, .ref 1003, .int p2], [.int r2], S1, 0) r
  refine ev_if (c1 := (21, [.ref 30, .ref 1003, .int p2], [], S1, 0)) (c2 := (11, [.ref 30, .ref 1003, .int p2], [], S1, 0)) hf rfl rfl (fun _ hf => ?_) (fun _ hf => ?_)
  · refine ev_sts 4 (c2 := (27, [.ref 30, .ref 1003, .int p2], [.int p2, .int ((0 : Int32)), .ref 1], S1, 0)) rfl ?_
    refine ev_bI0 (d := d + 1) (M' := Mx82) (ct := (30, [.ref 30, .ref 1003, .int p2], [], S1, 0)) hf rfl rfl rfl rfl (fun r9 h9 => f_X8_takeNumber_ok (d := d) h9) (fun r4 S3 hf => ?_)
    show Ev (d + 2) Mx22 (30, [.ref 30, .ref 1003, .int p2], [.int r4], S3, 0) r
    exact ev_ret hf rfl rfl
  · refine ev_sts 2 (c2 := (15, [.ref 30, .ref 1003, .int p2], [.ref 1], S1, 0)) rfl ?_
    refine ev_bI0 (d := d + 1) (M' := Mx78) (ct := (18, [.ref 30, .ref 1003, .int p2], [], S1, 0)) hf rfl rfl rfl rfl (fun r9 h9 => f_X8_refuse_ok (d := d + 1) h9) (fun r6 S5 hf => ?_)
    show Ev (d + 2) Mx22 (18, [.ref 30, .ref 1003, .int p2], [.int r6], S5, 0) r
    refine ev_sts 2 (c2 := (20, [.ref 30, .ref 1003, .int p2], [.int ((-1 : Int32))], S5, 0)) rfl ?_
    exact ev_ret hf rfl rfl
theorem f_X1_numberBehind_ok_1002 {d F : Nat} {p2 : Int32} {S : mS} {r : mR} (hf : f_X1_numberBehind F 2 p2 S = some r) : Ev (d + 2) Mx22 (entry Mx22 [.ref 30, .ref 1002, .int p2] S) r := by
  unfold f_X1_numberBehind at hf
  refine ev_sts 3 (c2 := (5, [.ref 30, .ref 1002, .int p2], [.ref 1002, .ref 1], S, 0)) rfl ?_
  refine ev_bI0 (d := d + 1) (M' := Mx79) (ct := (8, [.ref 30, .ref 1002, .int p2], [], S, 0)) hf rfl rfl rfl rfl (fun r9 h9 => f_X8_takesWord_ok_1002 (d := d) h9) (fun r2 S1 hf => ?_)
  show Ev (d + 2) Mx22 (8, [.ref 30, .ref 1002, .int p2], [.int r2], S1, 0) r
  refine ev_if (c1 := (21, [.ref 30, .ref 1002, .int p2], [], S1, 0)) (c2 := (11, [.ref 30, .ref 1002, .int p2], [], S1, 0)) hf rfl rfl (fun _ hf => ?_) (fun _ hf => ?_)
  · refine ev_sts 4 (c2 := (27, [.ref 30, .ref 1002, .int p2], [.int p2, .int ((0 : Int32)), .ref 1], S1, 0)) rfl ?_
    refine ev_bI0 (d := d + 1) (M' := Mx82) (ct := (30, [.ref 30, .ref 1002, .int p2], [], S1, 0)) hf rfl rfl rfl rfl (fun r9 h9 => f_X8_takeNumber_ok (d := d) h9) (fun r4 S3 hf => ?_)
    show Ev (d + 2) Mx22 (30, [.ref 30, .ref 1002, .int p2], [.int r4], S3, 0) r
    exact ev_ret hf rfl rfl
  · refine ev_sts 2 (c2 := (15, [.ref 30, .ref 1002, .int p2], [.ref 1], S1, 0)) rfl ?_
    refine ev_bI0 (d := d + 1) (M' := Mx78) (ct := (18, [.ref 30, .ref 1002, .int p2], [], S1, 0)) hf rfl rfl rfl rfl (fun r9 h9 => f_X8_refuse_ok (d := d + 1) h9) (fun r6 S5 hf => ?_)
    show Ev (d + 2) Mx22 (18, [.ref 30, .ref 1002, .int p2], [.int r6], S5, 0) r
    refine ev_sts 2 (c2 := (20, [.ref 30, .ref 1002, .int p2], [.int ((-1 : Int32))], S5, 0)) rfl ?_
    exact ev_ret hf rfl rfl
theorem f_X1_numberBehind_ok_1001 {d F : Nat} {p2 : Int32} {S : mS} {r : mR} (hf : f_X1_numberBehind F 1 p2 S = some r) : Ev (d + 2) Mx22 (entry Mx22 [.ref 30, .ref 1001, .int p2] S) r := by
  unfold f_X1_numberBehind at hf
  refine ev_sts 3 (c2 := (5, [.ref 30, .ref 1001, .int p2], [.ref 1001, .ref 1], S, 0)) rfl ?_
  refine ev_bI0 (d := d + 1) (M' := Mx79) (ct := (8, [.ref 30, .ref 1001, .int p2], [], S, 0)) hf rfl rfl rfl rfl (fun r9 h9 => f_X8_takesWord_ok_1001 (d := d) h9) (fun r2 S1 hf => ?_)
  show Ev (d + 2) Mx22 (8, [.ref 30, .ref 1001, .int p2], [.int r2], S1, 0) r
  refine ev_if (c1 := (21, [.ref 30, .ref 1001, .int p2], [], S1, 0)) (c2 := (11, [.ref 30, .ref 1001, .int p2], [], S1, 0)) hf rfl rfl (fun _ hf => ?_) (fun _ hf => ?_)
  · refine ev_sts 4 (c2 := (27, [.ref 30, .ref 1001, .int p2], [.int p2, .int ((0 : Int32)), .ref 1], S1, 0)) rfl ?_
    refine ev_bI0 (d := d + 1) (M' := Mx82) (ct := (30, [.ref 30, .ref 1001, .int p2], [], S1, 0)) hf rfl rfl rfl rfl (fun r9 h9 => f_X8_takeNumber_ok (d := d) h9) (fun r4 S3 hf => ?_)
    show Ev (d + 2) Mx22 (30, [.ref 30, .ref 1001, .int p2], [.int r4], S3, 0) r
    exact ev_ret hf rfl rfl
  · refine ev_sts 2 (c2 := (15, [.ref 30, .ref 1001, .int p2], [.ref 1], S1, 0)) rfl ?_
    refine ev_bI0 (d := d + 1) (M' := Mx78) (ct := (18, [.ref 30, .ref 1001, .int p2], [], S1, 0)) hf rfl rfl rfl rfl (fun r9 h9 => f_X8_refuse_ok (d := d + 1) h9) (fun r6 S5 hf => ?_)
    show Ev (d + 2) Mx22 (18, [.ref 30, .ref 1001, .int p2], [.int r6], S5, 0) r
    refine ev_sts 2 (c2 := (20, [.ref 30, .ref 1001, .int p2], [.int ((-1 : Int32))], S5, 0)) rfl ?_
    exact ev_ret hf rfl rfl
def f_X8_isRight_b13 (t0 : Int32) (S : mS) : Option mR := some (.inl (some (.int (t0 &&& 1))), S)
def f_X8_isRight (S : mS) : Option mR := (if ¬ (S 1 3) = ((-1 : Int32)) then f_X8_isRight_b13 ((0 : Int32)) S else f_X8_isRight_b13 ((1 : Int32)) S)
theorem f_X8_isRight_b13_ok {d : Nat} {t0 : Int32} {S : mS} {r : mR} (hf : f_X8_isRight_b13 t0 S = some r) : Ev (d) Mx77 (13, [mK], [.int t0], S, 0) r := by
  unfold f_X8_isRight_b13 at hf
  exact ev_ret hf rfl rfl
theorem f_X8_isRight_ok {d : Nat} {S : mS} {r : mR} (hf : f_X8_isRight S = some r) : Ev (d) Mx77 (entry Mx77 [.ref 1] S) r := by
  unfold f_X8_isRight at hf
  refine ev_sts 3 (c2 := (5, [.ref 1], [.int ((-1 : Int32)), .int (S 1 3)], S, 0)) rfl ?_
  refine ev_if (c1 := (12, [.ref 1], [], S, 0)) (c2 := (8, [.ref 1], [], S, 0)) hf rfl rfl (fun _ hf => ?_) (fun _ hf => ?_)
  · exact ev_sts 1 (c2 := (13, [mK], [.int ((0 : Int32))], S, 0)) rfl (f_X8_isRight_b13_ok hf)
  · exact ev_sts 2 (c2 := (13, [mK], [.int ((1 : Int32))], S, 0)) rfl (f_X8_isRight_b13_ok hf)
def f_X1_readLedge_b122 (F : Nat) (x5 : Int32) (x6 : Int32) (t3 : Int32) (t2 : Int32) (t1 : Int32) (S : mS) : Option mR := bV0 (f_X0_putLedge 26 t1 t2 t3 S) (fun S18 => bV0 (f_X0_putLedge 26 x6 ((4 : Int32)) x5 S18) (fun S19 => bV0 (f_X0_add 26 ((12 : Int32)) ((1 : Int32)) S19) (fun S20 => some (.inl (some (.int (((1 : Int32)) &&& 1))), S20))))
def f_X1_readLedge (F : Nat) (S : mS) : Option mR := bI0 (f_X8_takeNumber F ((1 : Int32)) ((40 : Int32)) S) (fun r2 S1 => bI0 (f_X1_numberBehind F 1 ((30 : Int32)) S1) (fun r4 S3 => bI0 (f_X1_numberBehind F 2 ((20 : Int32)) S3) (fun r6 S5 => bI0 (f_X1_numberBehind F 3 ((99 : Int32)) S5) (fun r8 S7 => bI0 (f_X1_numberBehind F 4 ((9 : Int32)) S7) (fun r10 S9 => bI0 (f_X8_isRight S9) (fun r12 S11 => (if ¬ r12 = 0 then bI0 (f_X0_at 26 ((12 : Int32)) S11) (fun r14 S13 => bV0 (f_X0_putLedge 26 r14 ((0 : Int32)) r2 S13) (fun S15 => bV0 (f_X0_putLedge 26 r14 ((1 : Int32)) r4 S15) (fun S16 => bV0 (f_X0_putLedge 26 r14 ((2 : Int32)) r6 S16) (fun S17 => (if ¬ r6 = 0 then f_X1_readLedge_b122 F r10 r14 r8 ((3 : Int32)) r14 S17 else f_X1_readLedge_b122 F r10 r14 ((0 : Int32)) ((3 : Int32)) r14 S17))))) else some (.inl (some (.int (((0 : Int32)) &&& 1))), S11))))))))
theorem f_X1_readLedge_b122_ok {d F : Nat} {x5 : Int32} {x6 : Int32} {t3 : Int32} {t2 : Int32} {t1 : Int32} {S : mS} {r : mR} (hf : f_X1_readLedge_b122 F x5 x6 t3 t2 t1 S = some r) : Ev (d + 3) Mx21 (122, [.ref 30, mK, mK, mK, mK, .int x5, .int x6], [.int t3, .int t2, .int t1, .ref 26], S, 0) r := by
  unfold f_X1_readLedge_b122 at hf
  refine ev_bV0 (d := d + 2) (M' := Mx5) (ct := (125, [.ref 30, mK, mK, mK, mK, .int x5, .int x6], [], S, 0)) hf rfl rfl rfl rfl (fun r9 h9 => f_X0_putLedge_ok_26 (d := d + 1) h9) (fun S18 hf => ?_)
  show Ev (d + 3) Mx21 (125, [.ref 30, mK, mK, mK, mK, .int x5, .int x6], [], S18, 0) r
  refine ev_sts 5 (c2 := (134, [.ref 30, mK, mK, mK, mK, .int x5, .int x6], [.int x5, .int ((4 : Int32)), .int x6, .ref 26], S18, 0)) rfl ?_
  refine ev_bV0 (d := d + 2) (M' := Mx5) (ct := (137, [.ref 30, mK, mK, mK, mK, .int x5, .int x6], [], S18, 0)) hf rfl rfl rfl rfl (fun r9 h9 => f_X0_putLedge_ok_26 (d := d + 1) h9) (fun S19 hf => ?_)
  show Ev (d + 3) Mx21 (137, [.ref 30, mK, mK, mK, mK, .int x5, .int x6], [], S19, 0) r
  refine ev_sts 4 (c2 := (144, [.ref 30, mK, mK, mK, mK, .int x5, .int x6], [.int ((1 : Int32)), .int ((12 : Int32)), .ref 26], S19, 0)) rfl ?_
  refine ev_bV0 (d := d + 2) (M' := Mx3) (ct := (147, [.ref 30, mK, mK, mK, mK, .int x5, .int x6], [], S19, 0)) hf rfl rfl rfl rfl (fun r9 h9 => f_X0_add_ok_26 (d := d + 1) h9) (fun S20 hf => ?_)
  show Ev (d + 3) Mx21 (147, [.ref 30, mK, mK, mK, mK, .int x5, .int x6], [], S20, 0) r
  refine ev_sts 1 (c2 := (148, [.ref 30, mK, mK, mK, mK, .int x5, .int x6], [.int ((1 : Int32))], S20, 0)) rfl ?_
  exact ev_ret hf rfl rfl
theorem f_X1_readLedge_ok {d F : Nat} {S : mS} {r : mR} (hf : f_X1_readLedge F S = some r) : Ev (d + 3) Mx21 (entry Mx21 [.ref 30] S) r := by
  unfold f_X1_readLedge at hf
  refine ev_sts 4 (c2 := (7, [.ref 30, mK, mK, mK, mK, mK, mK], [.int ((40 : Int32)), .int ((1 : Int32)), .ref 1], S, 0)) rfl ?_
  refine ev_bI0 (d := d + 2) (M' := Mx82) (ct := (10, [.ref 30, mK, mK, mK, mK, mK, mK], [], S, 0)) hf rfl rfl rfl rfl (fun r9 h9 => f_X8_takeNumber_ok (d := d + 1) h9) (fun r2 S1 hf => ?_)
  show Ev (d + 3) Mx21 (10, [.ref 30, mK, mK, mK, mK, mK, mK], [.int r2], S1, 0) r
  refine ev_sts 4 (c2 := (16, [.ref 30, .int r2, mK, mK, mK, mK, mK], [.int ((30 : Int32)), .ref 1001, .ref 30], S1, 0)) rfl ?_
  refine ev_bI0 (d := d + 2) (M' := Mx22) (ct := (19, [.ref 30, .int r2, mK, mK, mK, mK, mK], [], S1, 0)) hf rfl rfl rfl rfl (fun r9 h9 => f_X1_numberBehind_ok_1001 (d := d) h9) (fun r4 S3 hf => ?_)
  show Ev (d + 3) Mx21 (19, [.ref 30, .int r2, mK, mK, mK, mK, mK], [.int r4], S3, 0) r
  refine ev_sts 4 (c2 := (25, [.ref 30, .int r2, .int r4, mK, mK, mK, mK], [.int ((20 : Int32)), .ref 1002, .ref 30], S3, 0)) rfl ?_
  refine ev_bI0 (d := d + 2) (M' := Mx22) (ct := (28, [.ref 30, .int r2, .int r4, mK, mK, mK, mK], [], S3, 0)) hf rfl rfl rfl rfl (fun r9 h9 => f_X1_numberBehind_ok_1002 (d := d) h9) (fun r6 S5 hf => ?_)
  show Ev (d + 3) Mx21 (28, [.ref 30, .int r2, .int r4, mK, mK, mK, mK], [.int r6], S5, 0) r
  refine ev_sts 4 (c2 := (34, [.ref 30, .int r2, .int r4, .int r6, mK, mK, mK], [.int ((99 : Int32)), .ref 1003, .ref 30], S5, 0)) rfl ?_
  refine ev_bI0 (d := d + 2) (M' := Mx22) (ct := (37, [.ref 30, .int r2, .int r4, .int r6, mK, mK, mK], [], S5, 0)) hf rfl rfl rfl rfl (fun r9 h9 => f_X1_numberBehind_ok_1003 (d := d) h9) (fun r8 S7 hf => ?_)
  show Ev (d + 3) Mx21 (37, [.ref 30, .int r2, .int r4, .int r6, mK, mK, mK], [.int r8], S7, 0) r
  refine ev_sts 4 (c2 := (44, [.ref 30, .int r2, .int r4, .int r6, .int r8, mK, mK], [.int ((9 : Int32)), .ref 1004, .ref 30], S7, 0)) rfl ?_
  refine ev_bI0 (d := d + 2) (M' := Mx22) (ct := (47, [.ref 30, .int r2, .int r4, .int r6, .int r8, mK, mK], [], S7, 0)) hf rfl rfl rfl rfl (fun r9 h9 => f_X1_numberBehind_ok_1004 (d := d) h9) (fun r10 S9 hf => ?_)
  show Ev (d + 3) Mx21 (47, [.ref 30, .int r2, .int r4, .int r6, .int r8, mK, mK], [.int r10], S9, 0) r
  refine ev_sts 3 (c2 := (53, [.ref 30, .int r2, .int r4, .int r6, .int r8, .int r10, mK], [.ref 1], S9, 0)) rfl ?_
  refine ev_bI0 (d := d + 2) (M' := Mx77) (ct := (56, [.ref 30, .int r2, .int r4, .int r6, .int r8, .int r10, mK], [], S9, 0)) hf rfl rfl rfl rfl (fun r9 h9 => f_X8_isRight_ok (d := d + 2) h9) (fun r12 S11 hf => ?_)
  show Ev (d + 3) Mx21 (56, [.ref 30, .int r2, .int r4, .int r6, .int r8, .int r10, mK], [.int r12], S11, 0) r
  refine ev_if (c1 := (61, [.ref 30, .int r2, .int r4, .int r6, .int r8, .int r10, mK], [], S11, 0)) (c2 := (59, [.ref 30, .int r2, .int r4, .int r6, .int r8, .int r10, mK], [], S11, 0)) hf rfl rfl (fun _ hf => ?_) (fun _ hf => ?_)
  · refine ev_sts 3 (c2 := (67, [.ref 30, .int r2, .int r4, .int r6, .int r8, .int r10, mK], [.int ((12 : Int32)), .ref 26], S11, 0)) rfl ?_
    refine ev_bI0 (d := d + 2) (M' := Mx1) (ct := (70, [.ref 30, .int r2, .int r4, .int r6, .int r8, .int r10, mK], [], S11, 0)) hf rfl rfl rfl rfl (fun r9 h9 => f_X0_at_ok_26 (d := d + 2) h9) (fun r14 S13 hf => ?_)
    show Ev (d + 3) Mx21 (70, [.ref 30, .int r2, .int r4, .int r6, .int r8, .int r10, mK], [.int r14], S13, 0) r
    refine ev_sts 6 (c2 := (80, [.ref 30, .int r2, .int r4, .int r6, .int r8, .int r10, .int r14], [.int r2, .int ((0 : Int32)), .int r14, .ref 26], S13, 0)) rfl ?_
    refine ev_bV0 (d := d + 2) (M' := Mx5) (ct := (83, [.ref 30, .int r2, .int r4, .int r6, .int r8, .int r10, .int r14], [], S13, 0)) hf rfl rfl rfl rfl (fun r9 h9 => f_X0_putLedge_ok_26 (d := d + 1) h9) (fun S15 hf => ?_)
    show Ev (d + 3) Mx21 (83, [.ref 30, .int r2, .int r4, .int r6, .int r8, .int r10, .int r14], [], S15, 0) r
    refine ev_sts 5 (c2 := (91, [.ref 30, .int r2, .int r4, .int r6, .int r8, .int r10, .int r14], [.int r4, .int ((1 : Int32)), .int r14, .ref 26], S15, 0)) rfl ?_
    refine ev_bV0 (d := d + 2) (M' := Mx5) (ct := (94, [.ref 30, .int r2, .int r4, .int r6, .int r8, .int r10, .int r14], [], S15, 0)) hf rfl rfl rfl rfl (fun r9 h9 => f_X0_putLedge_ok_26 (d := d + 1) h9) (fun S16 hf => ?_)
    show Ev (d + 3) Mx21 (94, [.ref 30, .int r2, .int r4, .int r6, .int r8, .int r10, .int r14], [], S16, 0) r
    refine ev_sts 5 (c2 := (102, [.ref 30, .int r2, .int r4, .int r6, .int r8, .int r10, .int r14], [.int r6, .int ((2 : Int32)), .int r14, .ref 26], S16, 0)) rfl ?_
    refine ev_bV0 (d := d + 2) (M' := Mx5) (ct := (105, [.ref 30, .int r2, .int r4, .int r6, .int r8, .int r10, .int r14], [], S16, 0)) hf rfl rfl rfl rfl (fun r9 h9 => f_X0_putLedge_ok_26 (d := d + 1) h9) (fun S17 hf => ?_)
    show Ev (d + 3) Mx21 (105, [.ref 30, .int r2, .int r4, .int r6, .int r8, .int r10, .int r14], [], S17, 0) r
    refine ev_sts 5 (c2 := (113, [.ref 30, .int r2, .int r4, .int r6, .int r8, .int r10, .int r14], [.int r6, .int ((3 : Int32)), .int r14, .ref 26], S17, 0)) rfl ?_
    refine ev_if (c1 := (120, [.ref 30, .int r2, .int r4, .int r6, .int r8, .int r10, .int r14], [.int ((3 : Int32)), .int r14, .ref 26], S17, 0)) (c2 := (116, [.ref 30, .int r2, .int r4, .int r6, .int r8, .int r10, .int r14], [.int ((3 : Int32)), .int r14, .ref 26], S17, 0)) hf rfl rfl (fun _ hf => ?_) (fun _ hf => ?_)
    · exact ev_sts 1 (c2 := (122, [.ref 30, mK, mK, mK, mK, .int r10, .int r14], [.int r8, .int ((3 : Int32)), .int r14, .ref 26], S17, 0)) rfl (f_X1_readLedge_b122_ok hf)
    · exact ev_sts 2 (c2 := (122, [.ref 30, mK, mK, mK, mK, .int r10, .int r14], [.int ((0 : Int32)), .int ((3 : Int32)), .int r14, .ref 26], S17, 0)) rfl (f_X1_readLedge_b122_ok hf)
  · refine ev_sts 1 (c2 := (60, [.ref 30, .int r2, .int r4, .int r6, .int r8, .int r10, mK], [.int ((0 : Int32))], S11, 0)) rfl ?_
    exact ev_ret hf rfl rfl
def f_X1_readRope (F : Nat) (S : mS) : Option mR := bI0 (f_X8_takeNumber F ((1 : Int32)) ((40 : Int32)) S) (fun r2 S1 => bI0 (f_X8_takesWord F 6 S1) (fun r4 S3 => (if ¬ r4 = 0 then bI0 (f_X8_takeNumber F ((1 : Int32)) ((999 : Int32)) S3) (fun r6 S5 => bI0 (f_X8_isRight S5) (fun r8 S7 => (if ¬ r8 = 0 then bV0 (f_X0_put 26 ((0 : Int32)) r2 S7) (fun S9 => bV0 (f_X0_put 26 ((2 : Int32)) r6 S9) (fun S10 => bV0 (f_X0_put 26 ((1 : Int32)) ((0 : Int32)) S10) (fun S11 => some (.inl (some (.int (((1 : Int32)) &&& 1))), S11)))) else some (.inl (some (.int (((0 : Int32)) &&& 1))), S7)))) else bI0 (f_X8_refuse S3) (fun r13 S12 => some (.inl (some (.int (r13 &&& 1))), S12)))))
theorem f_X1_readRope_ok {d F : Nat} {S : mS} {r : mR} (hf : f_X1_readRope F S = some r) : Ev (d + 2) Mx23 (entry Mx23 [.ref 30] S) r := by
  unfold f_X1_readRope at hf
  refine ev_sts 4 (c2 := (7, [.ref 30, mK, mK], [.int ((40 : Int32)), .int ((1 : Int32)), .ref 1], S, 0)) rfl ?_
  refine ev_bI0 (d := d + 1) (M' := Mx82) (ct := (10, [.ref 30, mK, mK], [], S, 0)) hf rfl rfl rfl rfl (fun r9 h9 => f_X8_takeNumber_ok (d := d) h9) (fun r2 S1 hf => ?_)
  show Ev (d + 2) Mx23 (10, [.ref 30, mK, mK], [.int r2], S1, 0) r
  refine ev_sts 4 (c2 := (17, [.ref 30, .int r2, mK], [.ref 1006, .ref 1], S1, 0)) rfl ?_
  refine ev_bI0 (d := d + 1) (M' := Mx79) (ct := (20, [.ref 30, .int r2, mK], [], S1, 0)) hf rfl rfl rfl rfl (fun r9 h9 => f_X8_takesWord_ok_1006 (d := d) h9) (fun r4 S3 hf => ?_)
  show Ev (d + 2) Mx23 (20, [.ref 30, .int r2, mK], [.int r4], S3, 0) r
  refine ev_if (c1 := (31, [.ref 30, .int r2, mK], [], S3, 0)) (c2 := (23, [.ref 30, .int r2, mK], [], S3, 0)) hf rfl rfl (fun _ hf => ?_) (fun _ hf => ?_)
  · refine ev_sts 4 (c2 := (39, [.ref 30, .int r2, mK], [.int ((999 : Int32)), .int ((1 : Int32)), .ref 1], S3, 0)) rfl ?_
    refine ev_bI0 (d := d + 1) (M' := Mx82) (ct := (42, [.ref 30, .int r2, mK], [], S3, 0)) hf rfl rfl rfl rfl (fun r9 h9 => f_X8_takeNumber_ok (d := d) h9) (fun r6 S5 hf => ?_)
    show Ev (d + 2) Mx23 (42, [.ref 30, .int r2, mK], [.int r6], S5, 0) r
    refine ev_sts 3 (c2 := (47, [.ref 30, .int r2, .int r6], [.ref 1], S5, 0)) rfl ?_
    refine ev_bI0 (d := d + 1) (M' := Mx77) (ct := (50, [.ref 30, .int r2, .int r6], [], S5, 0)) hf rfl rfl rfl rfl (fun r9 h9 => f_X8_isRight_ok (d := d + 1) h9) (fun r8 S7 hf => ?_)
    show Ev (d + 2) Mx23 (50, [.ref 30, .int r2, .int r6], [.int r8], S7, 0) r
    refine ev_if (c1 := (55, [.ref 30, .int r2, .int r6], [], S7, 0)) (c2 := (53, [.ref 30, .int r2, .int r6], [], S7, 0)) hf rfl rfl (fun _ hf => ?_) (fun _ hf => ?_)
    · refine ev_sts 4 (c2 := (61, [.ref 30, .int r2, .int r6], [.int r2, .int ((0 : Int32)), .ref 26], S7, 0)) rfl ?_
      refine ev_bV0 (d := d + 1) (M' := Mx2) (ct := (64, [.ref 30, .int r2, .int r6], [], S7, 0)) hf rfl rfl rfl rfl (fun r9 h9 => f_X0_put_ok_26 (d := d + 1) h9) (fun S9 hf => ?_)
      show Ev (d + 2) Mx23 (64, [.ref 30, .int r2, .int r6], [], S9, 0) r
      refine ev_sts 4 (c2 := (70, [.ref 30, .int r2, .int r6], [.int r6, .int ((2 : Int32)), .ref 26], S9, 0)) rfl ?_
      refine ev_bV0 (d := d + 1) (M' := Mx2) (ct := (73, [.ref 30, .int r2, .int r6], [], S9, 0)) hf rfl rfl rfl rfl (fun r9 h9 => f_X0_put_ok_26 (d := d + 1) h9) (fun S10 hf => ?_)
      show Ev (d + 2) Mx23 (73, [.ref 30, .int r2, .int r6], [], S10, 0) r
      refine ev_sts 4 (c2 := (79, [.ref 30, .int r2, .int r6], [.int ((0 : Int32)), .int ((1 : Int32)), .ref 26], S10, 0)) rfl ?_
      refine ev_bV0 (d := d + 1) (M' := Mx2) (ct := (82, [.ref 30, .int r2, .int r6], [], S10, 0)) hf rfl rfl rfl rfl (fun r9 h9 => f_X0_put_ok_26 (d := d + 1) h9) (fun S11 hf => ?_)
      show Ev (d + 2) Mx23 (82, [.ref 30, .int r2, .int r6], [], S11, 0) r
      refine ev_sts 1 (c2 := (83, [.ref 30, .int r2, .int r6], [.int ((1 : Int32))], S11, 0)) rfl ?_
      exact ev_ret hf rfl rfl
    · refine ev_sts 1 (c2 := (54, [.ref 30, .int r2, .int r6], [.int ((0 : Int32))], S7, 0)) rfl ?_
      exact ev_ret hf rfl rfl
  · refine ev_sts 2 (c2 := (27, [.ref 30, .int r2, mK], [.ref 1], S3, 0)) rfl ?_
    refine ev_bI0 (d := d + 1) (M' := Mx78) (ct := (30, [.ref 30, .int r2, mK], [], S3, 0)) hf rfl rfl rfl rfl (fun r9 h9 => f_X8_refuse_ok (d := d + 1) h9) (fun r13 S12 hf => ?_)
    show Ev (d + 2) Mx23 (30, [.ref 30, .int r2, mK], [.int r13], S12, 0) r
    exact ev_ret hf rfl rfl
def f_X1_readLine_b109 (F : Nat) (S : mS) : Option mR := bI0 (f_X8_takesWord F 9 S) (fun r10 S9 => (if r10 = 0 then bI0 (f_X8_takesWord F 10 S9) (fun r12 S11 => (if r12 = 0 then bI0 (f_X8_refuse S11) (fun r14 S13 => some (.inl (some (.int (r14 &&& 1))), S13)) else bI0 (f_X1_readChance F ((6 : Int32)) S11) (fun r16 S15 => some (.inl (some (.int (r16 &&& 1))), S15)))) else bI0 (f_X1_readChance F ((5 : Int32)) S9) (fun r18 S17 => some (.inl (some (.int (r18 &&& 1))), S17))))
def f_X1_readLine_b79 (F : Nat) (S : mS) : Option mR := bI0 (f_X0_at 26 ((14 : Int32)) S) (fun r8 S7 => (if ((4 : Int32)) ≤ r8 then f_X1_readLine_b109 F S7 else bI0 (f_X8_takesWord F 8 S7) (fun r20 S19 => (if r20 = 0 then f_X1_readLine_b109 F S19 else bI0 (f_X1_readClimber F S19) (fun r22 S21 => some (.inl (some (.int (r22 &&& 1))), S21))))))
def f_X1_readLine_b31 (F : Nat) (S : mS) : Option mR := bI0 (f_X8_takesWord F 5 S) (fun r4 S3 => (if r4 = 0 then bI0 (f_X0_at 26 ((13 : Int32)) S3) (fun r6 S5 => (if ((6 : Int32)) ≤ r6 then f_X1_readLine_b79 F S5 else bI0 (f_X8_takesWord F 7 S5) (fun r24 S23 => (if r24 = 0 then f_X1_readLine_b79 F S23 else bI0 (f_X1_readHolder F S23) (fun r26 S25 => some (.inl (some (.int (r26 &&& 1))), S25)))))) else bI0 (f_X1_readRope F S3) (fun r28 S27 => some (.inl (some (.int (r28 &&& 1))), S27))))
def f_X1_readLine (F : Nat) (S : mS) : Option mR := bI0 (f_X0_at 26 ((12 : Int32)) S) (fun r2 S1 => (if ((10 : Int32)) ≤ r2 then f_X1_readLine_b31 F S1 else bI0 (f_X8_takesWord F 0 S1) (fun r30 S29 => (if r30 = 0 then f_X1_readLine_b31 F S29 else bI0 (f_X1_readLedge F S29) (fun r32 S31 => some (.inl (some (.int (r32 &&& 1))), S31))))))
theorem f_X1_readLine_b109_ok {d F : Nat} {S : mS} {r : mR} (hf : f_X1_readLine_b109 F  S = some r) : Ev (d + 4) Mx20 (109, [.ref 30], [], S, 0) r := by
  unfold f_X1_readLine_b109 at hf
  refine ev_sts 3 (c2 := (115, [.ref 30], [.ref 1009, .ref 1], S, 0)) rfl ?_
  refine ev_bI0 (d := d + 3) (M' := Mx79) (ct := (118, [.ref 30], [], S, 0)) hf rfl rfl rfl rfl (fun r9 h9 => f_X8_takesWord_ok_1009 (d := d + 2) h9) (fun r10 S9 hf => ?_)
  show Ev (d + 4) Mx20 (118, [.ref 30], [.int r10], S9, 0) r
  refine ev_if (c1 := (127, [.ref 30], [], S9, 0)) (c2 := (121, [.ref 30], [], S9, 0)) hf rfl rfl (fun _ hf => ?_) (fun _ hf => ?_)
  · refine ev_sts 3 (c2 := (133, [.ref 30], [.ref 1010, .ref 1], S9, 0)) rfl ?_
    refine ev_bI0 (d := d + 3) (M' := Mx79) (ct := (136, [.ref 30], [], S9, 0)) hf rfl rfl rfl rfl (fun r9 h9 => f_X8_takesWord_ok_1010 (d := d + 2) h9) (fun r12 S11 hf => ?_)
    show Ev (d + 4) Mx20 (136, [.ref 30], [.int r12], S11, 0) r
    refine ev_if (c1 := (146, [.ref 30], [], S11, 0)) (c2 := (139, [.ref 30], [], S11, 0)) hf rfl rfl (fun _ hf => ?_) (fun _ hf => ?_)
    · refine ev_sts 2 (c2 := (150, [.ref 30], [.ref 1], S11, 0)) rfl ?_
      refine ev_bI0 (d := d + 3) (M' := Mx78) (ct := (153, [.ref 30], [], S11, 0)) hf rfl rfl rfl rfl (fun r9 h9 => f_X8_refuse_ok (d := d + 3) h9) (fun r14 S13 hf => ?_)
      show Ev (d + 4) Mx20 (153, [.ref 30], [.int r14], S13, 0) r
      exact ev_ret hf rfl rfl
    · refine ev_sts 2 (c2 := (142, [.ref 30], [.int ((6 : Int32)), .ref 30], S11, 0)) rfl ?_
      refine ev_bI0 (d := d + 3) (M' := Mx26) (ct := (145, [.ref 30], [], S11, 0)) hf rfl rfl rfl rfl (fun r9 h9 => f_X1_readChance_ok (d := d + 1) h9) (fun r16 S15 hf => ?_)
      show Ev (d + 4) Mx20 (145, [.ref 30], [.int r16], S15, 0) r
      exact ev_ret hf rfl rfl
  · refine ev_sts 2 (c2 := (123, [.ref 30], [.int ((5 : Int32)), .ref 30], S9, 0)) rfl ?_
    refine ev_bI0 (d := d + 3) (M' := Mx26) (ct := (126, [.ref 30], [], S9, 0)) hf rfl rfl rfl rfl (fun r9 h9 => f_X1_readChance_ok (d := d + 1) h9) (fun r18 S17 hf => ?_)
    show Ev (d + 4) Mx20 (126, [.ref 30], [.int r18], S17, 0) r
    exact ev_ret hf rfl rfl
theorem f_X1_readLine_b79_ok {d F : Nat} {S : mS} {r : mR} (hf : f_X1_readLine_b79 F  S = some r) : Ev (d + 4) Mx20 (79, [.ref 30], [], S, 0) r := by
  unfold f_X1_readLine_b79 at hf
  refine ev_sts 3 (c2 := (85, [.ref 30], [.int ((14 : Int32)), .ref 26], S, 0)) rfl ?_
  refine ev_bI0 (d := d + 3) (M' := Mx1) (ct := (88, [.ref 30], [], S, 0)) hf rfl rfl rfl rfl (fun r9 h9 => f_X0_at_ok_26 (d := d + 3) h9) (fun r8 S7 hf => ?_)
  show Ev (d + 4) Mx20 (88, [.ref 30], [.int r8], S7, 0) r
  refine ev_sts 1 (c2 := (89, [.ref 30], [.int ((4 : Int32)), .int r8], S7, 0)) rfl ?_
  refine ev_if (c1 := (109, [.ref 30], [], S7, 0)) (c2 := (92, [.ref 30], [], S7, 0)) hf rfl rfl (fun _ hf => ?_) (fun _ hf => ?_)
  · exact f_X1_readLine_b109_ok hf
  · refine ev_sts 3 (c2 := (98, [.ref 30], [.ref 1008, .ref 1], S7, 0)) rfl ?_
    refine ev_bI0 (d := d + 3) (M' := Mx79) (ct := (101, [.ref 30], [], S7, 0)) hf rfl rfl rfl rfl (fun r9 h9 => f_X8_takesWord_ok_1008 (d := d + 2) h9) (fun r20 S19 hf => ?_)
    show Ev (d + 4) Mx20 (101, [.ref 30], [.int r20], S19, 0) r
    refine ev_if (c1 := (109, [.ref 30], [], S19, 0)) (c2 := (104, [.ref 30], [], S19, 0)) hf rfl rfl (fun _ hf => ?_) (fun _ hf => ?_)
    · exact f_X1_readLine_b109_ok hf
    · refine ev_sts 1 (c2 := (105, [.ref 30], [.ref 30], S19, 0)) rfl ?_
      refine ev_bI0 (d := d + 3) (M' := Mx25) (ct := (108, [.ref 30], [], S19, 0)) hf rfl rfl rfl rfl (fun r9 h9 => f_X1_readClimber_ok (d := d + 1) h9) (fun r22 S21 hf => ?_)
      show Ev (d + 4) Mx20 (108, [.ref 30], [.int r22], S21, 0) r
      exact ev_ret hf rfl rfl
theorem f_X1_readLine_b31_ok {d F : Nat} {S : mS} {r : mR} (hf : f_X1_readLine_b31 F  S = some r) : Ev (d + 4) Mx20 (31, [.ref 30], [], S, 0) r := by
  unfold f_X1_readLine_b31 at hf
  refine ev_sts 3 (c2 := (37, [.ref 30], [.ref 1005, .ref 1], S, 0)) rfl ?_
  refine ev_bI0 (d := d + 3) (M' := Mx79) (ct := (40, [.ref 30], [], S, 0)) hf rfl rfl rfl rfl (fun r9 h9 => f_X8_takesWord_ok_1005 (d := d + 2) h9) (fun r4 S3 hf => ?_)
  show Ev (d + 4) Mx20 (40, [.ref 30], [.int r4], S3, 0) r
  refine ev_if (c1 := (48, [.ref 30], [], S3, 0)) (c2 := (43, [.ref 30], [], S3, 0)) hf rfl rfl (fun _ hf => ?_) (fun _ hf => ?_)
  · refine ev_sts 3 (c2 := (54, [.ref 30], [.int ((13 : Int32)), .ref 26], S3, 0)) rfl ?_
    refine ev_bI0 (d := d + 3) (M' := Mx1) (ct := (57, [.ref 30], [], S3, 0)) hf rfl rfl rfl rfl (fun r9 h9 => f_X0_at_ok_26 (d := d + 3) h9) (fun r6 S5 hf => ?_)
    show Ev (d + 4) Mx20 (57, [.ref 30], [.int r6], S5, 0) r
    refine ev_sts 1 (c2 := (59, [.ref 30], [.int ((6 : Int32)), .int r6], S5, 0)) rfl ?_
    refine ev_if (c1 := (79, [.ref 30], [], S5, 0)) (c2 := (62, [.ref 30], [], S5, 0)) hf rfl rfl (fun _ hf => ?_) (fun _ hf => ?_)
    · exact f_X1_readLine_b79_ok hf
    · refine ev_sts 3 (c2 := (68, [.ref 30], [.ref 1007, .ref 1], S5, 0)) rfl ?_
      refine ev_bI0 (d := d + 3) (M' := Mx79) (ct := (71, [.ref 30], [], S5, 0)) hf rfl rfl rfl rfl (fun r9 h9 => f_X8_takesWord_ok_1007 (d := d + 2) h9) (fun r24 S23 hf => ?_)
      show Ev (d + 4) Mx20 (71, [.ref 30], [.int r24], S23, 0) r
      refine ev_if (c1 := (79, [.ref 30], [], S23, 0)) (c2 := (74, [.ref 30], [], S23, 0)) hf rfl rfl (fun _ hf => ?_) (fun _ hf => ?_)
      · exact f_X1_readLine_b79_ok hf
      · refine ev_sts 1 (c2 := (75, [.ref 30], [.ref 30], S23, 0)) rfl ?_
        refine ev_bI0 (d := d + 3) (M' := Mx24) (ct := (78, [.ref 30], [], S23, 0)) hf rfl rfl rfl rfl (fun r9 h9 => f_X1_readHolder_ok (d := d + 1) h9) (fun r26 S25 hf => ?_)
        show Ev (d + 4) Mx20 (78, [.ref 30], [.int r26], S25, 0) r
        exact ev_ret hf rfl rfl
  · refine ev_sts 1 (c2 := (44, [.ref 30], [.ref 30], S3, 0)) rfl ?_
    refine ev_bI0 (d := d + 3) (M' := Mx23) (ct := (47, [.ref 30], [], S3, 0)) hf rfl rfl rfl rfl (fun r9 h9 => f_X1_readRope_ok (d := d + 1) h9) (fun r28 S27 hf => ?_)
    show Ev (d + 4) Mx20 (47, [.ref 30], [.int r28], S27, 0) r
    exact ev_ret hf rfl rfl
theorem f_X1_readLine_ok {d F : Nat} {S : mS} {r : mR} (hf : f_X1_readLine F S = some r) : Ev (d + 4) Mx20 (entry Mx20 [.ref 30] S) r := by
  unfold f_X1_readLine at hf
  refine ev_sts 3 (c2 := (6, [.ref 30], [.int ((12 : Int32)), .ref 26], S, 0)) rfl ?_
  refine ev_bI0 (d := d + 3) (M' := Mx1) (ct := (9, [.ref 30], [], S, 0)) hf rfl rfl rfl rfl (fun r9 h9 => f_X0_at_ok_26 (d := d + 3) h9) (fun r2 S1 hf => ?_)
  show Ev (d + 4) Mx20 (9, [.ref 30], [.int r2], S1, 0) r
  refine ev_sts 1 (c2 := (11, [.ref 30], [.int ((10 : Int32)), .int r2], S1, 0)) rfl ?_
  refine ev_if (c1 := (31, [.ref 30], [], S1, 0)) (c2 := (14, [.ref 30], [], S1, 0)) hf rfl rfl (fun _ hf => ?_) (fun _ hf => ?_)
  · exact f_X1_readLine_b31_ok hf
  · refine ev_sts 3 (c2 := (20, [.ref 30], [.ref 1000, .ref 1], S1, 0)) rfl ?_
    refine ev_bI0 (d := d + 3) (M' := Mx79) (ct := (23, [.ref 30], [], S1, 0)) hf rfl rfl rfl rfl (fun r9 h9 => f_X8_takesWord_ok_1000 (d := d + 2) h9) (fun r30 S29 hf => ?_)
    show Ev (d + 4) Mx20 (23, [.ref 30], [.int r30], S29, 0) r
    refine ev_if (c1 := (31, [.ref 30], [], S29, 0)) (c2 := (26, [.ref 30], [], S29, 0)) hf rfl rfl (fun _ hf => ?_) (fun _ hf => ?_)
    · exact f_X1_readLine_b31_ok hf
    · refine ev_sts 1 (c2 := (27, [.ref 30], [.ref 30], S29, 0)) rfl ?_
      refine ev_bI0 (d := d + 3) (M' := Mx21) (ct := (30, [.ref 30], [], S29, 0)) hf rfl rfl rfl rfl (fun r9 h9 => f_X1_readLedge_ok (d := d) h9) (fun r32 S31 hf => ?_)
      show Ev (d + 4) Mx20 (30, [.ref 30], [.int r32], S31, 0) r
      exact ev_ret hf rfl rfl
def f_X2_addLine_b59 (S : mS) : Option mR := some (.inl none, S)
def f_X2_addLine (p1 : Int32) (p2 : Int32) (S : mS) : Option mR := (if (S 10 6) < 0 then f_X2_addLine_b59 S else (if ((12 : Int32)) ≤ (S 10 6) then f_X2_addLine_b59 S else gd (inb (S 10 6) 12) (bnd (upS S 11 (S 10 6).toNatClampNeg p1) (fun S1 => gd (inb (S1 10 6) 12) (bnd (upS S1 12 (S1 10 6).toNatClampNeg p2) (fun S2 => gd (inb (S2 10 6) 12) (bnd (upS S2 13 (S2 10 6).toNatClampNeg (S2 10 7)) (fun S3 => bnd (upS S3 10 6 ((S3 10 6) + ((1 : Int32)))) (fun S4 => f_X2_addLine_b59 S4)))))))))
theorem f_X2_addLine_b59_ok {d : Nat} {S : mS} {r : mR} (hf : f_X2_addLine_b59  S = some r) : Ev (d) Mx29 (59, [mK, mK, mK], [], S, 0) r := by
  unfold f_X2_addLine_b59 at hf
  exact ev_ret hf rfl rfl
theorem f_X2_addLine_ok {d : Nat} {p1 : Int32} {p2 : Int32} {S : mS} {r : mR} (hf : f_X2_addLine p1 p2 S = some r) : Ev (d) Mx29 (entry Mx29 [.ref 10, .int p1, .int p2] S) r := by
  unfold f_X2_addLine at hf
  refine ev_sts 2 (c2 := (4, [.ref 10, .int p1, .int p2], [.int (S 10 6)], S, 0)) rfl ?_
  refine ev_if (c1 := (59, [mK, mK, mK], [], S, 0)) (c2 := (7, [.ref 10, .int p1, .int p2], [], S, 0)) hf rfl rfl (fun _ hf => ?_) (fun _ hf => ?_)
  · exact f_X2_addLine_b59_ok hf
  · refine ev_sts 3 (c2 := (13, [.ref 10, .int p1, .int p2], [.int ((12 : Int32)), .int (S 10 6)], S, 0)) rfl ?_
    refine ev_if (c1 := (59, [mK, mK, mK], [], S, 0)) (c2 := (16, [.ref 10, .int p1, .int p2], [], S, 0)) hf rfl rfl (fun _ hf => ?_) (fun _ hf => ?_)
    · exact f_X2_addLine_b59_ok hf
    · refine ev_sts 5 (c2 := (25, [.ref 10, .int p1, .int p2], [.int p1, .int (S 10 6), .ref 11], S, 0)) rfl ?_
      refine ev_gd (c1 := (26, [.ref 10, .int p1, .int p2], [], (upS S 11 (S 10 6).toNatClampNeg p1), 0)) hf rfl rfl (fun hf => ?_)
      refine ev_let (P := fun S1 => Ev (d) Mx29 (26, [.ref 10, .int p1, .int p2], [], S1, 0) r) (fun S1 hf => ?_) hf
      refine ev_sts 5 (c2 := (35, [.ref 10, .int p1, .int p2], [.int p2, .int (S1 10 6), .ref 12], S1, 0)) rfl ?_
      refine ev_gd (c1 := (36, [.ref 10, .int p1, .int p2], [], (upS S1 12 (S1 10 6).toNatClampNeg p2), 0)) hf rfl rfl (fun hf => ?_)
      refine ev_let (P := fun S2 => Ev (d) Mx29 (36, [.ref 10, .int p1, .int p2], [], S2, 0) r) (fun S2 hf => ?_) hf
      refine ev_sts 6 (c2 := (48, [.ref 10, .int p1, .int p2], [.int (S2 10 7), .int (S2 10 6), .ref 13], S2, 0)) rfl ?_
      refine ev_gd (c1 := (49, [.ref 10, .int p1, .int p2], [], (upS S2 13 (S2 10 6).toNatClampNeg (S2 10 7)), 0)) hf rfl rfl (fun hf => ?_)
      refine ev_let (P := fun S3 => Ev (d) Mx29 (49, [.ref 10, .int p1, .int p2], [], S3, 0) r) (fun S3 hf => ?_) hf
      refine ev_sts 6 (c2 := (59, [mK, mK, mK], [], (upS S3 10 6 ((S3 10 6) + ((1 : Int32)))), 0)) rfl ?_
      refine ev_let (P := fun S4 => Ev (d) Mx29 (59, [mK, mK, mK], [], S4, 0) r) (fun S4 hf => ?_) hf
      exact f_X2_addLine_b59_ok hf
def f_X2_addCode_b37 (S : mS) : Option mR := some (.inl none, S)
def f_X2_addCode (p1 : Int32) (S : mS) : Option mR := (if (S 10 7) < 0 then f_X2_addCode_b37 S else (if ((400 : Int32)) ≤ (S 10 7) then f_X2_addCode_b37 S else gd (inb (S 10 7) 400) (bnd (upS S 14 (S 10 7).toNatClampNeg p1) (fun S1 => bnd (upS S1 10 7 ((S1 10 7) + ((1 : Int32)))) (fun S2 => f_X2_addCode_b37 S2)))))
theorem f_X2_addCode_b37_ok {d : Nat} {S : mS} {r : mR} (hf : f_X2_addCode_b37  S = some r) : Ev (d) Mx30 (37, [mK, mK], [], S, 0) r := by
  unfold f_X2_addCode_b37 at hf
  exact ev_ret hf rfl rfl
theorem f_X2_addCode_ok {d : Nat} {p1 : Int32} {S : mS} {r : mR} (hf : f_X2_addCode p1 S = some r) : Ev (d) Mx30 (entry Mx30 [.ref 10, .int p1] S) r := by
  unfold f_X2_addCode at hf
  refine ev_sts 2 (c2 := (4, [.ref 10, .int p1], [.int (S 10 7)], S, 0)) rfl ?_
  refine ev_if (c1 := (37, [mK, mK], [], S, 0)) (c2 := (7, [.ref 10, .int p1], [], S, 0)) hf rfl rfl (fun _ hf => ?_) (fun _ hf => ?_)
  · exact f_X2_addCode_b37_ok hf
  · refine ev_sts 3 (c2 := (14, [.ref 10, .int p1], [.int ((400 : Int32)), .int (S 10 7)], S, 0)) rfl ?_
    refine ev_if (c1 := (37, [mK, mK], [], S, 0)) (c2 := (17, [.ref 10, .int p1], [], S, 0)) hf rfl rfl (fun _ hf => ?_) (fun _ hf => ?_)
    · exact f_X2_addCode_b37_ok hf
    · refine ev_sts 5 (c2 := (26, [.ref 10, .int p1], [.int p1, .int (S 10 7), .ref 14], S, 0)) rfl ?_
      refine ev_gd (c1 := (27, [.ref 10, .int p1], [], (upS S 14 (S 10 7).toNatClampNeg p1), 0)) hf rfl rfl (fun hf => ?_)
      refine ev_let (P := fun S1 => Ev (d) Mx30 (27, [.ref 10, .int p1], [], S1, 0) r) (fun S1 hf => ?_) hf
      refine ev_sts 6 (c2 := (37, [mK, mK], [], (upS S1 10 7 ((S1 10 7) + ((1 : Int32)))), 0)) rfl ?_
      refine ev_let (P := fun S2 => Ev (d) Mx30 (37, [mK, mK], [], S2, 0) r) (fun S2 hf => ?_) hf
      exact f_X2_addCode_b37_ok hf
def f_X3_nameOf (p0 : Int32) (S : mS) : Option mR := (if p0 = (0 : Int32) then some (.inl (some (.ref 1017)), S) else if p0 = (1 : Int32) then some (.inl (some (.ref 1001)), S) else if p0 = (2 : Int32) then some (.inl (some (.ref 1002)), S) else if p0 = (3 : Int32) then some (.inl (some (.ref 1003)), S) else if p0 = (4 : Int32) then some (.inl (some (.ref 1004)), S) else if p0 = (5 : Int32) then some (.inl (some (.ref 1018)), S) else if p0 = (6 : Int32) then some (.inl (some (.ref 1019)), S) else some (.inl (some (.ref 1020)), S))
theorem f_X3_nameOf_ok {d : Nat} {p0 : Int32} {S : mS} {r : mR} (hf : f_X3_nameOf p0 S = some r) : Ev (d) Mx41 (entry Mx41 [.int p0] S) r := by
  unfold f_X3_nameOf at hf
  refine ev_sts 1 (c2 := (1, [.int p0], [.int p0], S, 0)) rfl ?_
  rcases ite_or hf with ⟨h0, hf⟩ | ⟨h0, hf⟩
  · refine ev_sw (l2 := [.int p0]) (st2 := []) (msw_p h0) rfl rfl ?_
    show Ev (d) Mx41 (44, [.int p0], [], S, 0) r
    refine ev_sts 1 (c2 := (46, [.int p0], [.ref 1017], S, 0)) rfl ?_
    exact ev_ret hf rfl rfl
  rcases ite_or hf with ⟨h1, hf⟩ | ⟨h1, hf⟩
  · refine ev_sw (l2 := [.int p0]) (st2 := []) (msw_n h0 (msw_p h1)) rfl rfl ?_
    show Ev (d) Mx41 (47, [.int p0], [], S, 0) r
    refine ev_sts 1 (c2 := (49, [.int p0], [.ref 1001], S, 0)) rfl ?_
    exact ev_ret hf rfl rfl
  rcases ite_or hf with ⟨h2, hf⟩ | ⟨h2, hf⟩
  · refine ev_sw (l2 := [.int p0]) (st2 := []) (msw_n h0 (msw_n h1 (msw_p h2))) rfl rfl ?_
    show Ev (d) Mx41 (50, [.int p0], [], S, 0) r
    refine ev_sts 1 (c2 := (52, [.int p0], [.ref 1002], S, 0)) rfl ?_
    exact ev_ret hf rfl rfl
  rcases ite_or hf with ⟨h3, hf⟩ | ⟨h3, hf⟩
  · refine ev_sw (l2 := [.int p0]) (st2 := []) (msw_n h0 (msw_n h1 (msw_n h2 (msw_p h3)))) rfl rfl ?_
    show Ev (d) Mx41 (53, [.int p0], [], S, 0) r
    refine ev_sts 1 (c2 := (55, [.int p0], [.ref 1003], S, 0)) rfl ?_
    exact ev_ret hf rfl rfl
  rcases ite_or hf with ⟨h4, hf⟩ | ⟨h4, hf⟩
  · refine ev_sw (l2 := [.int p0]) (st2 := []) (msw_n h0 (msw_n h1 (msw_n h2 (msw_n h3 (msw_p h4))))) rfl rfl ?_
    show Ev (d) Mx41 (56, [.int p0], [], S, 0) r
    refine ev_sts 1 (c2 := (58, [.int p0], [.ref 1004], S, 0)) rfl ?_
    exact ev_ret hf rfl rfl
  rcases ite_or hf with ⟨h5, hf⟩ | ⟨h5, hf⟩
  · refine ev_sw (l2 := [.int p0]) (st2 := []) (msw_n h0 (msw_n h1 (msw_n h2 (msw_n h3 (msw_n h4 (msw_p h5)))))) rfl rfl ?_
    show Ev (d) Mx41 (59, [.int p0], [], S, 0) r
    refine ev_sts 1 (c2 := (61, [.int p0], [.ref 1018], S, 0)) rfl ?_
    exact ev_ret hf rfl rfl
  rcases ite_or hf with ⟨h6, hf⟩ | ⟨h6, hf⟩
  · refine ev_sw (l2 := [.int p0]) (st2 := []) (msw_n h0 (msw_n h1 (msw_n h2 (msw_n h3 (msw_n h4 (msw_n h5 (msw_p h6))))))) rfl rfl ?_
    show Ev (d) Mx41 (62, [.int p0], [], S, 0) r
    refine ev_sts 1 (c2 := (64, [.int p0], [.ref 1019], S, 0)) rfl ?_
    exact ev_ret hf rfl rfl
  refine ev_sw (l2 := [.int p0]) (st2 := []) (msw_n h0 (msw_n h1 (msw_n h2 (msw_n h3 (msw_n h4 (msw_n h5 (msw_n h6 rfl))))))) rfl rfl ?_
  show Ev (d) Mx41 (65, [.int p0], [], S, 0) r
  refine ev_sts 1 (c2 := (67, [.int p0], [.ref 1020], S, 0)) rfl ?_
  exact ev_ret hf rfl rfl
def f_X8_isAtDigit (S : mS) : Option mR := bI0 (f_X8_byteAt (S 1 2) S) (fun r2 S1 => bI0 (f_X8_isDigit r2 S1) (fun r4 S3 => some (.inl (some (.int (r4 &&& 1))), S3)))
theorem f_X8_isAtDigit_ok {d : Nat} {S : mS} {r : mR} (hf : f_X8_isAtDigit S = some r) : Ev (d + 1) Mx81 (entry Mx81 [.ref 1] S) r := by
  unfold f_X8_isAtDigit at hf
  refine ev_sts 3 (c2 := (5, [.ref 1], [.int (S 1 2), .ref 1], S, 0)) rfl ?_
  refine ev_bI0 (d := d) (M' := Mx84) (ct := (8, [.ref 1], [], S, 0)) hf rfl rfl rfl rfl (fun r9 h9 => f_X8_byteAt_ok (d := d) h9) (fun r2 S1 hf => ?_)
  show Ev (d + 1) Mx81 (8, [.ref 1], [.int r2], S1, 0) r
  refine ev_bI0 (d := d) (M' := Mx86) (ct := (11, [.ref 1], [], S1, 0)) hf rfl rfl rfl rfl (fun r9 h9 => f_X8_isDigit_ok (d := d) h9) (fun r4 S3 hf => ?_)
  show Ev (d + 1) Mx81 (11, [.ref 1], [.int r4], S3, 0) r
  exact ev_ret hf rfl rfl
def f_X8_takesSign (F : Nat) (p1 : Int32) (S : mS) : Option mR := bI0 (f_X8_byteAt (S 1 2) S) (fun r2 S1 => (if r2 = p1 then bV0 (f_X8_moveTo F ((S1 1 2) + ((1 : Int32))) S1) (fun S3 => some (.inl (some (.int (((1 : Int32)) &&& 1))), S3)) else some (.inl (some (.int (((0 : Int32)) &&& 1))), S1)))
theorem f_X8_takesSign_ok {d F : Nat} {p1 : Int32} {S : mS} {r : mR} (hf : f_X8_takesSign F p1 S = some r) : Ev (d + 1) Mx80 (entry Mx80 [.ref 1, .int p1] S) r := by
  unfold f_X8_takesSign at hf
  refine ev_sts 3 (c2 := (5, [.ref 1, .int p1], [.int (S 1 2), .ref 1], S, 0)) rfl ?_
  refine ev_bI0 (d := d) (M' := Mx84) (ct := (8, [.ref 1, .int p1], [], S, 0)) hf rfl rfl rfl rfl (fun r9 h9 => f_X8_byteAt_ok (d := d) h9) (fun r2 S1 hf => ?_)
  show Ev (d + 1) Mx80 (8, [.ref 1, .int p1], [.int r2], S1, 0) r
  refine ev_sts 1 (c2 := (9, [.ref 1, .int p1], [.int p1, .int r2], S1, 0)) rfl ?_
  refine ev_if (c1 := (14, [.ref 1, .int p1], [], S1, 0)) (c2 := (12, [.ref 1, .int p1], [], S1, 0)) hf rfl rfl (fun _ hf => ?_) (fun _ hf => ?_)
  · refine ev_sts 5 (c2 := (21, [.ref 1, .int p1], [.int ((S1 1 2) + ((1 : Int32))), .ref 1], S1, 0)) rfl ?_
    refine ev_bV0 (d := d) (M' := Mx83) (ct := (24, [.ref 1, .int p1], [], S1, 0)) hf rfl rfl rfl rfl (fun r9 h9 => f_X8_moveTo_ok (d := d) h9) (fun S3 hf => ?_)
    show Ev (d + 1) Mx80 (24, [.ref 1, .int p1], [], S3, 0) r
    refine ev_sts 1 (c2 := (25, [.ref 1, .int p1], [.int ((1 : Int32))], S3, 0)) rfl ?_
    exact ev_ret hf rfl rfl
  · refine ev_sts 1 (c2 := (13, [.ref 1, .int p1], [.int ((0 : Int32))], S1, 0)) rfl ?_
    exact ev_ret hf rfl rfl
def f_X3_takeKind_b45 (F : Nat) (t0 : Int32) (S : mS) : Option mR := some (.inl (some (.int t0)), S)
def f_X3_takeKind (F : Nat) (S : mS) : Option mR := bI0 (f_X8_takesWord F 11 S) (fun r2 S1 => (if r2 = 0 then bI0 (f_X8_takesWord F 12 S1) (fun r4 S3 => (if r4 = 0 then bI0 (f_X8_takesWord F 13 S3) (fun r6 S5 => (if r6 = 0 then f_X3_takeKind_b45 F ((-1 : Int32)) S5 else f_X3_takeKind_b45 F ((2 : Int32)) S5)) else some (.inl (some (.int ((1 : Int32)))), S3))) else some (.inl (some (.int ((0 : Int32)))), S1)))
theorem f_X3_takeKind_b45_ok {d F : Nat} {t0 : Int32} {S : mS} {r : mR} (hf : f_X3_takeKind_b45 F t0 S = some r) : Ev (d + 2) Mx37 (45, [mK], [.int t0], S, 0) r := by
  unfold f_X3_takeKind_b45 at hf
  exact ev_ret hf rfl rfl
theorem f_X3_takeKind_ok {d F : Nat} {S : mS} {r : mR} (hf : f_X3_takeKind F S = some r) : Ev (d + 2) Mx37 (entry Mx37 [.ref 31] S) r := by
  unfold f_X3_takeKind at hf
  refine ev_sts 3 (c2 := (6, [.ref 31], [.ref 1011, .ref 1], S, 0)) rfl ?_
  refine ev_bI0 (d := d + 1) (M' := Mx79) (ct := (9, [.ref 31], [], S, 0)) hf rfl rfl rfl rfl (fun r9 h9 => f_X8_takesWord_ok_1011 (d := d) h9) (fun r2 S1 hf => ?_)
  show Ev (d + 2) Mx37 (9, [.ref 31], [.int r2], S1, 0) r
  refine ev_if (c1 := (14, [.ref 31], [], S1, 0)) (c2 := (12, [.ref 31], [], S1, 0)) hf rfl rfl (fun _ hf => ?_) (fun _ hf => ?_)
  · refine ev_sts 3 (c2 := (20, [.ref 31], [.ref 1012, .ref 1], S1, 0)) rfl ?_
    refine ev_bI0 (d := d + 1) (M' := Mx79) (ct := (23, [.ref 31], [], S1, 0)) hf rfl rfl rfl rfl (fun r9 h9 => f_X8_takesWord_ok_1012 (d := d) h9) (fun r4 S3 hf => ?_)
    show Ev (d + 2) Mx37 (23, [.ref 31], [.int r4], S3, 0) r
    refine ev_if (c1 := (28, [.ref 31], [], S3, 0)) (c2 := (26, [.ref 31], [], S3, 0)) hf rfl rfl (fun _ hf => ?_) (fun _ hf => ?_)
    · refine ev_sts 3 (c2 := (34, [.ref 31], [.ref 1013, .ref 1], S3, 0)) rfl ?_
      refine ev_bI0 (d := d + 1) (M' := Mx79) (ct := (37, [.ref 31], [], S3, 0)) hf rfl rfl rfl rfl (fun r9 h9 => f_X8_takesWord_ok_1013 (d := d) h9) (fun r6 S5 hf => ?_)
      show Ev (d + 2) Mx37 (37, [.ref 31], [.int r6], S5, 0) r
      refine ev_if (c1 := (44, [.ref 31], [], S5, 0)) (c2 := (40, [.ref 31], [], S5, 0)) hf rfl rfl (fun _ hf => ?_) (fun _ hf => ?_)
      · exact ev_sts 1 (c2 := (45, [mK], [.int ((-1 : Int32))], S5, 0)) rfl (f_X3_takeKind_b45_ok hf)
      · exact ev_sts 2 (c2 := (45, [mK], [.int ((2 : Int32))], S5, 0)) rfl (f_X3_takeKind_b45_ok hf)
    · refine ev_sts 1 (c2 := (27, [.ref 31], [.int ((1 : Int32))], S3, 0)) rfl ?_
      exact ev_ret hf rfl rfl
  · refine ev_sts 1 (c2 := (13, [.ref 31], [.int ((0 : Int32))], S1, 0)) rfl ?_
    exact ev_ret hf rfl rfl
def f_X8_begin (F : Nat) (S : mS) : Option mR := bnd (upS S 1 3 ((-1 : Int32))) (fun S1 => bV0 (f_X8_moveTo F ((0 : Int32)) S1) (fun S2 => some (.inl none, S2)))
theorem f_X8_begin_ok {d F : Nat} {S : mS} {r : mR} (hf : f_X8_begin F S = some r) : Ev (d + 1) Mx75 (entry Mx75 [.ref 1] S) r := by
  unfold f_X8_begin at hf
  refine ev_sts 3 (c2 := (5, [.ref 1], [], (upS S 1 3 ((-1 : Int32))), 0)) rfl ?_
  refine ev_let (P := fun S1 => Ev (d + 1) Mx75 (5, [.ref 1], [], S1, 0) r) (fun S1 hf => ?_) hf
  refine ev_sts 2 (c2 := (7, [.ref 1], [.int ((0 : Int32)), .ref 1], S1, 0)) rfl ?_
  refine ev_bV0 (d := d) (M' := Mx83) (ct := (10, [.ref 1], [], S1, 0)) hf rfl rfl rfl rfl (fun r9 h9 => f_X8_moveTo_ok (d := d) h9) (fun S2 hf => ?_)
  show Ev (d + 1) Mx75 (10, [.ref 1], [], S2, 0) r
  exact ev_ret hf rfl rfl
def f_X8_isAtEnd_b16 (t0 : Int32) (S : mS) : Option mR := some (.inl (some (.int (t0 &&& 1))), S)
def f_X8_isAtEnd (S : mS) : Option mR := (if (S 1 2) < (S 1 1) then f_X8_isAtEnd_b16 ((0 : Int32)) S else f_X8_isAtEnd_b16 ((1 : Int32)) S)
theorem f_X8_isAtEnd_b16_ok {d : Nat} {t0 : Int32} {S : mS} {r : mR} (hf : f_X8_isAtEnd_b16 t0 S = some r) : Ev (d) Mx76 (16, [mK], [.int t0], S, 0) r := by
  unfold f_X8_isAtEnd_b16 at hf
  exact ev_ret hf rfl rfl
theorem f_X8_isAtEnd_ok {d : Nat} {S : mS} {r : mR} (hf : f_X8_isAtEnd S = some r) : Ev (d) Mx76 (entry Mx76 [.ref 1] S) r := by
  unfold f_X8_isAtEnd at hf
  refine ev_sts 4 (c2 := (8, [.ref 1], [.int (S 1 1), .int (S 1 2)], S, 0)) rfl ?_
  refine ev_if (c1 := (15, [.ref 1], [], S, 0)) (c2 := (11, [.ref 1], [], S, 0)) hf rfl rfl (fun _ hf => ?_) (fun _ hf => ?_)
  · exact ev_sts 1 (c2 := (16, [mK], [.int ((0 : Int32))], S, 0)) rfl (f_X8_isAtEnd_b16_ok hf)
  · exact ev_sts 2 (c2 := (16, [mK], [.int ((1 : Int32))], S, 0)) rfl (f_X8_isAtEnd_b16_ok hf)
def f_X9_jerks_b18 (F : Nat) : Nat → Int32 → Int32 → Int32 → Int32 → mS → Option mR
  | 0, _, _, _, _, _ => none
  | n + 1, x1, x2, x3, x4, S => (if x1 < x4 then some (.inl (some (.int x3)), S) else bnd (x4 + ((((2 : Int32)) * x2) + ((1 : Int32))) : Int32) (fun y3 => f_X9_jerks_b18 F n x1 x2 (x3 + (1 : Int32)) y3 S))
def f_X9_jerks (F : Nat) (p1 : Int32) (p2 : Int32) (S : mS) : Option mR := bV (f_X9_needWithin p1 ((1 : Int32)) ((12 : Int32)) S) (fun S1 => bV (f_X9_needWithin p2 ((0 : Int32)) ((5 : Int32)) S1) (fun S2 => f_X9_jerks_b18 F F p1 p2 ((0 : Int32)) ((1 : Int32)) S2))
theorem f_X9_jerks_b18_ok {d F : Nat} : ∀ (n : Nat) {x1 : Int32} {x2 : Int32} {x3 : Int32} {x4 : Int32} {S : mS} {r : mR}, f_X9_jerks_b18 F n x1 x2 x3 x4 S = some r → Ev (d + 1) Mx123 (18, [mK, .int x1, .int x2, .int x3, .int x4], [], S, 2) r := by
  intro n
  induction n with
  | zero => intro x1 x2 x3 x4 S r hf; cases hf
  | succ n ih =>
    intro x1 x2 x3 x4 S r hf
    rw [f_X9_jerks_b18] at hf
    refine ev_sts 2 (c2 := (21, [mK, .int x1, .int x2, .int x3, .int x4], [.int x1, .int x4], S, 2)) rfl ?_
    refine ev_if (c1 := (40, [mK, .int x1, .int x2, .int x3, .int x4], [], S, 2)) (c2 := (24, [mK, .int x1, .int x2, .int x3, .int x4], [], S, 2)) hf rfl rfl (fun _ hf => ?_) (fun _ hf => ?_)
    · refine ev_sts 1 (c2 := (41, [mK, .int x1, .int x2, .int x3, .int x4], [.int x3], S, 2)) rfl ?_
      exact ev_ret hf rfl rfl
    · refine ev_sts 9 (c2 := (37, [mK, .int x1, .int x2, .int (x3 + (1 : Int32)), .int (x4 + ((((2 : Int32)) * x2) + ((1 : Int32))))], [], S, 2)) rfl ?_
      refine ev_let (P := fun y3 => Ev (d + 1) Mx123 (37, [mK, .int x1, .int x2, .int (x3 + (1 : Int32)), .int y3], [], S, 2) r) (fun y3 hf => ?_) hf
      exact ev_sts 1 (c2 := (18, [mK, .int x1, .int x2, .int (x3 + (1 : Int32)), .int y3], [], S, 2)) rfl (ih hf)
theorem f_X9_jerks_ok {d F : Nat} {p1 : Int32} {p2 : Int32} {S : mS} {r : mR} (hf : f_X9_jerks F p1 p2 S = some r) : Ev (d + 1) Mx123 (entry Mx123 [.ref 0, .int p1, .int p2] S) r := by
  unfold f_X9_jerks at hf
  refine ev_sts 3 (c2 := (4, [.ref 0, .int p1, .int p2, mK, mK], [.int ((12 : Int32)), .int ((1 : Int32)), .int p1], S, 0)) rfl ?_
  refine ev_bV (d := d) (M' := Mx142) (ct := (7, [.ref 0, .int p1, .int p2, mK, mK], [], S, 1)) hf rfl rfl rfl rfl (by decide) (fun r9 h9 => f_X9_needWithin_ok (d := d) h9) (fun S1 hf => ?_)
  show Ev (d + 1) Mx123 (7, [.ref 0, .int p1, .int p2, mK, mK], [], S1, 1) r
  refine ev_sts 3 (c2 := (10, [.ref 0, .int p1, .int p2, mK, mK], [.int ((5 : Int32)), .int ((0 : Int32)), .int p2], S1, 1)) rfl ?_
  refine ev_bV (d := d) (M' := Mx142) (ct := (13, [.ref 0, .int p1, .int p2, mK, mK], [], S1, 2)) hf rfl rfl rfl rfl (by decide) (fun r9 h9 => f_X9_needWithin_ok (d := d) h9) (fun S2 hf => ?_)
  show Ev (d + 1) Mx123 (13, [.ref 0, .int p1, .int p2, mK, mK], [], S2, 2) r
  exact ev_sts 4 (c2 := (18, [mK, .int p1, .int p2, .int ((0 : Int32)), .int ((1 : Int32))], [], S2, 2)) rfl (f_X9_jerks_b18_ok _ hf)
def f_X9_kicks (F : Nat) (p1 : Int32) (p2 : Int32) (S : mS) : Option mR := bV (f_X9_needLedge p1 S) (fun S1 => bV (f_X9_needWithin p2 ((0 : Int32)) ((9 : Int32)) S1) (fun S2 => bI0 (f_X7_kicksTo F 24 p1 p2 S2) (fun r4 S3 => some (.inl (some (.int r4)), S3))))
theorem f_X9_kicks_ok {d F : Nat} {p1 : Int32} {p2 : Int32} {S : mS} {r : mR} (hf : f_X9_kicks F p1 p2 S = some r) : Ev (d + 5) Mx95 (entry Mx95 [.ref 0, .int p1, .int p2] S) r := by
  unfold f_X9_kicks at hf
  refine ev_sts 2 (c2 := (2, [.ref 0, .int p1, .int p2], [.int p1, .ref 0], S, 0)) rfl ?_
  refine ev_bV (d := d + 4) (M' := Mx139) (ct := (5, [.ref 0, .int p1, .int p2], [], S, 1)) hf rfl rfl rfl rfl (by decide) (fun r9 h9 => f_X9_needLedge_ok (d := d + 3) h9) (fun S1 hf => ?_)
  show Ev (d + 5) Mx95 (5, [.ref 0, .int p1, .int p2], [], S1, 1) r
  refine ev_sts 3 (c2 := (9, [.ref 0, .int p1, .int p2], [.int ((9 : Int32)), .int ((0 : Int32)), .int p2], S1, 1)) rfl ?_
  refine ev_bV (d := d + 4) (M' := Mx142) (ct := (12, [.ref 0, .int p1, .int p2], [], S1, 2)) hf rfl rfl rfl rfl (by decide) (fun r9 h9 => f_X9_needWithin_ok (d := d + 4) h9) (fun S2 hf => ?_)
  show Ev (d + 5) Mx95 (12, [.ref 0, .int p1, .int p2], [], S2, 2) r
  refine ev_sts 6 (c2 := (22, [.ref 0, .int p1, .int p2], [.int p2, .int p1, .ref 24, .ref 32], S2, 2)) rfl ?_
  refine ev_bI0 (d := d + 4) (M' := Mx60) (ct := (25, [.ref 0, .int p1, .int p2], [], S2, 2)) hf rfl rfl rfl rfl (fun r9 h9 => f_X7_kicksTo_ok_24 (d := d) h9) (fun r4 S3 hf => ?_)
  show Ev (d + 5) Mx95 (25, [.ref 0, .int p1, .int p2], [.int r4], S3, 2) r
  exact ev_ret hf rfl rfl
def f_X7_wearAt (F : Nat) (u1 : Nat) (p2 : Int32) (p3 : Int32) (S : mS) : Option mR := bI0 (f_X2_sum F u1 ((1 : Int32)) p2 ((0 : Int32)) p3 S) (fun r2 S1 => some (.inl (some (.int r2)), S1))
theorem f_X7_wearAt_ok_26 {d F : Nat} {p2 : Int32} {p3 : Int32} {S : mS} {r : mR} (hf : f_X7_wearAt F 26 p2 p3 S = some r) : Ev (d + 3) Mx58 (entry Mx58 [.ref 32, .ref 26, .int p2, .int p3] S) r := by
  unfold f_X7_wearAt at hf
  refine ev_sts 7 (c2 := (9, [.ref 32, .ref 26, .int p2, .int p3], [.int p3, .int ((0 : Int32)), .int p2, .ref 26, .int ((1 : Int32)), .ref 3], S, 0)) rfl ?_
  refine ev_bI0 (d := d + 2) (M' := Mx32) (ct := (12, [.ref 32, .ref 26, .int p2, .int p3], [], S, 0)) hf rfl rfl rfl rfl (fun r9 h9 => f_X2_sum_ok_26 (d := d) h9) (fun r2 S1 hf => ?_)
  show Ev (d + 3) Mx58 (12, [.ref 32, .ref 26, .int p2, .int p3], [.int r2], S1, 0) r
  exact ev_ret hf rfl rfl
theorem f_X7_wearAt_ok_24 {d F : Nat} {p2 : Int32} {p3 : Int32} {S : mS} {r : mR} (hf : f_X7_wearAt F 24 p2 p3 S = some r) : Ev (d + 3) Mx58 (entry Mx58 [.ref 32, .ref 24, .int p2, .int p3] S) r := by
  unfold f_X7_wearAt at hf
  refine ev_sts 7 (c2 := (9, [.ref 32, .ref 24, .int p2, .int p3], [.int p3, .int ((0 : Int32)), .int p2, .ref 24, .int ((1 : Int32)), .ref 3], S, 0)) rfl ?_
  refine ev_bI0 (d := d + 2) (M' := Mx32) (ct := (12, [.ref 32, .ref 24, .int p2, .int p3], [], S, 0)) hf rfl rfl rfl rfl (fun r9 h9 => f_X2_sum_ok_24 (d := d) h9) (fun r2 S1 hf => ?_)
  show Ev (d + 3) Mx58 (12, [.ref 32, .ref 24, .int p2, .int p3], [.int r2], S1, 0) r
  exact ev_ret hf rfl rfl
def f_X9_lasts_b96 (F : Nat) (x6 : Int32) (S : mS) : Option mR := some (.inl (some (.int x6)), S)
def f_X9_lasts_b63 (F : Nat) : Nat → Int32 → Int32 → Int32 → mS → Option mR
  | 0, _, _, _, _ => none
  | n + 1, x4, x5, x6, S => (if ((99 : Int32)) ≤ x6 then f_X9_lasts_b96 F x6 S else bI0 (f_X0_at 24 ((2 : Int32)) S) (fun r11 S10 => (if r11 ≤ x5 then f_X9_lasts_b96 F x6 S10 else bnd (x5 + x4 : Int32) (fun y12 => f_X9_lasts_b63 F n x4 y12 (x6 + (1 : Int32)) S10))))
def f_X9_lasts (F : Nat) (p1 : Int32) (p2 : Int32) (S : mS) : Option mR := bV (f_X9_needLedge p1 S) (fun S1 => bV (f_X9_needWithin p2 ((0 : Int32)) ((9 : Int32)) S1) (fun S2 => bI0 (f_X7_kicksTo F 24 p1 p2 S2) (fun r4 S3 => (if ¬ r4 = ((-1 : Int32)) then bI0 (f_X7_wearAt F 24 p1 p2 S3) (fun r6 S5 => bnd (r4 + r6 : Int32) (fun y7 => bI0 (f_X0_at 24 ((1 : Int32)) S5) (fun r9 S8 => f_X9_lasts_b63 F F y7 r9 ((0 : Int32)) S8))) else some (.inl (some (.int ((-1 : Int32)))), S3)))))
theorem f_X9_lasts_b96_ok {d F : Nat} {x6 : Int32} {S : mS} {r : mR} (hf : f_X9_lasts_b96 F x6 S = some r) : Ev (d + 5) Mx113 (96, [mK, mK, mK, mK, mK, mK, .int x6], [], S, 2) r := by
  unfold f_X9_lasts_b96 at hf
  refine ev_sts 1 (c2 := (98, [mK, mK, mK, mK, mK, mK, .int x6], [.int x6], S, 2)) rfl ?_
  exact ev_ret hf rfl rfl
theorem f_X9_lasts_b63_ok {d F : Nat} : ∀ (n : Nat) {x4 : Int32} {x5 : Int32} {x6 : Int32} {S : mS} {r : mR}, f_X9_lasts_b63 F n x4 x5 x6 S = some r → Ev (d + 5) Mx113 (63, [.ref 0, mK, mK, mK, .int x4, .int x5, .int x6], [], S, 2) r := by
  intro n
  induction n with
  | zero => intro x4 x5 x6 S r hf; cases hf
  | succ n ih =>
    intro x4 x5 x6 S r hf
    rw [f_X9_lasts_b63] at hf
    refine ev_sts 2 (c2 := (67, [.ref 0, mK, mK, mK, .int x4, .int x5, .int x6], [.int ((99 : Int32)), .int x6], S, 2)) rfl ?_
    refine ev_if (c1 := (96, [mK, mK, mK, mK, mK, mK, .int x6], [], S, 2)) (c2 := (70, [.ref 0, mK, mK, mK, .int x4, .int x5, .int x6], [], S, 2)) hf rfl rfl (fun _ hf => ?_) (fun _ hf => ?_)
    · exact f_X9_lasts_b96_ok hf
    · refine ev_sts 4 (c2 := (77, [.ref 0, mK, mK, mK, .int x4, .int x5, .int x6], [.int ((2 : Int32)), .ref 24, .int x5], S, 2)) rfl ?_
      refine ev_bI0 (d := d + 4) (M' := Mx1) (ct := (80, [.ref 0, mK, mK, mK, .int x4, .int x5, .int x6], [.int x5], S, 2)) hf rfl rfl rfl rfl (fun r9 h9 => f_X0_at_ok_24 (d := d + 4) h9) (fun r11 S10 hf => ?_)
      show Ev (d + 5) Mx113 (80, [.ref 0, mK, mK, mK, .int x4, .int x5, .int x6], [.int r11, .int x5], S10, 2) r
      refine ev_if (c1 := (96, [mK, mK, mK, mK, mK, mK, .int x6], [], S10, 2)) (c2 := (83, [.ref 0, mK, mK, mK, .int x4, .int x5, .int x6], [], S10, 2)) hf rfl rfl (fun _ hf => ?_) (fun _ hf => ?_)
      · exact f_X9_lasts_b96_ok hf
      · refine ev_sts 4 (c2 := (90, [.ref 0, mK, mK, mK, .int x4, .int (x5 + x4), .int x6], [], S10, 2)) rfl ?_
        refine ev_let (P := fun y12 => Ev (d + 5) Mx113 (90, [.ref 0, mK, mK, mK, .int x4, .int y12, .int x6], [], S10, 2) r) (fun y12 hf => ?_) hf
        exact ev_sts 2 (c2 := (63, [.ref 0, mK, mK, mK, .int x4, .int y12, .int (x6 + (1 : Int32))], [], S10, 2)) rfl (ih hf)
theorem f_X9_lasts_ok {d F : Nat} {p1 : Int32} {p2 : Int32} {S : mS} {r : mR} (hf : f_X9_lasts F p1 p2 S = some r) : Ev (d + 5) Mx113 (entry Mx113 [.ref 0, .int p1, .int p2] S) r := by
  unfold f_X9_lasts at hf
  refine ev_sts 2 (c2 := (2, [.ref 0, .int p1, .int p2, mK, mK, mK, mK], [.int p1, .ref 0], S, 0)) rfl ?_
  refine ev_bV (d := d + 4) (M' := Mx139) (ct := (5, [.ref 0, .int p1, .int p2, mK, mK, mK, mK], [], S, 1)) hf rfl rfl rfl rfl (by decide) (fun r9 h9 => f_X9_needLedge_ok (d := d + 3) h9) (fun S1 hf => ?_)
  show Ev (d + 5) Mx113 (5, [.ref 0, .int p1, .int p2, mK, mK, mK, mK], [], S1, 1) r
  refine ev_sts 3 (c2 := (9, [.ref 0, .int p1, .int p2, mK, mK, mK, mK], [.int ((9 : Int32)), .int ((0 : Int32)), .int p2], S1, 1)) rfl ?_
  refine ev_bV (d := d + 4) (M' := Mx142) (ct := (12, [.ref 0, .int p1, .int p2, mK, mK, mK, mK], [], S1, 2)) hf rfl rfl rfl rfl (by decide) (fun r9 h9 => f_X9_needWithin_ok (d := d + 4) h9) (fun S2 hf => ?_)
  show Ev (d + 5) Mx113 (12, [.ref 0, .int p1, .int p2, mK, mK, mK, mK], [], S2, 2) r
  refine ev_sts 6 (c2 := (22, [.ref 0, .int p1, .int p2, mK, mK, mK, mK], [.int p2, .int p1, .ref 24, .ref 32], S2, 2)) rfl ?_
  refine ev_bI0 (d := d + 4) (M' := Mx60) (ct := (25, [.ref 0, .int p1, .int p2, mK, mK, mK, mK], [], S2, 2)) hf rfl rfl rfl rfl (fun r9 h9 => f_X7_kicksTo_ok_24 (d := d) h9) (fun r4 S3 hf => ?_)
  show Ev (d + 5) Mx113 (25, [.ref 0, .int p1, .int p2, mK, mK, mK, mK], [.int r4], S3, 2) r
  refine ev_sts 3 (c2 := (28, [.ref 0, .int p1, .int p2, .int r4, mK, mK, mK], [.int ((-1 : Int32)), .int r4], S3, 2)) rfl ?_
  refine ev_if (c1 := (33, [.ref 0, .int p1, .int p2, .int r4, mK, mK, mK], [], S3, 2)) (c2 := (31, [.ref 0, .int p1, .int p2, .int r4, mK, mK, mK], [], S3, 2)) hf rfl rfl (fun _ hf => ?_) (fun _ hf => ?_)
  · refine ev_sts 7 (c2 := (44, [.ref 0, .int p1, .int p2, .int r4, mK, mK, mK], [.int p2, .int p1, .ref 24, .ref 32, .int r4], S3, 2)) rfl ?_
    refine ev_bI0 (d := d + 4) (M' := Mx58) (ct := (47, [.ref 0, .int p1, .int p2, .int r4, mK, mK, mK], [.int r4], S3, 2)) hf rfl rfl rfl rfl (fun r9 h9 => f_X7_wearAt_ok_24 (d := d + 1) h9) (fun r6 S5 hf => ?_)
    show Ev (d + 5) Mx113 (47, [.ref 0, .int p1, .int p2, .int r4, mK, mK, mK], [.int r6, .int r4], S5, 2) r
    refine ev_sts 2 (c2 := (50, [.ref 0, .int p1, .int p2, .int r4, .int (r4 + r6), mK, mK], [], S5, 2)) rfl ?_
    refine ev_let (P := fun y7 => Ev (d + 5) Mx113 (50, [.ref 0, .int p1, .int p2, .int r4, .int y7, mK, mK], [], S5, 2) r) (fun y7 hf => ?_) hf
    refine ev_sts 3 (c2 := (55, [.ref 0, .int p1, .int p2, .int r4, .int y7, mK, mK], [.int ((1 : Int32)), .ref 24], S5, 2)) rfl ?_
    refine ev_bI0 (d := d + 4) (M' := Mx1) (ct := (58, [.ref 0, .int p1, .int p2, .int r4, .int y7, mK, mK], [], S5, 2)) hf rfl rfl rfl rfl (fun r9 h9 => f_X0_at_ok_24 (d := d + 4) h9) (fun r9 S8 hf => ?_)
    show Ev (d + 5) Mx113 (58, [.ref 0, .int p1, .int p2, .int r4, .int y7, mK, mK], [.int r9], S8, 2) r
    exact ev_sts 3 (c2 := (63, [.ref 0, mK, mK, mK, .int y7, .int r9, .int ((0 : Int32))], [], S8, 2)) rfl (f_X9_lasts_b63_ok _ hf)
  · refine ev_sts 1 (c2 := (32, [.ref 0, .int p1, .int p2, .int r4, mK, mK, mK], [.int ((-1 : Int32))], S3, 2)) rfl ?_
    exact ev_ret hf rfl rfl
def f_X9_late_b49 (K18 : Int32 → Int32 → mS → Option mR) (F : Nat) (x1 : Int32) (x2 : Int32) (S : mS) : Option mR := bV0 (f_X7_stillDayOf F x1 S) (fun S5 => K18 x1 (x2 + (1 : Int32)) S5)
def f_X9_late_b18 (F : Nat) : Nat → Int32 → Int32 → mS → Option mR
  | 0, _, _, _ => none
  | n + 1, x1, x2, S => (if ((40 : Int32)) < x2 then some (.inl (some (.int ((-1 : Int32)))), S) else bI0 (f_X0_ofLedge 26 x1 ((2 : Int32)) S) (fun r4 S3 => (if r4 ≤ 0 then f_X9_late_b49 (fun x1 x2 S => f_X9_late_b18 F n x1 x2 S) F x1 x2 S3 else bI0 (f_X0_isFresh 26 x1 S3) (fun r7 S6 => (if ¬ r7 = 0 then f_X9_late_b49 (fun x1 x2 S => f_X9_late_b18 F n x1 x2 S) F x1 x2 S6 else some (.inl (some (.int x2)), S6))))))
def f_X9_late (F : Nat) (p1 : Int32) (S : mS) : Option mR := bV (f_X9_needLedge p1 S) (fun S1 => bV0 (f_X0_copy 26 24 S1) (fun S2 => f_X9_late_b18 F F p1 ((0 : Int32)) S2))
theorem f_X9_late_b49_ok {d F : Nat} {K18 : Int32 → Int32 → mS → Option mR} (hK18 : ∀ {x1 : Int32} {x2 : Int32} {S : mS} {r : mR}, K18 x1 x2 S = some r → Ev (d + 6) Mx107 (18, [.ref 0, .int x1, .int x2], [], S, 1) r) {x1 : Int32} {x2 : Int32} {S : mS} {r : mR} (hf : f_X9_late_b49 K18 F x1 x2 S = some r) : Ev (d + 6) Mx107 (49, [.ref 0, .int x1, .int x2], [], S, 1) r := by
  unfold f_X9_late_b49 at hf
  refine ev_sts 5 (c2 := (58, [.ref 0, .int x1, .int x2], [.int x1, .ref 26, .ref 32], S, 1)) rfl ?_
  refine ev_bV0 (d := d + 5) (M' := Mx68) (ct := (61, [.ref 0, .int x1, .int x2], [], S, 1)) hf rfl rfl rfl rfl (fun r9 h9 => f_X7_stillDayOf_ok (d := d) h9) (fun S5 hf => ?_)
  show Ev (d + 6) Mx107 (61, [.ref 0, .int x1, .int x2], [], S5, 1) r
  exact ev_sts 2 (c2 := (18, [.ref 0, .int x1, .int (x2 + (1 : Int32))], [], S5, 1)) rfl (hK18 hf)
theorem f_X9_late_b18_ok {d F : Nat} : ∀ (n : Nat) {x1 : Int32} {x2 : Int32} {S : mS} {r : mR}, f_X9_late_b18 F n x1 x2 S = some r → Ev (d + 6) Mx107 (18, [.ref 0, .int x1, .int x2], [], S, 1) r := by
  intro n
  induction n with
  | zero => intro x1 x2 S r hf; cases hf
  | succ n ih =>
    intro x1 x2 S r hf
    rw [f_X9_late_b18] at hf
    refine ev_sts 2 (c2 := (21, [.ref 0, .int x1, .int x2], [.int ((40 : Int32)), .int x2], S, 1)) rfl ?_
    refine ev_if (c1 := (67, [.ref 0, .int x1, .int x2], [], S, 1)) (c2 := (24, [.ref 0, .int x1, .int x2], [], S, 1)) hf rfl rfl (fun _ hf => ?_) (fun _ hf => ?_)
    · refine ev_sts 1 (c2 := (68, [.ref 0, .int x1, .int x2], [.int ((-1 : Int32))], S, 1)) rfl ?_
      exact ev_ret hf rfl rfl
    · refine ev_sts 4 (c2 := (30, [.ref 0, .int x1, .int x2], [.int ((2 : Int32)), .int x1, .ref 26], S, 1)) rfl ?_
      refine ev_bI0 (d := d + 5) (M' := Mx4) (ct := (33, [.ref 0, .int x1, .int x2], [], S, 1)) hf rfl rfl rfl rfl (fun r9 h9 => f_X0_ofLedge_ok_26 (d := d + 4) h9) (fun r4 S3 hf => ?_)
      show Ev (d + 6) Mx107 (33, [.ref 0, .int x1, .int x2], [.int r4], S3, 1) r
      refine ev_if (c1 := (49, [.ref 0, .int x1, .int x2], [], S3, 1)) (c2 := (36, [.ref 0, .int x1, .int x2], [], S3, 1)) hf rfl rfl (fun _ hf => ?_) (fun _ hf => ?_)
      · exact f_X9_late_b49_ok (fun h9 => ih h9) hf
      · refine ev_sts 3 (c2 := (41, [.ref 0, .int x1, .int x2], [.int x1, .ref 26], S3, 1)) rfl ?_
        refine ev_bI0 (d := d + 5) (M' := Mx16) (ct := (44, [.ref 0, .int x1, .int x2], [], S3, 1)) hf rfl rfl rfl rfl (fun r9 h9 => f_X0_isFresh_ok_26 (d := d + 2) h9) (fun r7 S6 hf => ?_)
        show Ev (d + 6) Mx107 (44, [.ref 0, .int x1, .int x2], [.int r7], S6, 1) r
        refine ev_if (c1 := (49, [.ref 0, .int x1, .int x2], [], S6, 1)) (c2 := (47, [.ref 0, .int x1, .int x2], [], S6, 1)) hf rfl rfl (fun _ hf => ?_) (fun _ hf => ?_)
        · exact f_X9_late_b49_ok (fun h9 => ih h9) hf
        · refine ev_sts 1 (c2 := (48, [.ref 0, .int x1, .int x2], [.int x2], S6, 1)) rfl ?_
          exact ev_ret hf rfl rfl
theorem f_X9_late_ok {d F : Nat} {p1 : Int32} {S : mS} {r : mR} (hf : f_X9_late F p1 S = some r) : Ev (d + 6) Mx107 (entry Mx107 [.ref 0, .int p1] S) r := by
  unfold f_X9_late at hf
  refine ev_sts 2 (c2 := (2, [.ref 0, .int p1, mK], [.int p1, .ref 0], S, 0)) rfl ?_
  refine ev_bV (d := d + 5) (M' := Mx139) (ct := (5, [.ref 0, .int p1, mK], [], S, 1)) hf rfl rfl rfl rfl (by decide) (fun r9 h9 => f_X9_needLedge_ok (d := d + 4) h9) (fun S1 hf => ?_)
  show Ev (d + 6) Mx107 (5, [.ref 0, .int p1, mK], [], S1, 1) r
  refine ev_sts 4 (c2 := (13, [.ref 0, .int p1, mK], [.ref 24, .ref 26], S1, 1)) rfl ?_
  refine ev_bV0 (d := d + 5) (M' := Mx0) (ct := (16, [.ref 0, .int p1, mK], [], S1, 1)) hf rfl rfl rfl rfl (fun r9 h9 => f_X0_copy_ok_26_24 (d := d + 5) h9) (fun S2 hf => ?_)
  show Ev (d + 6) Mx107 (16, [.ref 0, .int p1, mK], [], S2, 1) r
  exact ev_sts 2 (c2 := (18, [.ref 0, .int p1, .int ((0 : Int32))], [], S2, 1)) rfl (f_X9_late_b18_ok _ hf)
def f_X2_begin (S : mS) : Option mR := bnd (upS S 10 6 ((0 : Int32))) (fun S1 => bnd (upS S1 10 7 ((0 : Int32))) (fun S2 => some (.inl none, S2)))
theorem f_X2_begin_ok {d : Nat} {S : mS} {r : mR} (hf : f_X2_begin S = some r) : Ev (d) Mx28 (entry Mx28 [.ref 10] S) r := by
  unfold f_X2_begin at hf
  refine ev_sts 3 (c2 := (5, [.ref 10], [], (upS S 10 6 ((0 : Int32))), 0)) rfl ?_
  refine ev_let (P := fun S1 => Ev (d) Mx28 (5, [.ref 10], [], S1, 0) r) (fun S1 hf => ?_) hf
  refine ev_sts 3 (c2 := (10, [.ref 10], [], (upS S1 10 7 ((0 : Int32))), 0)) rfl ?_
  refine ev_let (P := fun S2 => Ev (d) Mx28 (10, [.ref 10], [], S2, 0) r) (fun S2 hf => ?_) hf
  exact ev_ret hf rfl rfl
def f_X9_leave_b60 (K14 : Int32 → Int32 → Int32 → Int32 → mS → Option mR) (F : Nat) (x1 : Int32) (x2 : Int32) (x3 : Int32) (x4 : Int32) (S : mS) : Option mR := K14 x1 x2 x3 (x4 + (1 : Int32)) S
def f_X9_leave_b54 (K14 : Int32 → Int32 → Int32 → Int32 → mS → Option mR) (F : Nat) (x1 : Int32) (x4 : Int32) (x5 : Int32) (S : mS) : Option mR := f_X9_leave_b60 K14 F x1 x4 x5 x4 S
def f_X9_leave_b14 (F : Nat) : Nat → Int32 → Int32 → Int32 → Int32 → mS → Option mR
  | 0, _, _, _, _, _ => none
  | n + 1, x1, x2, x3, x4, S => bI0 (f_X9_ledgeSets S) (fun r3 S2 => (if r3 ≤ x4 then some (.inl (some (.int x2)), S2) else bI0 (f_X9_sumOf F x4 ((2 : Int32)) S2) (fun r5 S4 => bI0 (f_X9_sumOf F x4 ((4 : Int32)) S4) (fun r7 S6 => (if r7 < x1 then f_X9_leave_b60 (fun x1 x2 x3 x4 S => f_X9_leave_b14 F n x1 x2 x3 x4 S) F x1 x2 x3 x4 S6 else (if x2 = ((-1 : Int32)) then f_X9_leave_b54 (fun x1 x2 x3 x4 S => f_X9_leave_b14 F n x1 x2 x3 x4 S) F x1 x4 r5 S6 else (if x3 ≤ r5 then f_X9_leave_b60 (fun x1 x2 x3 x4 S => f_X9_leave_b14 F n x1 x2 x3 x4 S) F x1 x2 x3 x4 S6 else f_X9_leave_b54 (fun x1 x2 x3 x4 S => f_X9_leave_b14 F n x1 x2 x3 x4 S) F x1 x4 r5 S6)))))))
def f_X9_leave (F : Nat) (p1 : Int32) (S : mS) : Option mR := bV (f_X9_needWithin p1 ((0 : Int32)) ((90 : Int32)) S) (fun S1 => f_X9_leave_b14 F F p1 ((-1 : Int32)) ((0 : Int32)) ((0 : Int32)) S1)
theorem f_X9_leave_b60_ok {d F : Nat} {K14 : Int32 → Int32 → Int32 → Int32 → mS → Option mR} (hK14 : ∀ {x1 : Int32} {x2 : Int32} {x3 : Int32} {x4 : Int32} {S : mS} {r : mR}, K14 x1 x2 x3 x4 S = some r → Ev (d + 3) Mx110 (14, [.ref 0, .int x1, .int x2, .int x3, .int x4, mK], [], S, 1) r) {x1 : Int32} {x2 : Int32} {x3 : Int32} {x4 : Int32} {S : mS} {r : mR} (hf : f_X9_leave_b60 K14 F x1 x2 x3 x4 S = some r) : Ev (d + 3) Mx110 (60, [.ref 0, .int x1, .int x2, .int x3, .int x4, mK], [], S, 1) r := by
  unfold f_X9_leave_b60 at hf
  exact ev_sts 2 (c2 := (14, [.ref 0, .int x1, .int x2, .int x3, .int (x4 + (1 : Int32)), mK], [], S, 1)) rfl (hK14 hf)
theorem f_X9_leave_b54_ok {d F : Nat} {K14 : Int32 → Int32 → Int32 → Int32 → mS → Option mR} (hK14 : ∀ {x1 : Int32} {x2 : Int32} {x3 : Int32} {x4 : Int32} {S : mS} {r : mR}, K14 x1 x2 x3 x4 S = some r → Ev (d + 3) Mx110 (14, [.ref 0, .int x1, .int x2, .int x3, .int x4, mK], [], S, 1) r) {x1 : Int32} {x4 : Int32} {x5 : Int32} {S : mS} {r : mR} (hf : f_X9_leave_b54 K14 F x1 x4 x5 S = some r) : Ev (d + 3) Mx110 (54, [.ref 0, .int x1, mK, mK, .int x4, .int x5], [], S, 1) r := by
  unfold f_X9_leave_b54 at hf
  exact ev_sts 4 (c2 := (60, [.ref 0, .int x1, .int x4, .int x5, .int x4, mK], [], S, 1)) rfl (f_X9_leave_b60_ok hK14 hf)
theorem f_X9_leave_b14_ok {d F : Nat} : ∀ (n : Nat) {x1 : Int32} {x2 : Int32} {x3 : Int32} {x4 : Int32} {S : mS} {r : mR}, f_X9_leave_b14 F n x1 x2 x3 x4 S = some r → Ev (d + 3) Mx110 (14, [.ref 0, .int x1, .int x2, .int x3, .int x4, mK], [], S, 1) r := by
  intro n
  induction n with
  | zero => intro x1 x2 x3 x4 S r hf; cases hf
  | succ n ih =>
    intro x1 x2 x3 x4 S r hf
    rw [f_X9_leave_b14] at hf
    refine ev_sts 2 (c2 := (17, [.ref 0, .int x1, .int x2, .int x3, .int x4, mK], [.ref 0, .int x4], S, 1)) rfl ?_
    refine ev_bI0 (d := d + 2) (M' := Mx144) (ct := (20, [.ref 0, .int x1, .int x2, .int x3, .int x4, mK], [.int x4], S, 1)) hf rfl rfl rfl rfl (fun r9 h9 => f_X9_ledgeSets_ok (d := d + 1) h9) (fun r3 S2 hf => ?_)
    show Ev (d + 3) Mx110 (20, [.ref 0, .int x1, .int x2, .int x3, .int x4, mK], [.int r3, .int x4], S2, 1) r
    refine ev_if (c1 := (66, [.ref 0, .int x1, .int x2, .int x3, .int x4, mK], [], S2, 1)) (c2 := (23, [.ref 0, .int x1, .int x2, .int x3, .int x4, mK], [], S2, 1)) hf rfl rfl (fun _ hf => ?_) (fun _ hf => ?_)
    · refine ev_sts 1 (c2 := (67, [.ref 0, .int x1, .int x2, .int x3, .int x4, mK], [.int x2], S2, 1)) rfl ?_
      exact ev_ret hf rfl rfl
    · refine ev_sts 3 (c2 := (27, [.ref 0, .int x1, .int x2, .int x3, .int x4, mK], [.int ((2 : Int32)), .int x4, .ref 0], S2, 1)) rfl ?_
      refine ev_bI0 (d := d + 2) (M' := Mx146) (ct := (30, [.ref 0, .int x1, .int x2, .int x3, .int x4, mK], [], S2, 1)) hf rfl rfl rfl rfl (fun r9 h9 => f_X9_sumOf_ok (d := d) h9) (fun r5 S4 hf => ?_)
      show Ev (d + 3) Mx110 (30, [.ref 0, .int x1, .int x2, .int x3, .int x4, mK], [.int r5], S4, 1) r
      refine ev_sts 4 (c2 := (36, [.ref 0, .int x1, .int x2, .int x3, .int x4, .int r5], [.int ((4 : Int32)), .int x4, .ref 0], S4, 1)) rfl ?_
      refine ev_bI0 (d := d + 2) (M' := Mx146) (ct := (39, [.ref 0, .int x1, .int x2, .int x3, .int x4, .int r5], [], S4, 1)) hf rfl rfl rfl rfl (fun r9 h9 => f_X9_sumOf_ok (d := d) h9) (fun r7 S6 hf => ?_)
      show Ev (d + 3) Mx110 (39, [.ref 0, .int x1, .int x2, .int x3, .int x4, .int r5], [.int r7], S6, 1) r
      refine ev_sts 1 (c2 := (40, [.ref 0, .int x1, .int x2, .int x3, .int x4, .int r5], [.int x1, .int r7], S6, 1)) rfl ?_
      refine ev_if (c1 := (60, [.ref 0, .int x1, .int x2, .int x3, .int x4, mK], [], S6, 1)) (c2 := (43, [.ref 0, .int x1, .int x2, .int x3, .int x4, .int r5], [], S6, 1)) hf rfl rfl (fun _ hf => ?_) (fun _ hf => ?_)
      · exact f_X9_leave_b60_ok (fun h9 => ih h9) hf
      · refine ev_sts 2 (c2 := (45, [.ref 0, .int x1, .int x2, .int x3, .int x4, .int r5], [.int ((-1 : Int32)), .int x2], S6, 1)) rfl ?_
        refine ev_if (c1 := (54, [.ref 0, .int x1, mK, mK, .int x4, .int r5], [], S6, 1)) (c2 := (48, [.ref 0, .int x1, .int x2, .int x3, .int x4, .int r5], [], S6, 1)) hf rfl rfl (fun _ hf => ?_) (fun _ hf => ?_)
        · exact f_X9_leave_b54_ok (fun h9 => ih h9) hf
        · refine ev_sts 2 (c2 := (51, [.ref 0, .int x1, .int x2, .int x3, .int x4, .int r5], [.int x3, .int r5], S6, 1)) rfl ?_
          refine ev_if (c1 := (60, [.ref 0, .int x1, .int x2, .int x3, .int x4, mK], [], S6, 1)) (c2 := (54, [.ref 0, .int x1, mK, mK, .int x4, .int r5], [], S6, 1)) hf rfl rfl (fun _ hf => ?_) (fun _ hf => ?_)
          · exact f_X9_leave_b60_ok (fun h9 => ih h9) hf
          · exact f_X9_leave_b54_ok (fun h9 => ih h9) hf
theorem f_X9_leave_ok {d F : Nat} {p1 : Int32} {S : mS} {r : mR} (hf : f_X9_leave F p1 S = some r) : Ev (d + 3) Mx110 (entry Mx110 [.ref 0, .int p1] S) r := by
  unfold f_X9_leave at hf
  refine ev_sts 3 (c2 := (4, [.ref 0, .int p1, mK, mK, mK, mK], [.int ((90 : Int32)), .int ((0 : Int32)), .int p1], S, 0)) rfl ?_
  refine ev_bV (d := d + 2) (M' := Mx142) (ct := (7, [.ref 0, .int p1, mK, mK, mK, mK], [], S, 1)) hf rfl rfl rfl rfl (by decide) (fun r9 h9 => f_X9_needWithin_ok (d := d + 2) h9) (fun S1 hf => ?_)
  show Ev (d + 3) Mx110 (7, [.ref 0, .int p1, mK, mK, mK, mK], [], S1, 1) r
  exact ev_sts 6 (c2 := (14, [.ref 0, .int p1, .int ((-1 : Int32)), .int ((0 : Int32)), .int ((0 : Int32)), mK], [], S1, 1)) rfl (f_X9_leave_b14_ok _ hf)
def f_X0_ofRow (p1 : Int32) (p2 : Int32) (S : mS) : Option mR := bI0 (f_X0_at 24 ((((86 : Int32)) + (p1 * ((6 : Int32)))) + p2) S) (fun r2 S1 => some (.inl (some (.int r2)), S1))
theorem f_X0_ofRow_ok {d : Nat} {p1 : Int32} {p2 : Int32} {S : mS} {r : mR} (hf : f_X0_ofRow p1 p2 S = some r) : Ev (d + 1) Mx10 (entry Mx10 [.ref 24, .int p1, .int p2] S) r := by
  unfold f_X0_ofRow at hf
  refine ev_sts 8 (c2 := (10, [.ref 24, .int p1, .int p2], [.int ((((86 : Int32)) + (p1 * ((6 : Int32)))) + p2), .ref 24], S, 0)) rfl ?_
  refine ev_bI0 (d := d) (M' := Mx1) (ct := (13, [.ref 24, .int p1, .int p2], [], S, 0)) hf rfl rfl rfl rfl (fun r9 h9 => f_X0_at_ok_24 (d := d) h9) (fun r2 S1 hf => ?_)
  show Ev (d + 1) Mx10 (13, [.ref 24, .int p1, .int p2], [.int r2], S1, 0) r
  exact ev_ret hf rfl rfl
def f_X0_loggedEggs_b38 (K5 : Int32 → Int32 → Int32 → Int32 → mS → Option mR) (F : Nat) (x1 : Int32) (x2 : Int32) (x3 : Int32) (x4 : Int32) (S : mS) : Option mR := K5 x1 x2 x3 (x4 + (1 : Int32)) S
def f_X0_loggedEggs_b5 (F : Nat) : Nat → Int32 → Int32 → Int32 → Int32 → mS → Option mR
  | 0, _, _, _, _, _ => none
  | n + 1, x1, x2, x3, x4, S => gd (inb ((15 : Int32)) 446) ((if (S 25 ((15 : Int32)).toNatClampNeg) ≤ x4 then some (.inl (some (.int x3)), S) else bI0 (f_X0_ofRow x4 x1 S) (fun r2 S1 => (if ¬ r2 = x2 then f_X0_loggedEggs_b38 (fun x1 x2 x3 x4 S => f_X0_loggedEggs_b5 F n x1 x2 x3 x4 S) F x1 x2 x3 x4 S1 else bI0 (f_X0_ofRow x4 ((3 : Int32)) S1) (fun r4 S3 => bnd (x3 + r4 : Int32) (fun y5 => f_X0_loggedEggs_b38 (fun x1 x2 x3 x4 S => f_X0_loggedEggs_b5 F n x1 x2 x3 x4 S) F x1 x2 y5 x4 S3))))))
def f_X0_loggedEggs (F : Nat) (p1 : Int32) (p2 : Int32) (S : mS) : Option mR := f_X0_loggedEggs_b5 F F p1 p2 ((0 : Int32)) ((0 : Int32)) S
theorem f_X0_loggedEggs_b38_ok {d F : Nat} {K5 : Int32 → Int32 → Int32 → Int32 → mS → Option mR} (hK5 : ∀ {x1 : Int32} {x2 : Int32} {x3 : Int32} {x4 : Int32} {S : mS} {r : mR}, K5 x1 x2 x3 x4 S = some r → Ev (d + 2) Mx14 (5, [.ref 24, .int x1, .int x2, .int x3, .int x4], [], S, 0) r) {x1 : Int32} {x2 : Int32} {x3 : Int32} {x4 : Int32} {S : mS} {r : mR} (hf : f_X0_loggedEggs_b38 K5 F x1 x2 x3 x4 S = some r) : Ev (d + 2) Mx14 (38, [.ref 24, .int x1, .int x2, .int x3, .int x4], [], S, 0) r := by
  unfold f_X0_loggedEggs_b38 at hf
  exact ev_sts 2 (c2 := (5, [.ref 24, .int x1, .int x2, .int x3, .int (x4 + (1 : Int32))], [], S, 0)) rfl (hK5 hf)
theorem f_X0_loggedEggs_b5_ok {d F : Nat} : ∀ (n : Nat) {x1 : Int32} {x2 : Int32} {x3 : Int32} {x4 : Int32} {S : mS} {r : mR}, f_X0_loggedEggs_b5 F n x1 x2 x3 x4 S = some r → Ev (d + 2) Mx14 (5, [.ref 24, .int x1, .int x2, .int x3, .int x4], [], S, 0) r := by
  intro n
  induction n with
  | zero => intro x1 x2 x3 x4 S r hf; cases hf
  | succ n ih =>
    intro x1 x2 x3 x4 S r hf
    rw [f_X0_loggedEggs_b5] at hf
    refine ev_sts 4 (c2 := (13, [.ref 24, .int x1, .int x2, .int x3, .int x4], [.int ((15 : Int32)), .ref 25, .int x4], S, 0)) rfl ?_
    refine ev_gd (c1 := (14, [.ref 24, .int x1, .int x2, .int x3, .int x4], [.int (S 25 ((15 : Int32)).toNatClampNeg), .int x4], S, 0)) hf rfl rfl (fun hf => ?_)
    refine ev_if (c1 := (44, [.ref 24, .int x1, .int x2, .int x3, .int x4], [], S, 0)) (c2 := (17, [.ref 24, .int x1, .int x2, .int x3, .int x4], [], S, 0)) hf rfl rfl (fun _ hf => ?_) (fun _ hf => ?_)
    · refine ev_sts 1 (c2 := (45, [.ref 24, .int x1, .int x2, .int x3, .int x4], [.int x3], S, 0)) rfl ?_
      exact ev_ret hf rfl rfl
    · refine ev_sts 3 (c2 := (21, [.ref 24, .int x1, .int x2, .int x3, .int x4], [.int x1, .int x4, .ref 24], S, 0)) rfl ?_
      refine ev_bI0 (d := d + 1) (M' := Mx10) (ct := (24, [.ref 24, .int x1, .int x2, .int x3, .int x4], [], S, 0)) hf rfl rfl rfl rfl (fun r9 h9 => f_X0_ofRow_ok (d := d) h9) (fun r2 S1 hf => ?_)
      show Ev (d + 2) Mx14 (24, [.ref 24, .int x1, .int x2, .int x3, .int x4], [.int r2], S1, 0) r
      refine ev_sts 1 (c2 := (25, [.ref 24, .int x1, .int x2, .int x3, .int x4], [.int x2, .int r2], S1, 0)) rfl ?_
      refine ev_if (c1 := (38, [.ref 24, .int x1, .int x2, .int x3, .int x4], [], S1, 0)) (c2 := (28, [.ref 24, .int x1, .int x2, .int x3, .int x4], [], S1, 0)) hf rfl rfl (fun _ hf => ?_) (fun _ hf => ?_)
      · exact f_X0_loggedEggs_b38_ok (fun h9 => ih h9) hf
      · refine ev_sts 4 (c2 := (33, [.ref 24, .int x1, .int x2, .int x3, .int x4], [.int ((3 : Int32)), .int x4, .ref 24, .int x3], S1, 0)) rfl ?_
        refine ev_bI0 (d := d + 1) (M' := Mx10) (ct := (36, [.ref 24, .int x1, .int x2, .int x3, .int x4], [.int x3], S1, 0)) hf rfl rfl rfl rfl (fun r9 h9 => f_X0_ofRow_ok (d := d) h9) (fun r4 S3 hf => ?_)
        show Ev (d + 2) Mx14 (36, [.ref 24, .int x1, .int x2, .int x3, .int x4], [.int r4, .int x3], S3, 0) r
        refine ev_sts 2 (c2 := (38, [.ref 24, .int x1, .int x2, .int (x3 + r4), .int x4], [], S3, 0)) rfl ?_
        refine ev_let (P := fun y5 => Ev (d + 2) Mx14 (38, [.ref 24, .int x1, .int x2, .int y5, .int x4], [], S3, 0) r) (fun y5 hf => ?_) hf
        exact f_X0_loggedEggs_b38_ok (fun h9 => ih h9) hf
theorem f_X0_loggedEggs_ok {d F : Nat} {p1 : Int32} {p2 : Int32} {S : mS} {r : mR} (hf : f_X0_loggedEggs F p1 p2 S = some r) : Ev (d + 2) Mx14 (entry Mx14 [.ref 24, .int p1, .int p2] S) r := by
  unfold f_X0_loggedEggs at hf
  exact ev_sts 4 (c2 := (5, [.ref 24, .int p1, .int p2, .int ((0 : Int32)), .int ((0 : Int32))], [], S, 0)) rfl (f_X0_loggedEggs_b5_ok _ hf)
def f_X0_loggedRows_b28 (K4 : Int32 → Int32 → Int32 → mS → Option mR) (F : Nat) (x1 : Int32) (x2 : Int32) (x3 : Int32) (S : mS) : Option mR := K4 x1 x2 (x3 + (1 : Int32)) S
def f_X0_loggedRows_b4 (F : Nat) : Nat → Int32 → Int32 → Int32 → mS → Option mR
  | 0, _, _, _, _ => none
  | n + 1, x1, x2, x3, S => gd (inb ((15 : Int32)) 446) ((if (S 25 ((15 : Int32)).toNatClampNeg) ≤ x3 then some (.inl (some (.int x2)), S) else bI0 (f_X0_ofRow x3 ((2 : Int32)) S) (fun r2 S1 => (if ¬ r2 = x1 then f_X0_loggedRows_b28 (fun x1 x2 x3 S => f_X0_loggedRows_b4 F n x1 x2 x3 S) F x1 x2 x3 S1 else f_X0_loggedRows_b28 (fun x1 x2 x3 S => f_X0_loggedRows_b4 F n x1 x2 x3 S) F x1 (x2 + (1 : Int32)) x3 S1))))
def f_X0_loggedRows (F : Nat) (p1 : Int32) (S : mS) : Option mR := f_X0_loggedRows_b4 F F p1 ((0 : Int32)) ((0 : Int32)) S
theorem f_X0_loggedRows_b28_ok {d F : Nat} {K4 : Int32 → Int32 → Int32 → mS → Option mR} (hK4 : ∀ {x1 : Int32} {x2 : Int32} {x3 : Int32} {S : mS} {r : mR}, K4 x1 x2 x3 S = some r → Ev (d + 2) Mx13 (4, [.ref 24, .int x1, .int x2, .int x3], [], S, 0) r) {x1 : Int32} {x2 : Int32} {x3 : Int32} {S : mS} {r : mR} (hf : f_X0_loggedRows_b28 K4 F x1 x2 x3 S = some r) : Ev (d + 2) Mx13 (28, [.ref 24, .int x1, .int x2, .int x3], [], S, 0) r := by
  unfold f_X0_loggedRows_b28 at hf
  exact ev_sts 2 (c2 := (4, [.ref 24, .int x1, .int x2, .int (x3 + (1 : Int32))], [], S, 0)) rfl (hK4 hf)
theorem f_X0_loggedRows_b4_ok {d F : Nat} : ∀ (n : Nat) {x1 : Int32} {x2 : Int32} {x3 : Int32} {S : mS} {r : mR}, f_X0_loggedRows_b4 F n x1 x2 x3 S = some r → Ev (d + 2) Mx13 (4, [.ref 24, .int x1, .int x2, .int x3], [], S, 0) r := by
  intro n
  induction n with
  | zero => intro x1 x2 x3 S r hf; cases hf
  | succ n ih =>
    intro x1 x2 x3 S r hf
    rw [f_X0_loggedRows_b4] at hf
    refine ev_sts 4 (c2 := (11, [.ref 24, .int x1, .int x2, .int x3], [.int ((15 : Int32)), .ref 25, .int x3], S, 0)) rfl ?_
    refine ev_gd (c1 := (12, [.ref 24, .int x1, .int x2, .int x3], [.int (S 25 ((15 : Int32)).toNatClampNeg), .int x3], S, 0)) hf rfl rfl (fun hf => ?_)
    refine ev_if (c1 := (34, [.ref 24, .int x1, .int x2, .int x3], [], S, 0)) (c2 := (15, [.ref 24, .int x1, .int x2, .int x3], [], S, 0)) hf rfl rfl (fun _ hf => ?_) (fun _ hf => ?_)
    · refine ev_sts 1 (c2 := (35, [.ref 24, .int x1, .int x2, .int x3], [.int x2], S, 0)) rfl ?_
      exact ev_ret hf rfl rfl
    · refine ev_sts 3 (c2 := (18, [.ref 24, .int x1, .int x2, .int x3], [.int ((2 : Int32)), .int x3, .ref 24], S, 0)) rfl ?_
      refine ev_bI0 (d := d + 1) (M' := Mx10) (ct := (21, [.ref 24, .int x1, .int x2, .int x3], [], S, 0)) hf rfl rfl rfl rfl (fun r9 h9 => f_X0_ofRow_ok (d := d) h9) (fun r2 S1 hf => ?_)
      show Ev (d + 2) Mx13 (21, [.ref 24, .int x1, .int x2, .int x3], [.int r2], S1, 0) r
      refine ev_sts 1 (c2 := (22, [.ref 24, .int x1, .int x2, .int x3], [.int x1, .int r2], S1, 0)) rfl ?_
      refine ev_if (c1 := (28, [.ref 24, .int x1, .int x2, .int x3], [], S1, 0)) (c2 := (25, [.ref 24, .int x1, .int x2, .int x3], [], S1, 0)) hf rfl rfl (fun _ hf => ?_) (fun _ hf => ?_)
      · exact f_X0_loggedRows_b28_ok (fun h9 => ih h9) hf
      · exact ev_sts 1 (c2 := (28, [.ref 24, .int x1, .int (x2 + (1 : Int32)), .int x3], [], S1, 0)) rfl (f_X0_loggedRows_b28_ok (fun h9 => ih h9) hf)
theorem f_X0_loggedRows_ok {d F : Nat} {p1 : Int32} {S : mS} {r : mR} (hf : f_X0_loggedRows F p1 S = some r) : Ev (d + 2) Mx13 (entry Mx13 [.ref 24, .int p1] S) r := by
  unfold f_X0_loggedRows at hf
  exact ev_sts 4 (c2 := (4, [.ref 24, .int p1, .int ((0 : Int32)), .int ((0 : Int32))], [], S, 0)) rfl (f_X0_loggedRows_b4_ok _ hf)
def f_X9_led_b29 (F : Nat) (t0 : Int32) (S : mS) : Option mR := some (.inl (some (.int t0)), S)
def f_X9_led (F : Nat) (p1 : Int32) (p2 : Int32) (S : mS) : Option mR := bV (f_X9_needLedge p1 S) (fun S1 => (if p2 = 0 then bI0 (f_X0_loggedRows F p1 S1) (fun r3 S2 => f_X9_led_b29 F r3 S2) else bI0 (f_X0_loggedEggs F ((2 : Int32)) p1 S1) (fun r5 S4 => f_X9_led_b29 F r5 S4)))
theorem f_X9_led_b29_ok {d F : Nat} {t0 : Int32} {S : mS} {r : mR} (hf : f_X9_led_b29 F t0 S = some r) : Ev (d + 3) Mx131 (29, [mK, mK, mK], [.int t0], S, 1) r := by
  unfold f_X9_led_b29 at hf
  exact ev_ret hf rfl rfl
theorem f_X9_led_ok {d F : Nat} {p1 : Int32} {p2 : Int32} {S : mS} {r : mR} (hf : f_X9_led F p1 p2 S = some r) : Ev (d + 3) Mx131 (entry Mx131 [.ref 0, .int p1, .int p2] S) r := by
  unfold f_X9_led at hf
  refine ev_sts 2 (c2 := (2, [.ref 0, .int p1, .int p2], [.int p1, .ref 0], S, 0)) rfl ?_
  refine ev_bV (d := d + 2) (M' := Mx139) (ct := (5, [.ref 0, .int p1, .int p2], [], S, 1)) hf rfl rfl rfl rfl (by decide) (fun r9 h9 => f_X9_needLedge_ok (d := d + 1) h9) (fun S1 hf => ?_)
  show Ev (d + 3) Mx131 (5, [.ref 0, .int p1, .int p2], [], S1, 1) r
  refine ev_sts 1 (c2 := (6, [.ref 0, .int p1, .int p2], [.int p2], S1, 1)) rfl ?_
  refine ev_if (c1 := (21, [.ref 0, .int p1, .int p2], [], S1, 1)) (c2 := (9, [.ref 0, .int p1, .int p2], [], S1, 1)) hf rfl rfl (fun _ hf => ?_) (fun _ hf => ?_)
  · refine ev_sts 3 (c2 := (26, [.ref 0, .int p1, .int p2], [.int p1, .ref 24], S1, 1)) rfl ?_
    refine ev_bI0 (d := d + 2) (M' := Mx13) (ct := (29, [mK, mK, mK], [], S1, 1)) hf rfl rfl rfl rfl (fun r9 h9 => f_X0_loggedRows_ok (d := d) h9) (fun r3 S2 hf => ?_)
    show Ev (d + 3) Mx131 (29, [mK, mK, mK], [.int r3], S2, 1) r
    exact f_X9_led_b29_ok hf
  · refine ev_sts 4 (c2 := (15, [.ref 0, .int p1, .int p2], [.int p1, .int ((2 : Int32)), .ref 24], S1, 1)) rfl ?_
    refine ev_bI0 (d := d + 2) (M' := Mx14) (ct := (18, [.ref 0, .int p1, .int p2], [], S1, 1)) hf rfl rfl rfl rfl (fun r9 h9 => f_X0_loggedEggs_ok (d := d) h9) (fun r5 S4 hf => ?_)
    show Ev (d + 3) Mx131 (18, [.ref 0, .int p1, .int p2], [.int r5], S4, 1) r
    exact ev_sts 1 (c2 := (29, [mK, mK, mK], [.int r5], S4, 1)) rfl (f_X9_led_b29_ok hf)
def f_X9_nextTo_b44 (K4 : Int32 → Int32 → Int32 → mS → Option mR) (F : Nat) (x1 : Int32) (x2 : Int32) (x3 : Int32) (S : mS) : Option mR := K4 x1 x2 (x3 + (1 : Int32)) S
def f_X9_nextTo_b42 (K4 : Int32 → Int32 → Int32 → mS → Option mR) (F : Nat) (x1 : Int32) (x3 : Int32) (S : mS) : Option mR := f_X9_nextTo_b44 K4 F x1 x3 x3 S
def f_X9_nextTo_b4 (F : Nat) : Nat → Int32 → Int32 → Int32 → mS → Option mR
  | 0, _, _, _, _ => none
  | n + 1, x1, x2, x3, S => bI0 (f_X0_at 24 ((12 : Int32)) S) (fun r2 S1 => (if r2 ≤ x3 then some (.inl (some (.int x2)), S1) else (if x3 = x1 then f_X9_nextTo_b44 (fun x1 x2 x3 S => f_X9_nextTo_b4 F n x1 x2 x3 S) F x1 x2 x3 S1 else (if x2 = ((-1 : Int32)) then f_X9_nextTo_b42 (fun x1 x2 x3 S => f_X9_nextTo_b4 F n x1 x2 x3 S) F x1 x3 S1 else bI0 (f_X9_apart x1 x3 S1) (fun r4 S3 => bI0 (f_X9_apart x1 x2 S3) (fun r6 S5 => (if r6 ≤ r4 then f_X9_nextTo_b44 (fun x1 x2 x3 S => f_X9_nextTo_b4 F n x1 x2 x3 S) F x1 x2 x3 S5 else f_X9_nextTo_b42 (fun x1 x2 x3 S => f_X9_nextTo_b4 F n x1 x2 x3 S) F x1 x3 S5)))))))
def f_X9_nextTo (F : Nat) (p1 : Int32) (S : mS) : Option mR := f_X9_nextTo_b4 F F p1 ((-1 : Int32)) ((0 : Int32)) S
theorem f_X9_nextTo_b44_ok {d F : Nat} {K4 : Int32 → Int32 → Int32 → mS → Option mR} (hK4 : ∀ {x1 : Int32} {x2 : Int32} {x3 : Int32} {S : mS} {r : mR}, K4 x1 x2 x3 S = some r → Ev (d + 3) Mx149 (4, [.ref 0, .int x1, .int x2, .int x3], [], S, 0) r) {x1 : Int32} {x2 : Int32} {x3 : Int32} {S : mS} {r : mR} (hf : f_X9_nextTo_b44 K4 F x1 x2 x3 S = some r) : Ev (d + 3) Mx149 (44, [.ref 0, .int x1, .int x2, .int x3], [], S, 0) r := by
  unfold f_X9_nextTo_b44 at hf
  exact ev_sts 2 (c2 := (4, [.ref 0, .int x1, .int x2, .int (x3 + (1 : Int32))], [], S, 0)) rfl (hK4 hf)
theorem f_X9_nextTo_b42_ok {d F : Nat} {K4 : Int32 → Int32 → Int32 → mS → Option mR} (hK4 : ∀ {x1 : Int32} {x2 : Int32} {x3 : Int32} {S : mS} {r : mR}, K4 x1 x2 x3 S = some r → Ev (d + 3) Mx149 (4, [.ref 0, .int x1, .int x2, .int x3], [], S, 0) r) {x1 : Int32} {x3 : Int32} {S : mS} {r : mR} (hf : f_X9_nextTo_b42 K4 F x1 x3 S = some r) : Ev (d + 3) Mx149 (42, [.ref 0, .int x1, mK, .int x3], [], S, 0) r := by
  unfold f_X9_nextTo_b42 at hf
  exact ev_sts 2 (c2 := (44, [.ref 0, .int x1, .int x3, .int x3], [], S, 0)) rfl (f_X9_nextTo_b44_ok hK4 hf)
theorem f_X9_nextTo_b4_ok {d F : Nat} : ∀ (n : Nat) {x1 : Int32} {x2 : Int32} {x3 : Int32} {S : mS} {r : mR}, f_X9_nextTo_b4 F n x1 x2 x3 S = some r → Ev (d + 3) Mx149 (4, [.ref 0, .int x1, .int x2, .int x3], [], S, 0) r := by
  intro n
  induction n with
  | zero => intro x1 x2 x3 S r hf; cases hf
  | succ n ih =>
    intro x1 x2 x3 S r hf
    rw [f_X9_nextTo_b4] at hf
    refine ev_sts 4 (c2 := (11, [.ref 0, .int x1, .int x2, .int x3], [.int ((12 : Int32)), .ref 24, .int x3], S, 0)) rfl ?_
    refine ev_bI0 (d := d + 2) (M' := Mx1) (ct := (14, [.ref 0, .int x1, .int x2, .int x3], [.int x3], S, 0)) hf rfl rfl rfl rfl (fun r9 h9 => f_X0_at_ok_24 (d := d + 2) h9) (fun r2 S1 hf => ?_)
    show Ev (d + 3) Mx149 (14, [.ref 0, .int x1, .int x2, .int x3], [.int r2, .int x3], S1, 0) r
    refine ev_if (c1 := (50, [.ref 0, .int x1, .int x2, .int x3], [], S1, 0)) (c2 := (17, [.ref 0, .int x1, .int x2, .int x3], [], S1, 0)) hf rfl rfl (fun _ hf => ?_) (fun _ hf => ?_)
    · refine ev_sts 1 (c2 := (51, [.ref 0, .int x1, .int x2, .int x3], [.int x2], S1, 0)) rfl ?_
      exact ev_ret hf rfl rfl
    · refine ev_sts 2 (c2 := (19, [.ref 0, .int x1, .int x2, .int x3], [.int x1, .int x3], S1, 0)) rfl ?_
      refine ev_if (c1 := (44, [.ref 0, .int x1, .int x2, .int x3], [], S1, 0)) (c2 := (22, [.ref 0, .int x1, .int x2, .int x3], [], S1, 0)) hf rfl rfl (fun _ hf => ?_) (fun _ hf => ?_)
      · exact f_X9_nextTo_b44_ok (fun h9 => ih h9) hf
      · refine ev_sts 2 (c2 := (24, [.ref 0, .int x1, .int x2, .int x3], [.int ((-1 : Int32)), .int x2], S1, 0)) rfl ?_
        refine ev_if (c1 := (42, [.ref 0, .int x1, mK, .int x3], [], S1, 0)) (c2 := (27, [.ref 0, .int x1, .int x2, .int x3], [], S1, 0)) hf rfl rfl (fun _ hf => ?_) (fun _ hf => ?_)
        · exact f_X9_nextTo_b42_ok (fun h9 => ih h9) hf
        · refine ev_sts 3 (c2 := (30, [.ref 0, .int x1, .int x2, .int x3], [.int x3, .int x1, .ref 0], S1, 0)) rfl ?_
          refine ev_bI0 (d := d + 2) (M' := Mx148) (ct := (33, [.ref 0, .int x1, .int x2, .int x3], [], S1, 0)) hf rfl rfl rfl rfl (fun r9 h9 => f_X9_apart_ok (d := d) h9) (fun r4 S3 hf => ?_)
          show Ev (d + 3) Mx149 (33, [.ref 0, .int x1, .int x2, .int x3], [.int r4], S3, 0) r
          refine ev_sts 3 (c2 := (36, [.ref 0, .int x1, .int x2, .int x3], [.int x2, .int x1, .ref 0, .int r4], S3, 0)) rfl ?_
          refine ev_bI0 (d := d + 2) (M' := Mx148) (ct := (39, [.ref 0, .int x1, .int x2, .int x3], [.int r4], S3, 0)) hf rfl rfl rfl rfl (fun r9 h9 => f_X9_apart_ok (d := d) h9) (fun r6 S5 hf => ?_)
          show Ev (d + 3) Mx149 (39, [.ref 0, .int x1, .int x2, .int x3], [.int r6, .int r4], S5, 0) r
          refine ev_if (c1 := (44, [.ref 0, .int x1, .int x2, .int x3], [], S5, 0)) (c2 := (42, [.ref 0, .int x1, mK, .int x3], [], S5, 0)) hf rfl rfl (fun _ hf => ?_) (fun _ hf => ?_)
          · exact f_X9_nextTo_b44_ok (fun h9 => ih h9) hf
          · exact f_X9_nextTo_b42_ok (fun h9 => ih h9) hf
theorem f_X9_nextTo_ok {d F : Nat} {p1 : Int32} {S : mS} {r : mR} (hf : f_X9_nextTo F p1 S = some r) : Ev (d + 3) Mx149 (entry Mx149 [.ref 0, .int p1] S) r := by
  unfold f_X9_nextTo at hf
  exact ev_sts 4 (c2 := (4, [.ref 0, .int p1, .int ((-1 : Int32)), .int ((0 : Int32))], [], S, 0)) rfl (f_X9_nextTo_b4_ok _ hf)
def f_X9_windsTo_b33 (K4 : Int32 → Int32 → Int32 → mS → Option mR) (F : Nat) (x1 : Int32) (x2 : Int32) (x3 : Int32) (S : mS) : Option mR := K4 x1 x2 (x3 + (1 : Int32)) S
def f_X9_windsTo_b4 (F : Nat) : Nat → Int32 → Int32 → Int32 → mS → Option mR
  | 0, _, _, _, _ => none
  | n + 1, x1, x2, x3, S => (if ((9 : Int32)) < x3 then some (.inl (some (.int x2)), S) else bI0 (f_X7_kicksTo F 24 x1 x3 S) (fun r2 S1 => (if r2 = ((-1 : Int32)) then f_X9_windsTo_b33 (fun x1 x2 x3 S => f_X9_windsTo_b4 F n x1 x2 x3 S) F x1 x2 x3 S1 else bnd (x2 ||| (((1 : Int32)) <<< (x3 &&& 31)) : Int32) (fun y3 => f_X9_windsTo_b33 (fun x1 x2 x3 S => f_X9_windsTo_b4 F n x1 x2 x3 S) F x1 y3 x3 S1))))
def f_X9_windsTo (F : Nat) (p1 : Int32) (S : mS) : Option mR := f_X9_windsTo_b4 F F p1 ((0 : Int32)) ((0 : Int32)) S
theorem f_X9_windsTo_b33_ok {d F : Nat} {K4 : Int32 → Int32 → Int32 → mS → Option mR} (hK4 : ∀ {x1 : Int32} {x2 : Int32} {x3 : Int32} {S : mS} {r : mR}, K4 x1 x2 x3 S = some r → Ev (d + 5) Mx147 (4, [.ref 0, .int x1, .int x2, .int x3], [], S, 0) r) {x1 : Int32} {x2 : Int32} {x3 : Int32} {S : mS} {r : mR} (hf : f_X9_windsTo_b33 K4 F x1 x2 x3 S = some r) : Ev (d + 5) Mx147 (33, [.ref 0, .int x1, .int x2, .int x3], [], S, 0) r := by
  unfold f_X9_windsTo_b33 at hf
  exact ev_sts 2 (c2 := (4, [.ref 0, .int x1, .int x2, .int (x3 + (1 : Int32))], [], S, 0)) rfl (hK4 hf)
theorem f_X9_windsTo_b4_ok {d F : Nat} : ∀ (n : Nat) {x1 : Int32} {x2 : Int32} {x3 : Int32} {S : mS} {r : mR}, f_X9_windsTo_b4 F n x1 x2 x3 S = some r → Ev (d + 5) Mx147 (4, [.ref 0, .int x1, .int x2, .int x3], [], S, 0) r := by
  intro n
  induction n with
  | zero => intro x1 x2 x3 S r hf; cases hf
  | succ n ih =>
    intro x1 x2 x3 S r hf
    rw [f_X9_windsTo_b4] at hf
    refine ev_sts 2 (c2 := (7, [.ref 0, .int x1, .int x2, .int x3], [.int ((9 : Int32)), .int x3], S, 0)) rfl ?_
    refine ev_if (c1 := (39, [.ref 0, .int x1, .int x2, .int x3], [], S, 0)) (c2 := (10, [.ref 0, .int x1, .int x2, .int x3], [], S, 0)) hf rfl rfl (fun _ hf => ?_) (fun _ hf => ?_)
    · refine ev_sts 1 (c2 := (40, [.ref 0, .int x1, .int x2, .int x3], [.int x2], S, 0)) rfl ?_
      exact ev_ret hf rfl rfl
    · refine ev_sts 6 (c2 := (20, [.ref 0, .int x1, .int x2, .int x3], [.int x3, .int x1, .ref 24, .ref 32], S, 0)) rfl ?_
      refine ev_bI0 (d := d + 4) (M' := Mx60) (ct := (23, [.ref 0, .int x1, .int x2, .int x3], [], S, 0)) hf rfl rfl rfl rfl (fun r9 h9 => f_X7_kicksTo_ok_24 (d := d) h9) (fun r2 S1 hf => ?_)
      show Ev (d + 5) Mx147 (23, [.ref 0, .int x1, .int x2, .int x3], [.int r2], S1, 0) r
      refine ev_sts 1 (c2 := (24, [.ref 0, .int x1, .int x2, .int x3], [.int ((-1 : Int32)), .int r2], S1, 0)) rfl ?_
      refine ev_if (c1 := (33, [.ref 0, .int x1, .int x2, .int x3], [], S1, 0)) (c2 := (27, [.ref 0, .int x1, .int x2, .int x3], [], S1, 0)) hf rfl rfl (fun _ hf => ?_) (fun _ hf => ?_)
      · exact f_X9_windsTo_b33_ok (fun h9 => ih h9) hf
      · refine ev_sts 6 (c2 := (33, [.ref 0, .int x1, .int (x2 ||| (((1 : Int32)) <<< (x3 &&& 31))), .int x3], [], S1, 0)) rfl ?_
        refine ev_let (P := fun y3 => Ev (d + 5) Mx147 (33, [.ref 0, .int x1, .int y3, .int x3], [], S1, 0) r) (fun y3 hf => ?_) hf
        exact f_X9_windsTo_b33_ok (fun h9 => ih h9) hf
theorem f_X9_windsTo_ok {d F : Nat} {p1 : Int32} {S : mS} {r : mR} (hf : f_X9_windsTo F p1 S = some r) : Ev (d + 5) Mx147 (entry Mx147 [.ref 0, .int p1] S) r := by
  unfold f_X9_windsTo at hf
  exact ev_sts 4 (c2 := (4, [.ref 0, .int p1, .int ((0 : Int32)), .int ((0 : Int32))], [], S, 0)) rfl (f_X9_windsTo_b4_ok _ hf)
def f_X9_ledge_b15 (F : Nat) (S : mS) : Option mR := some (.inr 4, S)
def f_X9_ledge_b78 (F : Nat) (t0 : Int32) (S : mS) : Option mR := some (.inl (some (.int t0)), S)
def f_X9_ledge (F : Nat) (p1 : Int32) (p2 : Int32) (S : mS) : Option mR := bV (f_X9_needLedge p1 S) (fun S1 => (if p2 < 0 then f_X9_ledge_b15 F S1 else (if p2 ≤ ((7 : Int32)) then (if ¬ p2 = ((5 : Int32)) then (if ¬ p2 = ((6 : Int32)) then (if ¬ p2 = ((7 : Int32)) then bI0 (f_X0_ofLedge 24 p1 p2 S1) (fun r3 S2 => f_X9_ledge_b78 F r3 S2) else bI0 (f_X9_nextTo F p1 S1) (fun r5 S4 => f_X9_ledge_b78 F r5 S4)) else bI0 (f_X9_windsTo F p1 S1) (fun r7 S6 => some (.inl (some (.int r7)), S6))) else bI0 (f_X7_laysAt F 24 p1 S1) (fun r9 S8 => some (.inl (some (.int r9)), S8))) else f_X9_ledge_b15 F S1)))
theorem f_X9_ledge_b15_ok {d F : Nat} {S : mS} {r : mR} (hf : f_X9_ledge_b15 F  S = some r) : Ev (d + 6) Mx92 (15, [mK, mK, mK], [], S, 1) r := by
  unfold f_X9_ledge_b15 at hf
  exact ev_ret hf rfl rfl
theorem f_X9_ledge_b78_ok {d F : Nat} {t0 : Int32} {S : mS} {r : mR} (hf : f_X9_ledge_b78 F t0 S = some r) : Ev (d + 6) Mx92 (78, [mK, mK, mK], [.int t0], S, 1) r := by
  unfold f_X9_ledge_b78 at hf
  exact ev_ret hf rfl rfl
theorem f_X9_ledge_ok {d F : Nat} {p1 : Int32} {p2 : Int32} {S : mS} {r : mR} (hf : f_X9_ledge F p1 p2 S = some r) : Ev (d + 6) Mx92 (entry Mx92 [.ref 0, .int p1, .int p2] S) r := by
  unfold f_X9_ledge at hf
  refine ev_sts 2 (c2 := (2, [.ref 0, .int p1, .int p2], [.int p1, .ref 0], S, 0)) rfl ?_
  refine ev_bV (d := d + 5) (M' := Mx139) (ct := (5, [.ref 0, .int p1, .int p2], [], S, 1)) hf rfl rfl rfl rfl (by decide) (fun r9 h9 => f_X9_needLedge_ok (d := d + 4) h9) (fun S1 hf => ?_)
  show Ev (d + 6) Mx92 (5, [.ref 0, .int p1, .int p2], [], S1, 1) r
  refine ev_sts 1 (c2 := (6, [.ref 0, .int p1, .int p2], [.int p2], S1, 1)) rfl ?_
  refine ev_if (c1 := (15, [mK, mK, mK], [], S1, 1)) (c2 := (9, [.ref 0, .int p1, .int p2], [], S1, 1)) hf rfl rfl (fun _ hf => ?_) (fun _ hf => ?_)
  · exact f_X9_ledge_b15_ok hf
  · refine ev_sts 2 (c2 := (12, [.ref 0, .int p1, .int p2], [.int ((7 : Int32)), .int p2], S1, 1)) rfl ?_
    refine ev_if (c1 := (25, [.ref 0, .int p1, .int p2], [], S1, 1)) (c2 := (15, [mK, mK, mK], [], S1, 1)) hf rfl rfl (fun _ hf => ?_) (fun _ hf => ?_)
    · refine ev_sts 2 (c2 := (27, [.ref 0, .int p1, .int p2], [.int ((5 : Int32)), .int p2], S1, 1)) rfl ?_
      refine ev_if (c1 := (43, [.ref 0, .int p1, .int p2], [], S1, 1)) (c2 := (30, [.ref 0, .int p1, .int p2], [], S1, 1)) hf rfl rfl (fun _ hf => ?_) (fun _ hf => ?_)
      · refine ev_sts 2 (c2 := (46, [.ref 0, .int p1, .int p2], [.int ((6 : Int32)), .int p2], S1, 1)) rfl ?_
        refine ev_if (c1 := (55, [.ref 0, .int p1, .int p2], [], S1, 1)) (c2 := (49, [.ref 0, .int p1, .int p2], [], S1, 1)) hf rfl rfl (fun _ hf => ?_) (fun _ hf => ?_)
        · refine ev_sts 2 (c2 := (58, [.ref 0, .int p1, .int p2], [.int ((7 : Int32)), .int p2], S1, 1)) rfl ?_
          refine ev_if (c1 := (69, [.ref 0, .int p1, .int p2], [], S1, 1)) (c2 := (61, [.ref 0, .int p1, .int p2], [], S1, 1)) hf rfl rfl (fun _ hf => ?_) (fun _ hf => ?_)
          · refine ev_sts 4 (c2 := (75, [.ref 0, .int p1, .int p2], [.int p2, .int p1, .ref 24], S1, 1)) rfl ?_
            refine ev_bI0 (d := d + 5) (M' := Mx4) (ct := (78, [mK, mK, mK], [], S1, 1)) hf rfl rfl rfl rfl (fun r9 h9 => f_X0_ofLedge_ok_24 (d := d + 4) h9) (fun r3 S2 hf => ?_)
            show Ev (d + 6) Mx92 (78, [mK, mK, mK], [.int r3], S2, 1) r
            exact f_X9_ledge_b78_ok hf
          · refine ev_sts 2 (c2 := (63, [.ref 0, .int p1, .int p2], [.int p1, .ref 0], S1, 1)) rfl ?_
            refine ev_bI0 (d := d + 5) (M' := Mx149) (ct := (66, [.ref 0, .int p1, .int p2], [], S1, 1)) hf rfl rfl rfl rfl (fun r9 h9 => f_X9_nextTo_ok (d := d + 2) h9) (fun r5 S4 hf => ?_)
            show Ev (d + 6) Mx92 (66, [.ref 0, .int p1, .int p2], [.int r5], S4, 1) r
            exact ev_sts 1 (c2 := (78, [mK, mK, mK], [.int r5], S4, 1)) rfl (f_X9_ledge_b78_ok hf)
        · refine ev_sts 2 (c2 := (51, [.ref 0, .int p1, .int p2], [.int p1, .ref 0], S1, 1)) rfl ?_
          refine ev_bI0 (d := d + 5) (M' := Mx147) (ct := (54, [.ref 0, .int p1, .int p2], [], S1, 1)) hf rfl rfl rfl rfl (fun r9 h9 => f_X9_windsTo_ok (d := d) h9) (fun r7 S6 hf => ?_)
          show Ev (d + 6) Mx92 (54, [.ref 0, .int p1, .int p2], [.int r7], S6, 1) r
          exact ev_ret hf rfl rfl
      · refine ev_sts 5 (c2 := (39, [.ref 0, .int p1, .int p2], [.int p1, .ref 24, .ref 32], S1, 1)) rfl ?_
        refine ev_bI0 (d := d + 5) (M' := Mx59) (ct := (42, [.ref 0, .int p1, .int p2], [], S1, 1)) hf rfl rfl rfl rfl (fun r9 h9 => f_X7_laysAt_ok_24 (d := d + 2) h9) (fun r9 S8 hf => ?_)
        show Ev (d + 6) Mx92 (42, [.ref 0, .int p1, .int p2], [.int r9], S8, 1) r
        exact ev_ret hf rfl rfl
    · exact f_X9_ledge_b15_ok hf
def f_X0_pushRow (u0 : Nat) (S : mS) : Option mR := gd (decide (¬ ((86 : Int32)) < 0 ∧ ¬ ((92 : Int32)) < 0 ∧ ¬ ((354 : Int32)) < 0 ∧ ((86 : Int32)).toNatClampNeg + ((354 : Int32)).toNatClampNeg ≤ 446 ∧ ((92 : Int32)).toNatClampNeg + ((354 : Int32)).toNatClampNeg ≤ 446)) (bnd (seS S ((u0 + 1)) (va_cpy (S ((u0 + 1))) (S ((u0 + 1))) ((86 : Int32)).toNatClampNeg ((92 : Int32)).toNatClampNeg ((354 : Int32)).toNatClampNeg)) (fun S1 => gd (inb ((15 : Int32)) 446) (gd (inb ((15 : Int32)) 446) (bnd (upS S1 ((u0 + 1)) ((15 : Int32)).toNatClampNeg (if ((S1 ((u0 + 1)) ((15 : Int32)).toNatClampNeg) + ((1 : Int32))) < ((60 : Int32)) then ((S1 ((u0 + 1)) ((15 : Int32)).toNatClampNeg) + ((1 : Int32))) else ((60 : Int32)))) (fun S2 => some (.inl none, S2))))))
theorem f_X0_pushRow_ok_26 {d : Nat} {S : mS} {r : mR} (hf : f_X0_pushRow 26 S = some r) : Ev (d) Mx12 (entry Mx12 [.ref 26] S) r := by
  unfold f_X0_pushRow at hf
  refine ev_sts 7 (c2 := (15, [.ref 26], [.int ((354 : Int32)), .int ((92 : Int32)), .ref 27, .int ((86 : Int32)), .ref 27], S, 0)) rfl ?_
  refine ev_gd (c1 := (18, [.ref 26], [], (seS S ((26 + 1)) (va_cpy (S ((26 + 1))) (S ((26 + 1))) ((86 : Int32)).toNatClampNeg ((92 : Int32)).toNatClampNeg ((354 : Int32)).toNatClampNeg)), 0)) hf rfl rfl (fun hf => ?_)
  refine ev_let (P := fun S1 => Ev (d) Mx12 (18, [.ref 26], [], S1, 0) r) (fun S1 hf => ?_) hf
  refine ev_sts 7 (c2 := (32, [.ref 26], [.int ((15 : Int32)), .ref 27, .int ((60 : Int32)), .int ((15 : Int32)), .ref 27], S1, 0)) rfl ?_
  refine ev_gd (c1 := (33, [.ref 26], [.int (S1 ((26 + 1)) ((15 : Int32)).toNatClampNeg), .int ((60 : Int32)), .int ((15 : Int32)), .ref 27], S1, 0)) hf rfl rfl (fun hf => ?_)
  refine ev_sts 3 (c2 := (38, [.ref 26], [.int (if ((S1 ((26 + 1)) ((15 : Int32)).toNatClampNeg) + ((1 : Int32))) < ((60 : Int32)) then ((S1 ((26 + 1)) ((15 : Int32)).toNatClampNeg) + ((1 : Int32))) else ((60 : Int32))), .int ((15 : Int32)), .ref 27], S1, 0)) rfl ?_
  refine ev_gd (c1 := (39, [.ref 26], [], (upS S1 ((26 + 1)) ((15 : Int32)).toNatClampNeg (if ((S1 ((26 + 1)) ((15 : Int32)).toNatClampNeg) + ((1 : Int32))) < ((60 : Int32)) then ((S1 ((26 + 1)) ((15 : Int32)).toNatClampNeg) + ((1 : Int32))) else ((60 : Int32)))), 0)) hf rfl rfl (fun hf => ?_)
  refine ev_let (P := fun S2 => Ev (d) Mx12 (39, [.ref 26], [], S2, 0) r) (fun S2 hf => ?_) hf
  exact ev_ret hf rfl rfl
theorem f_X0_pushRow_ok_24 {d : Nat} {S : mS} {r : mR} (hf : f_X0_pushRow 24 S = some r) : Ev (d) Mx12 (entry Mx12 [.ref 24] S) r := by
  unfold f_X0_pushRow at hf
  refine ev_sts 7 (c2 := (15, [.ref 24], [.int ((354 : Int32)), .int ((92 : Int32)), .ref 25, .int ((86 : Int32)), .ref 25], S, 0)) rfl ?_
  refine ev_gd (c1 := (18, [.ref 24], [], (seS S ((24 + 1)) (va_cpy (S ((24 + 1))) (S ((24 + 1))) ((86 : Int32)).toNatClampNeg ((92 : Int32)).toNatClampNeg ((354 : Int32)).toNatClampNeg)), 0)) hf rfl rfl (fun hf => ?_)
  refine ev_let (P := fun S1 => Ev (d) Mx12 (18, [.ref 24], [], S1, 0) r) (fun S1 hf => ?_) hf
  refine ev_sts 7 (c2 := (32, [.ref 24], [.int ((15 : Int32)), .ref 25, .int ((60 : Int32)), .int ((15 : Int32)), .ref 25], S1, 0)) rfl ?_
  refine ev_gd (c1 := (33, [.ref 24], [.int (S1 ((24 + 1)) ((15 : Int32)).toNatClampNeg), .int ((60 : Int32)), .int ((15 : Int32)), .ref 25], S1, 0)) hf rfl rfl (fun hf => ?_)
  refine ev_sts 3 (c2 := (38, [.ref 24], [.int (if ((S1 ((24 + 1)) ((15 : Int32)).toNatClampNeg) + ((1 : Int32))) < ((60 : Int32)) then ((S1 ((24 + 1)) ((15 : Int32)).toNatClampNeg) + ((1 : Int32))) else ((60 : Int32))), .int ((15 : Int32)), .ref 25], S1, 0)) rfl ?_
  refine ev_gd (c1 := (39, [.ref 24], [], (upS S1 ((24 + 1)) ((15 : Int32)).toNatClampNeg (if ((S1 ((24 + 1)) ((15 : Int32)).toNatClampNeg) + ((1 : Int32))) < ((60 : Int32)) then ((S1 ((24 + 1)) ((15 : Int32)).toNatClampNeg) + ((1 : Int32))) else ((60 : Int32)))), 0)) hf rfl rfl (fun hf => ?_)
  refine ev_let (P := fun S2 => Ev (d) Mx12 (39, [.ref 24], [], S2, 0) r) (fun S2 hf => ?_) hf
  exact ev_ret hf rfl rfl
def f_X0_putNewestRow (u0 : Nat) (p1 : Int32) (p2 : Int32) (S : mS) : Option mR := bV0 (f_X0_put u0 (((86 : Int32)) + p1) p2 S) (fun S1 => some (.inl none, S1))
theorem f_X0_putNewestRow_ok_26 {d : Nat} {p1 : Int32} {p2 : Int32} {S : mS} {r : mR} (hf : f_X0_putNewestRow 26 p1 p2 S = some r) : Ev (d + 1) Mx11 (entry Mx11 [.ref 26, .int p1, .int p2] S) r := by
  unfold f_X0_putNewestRow at hf
  refine ev_sts 5 (c2 := (6, [.ref 26, .int p1, .int p2], [.int p2, .int (((86 : Int32)) + p1), .ref 26], S, 0)) rfl ?_
  refine ev_bV0 (d := d) (M' := Mx2) (ct := (9, [.ref 26, .int p1, .int p2], [], S, 0)) hf rfl rfl rfl rfl (fun r9 h9 => f_X0_put_ok_26 (d := d) h9) (fun S1 hf => ?_)
  show Ev (d + 1) Mx11 (9, [.ref 26, .int p1, .int p2], [], S1, 0) r
  exact ev_ret hf rfl rfl
theorem f_X0_putNewestRow_ok_24 {d : Nat} {p1 : Int32} {p2 : Int32} {S : mS} {r : mR} (hf : f_X0_putNewestRow 24 p1 p2 S = some r) : Ev (d + 1) Mx11 (entry Mx11 [.ref 24, .int p1, .int p2] S) r := by
  unfold f_X0_putNewestRow at hf
  refine ev_sts 5 (c2 := (6, [.ref 24, .int p1, .int p2], [.int p2, .int (((86 : Int32)) + p1), .ref 24], S, 0)) rfl ?_
  refine ev_bV0 (d := d) (M' := Mx2) (ct := (9, [.ref 24, .int p1, .int p2], [], S, 0)) hf rfl rfl rfl rfl (fun r9 h9 => f_X0_put_ok_24 (d := d) h9) (fun S1 hf => ?_)
  show Ev (d + 1) Mx11 (9, [.ref 24, .int p1, .int p2], [], S1, 0) r
  exact ev_ret hf rfl rfl
def f_X7_takeEggs_b67 (u1 : Nat) (x5 : Int32) (S : mS) : Option mR := some (.inl (some (.int x5)), S)
def f_X7_takeEggs_b42 (u1 : Nat) (x2 : Int32) (x4 : Int32) (x5 : Int32) (S : mS) : Option mR := bV0 (f_X0_putLedge u1 x2 ((2 : Int32)) (x4 - x5) S) (fun S7 => (if ¬ x5 = x4 then f_X7_takeEggs_b67 u1 x5 S7 else bV0 (f_X0_putLedge u1 x2 ((3 : Int32)) ((0 : Int32)) S7) (fun S8 => f_X7_takeEggs_b67 u1 x5 S8)))
def f_X7_takeEggs (u1 : Nat) (p2 : Int32) (p3 : Int32) (S : mS) : Option mR := bI0 (f_X0_ofLedge u1 p2 ((2 : Int32)) S) (fun r2 S1 => bnd (if r2 < p3 then r2 else p3 : Int32) (fun y3 => bV0 (f_X0_add u1 ((8 : Int32)) y3 S1) (fun S4 => bI0 (f_X0_ofLedge u1 p2 ((3 : Int32)) S4) (fun r6 S5 => (if r6 ≤ ((3 : Int32)) then f_X7_takeEggs_b42 u1 p2 r2 y3 S5 else bV0 (f_X0_add u1 ((9 : Int32)) y3 S5) (fun S9 => f_X7_takeEggs_b42 u1 p2 r2 y3 S9))))))
theorem f_X7_takeEggs_b67_ok_26 {d : Nat} {x5 : Int32} {S : mS} {r : mR} (hf : f_X7_takeEggs_b67 26 x5 S = some r) : Ev (d + 2) Mx66 (67, [mK, mK, mK, mK, mK, .int x5], [], S, 0) r := by
  unfold f_X7_takeEggs_b67 at hf
  refine ev_sts 1 (c2 := (69, [mK, mK, mK, mK, mK, .int x5], [.int x5], S, 0)) rfl ?_
  exact ev_ret hf rfl rfl
theorem f_X7_takeEggs_b42_ok_26 {d : Nat} {x2 : Int32} {x4 : Int32} {x5 : Int32} {S : mS} {r : mR} (hf : f_X7_takeEggs_b42 26 x2 x4 x5 S = some r) : Ev (d + 2) Mx66 (42, [mK, .ref 26, .int x2, mK, .int x4, .int x5], [], S, 0) r := by
  unfold f_X7_takeEggs_b42 at hf
  refine ev_sts 6 (c2 := (50, [mK, .ref 26, .int x2, mK, .int x4, .int x5], [.int (x4 - x5), .int ((2 : Int32)), .int x2, .ref 26], S, 0)) rfl ?_
  refine ev_bV0 (d := d + 1) (M' := Mx5) (ct := (53, [mK, .ref 26, .int x2, mK, .int x4, .int x5], [], S, 0)) hf rfl rfl rfl rfl (fun r9 h9 => f_X0_putLedge_ok_26 (d := d) h9) (fun S7 hf => ?_)
  show Ev (d + 2) Mx66 (53, [mK, .ref 26, .int x2, mK, .int x4, .int x5], [], S7, 0) r
  refine ev_sts 2 (c2 := (57, [mK, .ref 26, .int x2, mK, .int x4, .int x5], [.int x4, .int x5], S7, 0)) rfl ?_
  refine ev_if (c1 := (67, [mK, mK, mK, mK, mK, .int x5], [], S7, 0)) (c2 := (60, [mK, .ref 26, .int x2, mK, .int x4, .int x5], [], S7, 0)) hf rfl rfl (fun _ hf => ?_) (fun _ hf => ?_)
  · exact f_X7_takeEggs_b67_ok_26 hf
  · refine ev_sts 4 (c2 := (64, [mK, .ref 26, .int x2, mK, .int x4, .int x5], [.int ((0 : Int32)), .int ((3 : Int32)), .int x2, .ref 26], S7, 0)) rfl ?_
    refine ev_bV0 (d := d + 1) (M' := Mx5) (ct := (67, [mK, mK, mK, mK, mK, .int x5], [], S7, 0)) hf rfl rfl rfl rfl (fun r9 h9 => f_X0_putLedge_ok_26 (d := d) h9) (fun S8 hf => ?_)
    show Ev (d + 2) Mx66 (67, [mK, mK, mK, mK, mK, .int x5], [], S8, 0) r
    exact f_X7_takeEggs_b67_ok_26 hf
theorem f_X7_takeEggs_ok_26 {d : Nat} {p2 : Int32} {p3 : Int32} {S : mS} {r : mR} (hf : f_X7_takeEggs 26 p2 p3 S = some r) : Ev (d + 2) Mx66 (entry Mx66 [.ref 32, .ref 26, .int p2, .int p3] S) r := by
  unfold f_X7_takeEggs at hf
  refine ev_sts 3 (c2 := (3, [.ref 32, .ref 26, .int p2, .int p3, mK, mK], [.int ((2 : Int32)), .int p2, .ref 26], S, 0)) rfl ?_
  refine ev_bI0 (d := d + 1) (M' := Mx4) (ct := (6, [.ref 32, .ref 26, .int p2, .int p3, mK, mK], [], S, 0)) hf rfl rfl rfl rfl (fun r9 h9 => f_X0_ofLedge_ok_26 (d := d) h9) (fun r2 S1 hf => ?_)
  show Ev (d + 2) Mx66 (6, [.ref 32, .ref 26, .int p2, .int p3, mK, mK], [.int r2], S1, 0) r
  refine ev_sts 5 (c2 := (16, [.ref 32, .ref 26, .int p2, .int p3, .int r2, .int (if r2 < p3 then r2 else p3)], [], S1, 0)) rfl ?_
  refine ev_let (P := fun y3 => Ev (d + 2) Mx66 (16, [.ref 32, .ref 26, .int p2, .int p3, .int r2, .int y3], [], S1, 0) r) (fun y3 hf => ?_) hf
  refine ev_sts 3 (c2 := (21, [.ref 32, .ref 26, .int p2, .int p3, .int r2, .int y3], [.int y3, .int ((8 : Int32)), .ref 26], S1, 0)) rfl ?_
  refine ev_bV0 (d := d + 1) (M' := Mx3) (ct := (24, [.ref 32, .ref 26, .int p2, .int p3, .int r2, .int y3], [], S1, 0)) hf rfl rfl rfl rfl (fun r9 h9 => f_X0_add_ok_26 (d := d) h9) (fun S4 hf => ?_)
  show Ev (d + 2) Mx66 (24, [.ref 32, .ref 26, .int p2, .int p3, .int r2, .int y3], [], S4, 0) r
  refine ev_sts 3 (c2 := (27, [.ref 32, .ref 26, .int p2, .int p3, .int r2, .int y3], [.int ((3 : Int32)), .int p2, .ref 26], S4, 0)) rfl ?_
  refine ev_bI0 (d := d + 1) (M' := Mx4) (ct := (30, [.ref 32, .ref 26, .int p2, .int p3, .int r2, .int y3], [], S4, 0)) hf rfl rfl rfl rfl (fun r9 h9 => f_X0_ofLedge_ok_26 (d := d) h9) (fun r6 S5 hf => ?_)
  show Ev (d + 2) Mx66 (30, [.ref 32, .ref 26, .int p2, .int p3, .int r2, .int y3], [.int r6], S5, 0) r
  refine ev_sts 1 (c2 := (31, [.ref 32, .ref 26, .int p2, .int p3, .int r2, .int y3], [.int ((3 : Int32)), .int r6], S5, 0)) rfl ?_
  refine ev_if (c1 := (42, [mK, .ref 26, .int p2, mK, .int r2, .int y3], [], S5, 0)) (c2 := (34, [.ref 32, .ref 26, .int p2, .int p3, .int r2, .int y3], [], S5, 0)) hf rfl rfl (fun _ hf => ?_) (fun _ hf => ?_)
  · exact f_X7_takeEggs_b42_ok_26 hf
  · refine ev_sts 3 (c2 := (39, [.ref 32, .ref 26, .int p2, .int p3, .int r2, .int y3], [.int y3, .int ((9 : Int32)), .ref 26], S5, 0)) rfl ?_
    refine ev_bV0 (d := d + 1) (M' := Mx3) (ct := (42, [mK, .ref 26, .int p2, mK, .int r2, .int y3], [], S5, 0)) hf rfl rfl rfl rfl (fun r9 h9 => f_X0_add_ok_26 (d := d) h9) (fun S9 hf => ?_)
    show Ev (d + 2) Mx66 (42, [mK, .ref 26, .int p2, mK, .int r2, .int y3], [], S9, 0) r
    exact f_X7_takeEggs_b42_ok_26 hf
theorem f_X7_takeEggs_b67_ok_24 {d : Nat} {x5 : Int32} {S : mS} {r : mR} (hf : f_X7_takeEggs_b67 24 x5 S = some r) : Ev (d + 2) Mx66 (67, [mK, mK, mK, mK, mK, .int x5], [], S, 0) r := by
  unfold f_X7_takeEggs_b67 at hf
  refine ev_sts 1 (c2 := (69, [mK, mK, mK, mK, mK, .int x5], [.int x5], S, 0)) rfl ?_
  exact ev_ret hf rfl rfl
theorem f_X7_takeEggs_b42_ok_24 {d : Nat} {x2 : Int32} {x4 : Int32} {x5 : Int32} {S : mS} {r : mR} (hf : f_X7_takeEggs_b42 24 x2 x4 x5 S = some r) : Ev (d + 2) Mx66 (42, [mK, .ref 24, .int x2, mK, .int x4, .int x5], [], S, 0) r := by
  unfold f_X7_takeEggs_b42 at hf
  refine ev_sts 6 (c2 := (50, [mK, .ref 24, .int x2, mK, .int x4, .int x5], [.int (x4 - x5), .int ((2 : Int32)), .int x2, .ref 24], S, 0)) rfl ?_
  refine ev_bV0 (d := d + 1) (M' := Mx5) (ct := (53, [mK, .ref 24, .int x2, mK, .int x4, .int x5], [], S, 0)) hf rfl rfl rfl rfl (fun r9 h9 => f_X0_putLedge_ok_24 (d := d) h9) (fun S7 hf => ?_)
  show Ev (d + 2) Mx66 (53, [mK, .ref 24, .int x2, mK, .int x4, .int x5], [], S7, 0) r
  refine ev_sts 2 (c2 := (57, [mK, .ref 24, .int x2, mK, .int x4, .int x5], [.int x4, .int x5], S7, 0)) rfl ?_
  refine ev_if (c1 := (67, [mK, mK, mK, mK, mK, .int x5], [], S7, 0)) (c2 := (60, [mK, .ref 24, .int x2, mK, .int x4, .int x5], [], S7, 0)) hf rfl rfl (fun _ hf => ?_) (fun _ hf => ?_)
  · exact f_X7_takeEggs_b67_ok_24 hf
  · refine ev_sts 4 (c2 := (64, [mK, .ref 24, .int x2, mK, .int x4, .int x5], [.int ((0 : Int32)), .int ((3 : Int32)), .int x2, .ref 24], S7, 0)) rfl ?_
    refine ev_bV0 (d := d + 1) (M' := Mx5) (ct := (67, [mK, mK, mK, mK, mK, .int x5], [], S7, 0)) hf rfl rfl rfl rfl (fun r9 h9 => f_X0_putLedge_ok_24 (d := d) h9) (fun S8 hf => ?_)
    show Ev (d + 2) Mx66 (67, [mK, mK, mK, mK, mK, .int x5], [], S8, 0) r
    exact f_X7_takeEggs_b67_ok_24 hf
theorem f_X7_takeEggs_ok_24 {d : Nat} {p2 : Int32} {p3 : Int32} {S : mS} {r : mR} (hf : f_X7_takeEggs 24 p2 p3 S = some r) : Ev (d + 2) Mx66 (entry Mx66 [.ref 32, .ref 24, .int p2, .int p3] S) r := by
  unfold f_X7_takeEggs at hf
  refine ev_sts 3 (c2 := (3, [.ref 32, .ref 24, .int p2, .int p3, mK, mK], [.int ((2 : Int32)), .int p2, .ref 24], S, 0)) rfl ?_
  refine ev_bI0 (d := d + 1) (M' := Mx4) (ct := (6, [.ref 32, .ref 24, .int p2, .int p3, mK, mK], [], S, 0)) hf rfl rfl rfl rfl (fun r9 h9 => f_X0_ofLedge_ok_24 (d := d) h9) (fun r2 S1 hf => ?_)
  show Ev (d + 2) Mx66 (6, [.ref 32, .ref 24, .int p2, .int p3, mK, mK], [.int r2], S1, 0) r
  refine ev_sts 5 (c2 := (16, [.ref 32, .ref 24, .int p2, .int p3, .int r2, .int (if r2 < p3 then r2 else p3)], [], S1, 0)) rfl ?_
  refine ev_let (P := fun y3 => Ev (d + 2) Mx66 (16, [.ref 32, .ref 24, .int p2, .int p3, .int r2, .int y3], [], S1, 0) r) (fun y3 hf => ?_) hf
  refine ev_sts 3 (c2 := (21, [.ref 32, .ref 24, .int p2, .int p3, .int r2, .int y3], [.int y3, .int ((8 : Int32)), .ref 24], S1, 0)) rfl ?_
  refine ev_bV0 (d := d + 1) (M' := Mx3) (ct := (24, [.ref 32, .ref 24, .int p2, .int p3, .int r2, .int y3], [], S1, 0)) hf rfl rfl rfl rfl (fun r9 h9 => f_X0_add_ok_24 (d := d) h9) (fun S4 hf => ?_)
  show Ev (d + 2) Mx66 (24, [.ref 32, .ref 24, .int p2, .int p3, .int r2, .int y3], [], S4, 0) r
  refine ev_sts 3 (c2 := (27, [.ref 32, .ref 24, .int p2, .int p3, .int r2, .int y3], [.int ((3 : Int32)), .int p2, .ref 24], S4, 0)) rfl ?_
  refine ev_bI0 (d := d + 1) (M' := Mx4) (ct := (30, [.ref 32, .ref 24, .int p2, .int p3, .int r2, .int y3], [], S4, 0)) hf rfl rfl rfl rfl (fun r9 h9 => f_X0_ofLedge_ok_24 (d := d) h9) (fun r6 S5 hf => ?_)
  show Ev (d + 2) Mx66 (30, [.ref 32, .ref 24, .int p2, .int p3, .int r2, .int y3], [.int r6], S5, 0) r
  refine ev_sts 1 (c2 := (31, [.ref 32, .ref 24, .int p2, .int p3, .int r2, .int y3], [.int ((3 : Int32)), .int r6], S5, 0)) rfl ?_
  refine ev_if (c1 := (42, [mK, .ref 24, .int p2, mK, .int r2, .int y3], [], S5, 0)) (c2 := (34, [.ref 32, .ref 24, .int p2, .int p3, .int r2, .int y3], [], S5, 0)) hf rfl rfl (fun _ hf => ?_) (fun _ hf => ?_)
  · exact f_X7_takeEggs_b42_ok_24 hf
  · refine ev_sts 3 (c2 := (39, [.ref 32, .ref 24, .int p2, .int p3, .int r2, .int y3], [.int y3, .int ((9 : Int32)), .ref 24], S5, 0)) rfl ?_
    refine ev_bV0 (d := d + 1) (M' := Mx3) (ct := (42, [mK, .ref 24, .int p2, mK, .int r2, .int y3], [], S5, 0)) hf rfl rfl rfl rfl (fun r9 h9 => f_X0_add_ok_24 (d := d) h9) (fun S9 hf => ?_)
    show Ev (d + 2) Mx66 (42, [mK, .ref 24, .int p2, mK, .int r2, .int y3], [], S9, 0) r
    exact f_X7_takeEggs_b42_ok_24 hf
