def f_X5_forget (S : mS) : Option mR := bnd (upS S 36 2 ((0 : Int32))) (fun S1 => some (.inl none, S1))
theorem f_X5_forget_ok {d : Nat} {S : mS} {r : mR} (hf : f_X5_forget S = some r) : Ev (d) Mx43 (entry Mx43 [.ref 36] S) r := by
  unfold f_X5_forget at hf
  refine ev_sts 3 (c2 := (5, [.ref 36], [], (upS S 36 2 ((0 : Int32))), 0)) rfl ?_
  refine ev_let (P := fun S1 => Ev (d) Mx43 (5, [.ref 36], [], S1, 0) r) (fun S1 hf => ?_) hf
  exact ev_ret hf rfl rfl
def f_X9_back (S : mS) : Option mR := (if ¬ (S 0 13) = 0 then bV0 (f_X0_copy 24 28 S) (fun S1 => bV0 (f_X2_copy 3 17 S1) (fun S2 => bV0 (f_X5_forget S2) (fun S3 => some (.inl (some (.int (((1 : Int32)) &&& 1))), S3)))) else some (.inl (some (.int (((0 : Int32)) &&& 1))), S))
theorem f_X9_back_ok {d : Nat} {S : mS} {r : mR} (hf : f_X9_back S = some r) : Ev (d + 1) Mx137 (entry Mx137 [.ref 0] S) r := by
  unfold f_X9_back at hf
  refine ev_sts 2 (c2 := (4, [.ref 0], [.int (S 0 13)], S, 0)) rfl ?_
  refine ev_if (c1 := (9, [.ref 0], [], S, 0)) (c2 := (7, [.ref 0], [], S, 0)) hf rfl rfl (fun _ hf => ?_) (fun _ hf => ?_)
  · refine ev_sts 4 (c2 := (17, [.ref 0], [.ref 28, .ref 24], S, 0)) rfl ?_
    refine ev_bV0 (d := d) (M' := Mx0) (ct := (20, [.ref 0], [], S, 0)) hf rfl rfl rfl rfl (fun r9 h9 => f_X0_copy_ok_24_28 (d := d) h9) (fun S1 hf => ?_)
    show Ev (d + 1) Mx137 (20, [.ref 0], [], S1, 0) r
    refine ev_sts 4 (c2 := (28, [.ref 0], [.ref 17, .ref 3], S1, 0)) rfl ?_
    refine ev_bV0 (d := d) (M' := Mx31) (ct := (31, [.ref 0], [], S1, 0)) hf rfl rfl rfl rfl (fun r9 h9 => f_X2_copy_ok_3_17 (d := d) h9) (fun S2 hf => ?_)
    show Ev (d + 1) Mx137 (31, [.ref 0], [], S2, 0) r
    refine ev_sts 2 (c2 := (35, [.ref 0], [.ref 36], S2, 0)) rfl ?_
    refine ev_bV0 (d := d) (M' := Mx43) (ct := (38, [.ref 0], [], S2, 0)) hf rfl rfl rfl rfl (fun r9 h9 => f_X5_forget_ok (d := d) h9) (fun S3 hf => ?_)
    show Ev (d + 1) Mx137 (38, [.ref 0], [], S3, 0) r
    refine ev_sts 1 (c2 := (39, [.ref 0], [.int ((1 : Int32))], S3, 0)) rfl ?_
    exact ev_ret hf rfl rfl
  · refine ev_sts 1 (c2 := (8, [.ref 0], [.int ((0 : Int32))], S, 0)) rfl ?_
    exact ev_ret hf rfl rfl
def f_X7_swingOf (F : Nat) (u1 : Nat) (p2 : Int32) (p3 : Int32) (p4 : Int32) (S : mS) : Option mR := bI0 (f_X2_sum F u1 ((0 : Int32)) p2 p3 p4 S) (fun r2 S1 => some (.inl (some (.int (r2 + ((1 : Int32))))), S1))
theorem f_X7_swingOf_ok_26 {d F : Nat} {p2 : Int32} {p3 : Int32} {p4 : Int32} {S : mS} {r : mR} (hf : f_X7_swingOf F 26 p2 p3 p4 S = some r) : Ev (d + 3) Mx57 (entry Mx57 [.ref 32, .ref 26, .int p2, .int p3, .int p4] S) r := by
  unfold f_X7_swingOf at hf
  refine ev_sts 7 (c2 := (10, [.ref 32, .ref 26, .int p2, .int p3, .int p4], [.int p4, .int p3, .int p2, .ref 26, .int ((0 : Int32)), .ref 3], S, 0)) rfl ?_
  refine ev_bI0 (d := d + 2) (M' := Mx32) (ct := (13, [.ref 32, .ref 26, .int p2, .int p3, .int p4], [], S, 0)) hf rfl rfl rfl rfl (fun r9 h9 => f_X2_sum_ok_26 (d := d) h9) (fun r2 S1 hf => ?_)
  show Ev (d + 3) Mx57 (13, [.ref 32, .ref 26, .int p2, .int p3, .int p4], [.int r2], S1, 0) r
  refine ev_sts 2 (c2 := (15, [.ref 32, .ref 26, .int p2, .int p3, .int p4], [.int (r2 + ((1 : Int32)))], S1, 0)) rfl ?_
  exact ev_ret hf rfl rfl
theorem f_X7_swingOf_ok_24 {d F : Nat} {p2 : Int32} {p3 : Int32} {p4 : Int32} {S : mS} {r : mR} (hf : f_X7_swingOf F 24 p2 p3 p4 S = some r) : Ev (d + 3) Mx57 (entry Mx57 [.ref 32, .ref 24, .int p2, .int p3, .int p4] S) r := by
  unfold f_X7_swingOf at hf
  refine ev_sts 7 (c2 := (10, [.ref 32, .ref 24, .int p2, .int p3, .int p4], [.int p4, .int p3, .int p2, .ref 24, .int ((0 : Int32)), .ref 3], S, 0)) rfl ?_
  refine ev_bI0 (d := d + 2) (M' := Mx32) (ct := (13, [.ref 32, .ref 24, .int p2, .int p3, .int p4], [], S, 0)) hf rfl rfl rfl rfl (fun r9 h9 => f_X2_sum_ok_24 (d := d) h9) (fun r2 S1 hf => ?_)
  show Ev (d + 3) Mx57 (13, [.ref 32, .ref 24, .int p2, .int p3, .int p4], [.int r2], S1, 0) r
  refine ev_sts 2 (c2 := (15, [.ref 32, .ref 24, .int p2, .int p3, .int p4], [.int (r2 + ((1 : Int32)))], S1, 0)) rfl ?_
  exact ev_ret hf rfl rfl
def f_X7_kicksTo_b14 (F : Nat) (u1 : Nat) : Nat → Int32 → Int32 → Int32 → Int32 → Int32 → mS → Option mR
  | 0, _, _, _, _, _, _ => none
  | n + 1, x2, x3, x4, x5, x6, S => (if ((12 : Int32)) < x6 then some (.inl (some (.int ((-1 : Int32)))), S) else (if x5 < x4 then bI0 (f_X7_swingOf F u1 x2 (x6 + ((1 : Int32))) x3 S) (fun r4 S3 => bnd (x5 + r4 : Int32) (fun y5 => f_X7_kicksTo_b14 F u1 n x2 x3 x4 y5 (x6 + (1 : Int32)) S3)) else some (.inl (some (.int x6)), S)))
def f_X7_kicksTo (F : Nat) (u1 : Nat) (p2 : Int32) (p3 : Int32) (S : mS) : Option mR := bI0 (f_X0_ofLedge u1 p2 ((1 : Int32)) S) (fun r2 S1 => f_X7_kicksTo_b14 F u1 F p2 p3 r2 ((0 : Int32)) ((0 : Int32)) S1)
theorem f_X7_kicksTo_b14_ok_26 {d F : Nat} : ∀ (n : Nat) {x2 : Int32} {x3 : Int32} {x4 : Int32} {x5 : Int32} {x6 : Int32} {S : mS} {r : mR}, f_X7_kicksTo_b14 F 26 n x2 x3 x4 x5 x6 S = some r → Ev (d + 4) Mx60 (14, [.ref 32, .ref 26, .int x2, .int x3, .int x4, .int x5, .int x6], [], S, 0) r := by
  intro n
  induction n with
  | zero => intro x2 x3 x4 x5 x6 S r hf; cases hf
  | succ n ih =>
    intro x2 x3 x4 x5 x6 S r hf
    rw [f_X7_kicksTo_b14] at hf
    refine ev_sts 2 (c2 := (18, [.ref 32, .ref 26, .int x2, .int x3, .int x4, .int x5, .int x6], [.int ((12 : Int32)), .int x6], S, 0)) rfl ?_
    refine ev_if (c1 := (53, [.ref 32, .ref 26, .int x2, .int x3, .int x4, .int x5, .int x6], [], S, 0)) (c2 := (21, [.ref 32, .ref 26, .int x2, .int x3, .int x4, .int x5, .int x6], [], S, 0)) hf rfl rfl (fun _ hf => ?_) (fun _ hf => ?_)
    · refine ev_sts 1 (c2 := (54, [.ref 32, .ref 26, .int x2, .int x3, .int x4, .int x5, .int x6], [.int ((-1 : Int32))], S, 0)) rfl ?_
      exact ev_ret hf rfl rfl
    · refine ev_sts 2 (c2 := (25, [.ref 32, .ref 26, .int x2, .int x3, .int x4, .int x5, .int x6], [.int x4, .int x5], S, 0)) rfl ?_
      refine ev_if (c1 := (31, [.ref 32, .ref 26, .int x2, .int x3, .int x4, .int x5, .int x6], [], S, 0)) (c2 := (28, [.ref 32, .ref 26, .int x2, .int x3, .int x4, .int x5, .int x6], [], S, 0)) hf rfl rfl (fun _ hf => ?_) (fun _ hf => ?_)
      · refine ev_sts 8 (c2 := (41, [.ref 32, .ref 26, .int x2, .int x3, .int x4, .int x5, .int x6], [.int x3, .int (x6 + ((1 : Int32))), .int x2, .ref 26, .ref 32, .int x5], S, 0)) rfl ?_
        refine ev_bI0 (d := d + 3) (M' := Mx57) (ct := (44, [.ref 32, .ref 26, .int x2, .int x3, .int x4, .int x5, .int x6], [.int x5], S, 0)) hf rfl rfl rfl rfl (fun r9 h9 => f_X7_swingOf_ok_26 (d := d) h9) (fun r4 S3 hf => ?_)
        show Ev (d + 4) Mx60 (44, [.ref 32, .ref 26, .int x2, .int x3, .int x4, .int x5, .int x6], [.int r4, .int x5], S3, 0) r
        refine ev_sts 2 (c2 := (47, [.ref 32, .ref 26, .int x2, .int x3, .int x4, .int (x5 + r4), .int x6], [], S3, 0)) rfl ?_
        refine ev_let (P := fun y5 => Ev (d + 4) Mx60 (47, [.ref 32, .ref 26, .int x2, .int x3, .int x4, .int y5, .int x6], [], S3, 0) r) (fun y5 hf => ?_) hf
        exact ev_sts 2 (c2 := (14, [.ref 32, .ref 26, .int x2, .int x3, .int x4, .int y5, .int (x6 + (1 : Int32))], [], S3, 0)) rfl (ih hf)
      · refine ev_sts 1 (c2 := (30, [.ref 32, .ref 26, .int x2, .int x3, .int x4, .int x5, .int x6], [.int x6], S, 0)) rfl ?_
        exact ev_ret hf rfl rfl
theorem f_X7_kicksTo_ok_26 {d F : Nat} {p2 : Int32} {p3 : Int32} {S : mS} {r : mR} (hf : f_X7_kicksTo F 26 p2 p3 S = some r) : Ev (d + 4) Mx60 (entry Mx60 [.ref 32, .ref 26, .int p2, .int p3] S) r := by
  unfold f_X7_kicksTo at hf
  refine ev_sts 3 (c2 := (3, [.ref 32, .ref 26, .int p2, .int p3, mK, mK, mK], [.int ((1 : Int32)), .int p2, .ref 26], S, 0)) rfl ?_
  refine ev_bI0 (d := d + 3) (M' := Mx4) (ct := (6, [.ref 32, .ref 26, .int p2, .int p3, mK, mK, mK], [], S, 0)) hf rfl rfl rfl rfl (fun r9 h9 => f_X0_ofLedge_ok_26 (d := d + 2) h9) (fun r2 S1 hf => ?_)
  show Ev (d + 4) Mx60 (6, [.ref 32, .ref 26, .int p2, .int p3, mK, mK, mK], [.int r2], S1, 0) r
  exact ev_sts 5 (c2 := (14, [.ref 32, .ref 26, .int p2, .int p3, .int r2, .int ((0 : Int32)), .int ((0 : Int32))], [], S1, 0)) rfl (f_X7_kicksTo_b14_ok_26 _ hf)
theorem f_X7_kicksTo_b14_ok_24 {d F : Nat} : ∀ (n : Nat) {x2 : Int32} {x3 : Int32} {x4 : Int32} {x5 : Int32} {x6 : Int32} {S : mS} {r : mR}, f_X7_kicksTo_b14 F 24 n x2 x3 x4 x5 x6 S = some r → Ev (d + 4) Mx60 (14, [.ref 32, .ref 24, .int x2, .int x3, .int x4, .int x5, .int x6], [], S, 0) r := by
  intro n
  induction n with
  | zero => intro x2 x3 x4 x5 x6 S r hf; cases hf
  | succ n ih =>
    intro x2 x3 x4 x5 x6 S r hf
    rw [f_X7_kicksTo_b14] at hf
    refine ev_sts 2 (c2 := (18, [.ref 32, .ref 24, .int x2, .int x3, .int x4, .int x5, .int x6], [.int ((12 : Int32)), .int x6], S, 0)) rfl ?_
    refine ev_if (c1 := (53, [.ref 32, .ref 24, .int x2, .int x3, .int x4, .int x5, .int x6], [], S, 0)) (c2 := (21, [.ref 32, .ref 24, .int x2, .int x3, .int x4, .int x5, .int x6], [], S, 0)) hf rfl rfl (fun _ hf => ?_) (fun _ hf => ?_)
    · refine ev_sts 1 (c2 := (54, [.ref 32, .ref 24, .int x2, .int x3, .int x4, .int x5, .int x6], [.int ((-1 : Int32))], S, 0)) rfl ?_
      exact ev_ret hf rfl rfl
    · refine ev_sts 2 (c2 := (25, [.ref 32, .ref 24, .int x2, .int x3, .int x4, .int x5, .int x6], [.int x4, .int x5], S, 0)) rfl ?_
      refine ev_if (c1 := (31, [.ref 32, .ref 24, .int x2, .int x3, .int x4, .int x5, .int x6], [], S, 0)) (c2 := (28, [.ref 32, .ref 24, .int x2, .int x3, .int x4, .int x5, .int x6], [], S, 0)) hf rfl rfl (fun _ hf => ?_) (fun _ hf => ?_)
      · refine ev_sts 8 (c2 := (41, [.ref 32, .ref 24, .int x2, .int x3, .int x4, .int x5, .int x6], [.int x3, .int (x6 + ((1 : Int32))), .int x2, .ref 24, .ref 32, .int x5], S, 0)) rfl ?_
        refine ev_bI0 (d := d + 3) (M' := Mx57) (ct := (44, [.ref 32, .ref 24, .int x2, .int x3, .int x4, .int x5, .int x6], [.int x5], S, 0)) hf rfl rfl rfl rfl (fun r9 h9 => f_X7_swingOf_ok_24 (d := d) h9) (fun r4 S3 hf => ?_)
        show Ev (d + 4) Mx60 (44, [.ref 32, .ref 24, .int x2, .int x3, .int x4, .int x5, .int x6], [.int r4, .int x5], S3, 0) r
        refine ev_sts 2 (c2 := (47, [.ref 32, .ref 24, .int x2, .int x3, .int x4, .int (x5 + r4), .int x6], [], S3, 0)) rfl ?_
        refine ev_let (P := fun y5 => Ev (d + 4) Mx60 (47, [.ref 32, .ref 24, .int x2, .int x3, .int x4, .int y5, .int x6], [], S3, 0) r) (fun y5 hf => ?_) hf
        exact ev_sts 2 (c2 := (14, [.ref 32, .ref 24, .int x2, .int x3, .int x4, .int y5, .int (x6 + (1 : Int32))], [], S3, 0)) rfl (ih hf)
      · refine ev_sts 1 (c2 := (30, [.ref 32, .ref 24, .int x2, .int x3, .int x4, .int x5, .int x6], [.int x6], S, 0)) rfl ?_
        exact ev_ret hf rfl rfl
theorem f_X7_kicksTo_ok_24 {d F : Nat} {p2 : Int32} {p3 : Int32} {S : mS} {r : mR} (hf : f_X7_kicksTo F 24 p2 p3 S = some r) : Ev (d + 4) Mx60 (entry Mx60 [.ref 32, .ref 24, .int p2, .int p3] S) r := by
  unfold f_X7_kicksTo at hf
  refine ev_sts 3 (c2 := (3, [.ref 32, .ref 24, .int p2, .int p3, mK, mK, mK], [.int ((1 : Int32)), .int p2, .ref 24], S, 0)) rfl ?_
  refine ev_bI0 (d := d + 3) (M' := Mx4) (ct := (6, [.ref 32, .ref 24, .int p2, .int p3, mK, mK, mK], [], S, 0)) hf rfl rfl rfl rfl (fun r9 h9 => f_X0_ofLedge_ok_24 (d := d + 2) h9) (fun r2 S1 hf => ?_)
  show Ev (d + 4) Mx60 (6, [.ref 32, .ref 24, .int p2, .int p3, mK, mK, mK], [.int r2], S1, 0) r
  exact ev_sts 5 (c2 := (14, [.ref 32, .ref 24, .int p2, .int p3, .int r2, .int ((0 : Int32)), .int ((0 : Int32))], [], S1, 0)) rfl (f_X7_kicksTo_b14_ok_24 _ hf)
def f_X9_calm_b54 (K13 : Int32 → Int32 → Int32 → Int32 → mS → Option mR) (F : Nat) (x1 : Int32) (x2 : Int32) (x3 : Int32) (x4 : Int32) (S : mS) : Option mR := K13 x1 x2 x3 (x4 + (1 : Int32)) S
def f_X9_calm_b13 (F : Nat) : Nat → Int32 → Int32 → Int32 → Int32 → mS → Option mR
  | 0, _, _, _, _, _ => none
  | n + 1, x1, x2, x3, x4, S => (if ((9 : Int32)) < x4 then some (.inl (some (.int x2)), S) else bI0 (f_X7_kicksTo F 24 x1 x4 S) (fun r3 S2 => (if r3 = ((-1 : Int32)) then f_X9_calm_b54 (fun x1 x2 x3 x4 S => f_X9_calm_b13 F n x1 x2 x3 x4 S) F x1 x2 x3 x4 S2 else (if x3 ≤ r3 then f_X9_calm_b54 (fun x1 x2 x3 x4 S => f_X9_calm_b13 F n x1 x2 x3 x4 S) F x1 x2 x3 x4 S2 else f_X9_calm_b54 (fun x1 x2 x3 x4 S => f_X9_calm_b13 F n x1 x2 x3 x4 S) F x1 x4 r3 x4 S2))))
def f_X9_calm (F : Nat) (p1 : Int32) (S : mS) : Option mR := bV (f_X9_needLedge p1 S) (fun S1 => f_X9_calm_b13 F F p1 ((-1 : Int32)) ((13 : Int32)) ((0 : Int32)) S1)
theorem f_X9_calm_b54_ok {d F : Nat} {K13 : Int32 → Int32 → Int32 → Int32 → mS → Option mR} (hK13 : ∀ {x1 : Int32} {x2 : Int32} {x3 : Int32} {x4 : Int32} {S : mS} {r : mR}, K13 x1 x2 x3 x4 S = some r → Ev (d + 5) Mx118 (13, [.ref 0, .int x1, .int x2, .int x3, .int x4, mK], [], S, 1) r) {x1 : Int32} {x2 : Int32} {x3 : Int32} {x4 : Int32} {S : mS} {r : mR} (hf : f_X9_calm_b54 K13 F x1 x2 x3 x4 S = some r) : Ev (d + 5) Mx118 (54, [.ref 0, .int x1, .int x2, .int x3, .int x4, mK], [], S, 1) r := by
  unfold f_X9_calm_b54 at hf
  exact ev_sts 2 (c2 := (13, [.ref 0, .int x1, .int x2, .int x3, .int (x4 + (1 : Int32)), mK], [], S, 1)) rfl (hK13 hf)
theorem f_X9_calm_b13_ok {d F : Nat} : ∀ (n : Nat) {x1 : Int32} {x2 : Int32} {x3 : Int32} {x4 : Int32} {S : mS} {r : mR}, f_X9_calm_b13 F n x1 x2 x3 x4 S = some r → Ev (d + 5) Mx118 (13, [.ref 0, .int x1, .int x2, .int x3, .int x4, mK], [], S, 1) r := by
  intro n
  induction n with
  | zero => intro x1 x2 x3 x4 S r hf; cases hf
  | succ n ih =>
    intro x1 x2 x3 x4 S r hf
    rw [f_X9_calm_b13] at hf
    refine ev_sts 2 (c2 := (17, [.ref 0, .int x1, .int x2, .int x3, .int x4, mK], [.int ((9 : Int32)), .int x4], S, 1)) rfl ?_
    refine ev_if (c1 := (60, [.ref 0, .int x1, .int x2, .int x3, .int x4, mK], [], S, 1)) (c2 := (20, [.ref 0, .int x1, .int x2, .int x3, .int x4, mK], [], S, 1)) hf rfl rfl (fun _ hf => ?_) (fun _ hf => ?_)
    · refine ev_sts 1 (c2 := (61, [.ref 0, .int x1, .int x2, .int x3, .int x4, mK], [.int x2], S, 1)) rfl ?_
      exact ev_ret hf rfl rfl
    · refine ev_sts 6 (c2 := (31, [.ref 0, .int x1, .int x2, .int x3, .int x4, mK], [.int x4, .int x1, .ref 24, .ref 32], S, 1)) rfl ?_
      refine ev_bI0 (d := d + 4) (M' := Mx60) (ct := (34, [.ref 0, .int x1, .int x2, .int x3, .int x4, mK], [], S, 1)) hf rfl rfl rfl rfl (fun r9 h9 => f_X7_kicksTo_ok_24 (d := d) h9) (fun r3 S2 hf => ?_)
      show Ev (d + 5) Mx118 (34, [.ref 0, .int x1, .int x2, .int x3, .int x4, mK], [.int r3], S2, 1) r
      refine ev_sts 3 (c2 := (39, [.ref 0, .int x1, .int x2, .int x3, .int x4, .int r3], [.int ((-1 : Int32)), .int r3], S2, 1)) rfl ?_
      refine ev_if (c1 := (54, [.ref 0, .int x1, .int x2, .int x3, .int x4, mK], [], S2, 1)) (c2 := (42, [.ref 0, .int x1, .int x2, .int x3, .int x4, .int r3], [], S2, 1)) hf rfl rfl (fun _ hf => ?_) (fun _ hf => ?_)
      · exact f_X9_calm_b54_ok (fun h9 => ih h9) hf
      · refine ev_sts 2 (c2 := (45, [.ref 0, .int x1, .int x2, .int x3, .int x4, .int r3], [.int x3, .int r3], S2, 1)) rfl ?_
        refine ev_if (c1 := (54, [.ref 0, .int x1, .int x2, .int x3, .int x4, mK], [], S2, 1)) (c2 := (48, [.ref 0, .int x1, .int x2, .int x3, .int x4, .int r3], [], S2, 1)) hf rfl rfl (fun _ hf => ?_) (fun _ hf => ?_)
        · exact f_X9_calm_b54_ok (fun h9 => ih h9) hf
        · exact ev_sts 4 (c2 := (54, [.ref 0, .int x1, .int x4, .int r3, .int x4, mK], [], S2, 1)) rfl (f_X9_calm_b54_ok (fun h9 => ih h9) hf)
theorem f_X9_calm_ok {d F : Nat} {p1 : Int32} {S : mS} {r : mR} (hf : f_X9_calm F p1 S = some r) : Ev (d + 5) Mx118 (entry Mx118 [.ref 0, .int p1] S) r := by
  unfold f_X9_calm at hf
  refine ev_sts 2 (c2 := (2, [.ref 0, .int p1, mK, mK, mK, mK], [.int p1, .ref 0], S, 0)) rfl ?_
  refine ev_bV (d := d + 4) (M' := Mx139) (ct := (5, [.ref 0, .int p1, mK, mK, mK, mK], [], S, 1)) hf rfl rfl rfl rfl (by decide) (fun r9 h9 => f_X9_needLedge_ok (d := d + 3) h9) (fun S1 hf => ?_)
  show Ev (d + 5) Mx118 (5, [.ref 0, .int p1, mK, mK, mK, mK], [], S1, 1) r
  exact ev_sts 6 (c2 := (13, [.ref 0, .int p1, .int ((-1 : Int32)), .int ((13 : Int32)), .int ((0 : Int32)), mK], [], S1, 1)) rfl (f_X9_calm_b13_ok _ hf)
def f_X5_remember_b46 (S : mS) : Option mR := some (.inl none, S)
def f_X5_remember (S : mS) : Option mR := (if (S 36 1) = (0 : Int32) then bV0 (f_X0_copy 38 24 S) (fun S2 => gd (decide (¬ (12 : Int32) = 0)) (bnd (upS S2 36 1 (((S2 36 1) + ((1 : Int32))) - ((S2 36 1) + ((1 : Int32))) / ((12 : Int32)) * ((12 : Int32)))) (fun S3 => bnd (upS S3 36 2 (if ((S3 36 2) + ((1 : Int32))) < ((12 : Int32)) then ((S3 36 2) + ((1 : Int32))) else ((12 : Int32)))) (fun S4 => f_X5_remember_b46 S4)))) else if (S 36 1) = (1 : Int32) then bV0 (f_X0_copy 40 24 S) (fun S6 => gd (decide (¬ (12 : Int32) = 0)) (bnd (upS S6 36 1 (((S6 36 1) + ((1 : Int32))) - ((S6 36 1) + ((1 : Int32))) / ((12 : Int32)) * ((12 : Int32)))) (fun S7 => bnd (upS S7 36 2 (if ((S7 36 2) + ((1 : Int32))) < ((12 : Int32)) then ((S7 36 2) + ((1 : Int32))) else ((12 : Int32)))) (fun S8 => f_X5_remember_b46 S8)))) else if (S 36 1) = (2 : Int32) then bV0 (f_X0_copy 42 24 S) (fun S10 => gd (decide (¬ (12 : Int32) = 0)) (bnd (upS S10 36 1 (((S10 36 1) + ((1 : Int32))) - ((S10 36 1) + ((1 : Int32))) / ((12 : Int32)) * ((12 : Int32)))) (fun S11 => bnd (upS S11 36 2 (if ((S11 36 2) + ((1 : Int32))) < ((12 : Int32)) then ((S11 36 2) + ((1 : Int32))) else ((12 : Int32)))) (fun S12 => f_X5_remember_b46 S12)))) else if (S 36 1) = (3 : Int32) then bV0 (f_X0_copy 44 24 S) (fun S14 => gd (decide (¬ (12 : Int32) = 0)) (bnd (upS S14 36 1 (((S14 36 1) + ((1 : Int32))) - ((S14 36 1) + ((1 : Int32))) / ((12 : Int32)) * ((12 : Int32)))) (fun S15 => bnd (upS S15 36 2 (if ((S15 36 2) + ((1 : Int32))) < ((12 : Int32)) then ((S15 36 2) + ((1 : Int32))) else ((12 : Int32)))) (fun S16 => f_X5_remember_b46 S16)))) else if (S 36 1) = (4 : Int32) then bV0 (f_X0_copy 46 24 S) (fun S18 => gd (decide (¬ (12 : Int32) = 0)) (bnd (upS S18 36 1 (((S18 36 1) + ((1 : Int32))) - ((S18 36 1) + ((1 : Int32))) / ((12 : Int32)) * ((12 : Int32)))) (fun S19 => bnd (upS S19 36 2 (if ((S19 36 2) + ((1 : Int32))) < ((12 : Int32)) then ((S19 36 2) + ((1 : Int32))) else ((12 : Int32)))) (fun S20 => f_X5_remember_b46 S20)))) else if (S 36 1) = (5 : Int32) then bV0 (f_X0_copy 48 24 S) (fun S22 => gd (decide (¬ (12 : Int32) = 0)) (bnd (upS S22 36 1 (((S22 36 1) + ((1 : Int32))) - ((S22 36 1) + ((1 : Int32))) / ((12 : Int32)) * ((12 : Int32)))) (fun S23 => bnd (upS S23 36 2 (if ((S23 36 2) + ((1 : Int32))) < ((12 : Int32)) then ((S23 36 2) + ((1 : Int32))) else ((12 : Int32)))) (fun S24 => f_X5_remember_b46 S24)))) else if (S 36 1) = (6 : Int32) then bV0 (f_X0_copy 50 24 S) (fun S26 => gd (decide (¬ (12 : Int32) = 0)) (bnd (upS S26 36 1 (((S26 36 1) + ((1 : Int32))) - ((S26 36 1) + ((1 : Int32))) / ((12 : Int32)) * ((12 : Int32)))) (fun S27 => bnd (upS S27 36 2 (if ((S27 36 2) + ((1 : Int32))) < ((12 : Int32)) then ((S27 36 2) + ((1 : Int32))) else ((12 : Int32)))) (fun S28 => f_X5_remember_b46 S28)))) else if (S 36 1) = (7 : Int32) then bV0 (f_X0_copy 52 24 S) (fun S30 => gd (decide (¬ (12 : Int32) = 0)) (bnd (upS S30 36 1 (((S30 36 1) + ((1 : Int32))) - ((S30 36 1) + ((1 : Int32))) / ((12 : Int32)) * ((12 : Int32)))) (fun S31 => bnd (upS S31 36 2 (if ((S31 36 2) + ((1 : Int32))) < ((12 : Int32)) then ((S31 36 2) + ((1 : Int32))) else ((12 : Int32)))) (fun S32 => f_X5_remember_b46 S32)))) else if (S 36 1) = (8 : Int32) then bV0 (f_X0_copy 54 24 S) (fun S34 => gd (decide (¬ (12 : Int32) = 0)) (bnd (upS S34 36 1 (((S34 36 1) + ((1 : Int32))) - ((S34 36 1) + ((1 : Int32))) / ((12 : Int32)) * ((12 : Int32)))) (fun S35 => bnd (upS S35 36 2 (if ((S35 36 2) + ((1 : Int32))) < ((12 : Int32)) then ((S35 36 2) + ((1 : Int32))) else ((12 : Int32)))) (fun S36 => f_X5_remember_b46 S36)))) else if (S 36 1) = (9 : Int32) then bV0 (f_X0_copy 56 24 S) (fun S38 => gd (decide (¬ (12 : Int32) = 0)) (bnd (upS S38 36 1 (((S38 36 1) + ((1 : Int32))) - ((S38 36 1) + ((1 : Int32))) / ((12 : Int32)) * ((12 : Int32)))) (fun S39 => bnd (upS S39 36 2 (if ((S39 36 2) + ((1 : Int32))) < ((12 : Int32)) then ((S39 36 2) + ((1 : Int32))) else ((12 : Int32)))) (fun S40 => f_X5_remember_b46 S40)))) else if (S 36 1) = (10 : Int32) then bV0 (f_X0_copy 58 24 S) (fun S42 => gd (decide (¬ (12 : Int32) = 0)) (bnd (upS S42 36 1 (((S42 36 1) + ((1 : Int32))) - ((S42 36 1) + ((1 : Int32))) / ((12 : Int32)) * ((12 : Int32)))) (fun S43 => bnd (upS S43 36 2 (if ((S43 36 2) + ((1 : Int32))) < ((12 : Int32)) then ((S43 36 2) + ((1 : Int32))) else ((12 : Int32)))) (fun S44 => f_X5_remember_b46 S44)))) else if (S 36 1) = (11 : Int32) then bV0 (f_X0_copy 60 24 S) (fun S46 => gd (decide (¬ (12 : Int32) = 0)) (bnd (upS S46 36 1 (((S46 36 1) + ((1 : Int32))) - ((S46 36 1) + ((1 : Int32))) / ((12 : Int32)) * ((12 : Int32)))) (fun S47 => bnd (upS S47 36 2 (if ((S47 36 2) + ((1 : Int32))) < ((12 : Int32)) then ((S47 36 2) + ((1 : Int32))) else ((12 : Int32)))) (fun S48 => f_X5_remember_b46 S48)))) else none)
theorem f_X5_remember_b46_ok {d : Nat} {S : mS} {r : mR} (hf : f_X5_remember_b46  S = some r) : Ev (d + 1) Mx44 (46, [mK, mK, mK], [], S, 0) r := by
  unfold f_X5_remember_b46 at hf
  exact ev_ret hf rfl rfl
theorem f_X5_remember_ok {d : Nat} {S : mS} {r : mR} (hf : f_X5_remember S = some r) : Ev (d + 1) Mx44 (entry Mx44 [.ref 36, .ref 24] S) r := by
  unfold f_X5_remember at hf
  refine ev_sts 3 (c2 := (5, [.ref 36, .ref 24, mK], [.int (S 36 1), .ref 36], S, 0)) rfl ?_
  rcases ite_or hf with ⟨h0, hf⟩ | ⟨h0, hf⟩
  · refine ev_callr (d := d) (M' := Mx46) (ct := (8, [.ref 36, .ref 24, mK], [], S, 0)) (w := some (.ref 38)) (S1 := S) rfl rfl rfl rfl (placeAt_0 (d := d) h0) ?_
    show Ev (d + 1) Mx44 (8, [.ref 36, .ref 24, mK], [.ref 38], S, 0) r
    refine ev_sts 5 (c2 := (15, [.ref 36, .ref 24, .ref 38], [.ref 24, .ref 38], S, 0)) rfl ?_
    refine ev_bV0 (d := d) (M' := Mx0) (ct := (18, [.ref 36, .ref 24, .ref 38], [], S, 0)) hf rfl rfl rfl rfl (fun r9 h9 => f_X0_copy_ok_38_24 (d := d) h9) (fun S2 hf => ?_)
    show Ev (d + 1) Mx44 (18, [.ref 36, .ref 24, .ref 38], [], S2, 0) r
    refine ev_sts 6 (c2 := (27, [.ref 36, .ref 24, .ref 38], [.int ((12 : Int32)), .int ((S2 36 1) + ((1 : Int32))), .ref 36], S2, 0)) rfl ?_
    refine ev_gd (c1 := (28, [.ref 36, .ref 24, .ref 38], [.int (((S2 36 1) + ((1 : Int32))) - ((S2 36 1) + ((1 : Int32))) / ((12 : Int32)) * ((12 : Int32))), .ref 36], S2, 0)) hf rfl rfl (fun hf => ?_)
    refine ev_sts 1 (c2 := (31, [.ref 36, .ref 24, .ref 38], [], (upS S2 36 1 (((S2 36 1) + ((1 : Int32))) - ((S2 36 1) + ((1 : Int32))) / ((12 : Int32)) * ((12 : Int32)))), 0)) rfl ?_
    refine ev_let (P := fun S3 => Ev (d + 1) Mx44 (31, [.ref 36, .ref 24, .ref 38], [], S3, 0) r) (fun S3 hf => ?_) hf
    refine ev_sts 8 (c2 := (46, [mK, mK, mK], [], (upS S3 36 2 (if ((S3 36 2) + ((1 : Int32))) < ((12 : Int32)) then ((S3 36 2) + ((1 : Int32))) else ((12 : Int32)))), 0)) rfl ?_
    refine ev_let (P := fun S4 => Ev (d + 1) Mx44 (46, [mK, mK, mK], [], S4, 0) r) (fun S4 hf => ?_) hf
    exact f_X5_remember_b46_ok hf
  rcases ite_or hf with ⟨h4, hf⟩ | ⟨h4, hf⟩
  · refine ev_callr (d := d) (M' := Mx46) (ct := (8, [.ref 36, .ref 24, mK], [], S, 0)) (w := some (.ref 40)) (S1 := S) rfl rfl rfl rfl (placeAt_1 (d := d) h4) ?_
    show Ev (d + 1) Mx44 (8, [.ref 36, .ref 24, mK], [.ref 40], S, 0) r
    refine ev_sts 5 (c2 := (15, [.ref 36, .ref 24, .ref 40], [.ref 24, .ref 40], S, 0)) rfl ?_
    refine ev_bV0 (d := d) (M' := Mx0) (ct := (18, [.ref 36, .ref 24, .ref 40], [], S, 0)) hf rfl rfl rfl rfl (fun r9 h9 => f_X0_copy_ok_40_24 (d := d) h9) (fun S6 hf => ?_)
    show Ev (d + 1) Mx44 (18, [.ref 36, .ref 24, .ref 40], [], S6, 0) r
    refine ev_sts 6 (c2 := (27, [.ref 36, .ref 24, .ref 40], [.int ((12 : Int32)), .int ((S6 36 1) + ((1 : Int32))), .ref 36], S6, 0)) rfl ?_
    refine ev_gd (c1 := (28, [.ref 36, .ref 24, .ref 40], [.int (((S6 36 1) + ((1 : Int32))) - ((S6 36 1) + ((1 : Int32))) / ((12 : Int32)) * ((12 : Int32))), .ref 36], S6, 0)) hf rfl rfl (fun hf => ?_)
    refine ev_sts 1 (c2 := (31, [.ref 36, .ref 24, .ref 40], [], (upS S6 36 1 (((S6 36 1) + ((1 : Int32))) - ((S6 36 1) + ((1 : Int32))) / ((12 : Int32)) * ((12 : Int32)))), 0)) rfl ?_
    refine ev_let (P := fun S7 => Ev (d + 1) Mx44 (31, [.ref 36, .ref 24, .ref 40], [], S7, 0) r) (fun S7 hf => ?_) hf
    refine ev_sts 8 (c2 := (46, [mK, mK, mK], [], (upS S7 36 2 (if ((S7 36 2) + ((1 : Int32))) < ((12 : Int32)) then ((S7 36 2) + ((1 : Int32))) else ((12 : Int32)))), 0)) rfl ?_
    refine ev_let (P := fun S8 => Ev (d + 1) Mx44 (46, [mK, mK, mK], [], S8, 0) r) (fun S8 hf => ?_) hf
    exact f_X5_remember_b46_ok hf
  rcases ite_or hf with ⟨h8, hf⟩ | ⟨h8, hf⟩
  · refine ev_callr (d := d) (M' := Mx46) (ct := (8, [.ref 36, .ref 24, mK], [], S, 0)) (w := some (.ref 42)) (S1 := S) rfl rfl rfl rfl (placeAt_2 (d := d) h8) ?_
    show Ev (d + 1) Mx44 (8, [.ref 36, .ref 24, mK], [.ref 42], S, 0) r
    refine ev_sts 5 (c2 := (15, [.ref 36, .ref 24, .ref 42], [.ref 24, .ref 42], S, 0)) rfl ?_
    refine ev_bV0 (d := d) (M' := Mx0) (ct := (18, [.ref 36, .ref 24, .ref 42], [], S, 0)) hf rfl rfl rfl rfl (fun r9 h9 => f_X0_copy_ok_42_24 (d := d) h9) (fun S10 hf => ?_)
    show Ev (d + 1) Mx44 (18, [.ref 36, .ref 24, .ref 42], [], S10, 0) r
    refine ev_sts 6 (c2 := (27, [.ref 36, .ref 24, .ref 42], [.int ((12 : Int32)), .int ((S10 36 1) + ((1 : Int32))), .ref 36], S10, 0)) rfl ?_
    refine ev_gd (c1 := (28, [.ref 36, .ref 24, .ref 42], [.int (((S10 36 1) + ((1 : Int32))) - ((S10 36 1) + ((1 : Int32))) / ((12 : Int32)) * ((12 : Int32))), .ref 36], S10, 0)) hf rfl rfl (fun hf => ?_)
    refine ev_sts 1 (c2 := (31, [.ref 36, .ref 24, .ref 42], [], (upS S10 36 1 (((S10 36 1) + ((1 : Int32))) - ((S10 36 1) + ((1 : Int32))) / ((12 : Int32)) * ((12 : Int32)))), 0)) rfl ?_
    refine ev_let (P := fun S11 => Ev (d + 1) Mx44 (31, [.ref 36, .ref 24, .ref 42], [], S11, 0) r) (fun S11 hf => ?_) hf
    refine ev_sts 8 (c2 := (46, [mK, mK, mK], [], (upS S11 36 2 (if ((S11 36 2) + ((1 : Int32))) < ((12 : Int32)) then ((S11 36 2) + ((1 : Int32))) else ((12 : Int32)))), 0)) rfl ?_
    refine ev_let (P := fun S12 => Ev (d + 1) Mx44 (46, [mK, mK, mK], [], S12, 0) r) (fun S12 hf => ?_) hf
    exact f_X5_remember_b46_ok hf
  rcases ite_or hf with ⟨h12, hf⟩ | ⟨h12, hf⟩
  · refine ev_callr (d := d) (M' := Mx46) (ct := (8, [.ref 36, .ref 24, mK], [], S, 0)) (w := some (.ref 44)) (S1 := S) rfl rfl rfl rfl (placeAt_3 (d := d) h12) ?_
    show Ev (d + 1) Mx44 (8, [.ref 36, .ref 24, mK], [.ref 44], S, 0) r
    refine ev_sts 5 (c2 := (15, [.ref 36, .ref 24, .ref 44], [.ref 24, .ref 44], S, 0)) rfl ?_
    refine ev_bV0 (d := d) (M' := Mx0) (ct := (18, [.ref 36, .ref 24, .ref 44], [], S, 0)) hf rfl rfl rfl rfl (fun r9 h9 => f_X0_copy_ok_44_24 (d := d) h9) (fun S14 hf => ?_)
    show Ev (d + 1) Mx44 (18, [.ref 36, .ref 24, .ref 44], [], S14, 0) r
    refine ev_sts 6 (c2 := (27, [.ref 36, .ref 24, .ref 44], [.int ((12 : Int32)), .int ((S14 36 1) + ((1 : Int32))), .ref 36], S14, 0)) rfl ?_
    refine ev_gd (c1 := (28, [.ref 36, .ref 24, .ref 44], [.int (((S14 36 1) + ((1 : Int32))) - ((S14 36 1) + ((1 : Int32))) / ((12 : Int32)) * ((12 : Int32))), .ref 36], S14, 0)) hf rfl rfl (fun hf => ?_)
    refine ev_sts 1 (c2 := (31, [.ref 36, .ref 24, .ref 44], [], (upS S14 36 1 (((S14 36 1) + ((1 : Int32))) - ((S14 36 1) + ((1 : Int32))) / ((12 : Int32)) * ((12 : Int32)))), 0)) rfl ?_
    refine ev_let (P := fun S15 => Ev (d + 1) Mx44 (31, [.ref 36, .ref 24, .ref 44], [], S15, 0) r) (fun S15 hf => ?_) hf
    refine ev_sts 8 (c2 := (46, [mK, mK, mK], [], (upS S15 36 2 (if ((S15 36 2) + ((1 : Int32))) < ((12 : Int32)) then ((S15 36 2) + ((1 : Int32))) else ((12 : Int32)))), 0)) rfl ?_
    refine ev_let (P := fun S16 => Ev (d + 1) Mx44 (46, [mK, mK, mK], [], S16, 0) r) (fun S16 hf => ?_) hf
    exact f_X5_remember_b46_ok hf
  rcases ite_or hf with ⟨h16, hf⟩ | ⟨h16, hf⟩
  · refine ev_callr (d := d) (M' := Mx46) (ct := (8, [.ref 36, .ref 24, mK], [], S, 0)) (w := some (.ref 46)) (S1 := S) rfl rfl rfl rfl (placeAt_4 (d := d) h16) ?_
    show Ev (d + 1) Mx44 (8, [.ref 36, .ref 24, mK], [.ref 46], S, 0) r
    refine ev_sts 5 (c2 := (15, [.ref 36, .ref 24, .ref 46], [.ref 24, .ref 46], S, 0)) rfl ?_
    refine ev_bV0 (d := d) (M' := Mx0) (ct := (18, [.ref 36, .ref 24, .ref 46], [], S, 0)) hf rfl rfl rfl rfl (fun r9 h9 => f_X0_copy_ok_46_24 (d := d) h9) (fun S18 hf => ?_)
    show Ev (d + 1) Mx44 (18, [.ref 36, .ref 24, .ref 46], [], S18, 0) r
    refine ev_sts 6 (c2 := (27, [.ref 36, .ref 24, .ref 46], [.int ((12 : Int32)), .int ((S18 36 1) + ((1 : Int32))), .ref 36], S18, 0)) rfl ?_
    refine ev_gd (c1 := (28, [.ref 36, .ref 24, .ref 46], [.int (((S18 36 1) + ((1 : Int32))) - ((S18 36 1) + ((1 : Int32))) / ((12 : Int32)) * ((12 : Int32))), .ref 36], S18, 0)) hf rfl rfl (fun hf => ?_)
    refine ev_sts 1 (c2 := (31, [.ref 36, .ref 24, .ref 46], [], (upS S18 36 1 (((S18 36 1) + ((1 : Int32))) - ((S18 36 1) + ((1 : Int32))) / ((12 : Int32)) * ((12 : Int32)))), 0)) rfl ?_
    refine ev_let (P := fun S19 => Ev (d + 1) Mx44 (31, [.ref 36, .ref 24, .ref 46], [], S19, 0) r) (fun S19 hf => ?_) hf
    refine ev_sts 8 (c2 := (46, [mK, mK, mK], [], (upS S19 36 2 (if ((S19 36 2) + ((1 : Int32))) < ((12 : Int32)) then ((S19 36 2) + ((1 : Int32))) else ((12 : Int32)))), 0)) rfl ?_
    refine ev_let (P := fun S20 => Ev (d + 1) Mx44 (46, [mK, mK, mK], [], S20, 0) r) (fun S20 hf => ?_) hf
    exact f_X5_remember_b46_ok hf
  rcases ite_or hf with ⟨h20, hf⟩ | ⟨h20, hf⟩
  · refine ev_callr (d := d) (M' := Mx46) (ct := (8, [.ref 36, .ref 24, mK], [], S, 0)) (w := some (.ref 48)) (S1 := S) rfl rfl rfl rfl (placeAt_5 (d := d) h20) ?_
    show Ev (d + 1) Mx44 (8, [.ref 36, .ref 24, mK], [.ref 48], S, 0) r
    refine ev_sts 5 (c2 := (15, [.ref 36, .ref 24, .ref 48], [.ref 24, .ref 48], S, 0)) rfl ?_
    refine ev_bV0 (d := d) (M' := Mx0) (ct := (18, [.ref 36, .ref 24, .ref 48], [], S, 0)) hf rfl rfl rfl rfl (fun r9 h9 => f_X0_copy_ok_48_24 (d := d) h9) (fun S22 hf => ?_)
    show Ev (d + 1) Mx44 (18, [.ref 36, .ref 24, .ref 48], [], S22, 0) r
    refine ev_sts 6 (c2 := (27, [.ref 36, .ref 24, .ref 48], [.int ((12 : Int32)), .int ((S22 36 1) + ((1 : Int32))), .ref 36], S22, 0)) rfl ?_
    refine ev_gd (c1 := (28, [.ref 36, .ref 24, .ref 48], [.int (((S22 36 1) + ((1 : Int32))) - ((S22 36 1) + ((1 : Int32))) / ((12 : Int32)) * ((12 : Int32))), .ref 36], S22, 0)) hf rfl rfl (fun hf => ?_)
    refine ev_sts 1 (c2 := (31, [.ref 36, .ref 24, .ref 48], [], (upS S22 36 1 (((S22 36 1) + ((1 : Int32))) - ((S22 36 1) + ((1 : Int32))) / ((12 : Int32)) * ((12 : Int32)))), 0)) rfl ?_
    refine ev_let (P := fun S23 => Ev (d + 1) Mx44 (31, [.ref 36, .ref 24, .ref 48], [], S23, 0) r) (fun S23 hf => ?_) hf
    refine ev_sts 8 (c2 := (46, [mK, mK, mK], [], (upS S23 36 2 (if ((S23 36 2) + ((1 : Int32))) < ((12 : Int32)) then ((S23 36 2) + ((1 : Int32))) else ((12 : Int32)))), 0)) rfl ?_
    refine ev_let (P := fun S24 => Ev (d + 1) Mx44 (46, [mK, mK, mK], [], S24, 0) r) (fun S24 hf => ?_) hf
    exact f_X5_remember_b46_ok hf
  rcases ite_or hf with ⟨h24, hf⟩ | ⟨h24, hf⟩
  · refine ev_callr (d := d) (M' := Mx46) (ct := (8, [.ref 36, .ref 24, mK], [], S, 0)) (w := some (.ref 50)) (S1 := S) rfl rfl rfl rfl (placeAt_6 (d := d) h24) ?_
    show Ev (d + 1) Mx44 (8, [.ref 36, .ref 24, mK], [.ref 50], S, 0) r
    refine ev_sts 5 (c2 := (15, [.ref 36, .ref 24, .ref 50], [.ref 24, .ref 50], S, 0)) rfl ?_
    refine ev_bV0 (d := d) (M' := Mx0) (ct := (18, [.ref 36, .ref 24, .ref 50], [], S, 0)) hf rfl rfl rfl rfl (fun r9 h9 => f_X0_copy_ok_50_24 (d := d) h9) (fun S26 hf => ?_)
    show Ev (d + 1) Mx44 (18, [.ref 36, .ref 24, .ref 50], [], S26, 0) r
    refine ev_sts 6 (c2 := (27, [.ref 36, .ref 24, .ref 50], [.int ((12 : Int32)), .int ((S26 36 1) + ((1 : Int32))), .ref 36], S26, 0)) rfl ?_
    refine ev_gd (c1 := (28, [.ref 36, .ref 24, .ref 50], [.int (((S26 36 1) + ((1 : Int32))) - ((S26 36 1) + ((1 : Int32))) / ((12 : Int32)) * ((12 : Int32))), .ref 36], S26, 0)) hf rfl rfl (fun hf => ?_)
    refine ev_sts 1 (c2 := (31, [.ref 36, .ref 24, .ref 50], [], (upS S26 36 1 (((S26 36 1) + ((1 : Int32))) - ((S26 36 1) + ((1 : Int32))) / ((12 : Int32)) * ((12 : Int32)))), 0)) rfl ?_
    refine ev_let (P := fun S27 => Ev (d + 1) Mx44 (31, [.ref 36, .ref 24, .ref 50], [], S27, 0) r) (fun S27 hf => ?_) hf
    refine ev_sts 8 (c2 := (46, [mK, mK, mK], [], (upS S27 36 2 (if ((S27 36 2) + ((1 : Int32))) < ((12 : Int32)) then ((S27 36 2) + ((1 : Int32))) else ((12 : Int32)))), 0)) rfl ?_
    refine ev_let (P := fun S28 => Ev (d + 1) Mx44 (46, [mK, mK, mK], [], S28, 0) r) (fun S28 hf => ?_) hf
    exact f_X5_remember_b46_ok hf
  rcases ite_or hf with ⟨h28, hf⟩ | ⟨h28, hf⟩
  · refine ev_callr (d := d) (M' := Mx46) (ct := (8, [.ref 36, .ref 24, mK], [], S, 0)) (w := some (.ref 52)) (S1 := S) rfl rfl rfl rfl (placeAt_7 (d := d) h28) ?_
    show Ev (d + 1) Mx44 (8, [.ref 36, .ref 24, mK], [.ref 52], S, 0) r
    refine ev_sts 5 (c2 := (15, [.ref 36, .ref 24, .ref 52], [.ref 24, .ref 52], S, 0)) rfl ?_
    refine ev_bV0 (d := d) (M' := Mx0) (ct := (18, [.ref 36, .ref 24, .ref 52], [], S, 0)) hf rfl rfl rfl rfl (fun r9 h9 => f_X0_copy_ok_52_24 (d := d) h9) (fun S30 hf => ?_)
    show Ev (d + 1) Mx44 (18, [.ref 36, .ref 24, .ref 52], [], S30, 0) r
    refine ev_sts 6 (c2 := (27, [.ref 36, .ref 24, .ref 52], [.int ((12 : Int32)), .int ((S30 36 1) + ((1 : Int32))), .ref 36], S30, 0)) rfl ?_
    refine ev_gd (c1 := (28, [.ref 36, .ref 24, .ref 52], [.int (((S30 36 1) + ((1 : Int32))) - ((S30 36 1) + ((1 : Int32))) / ((12 : Int32)) * ((12 : Int32))), .ref 36], S30, 0)) hf rfl rfl (fun hf => ?_)
    refine ev_sts 1 (c2 := (31, [.ref 36, .ref 24, .ref 52], [], (upS S30 36 1 (((S30 36 1) + ((1 : Int32))) - ((S30 36 1) + ((1 : Int32))) / ((12 : Int32)) * ((12 : Int32)))), 0)) rfl ?_
    refine ev_let (P := fun S31 => Ev (d + 1) Mx44 (31, [.ref 36, .ref 24, .ref 52], [], S31, 0) r) (fun S31 hf => ?_) hf
    refine ev_sts 8 (c2 := (46, [mK, mK, mK], [], (upS S31 36 2 (if ((S31 36 2) + ((1 : Int32))) < ((12 : Int32)) then ((S31 36 2) + ((1 : Int32))) else ((12 : Int32)))), 0)) rfl ?_
    refine ev_let (P := fun S32 => Ev (d + 1) Mx44 (46, [mK, mK, mK], [], S32, 0) r) (fun S32 hf => ?_) hf
    exact f_X5_remember_b46_ok hf
  rcases ite_or hf with ⟨h32, hf⟩ | ⟨h32, hf⟩
  · refine ev_callr (d := d) (M' := Mx46) (ct := (8, [.ref 36, .ref 24, mK], [], S, 0)) (w := some (.ref 54)) (S1 := S) rfl rfl rfl rfl (placeAt_8 (d := d) h32) ?_
    show Ev (d + 1) Mx44 (8, [.ref 36, .ref 24, mK], [.ref 54], S, 0) r
    refine ev_sts 5 (c2 := (15, [.ref 36, .ref 24, .ref 54], [.ref 24, .ref 54], S, 0)) rfl ?_
    refine ev_bV0 (d := d) (M' := Mx0) (ct := (18, [.ref 36, .ref 24, .ref 54], [], S, 0)) hf rfl rfl rfl rfl (fun r9 h9 => f_X0_copy_ok_54_24 (d := d) h9) (fun S34 hf => ?_)
    show Ev (d + 1) Mx44 (18, [.ref 36, .ref 24, .ref 54], [], S34, 0) r
    refine ev_sts 6 (c2 := (27, [.ref 36, .ref 24, .ref 54], [.int ((12 : Int32)), .int ((S34 36 1) + ((1 : Int32))), .ref 36], S34, 0)) rfl ?_
    refine ev_gd (c1 := (28, [.ref 36, .ref 24, .ref 54], [.int (((S34 36 1) + ((1 : Int32))) - ((S34 36 1) + ((1 : Int32))) / ((12 : Int32)) * ((12 : Int32))), .ref 36], S34, 0)) hf rfl rfl (fun hf => ?_)
    refine ev_sts 1 (c2 := (31, [.ref 36, .ref 24, .ref 54], [], (upS S34 36 1 (((S34 36 1) + ((1 : Int32))) - ((S34 36 1) + ((1 : Int32))) / ((12 : Int32)) * ((12 : Int32)))), 0)) rfl ?_
    refine ev_let (P := fun S35 => Ev (d + 1) Mx44 (31, [.ref 36, .ref 24, .ref 54], [], S35, 0) r) (fun S35 hf => ?_) hf
    refine ev_sts 8 (c2 := (46, [mK, mK, mK], [], (upS S35 36 2 (if ((S35 36 2) + ((1 : Int32))) < ((12 : Int32)) then ((S35 36 2) + ((1 : Int32))) else ((12 : Int32)))), 0)) rfl ?_
    refine ev_let (P := fun S36 => Ev (d + 1) Mx44 (46, [mK, mK, mK], [], S36, 0) r) (fun S36 hf => ?_) hf
    exact f_X5_remember_b46_ok hf
  rcases ite_or hf with ⟨h36, hf⟩ | ⟨h36, hf⟩
  · refine ev_callr (d := d) (M' := Mx46) (ct := (8, [.ref 36, .ref 24, mK], [], S, 0)) (w := some (.ref 56)) (S1 := S) rfl rfl rfl rfl (placeAt_9 (d := d) h36) ?_
    show Ev (d + 1) Mx44 (8, [.ref 36, .ref 24, mK], [.ref 56], S, 0) r
    refine ev_sts 5 (c2 := (15, [.ref 36, .ref 24, .ref 56], [.ref 24, .ref 56], S, 0)) rfl ?_
    refine ev_bV0 (d := d) (M' := Mx0) (ct := (18, [.ref 36, .ref 24, .ref 56], [], S, 0)) hf rfl rfl rfl rfl (fun r9 h9 => f_X0_copy_ok_56_24 (d := d) h9) (fun S38 hf => ?_)
    show Ev (d + 1) Mx44 (18, [.ref 36, .ref 24, .ref 56], [], S38, 0) r
    refine ev_sts 6 (c2 := (27, [.ref 36, .ref 24, .ref 56], [.int ((12 : Int32)), .int ((S38 36 1) + ((1 : Int32))), .ref 36], S38, 0)) rfl ?_
    refine ev_gd (c1 := (28, [.ref 36, .ref 24, .ref 56], [.int (((S38 36 1) + ((1 : Int32))) - ((S38 36 1) + ((1 : Int32))) / ((12 : Int32)) * ((12 : Int32))), .ref 36], S38, 0)) hf rfl rfl (fun hf => ?_)
    refine ev_sts 1 (c2 := (31, [.ref 36, .ref 24, .ref 56], [], (upS S38 36 1 (((S38 36 1) + ((1 : Int32))) - ((S38 36 1) + ((1 : Int32))) / ((12 : Int32)) * ((12 : Int32)))), 0)) rfl ?_
    refine ev_let (P := fun S39 => Ev (d + 1) Mx44 (31, [.ref 36, .ref 24, .ref 56], [], S39, 0) r) (fun S39 hf => ?_) hf
    refine ev_sts 8 (c2 := (46, [mK, mK, mK], [], (upS S39 36 2 (if ((S39 36 2) + ((1 : Int32))) < ((12 : Int32)) then ((S39 36 2) + ((1 : Int32))) else ((12 : Int32)))), 0)) rfl ?_
    refine ev_let (P := fun S40 => Ev (d + 1) Mx44 (46, [mK, mK, mK], [], S40, 0) r) (fun S40 hf => ?_) hf
    exact f_X5_remember_b46_ok hf
  rcases ite_or hf with ⟨h40, hf⟩ | ⟨h40, hf⟩
  · refine ev_callr (d := d) (M' := Mx46) (ct := (8, [.ref 36, .ref 24, mK], [], S, 0)) (w := some (.ref 58)) (S1 := S) rfl rfl rfl rfl (placeAt_10 (d := d) h40) ?_
    show Ev (d + 1) Mx44 (8, [.ref 36, .ref 24, mK], [.ref 58], S, 0) r
    refine ev_sts 5 (c2 := (15, [.ref 36, .ref 24, .ref 58], [.ref 24, .ref 58], S, 0)) rfl ?_
    refine ev_bV0 (d := d) (M' := Mx0) (ct := (18, [.ref 36, .ref 24, .ref 58], [], S, 0)) hf rfl rfl rfl rfl (fun r9 h9 => f_X0_copy_ok_58_24 (d := d) h9) (fun S42 hf => ?_)
    show Ev (d + 1) Mx44 (18, [.ref 36, .ref 24, .ref 58], [], S42, 0) r
    refine ev_sts 6 (c2 := (27, [.ref 36, .ref 24, .ref 58], [.int ((12 : Int32)), .int ((S42 36 1) + ((1 : Int32))), .ref 36], S42, 0)) rfl ?_
    refine ev_gd (c1 := (28, [.ref 36, .ref 24, .ref 58], [.int (((S42 36 1) + ((1 : Int32))) - ((S42 36 1) + ((1 : Int32))) / ((12 : Int32)) * ((12 : Int32))), .ref 36], S42, 0)) hf rfl rfl (fun hf => ?_)
    refine ev_sts 1 (c2 := (31, [.ref 36, .ref 24, .ref 58], [], (upS S42 36 1 (((S42 36 1) + ((1 : Int32))) - ((S42 36 1) + ((1 : Int32))) / ((12 : Int32)) * ((12 : Int32)))), 0)) rfl ?_
    refine ev_let (P := fun S43 => Ev (d + 1) Mx44 (31, [.ref 36, .ref 24, .ref 58], [], S43, 0) r) (fun S43 hf => ?_) hf
    refine ev_sts 8 (c2 := (46, [mK, mK, mK], [], (upS S43 36 2 (if ((S43 36 2) + ((1 : Int32))) < ((12 : Int32)) then ((S43 36 2) + ((1 : Int32))) else ((12 : Int32)))), 0)) rfl ?_
    refine ev_let (P := fun S44 => Ev (d + 1) Mx44 (46, [mK, mK, mK], [], S44, 0) r) (fun S44 hf => ?_) hf
    exact f_X5_remember_b46_ok hf
  rcases ite_or hf with ⟨h44, hf⟩ | ⟨h44, hf⟩
  · refine ev_callr (d := d) (M' := Mx46) (ct := (8, [.ref 36, .ref 24, mK], [], S, 0)) (w := some (.ref 60)) (S1 := S) rfl rfl rfl rfl (placeAt_11 (d := d) h44) ?_
    show Ev (d + 1) Mx44 (8, [.ref 36, .ref 24, mK], [.ref 60], S, 0) r
    refine ev_sts 5 (c2 := (15, [.ref 36, .ref 24, .ref 60], [.ref 24, .ref 60], S, 0)) rfl ?_
    refine ev_bV0 (d := d) (M' := Mx0) (ct := (18, [.ref 36, .ref 24, .ref 60], [], S, 0)) hf rfl rfl rfl rfl (fun r9 h9 => f_X0_copy_ok_60_24 (d := d) h9) (fun S46 hf => ?_)
    show Ev (d + 1) Mx44 (18, [.ref 36, .ref 24, .ref 60], [], S46, 0) r
    refine ev_sts 6 (c2 := (27, [.ref 36, .ref 24, .ref 60], [.int ((12 : Int32)), .int ((S46 36 1) + ((1 : Int32))), .ref 36], S46, 0)) rfl ?_
    refine ev_gd (c1 := (28, [.ref 36, .ref 24, .ref 60], [.int (((S46 36 1) + ((1 : Int32))) - ((S46 36 1) + ((1 : Int32))) / ((12 : Int32)) * ((12 : Int32))), .ref 36], S46, 0)) hf rfl rfl (fun hf => ?_)
    refine ev_sts 1 (c2 := (31, [.ref 36, .ref 24, .ref 60], [], (upS S46 36 1 (((S46 36 1) + ((1 : Int32))) - ((S46 36 1) + ((1 : Int32))) / ((12 : Int32)) * ((12 : Int32)))), 0)) rfl ?_
    refine ev_let (P := fun S47 => Ev (d + 1) Mx44 (31, [.ref 36, .ref 24, .ref 60], [], S47, 0) r) (fun S47 hf => ?_) hf
    refine ev_sts 8 (c2 := (46, [mK, mK, mK], [], (upS S47 36 2 (if ((S47 36 2) + ((1 : Int32))) < ((12 : Int32)) then ((S47 36 2) + ((1 : Int32))) else ((12 : Int32)))), 0)) rfl ?_
    refine ev_let (P := fun S48 => Ev (d + 1) Mx44 (46, [mK, mK, mK], [], S48, 0) r) (fun S48 hf => ?_) hf
    exact f_X5_remember_b46_ok hf
  cases hf
def f_X9_clear (p1 : Int32) (S : mS) : Option mR := bV (f_X9_needLedge p1 S) (fun S1 => bV0 (f_X5_remember S1) (fun S2 => bI0 (f_X0_ofLedge 24 p1 ((2 : Int32)) S2) (fun r4 S3 => bV0 (f_X0_putLedge 24 p1 ((2 : Int32)) ((0 : Int32)) S3) (fun S5 => bV0 (f_X0_putLedge 24 p1 ((3 : Int32)) ((0 : Int32)) S5) (fun S6 => bI0 (f_X0_ofLedge 24 p1 ((4 : Int32)) S6) (fun r8 S7 => bV0 (f_X0_putLedge 24 p1 ((4 : Int32)) (if ((0 : Int32)) < (r8 - ((1 : Int32))) then (r8 - ((1 : Int32))) else ((0 : Int32))) S7) (fun S9 => some (.inl (some (.int r4)), S9))))))))
theorem f_X9_clear_ok {d : Nat} {p1 : Int32} {S : mS} {r : mR} (hf : f_X9_clear p1 S = some r) : Ev (d + 2) Mx100 (entry Mx100 [.ref 0, .int p1] S) r := by
  unfold f_X9_clear at hf
  refine ev_sts 2 (c2 := (2, [.ref 0, .int p1, mK], [.int p1, .ref 0], S, 0)) rfl ?_
  refine ev_bV (d := d + 1) (M' := Mx139) (ct := (5, [.ref 0, .int p1, mK], [], S, 1)) hf rfl rfl rfl rfl (by decide) (fun r9 h9 => f_X9_needLedge_ok (d := d) h9) (fun S1 hf => ?_)
  show Ev (d + 2) Mx100 (5, [.ref 0, .int p1, mK], [], S1, 1) r
  refine ev_sts 4 (c2 := (13, [.ref 0, .int p1, mK], [.ref 24, .ref 36], S1, 1)) rfl ?_
  refine ev_bV0 (d := d + 1) (M' := Mx44) (ct := (16, [.ref 0, .int p1, mK], [], S1, 1)) hf rfl rfl rfl rfl (fun r9 h9 => f_X5_remember_ok (d := d) h9) (fun S2 hf => ?_)
  show Ev (d + 2) Mx100 (16, [.ref 0, .int p1, mK], [], S2, 1) r
  refine ev_sts 4 (c2 := (22, [.ref 0, .int p1, mK], [.int ((2 : Int32)), .int p1, .ref 24], S2, 1)) rfl ?_
  refine ev_bI0 (d := d + 1) (M' := Mx4) (ct := (25, [.ref 0, .int p1, mK], [], S2, 1)) hf rfl rfl rfl rfl (fun r9 h9 => f_X0_ofLedge_ok_24 (d := d) h9) (fun r4 S3 hf => ?_)
  show Ev (d + 2) Mx100 (25, [.ref 0, .int p1, mK], [.int r4], S3, 1) r
  refine ev_sts 6 (c2 := (33, [.ref 0, .int p1, .int r4], [.int ((0 : Int32)), .int ((2 : Int32)), .int p1, .ref 24], S3, 1)) rfl ?_
  refine ev_bV0 (d := d + 1) (M' := Mx5) (ct := (36, [.ref 0, .int p1, .int r4], [], S3, 1)) hf rfl rfl rfl rfl (fun r9 h9 => f_X0_putLedge_ok_24 (d := d) h9) (fun S5 hf => ?_)
  show Ev (d + 2) Mx100 (36, [.ref 0, .int p1, .int r4], [], S5, 1) r
  refine ev_sts 5 (c2 := (43, [.ref 0, .int p1, .int r4], [.int ((0 : Int32)), .int ((3 : Int32)), .int p1, .ref 24], S5, 1)) rfl ?_
  refine ev_bV0 (d := d + 1) (M' := Mx5) (ct := (46, [.ref 0, .int p1, .int r4], [], S5, 1)) hf rfl rfl rfl rfl (fun r9 h9 => f_X0_putLedge_ok_24 (d := d) h9) (fun S6 hf => ?_)
  show Ev (d + 2) Mx100 (46, [.ref 0, .int p1, .int r4], [], S6, 1) r
  refine ev_sts 9 (c2 := (59, [.ref 0, .int p1, .int r4], [.int ((4 : Int32)), .int p1, .ref 24, .int ((0 : Int32)), .int ((4 : Int32)), .int p1, .ref 24], S6, 1)) rfl ?_
  refine ev_bI0 (d := d + 1) (M' := Mx4) (ct := (62, [.ref 0, .int p1, .int r4], [.int ((0 : Int32)), .int ((4 : Int32)), .int p1, .ref 24], S6, 1)) hf rfl rfl rfl rfl (fun r9 h9 => f_X0_ofLedge_ok_24 (d := d) h9) (fun r8 S7 hf => ?_)
  show Ev (d + 2) Mx100 (62, [.ref 0, .int p1, .int r4], [.int r8, .int ((0 : Int32)), .int ((4 : Int32)), .int p1, .ref 24], S7, 1) r
  refine ev_sts 3 (c2 := (67, [.ref 0, .int p1, .int r4], [.int (if ((0 : Int32)) < (r8 - ((1 : Int32))) then (r8 - ((1 : Int32))) else ((0 : Int32))), .int ((4 : Int32)), .int p1, .ref 24], S7, 1)) rfl ?_
  refine ev_bV0 (d := d + 1) (M' := Mx5) (ct := (70, [.ref 0, .int p1, .int r4], [], S7, 1)) hf rfl rfl rfl rfl (fun r9 h9 => f_X0_putLedge_ok_24 (d := d) h9) (fun S9 hf => ?_)
  show Ev (d + 2) Mx100 (70, [.ref 0, .int p1, .int r4], [], S9, 1) r
  refine ev_sts 1 (c2 := (71, [.ref 0, .int p1, .int r4], [.int r4], S9, 1)) rfl ?_
  exact ev_ret hf rfl rfl
def f_X9_needClimber_b17 (S : mS) : Option mR := some (.inr 3, S)
def f_X9_needClimber (p1 : Int32) (S : mS) : Option mR := (if p1 < 0 then f_X9_needClimber_b17 S else bI0 (f_X0_at 24 ((14 : Int32)) S) (fun r2 S1 => (if p1 < r2 then some (.inl none, S1) else f_X9_needClimber_b17 S1)))
theorem f_X9_needClimber_b17_ok {d : Nat} {S : mS} {r : mR} (hf : f_X9_needClimber_b17  S = some r) : Ev (d + 1) Mx141 (17, [mK, mK], [], S, 0) r := by
  unfold f_X9_needClimber_b17 at hf
  exact ev_ret hf rfl rfl
theorem f_X9_needClimber_ok {d : Nat} {p1 : Int32} {S : mS} {r : mR} (hf : f_X9_needClimber p1 S = some r) : Ev (d + 1) Mx141 (entry Mx141 [.ref 0, .int p1] S) r := by
  unfold f_X9_needClimber at hf
  refine ev_sts 1 (c2 := (1, [.ref 0, .int p1], [.int p1], S, 0)) rfl ?_
  refine ev_if (c1 := (17, [mK, mK], [], S, 0)) (c2 := (4, [.ref 0, .int p1], [], S, 0)) hf rfl rfl (fun _ hf => ?_) (fun _ hf => ?_)
  · exact f_X9_needClimber_b17_ok hf
  · refine ev_sts 4 (c2 := (11, [.ref 0, .int p1], [.int ((14 : Int32)), .ref 24, .int p1], S, 0)) rfl ?_
    refine ev_bI0 (d := d) (M' := Mx1) (ct := (14, [.ref 0, .int p1], [.int p1], S, 0)) hf rfl rfl rfl rfl (fun r9 h9 => f_X0_at_ok_24 (d := d) h9) (fun r2 S1 hf => ?_)
    show Ev (d + 1) Mx141 (14, [.ref 0, .int p1], [.int r2, .int p1], S1, 0) r
    refine ev_if (c1 := (28, [.ref 0, .int p1], [], S1, 0)) (c2 := (17, [mK, mK], [], S1, 0)) hf rfl rfl (fun _ hf => ?_) (fun _ hf => ?_)
    · exact ev_ret hf rfl rfl
    · exact f_X9_needClimber_b17_ok hf
def f_X0_ofClimber (u0 : Nat) (p1 : Int32) (p2 : Int32) (S : mS) : Option mR := bI0 (f_X0_at u0 ((((78 : Int32)) + (p1 * ((2 : Int32)))) + p2) S) (fun r2 S1 => some (.inl (some (.int r2)), S1))
theorem f_X0_ofClimber_ok_24 {d : Nat} {p1 : Int32} {p2 : Int32} {S : mS} {r : mR} (hf : f_X0_ofClimber 24 p1 p2 S = some r) : Ev (d + 1) Mx8 (entry Mx8 [.ref 24, .int p1, .int p2] S) r := by
  unfold f_X0_ofClimber at hf
  refine ev_sts 8 (c2 := (9, [.ref 24, .int p1, .int p2], [.int ((((78 : Int32)) + (p1 * ((2 : Int32)))) + p2), .ref 24], S, 0)) rfl ?_
  refine ev_bI0 (d := d) (M' := Mx1) (ct := (12, [.ref 24, .int p1, .int p2], [], S, 0)) hf rfl rfl rfl rfl (fun r9 h9 => f_X0_at_ok_24 (d := d) h9) (fun r2 S1 hf => ?_)
  show Ev (d + 1) Mx8 (12, [.ref 24, .int p1, .int p2], [.int r2], S1, 0) r
  exact ev_ret hf rfl rfl
theorem f_X0_ofClimber_ok_26 {d : Nat} {p1 : Int32} {p2 : Int32} {S : mS} {r : mR} (hf : f_X0_ofClimber 26 p1 p2 S = some r) : Ev (d + 1) Mx8 (entry Mx8 [.ref 26, .int p1, .int p2] S) r := by
  unfold f_X0_ofClimber at hf
  refine ev_sts 8 (c2 := (9, [.ref 26, .int p1, .int p2], [.int ((((78 : Int32)) + (p1 * ((2 : Int32)))) + p2), .ref 26], S, 0)) rfl ?_
  refine ev_bI0 (d := d) (M' := Mx1) (ct := (12, [.ref 26, .int p1, .int p2], [], S, 0)) hf rfl rfl rfl rfl (fun r9 h9 => f_X0_at_ok_26 (d := d) h9) (fun r2 S1 hf => ?_)
  show Ev (d + 1) Mx8 (12, [.ref 26, .int p1, .int p2], [.int r2], S1, 0) r
  exact ev_ret hf rfl rfl
def f_X7_loadOf (u1 : Nat) (p2 : Int32) (p3 : Int32) (S : mS) : Option mR := bI0 (f_X0_ofClimber u1 p2 ((0 : Int32)) S) (fun r2 S1 => bI0 (f_X0_ofLedge u1 p3 ((0 : Int32)) S1) (fun r4 S3 => gd (decide (¬ (10 : Int32) = 0)) (some (.inl (some (.int (r2 + (r4 / ((10 : Int32)))))), S3))))
theorem f_X7_loadOf_ok_26 {d : Nat} {p2 : Int32} {p3 : Int32} {S : mS} {r : mR} (hf : f_X7_loadOf 26 p2 p3 S = some r) : Ev (d + 2) Mx61 (entry Mx61 [.ref 32, .ref 26, .int p2, .int p3] S) r := by
  unfold f_X7_loadOf at hf
  refine ev_sts 3 (c2 := (3, [.ref 32, .ref 26, .int p2, .int p3], [.int ((0 : Int32)), .int p2, .ref 26], S, 0)) rfl ?_
  refine ev_bI0 (d := d + 1) (M' := Mx8) (ct := (6, [.ref 32, .ref 26, .int p2, .int p3], [], S, 0)) hf rfl rfl rfl rfl (fun r9 h9 => f_X0_ofClimber_ok_26 (d := d) h9) (fun r2 S1 hf => ?_)
  show Ev (d + 2) Mx61 (6, [.ref 32, .ref 26, .int p2, .int p3], [.int r2], S1, 0) r
  refine ev_sts 3 (c2 := (9, [.ref 32, .ref 26, .int p2, .int p3], [.int ((0 : Int32)), .int p3, .ref 26, .int r2], S1, 0)) rfl ?_
  refine ev_bI0 (d := d + 1) (M' := Mx4) (ct := (12, [.ref 32, .ref 26, .int p2, .int p3], [.int r2], S1, 0)) hf rfl rfl rfl rfl (fun r9 h9 => f_X0_ofLedge_ok_26 (d := d) h9) (fun r4 S3 hf => ?_)
  show Ev (d + 2) Mx61 (12, [.ref 32, .ref 26, .int p2, .int p3], [.int r4, .int r2], S3, 0) r
  refine ev_sts 1 (c2 := (14, [.ref 32, .ref 26, .int p2, .int p3], [.int ((10 : Int32)), .int r4, .int r2], S3, 0)) rfl ?_
  refine ev_gd (c1 := (15, [.ref 32, .ref 26, .int p2, .int p3], [.int (r4 / ((10 : Int32))), .int r2], S3, 0)) hf rfl rfl (fun hf => ?_)
  refine ev_sts 1 (c2 := (16, [.ref 32, .ref 26, .int p2, .int p3], [.int (r2 + (r4 / ((10 : Int32))))], S3, 0)) rfl ?_
  exact ev_ret hf rfl rfl
theorem f_X7_loadOf_ok_24 {d : Nat} {p2 : Int32} {p3 : Int32} {S : mS} {r : mR} (hf : f_X7_loadOf 24 p2 p3 S = some r) : Ev (d + 2) Mx61 (entry Mx61 [.ref 32, .ref 24, .int p2, .int p3] S) r := by
  unfold f_X7_loadOf at hf
  refine ev_sts 3 (c2 := (3, [.ref 32, .ref 24, .int p2, .int p3], [.int ((0 : Int32)), .int p2, .ref 24], S, 0)) rfl ?_
  refine ev_bI0 (d := d + 1) (M' := Mx8) (ct := (6, [.ref 32, .ref 24, .int p2, .int p3], [], S, 0)) hf rfl rfl rfl rfl (fun r9 h9 => f_X0_ofClimber_ok_24 (d := d) h9) (fun r2 S1 hf => ?_)
  show Ev (d + 2) Mx61 (6, [.ref 32, .ref 24, .int p2, .int p3], [.int r2], S1, 0) r
  refine ev_sts 3 (c2 := (9, [.ref 32, .ref 24, .int p2, .int p3], [.int ((0 : Int32)), .int p3, .ref 24, .int r2], S1, 0)) rfl ?_
  refine ev_bI0 (d := d + 1) (M' := Mx4) (ct := (12, [.ref 32, .ref 24, .int p2, .int p3], [.int r2], S1, 0)) hf rfl rfl rfl rfl (fun r9 h9 => f_X0_ofLedge_ok_24 (d := d) h9) (fun r4 S3 hf => ?_)
  show Ev (d + 2) Mx61 (12, [.ref 32, .ref 24, .int p2, .int p3], [.int r4, .int r2], S3, 0) r
  refine ev_sts 1 (c2 := (14, [.ref 32, .ref 24, .int p2, .int p3], [.int ((10 : Int32)), .int r4, .int r2], S3, 0)) rfl ?_
  refine ev_gd (c1 := (15, [.ref 32, .ref 24, .int p2, .int p3], [.int (r4 / ((10 : Int32))), .int r2], S3, 0)) hf rfl rfl (fun hf => ?_)
  refine ev_sts 1 (c2 := (16, [.ref 32, .ref 24, .int p2, .int p3], [.int (r2 + (r4 / ((10 : Int32))))], S3, 0)) rfl ?_
  exact ev_ret hf rfl rfl
def f_X9_hasBit_b14 (t0 : Int32) (S : mS) : Option mR := some (.inl (some (.int (t0 &&& 1))), S)
def f_X9_hasBit (p0 : Int32) (p1 : Int32) (S : mS) : Option mR := (if ¬ ((p0 >>> (p1 &&& 31)) &&& ((1 : Int32))) = ((1 : Int32)) then f_X9_hasBit_b14 ((0 : Int32)) S else f_X9_hasBit_b14 ((1 : Int32)) S)
theorem f_X9_hasBit_b14_ok {d : Nat} {t0 : Int32} {S : mS} {r : mR} (hf : f_X9_hasBit_b14 t0 S = some r) : Ev (d) Mx143 (14, [mK, mK], [.int t0], S, 0) r := by
  unfold f_X9_hasBit_b14 at hf
  exact ev_ret hf rfl rfl
theorem f_X9_hasBit_ok {d : Nat} {p0 : Int32} {p1 : Int32} {S : mS} {r : mR} (hf : f_X9_hasBit p0 p1 S = some r) : Ev (d) Mx143 (entry Mx143 [.int p0, .int p1] S) r := by
  unfold f_X9_hasBit at hf
  refine ev_sts 6 (c2 := (6, [.int p0, .int p1], [.int ((1 : Int32)), .int ((p0 >>> (p1 &&& 31)) &&& ((1 : Int32)))], S, 0)) rfl ?_
  refine ev_if (c1 := (13, [.int p0, .int p1], [], S, 0)) (c2 := (9, [.int p0, .int p1], [], S, 0)) hf rfl rfl (fun _ hf => ?_) (fun _ hf => ?_)
  · exact ev_sts 1 (c2 := (14, [mK, mK], [.int ((0 : Int32))], S, 0)) rfl (f_X9_hasBit_b14_ok hf)
  · exact ev_sts 2 (c2 := (14, [mK, mK], [.int ((1 : Int32))], S, 0)) rfl (f_X9_hasBit_b14_ok hf)
def f_X0_ofHolder (u0 : Nat) (p1 : Int32) (p2 : Int32) (S : mS) : Option mR := bI0 (f_X0_at u0 ((((66 : Int32)) + (p1 * ((2 : Int32)))) + p2) S) (fun r2 S1 => some (.inl (some (.int r2)), S1))
theorem f_X0_ofHolder_ok_26 {d : Nat} {p1 : Int32} {p2 : Int32} {S : mS} {r : mR} (hf : f_X0_ofHolder 26 p1 p2 S = some r) : Ev (d + 1) Mx6 (entry Mx6 [.ref 26, .int p1, .int p2] S) r := by
  unfold f_X0_ofHolder at hf
  refine ev_sts 8 (c2 := (9, [.ref 26, .int p1, .int p2], [.int ((((66 : Int32)) + (p1 * ((2 : Int32)))) + p2), .ref 26], S, 0)) rfl ?_
  refine ev_bI0 (d := d) (M' := Mx1) (ct := (12, [.ref 26, .int p1, .int p2], [], S, 0)) hf rfl rfl rfl rfl (fun r9 h9 => f_X0_at_ok_26 (d := d) h9) (fun r2 S1 hf => ?_)
  show Ev (d + 1) Mx6 (12, [.ref 26, .int p1, .int p2], [.int r2], S1, 0) r
  exact ev_ret hf rfl rfl
theorem f_X0_ofHolder_ok_24 {d : Nat} {p1 : Int32} {p2 : Int32} {S : mS} {r : mR} (hf : f_X0_ofHolder 24 p1 p2 S = some r) : Ev (d + 1) Mx6 (entry Mx6 [.ref 24, .int p1, .int p2] S) r := by
  unfold f_X0_ofHolder at hf
  refine ev_sts 8 (c2 := (9, [.ref 24, .int p1, .int p2], [.int ((((66 : Int32)) + (p1 * ((2 : Int32)))) + p2), .ref 24], S, 0)) rfl ?_
  refine ev_bI0 (d := d) (M' := Mx1) (ct := (12, [.ref 24, .int p1, .int p2], [], S, 0)) hf rfl rfl rfl rfl (fun r9 h9 => f_X0_at_ok_24 (d := d) h9) (fun r2 S1 hf => ?_)
  show Ev (d + 1) Mx6 (12, [.ref 24, .int p1, .int p2], [.int r2], S1, 0) r
  exact ev_ret hf rfl rfl
def f_X7_strengthOf_b51 (K5 : Int32 → Int32 → Int32 → mS → Option mR) (F : Nat) (u1 : Nat) (x2 : Int32) (x3 : Int32) (x4 : Int32) (S : mS) : Option mR := K5 x2 x3 (x4 + (1 : Int32)) S
def f_X7_strengthOf_b5 (F : Nat) (u1 : Nat) : Nat → Int32 → Int32 → Int32 → mS → Option mR
  | 0, _, _, _, _ => none
  | n + 1, x2, x3, x4, S => bI0 (f_X0_at u1 ((13 : Int32)) S) (fun r2 S1 => (if r2 ≤ x4 then some (.inl (some (.int x3)), S1) else bI0 (f_X9_hasBit x2 x4 S1) (fun r4 S3 => (if r4 = 0 then f_X7_strengthOf_b51 (fun x2 x3 x4 S => f_X7_strengthOf_b5 F u1 n x2 x3 x4 S) F u1 x2 x3 x4 S3 else bI0 (f_X0_ofHolder u1 x4 ((0 : Int32)) S3) (fun r6 S5 => bI0 (f_X0_ofHolder u1 x4 ((1 : Int32)) S5) (fun r8 S7 => bnd (r6 - r8 : Int32) (fun y9 => bnd (x3 + (if ((0 : Int32)) < y9 then y9 else ((0 : Int32))) : Int32) (fun y10 => f_X7_strengthOf_b51 (fun x2 x3 x4 S => f_X7_strengthOf_b5 F u1 n x2 x3 x4 S) F u1 x2 y10 x4 S7))))))))
def f_X7_strengthOf (F : Nat) (u1 : Nat) (p2 : Int32) (S : mS) : Option mR := f_X7_strengthOf_b5 F u1 F p2 ((0 : Int32)) ((0 : Int32)) S
theorem f_X7_strengthOf_b51_ok_26 {d F : Nat} {K5 : Int32 → Int32 → Int32 → mS → Option mR} (hK5 : ∀ {x2 : Int32} {x3 : Int32} {x4 : Int32} {S : mS} {r : mR}, K5 x2 x3 x4 S = some r → Ev (d + 2) Mx62 (5, [mK, .ref 26, .int x2, .int x3, .int x4, mK], [], S, 0) r) {x2 : Int32} {x3 : Int32} {x4 : Int32} {S : mS} {r : mR} (hf : f_X7_strengthOf_b51 K5 F 26 x2 x3 x4 S = some r) : Ev (d + 2) Mx62 (51, [mK, .ref 26, .int x2, .int x3, .int x4, mK], [], S, 0) r := by
  unfold f_X7_strengthOf_b51 at hf
  exact ev_sts 2 (c2 := (5, [mK, .ref 26, .int x2, .int x3, .int (x4 + (1 : Int32)), mK], [], S, 0)) rfl (hK5 hf)
theorem f_X7_strengthOf_b5_ok_26 {d F : Nat} : ∀ (n : Nat) {x2 : Int32} {x3 : Int32} {x4 : Int32} {S : mS} {r : mR}, f_X7_strengthOf_b5 F 26 n x2 x3 x4 S = some r → Ev (d + 2) Mx62 (5, [mK, .ref 26, .int x2, .int x3, .int x4, mK], [], S, 0) r := by
  intro n
  induction n with
  | zero => intro x2 x3 x4 S r hf; cases hf
  | succ n ih =>
    intro x2 x3 x4 S r hf
    rw [f_X7_strengthOf_b5] at hf
    refine ev_sts 3 (c2 := (10, [mK, .ref 26, .int x2, .int x3, .int x4, mK], [.int ((13 : Int32)), .ref 26, .int x4], S, 0)) rfl ?_
    refine ev_bI0 (d := d + 1) (M' := Mx1) (ct := (13, [mK, .ref 26, .int x2, .int x3, .int x4, mK], [.int x4], S, 0)) hf rfl rfl rfl rfl (fun r9 h9 => f_X0_at_ok_26 (d := d + 1) h9) (fun r2 S1 hf => ?_)
    show Ev (d + 2) Mx62 (13, [mK, .ref 26, .int x2, .int x3, .int x4, mK], [.int r2, .int x4], S1, 0) r
    refine ev_if (c1 := (57, [mK, .ref 26, .int x2, .int x3, .int x4, mK], [], S1, 0)) (c2 := (16, [mK, .ref 26, .int x2, .int x3, .int x4, mK], [], S1, 0)) hf rfl rfl (fun _ hf => ?_) (fun _ hf => ?_)
    · refine ev_sts 1 (c2 := (58, [mK, .ref 26, .int x2, .int x3, .int x4, mK], [.int x3], S1, 0)) rfl ?_
      exact ev_ret hf rfl rfl
    · refine ev_sts 2 (c2 := (19, [mK, .ref 26, .int x2, .int x3, .int x4, mK], [.int x4, .int x2], S1, 0)) rfl ?_
      refine ev_bI0 (d := d + 1) (M' := Mx143) (ct := (22, [mK, .ref 26, .int x2, .int x3, .int x4, mK], [], S1, 0)) hf rfl rfl rfl rfl (fun r9 h9 => f_X9_hasBit_ok (d := d + 1) h9) (fun r4 S3 hf => ?_)
      show Ev (d + 2) Mx62 (22, [mK, .ref 26, .int x2, .int x3, .int x4, mK], [.int r4], S3, 0) r
      refine ev_if (c1 := (51, [mK, .ref 26, .int x2, .int x3, .int x4, mK], [], S3, 0)) (c2 := (25, [mK, .ref 26, .int x2, .int x3, .int x4, mK], [], S3, 0)) hf rfl rfl (fun _ hf => ?_) (fun _ hf => ?_)
      · exact f_X7_strengthOf_b51_ok_26 (fun h9 => ih h9) hf
      · refine ev_sts 3 (c2 := (29, [mK, .ref 26, .int x2, .int x3, .int x4, mK], [.int ((0 : Int32)), .int x4, .ref 26], S3, 0)) rfl ?_
        refine ev_bI0 (d := d + 1) (M' := Mx6) (ct := (32, [mK, .ref 26, .int x2, .int x3, .int x4, mK], [], S3, 0)) hf rfl rfl rfl rfl (fun r9 h9 => f_X0_ofHolder_ok_26 (d := d) h9) (fun r6 S5 hf => ?_)
        show Ev (d + 2) Mx62 (32, [mK, .ref 26, .int x2, .int x3, .int x4, mK], [.int r6], S5, 0) r
        refine ev_sts 3 (c2 := (36, [mK, .ref 26, .int x2, .int x3, .int x4, mK], [.int ((1 : Int32)), .int x4, .ref 26, .int r6], S5, 0)) rfl ?_
        refine ev_bI0 (d := d + 1) (M' := Mx6) (ct := (39, [mK, .ref 26, .int x2, .int x3, .int x4, mK], [.int r6], S5, 0)) hf rfl rfl rfl rfl (fun r9 h9 => f_X0_ofHolder_ok_26 (d := d) h9) (fun r8 S7 hf => ?_)
        show Ev (d + 2) Mx62 (39, [mK, .ref 26, .int x2, .int x3, .int x4, mK], [.int r8, .int r6], S7, 0) r
        refine ev_sts 2 (c2 := (42, [mK, .ref 26, .int x2, .int x3, .int x4, .int (r6 - r8)], [], S7, 0)) rfl ?_
        refine ev_let (P := fun y9 => Ev (d + 2) Mx62 (42, [mK, .ref 26, .int x2, .int x3, .int x4, .int y9], [], S7, 0) r) (fun y9 hf => ?_) hf
        refine ev_sts 6 (c2 := (51, [mK, .ref 26, .int x2, .int (x3 + (if ((0 : Int32)) < y9 then y9 else ((0 : Int32)))), .int x4, mK], [], S7, 0)) rfl ?_
        refine ev_let (P := fun y10 => Ev (d + 2) Mx62 (51, [mK, .ref 26, .int x2, .int y10, .int x4, mK], [], S7, 0) r) (fun y10 hf => ?_) hf
        exact f_X7_strengthOf_b51_ok_26 (fun h9 => ih h9) hf
theorem f_X7_strengthOf_ok_26 {d F : Nat} {p2 : Int32} {S : mS} {r : mR} (hf : f_X7_strengthOf F 26 p2 S = some r) : Ev (d + 2) Mx62 (entry Mx62 [.ref 32, .ref 26, .int p2] S) r := by
  unfold f_X7_strengthOf at hf
  exact ev_sts 4 (c2 := (5, [mK, .ref 26, .int p2, .int ((0 : Int32)), .int ((0 : Int32)), mK], [], S, 0)) rfl (f_X7_strengthOf_b5_ok_26 _ hf)
theorem f_X7_strengthOf_b51_ok_24 {d F : Nat} {K5 : Int32 → Int32 → Int32 → mS → Option mR} (hK5 : ∀ {x2 : Int32} {x3 : Int32} {x4 : Int32} {S : mS} {r : mR}, K5 x2 x3 x4 S = some r → Ev (d + 2) Mx62 (5, [mK, .ref 24, .int x2, .int x3, .int x4, mK], [], S, 0) r) {x2 : Int32} {x3 : Int32} {x4 : Int32} {S : mS} {r : mR} (hf : f_X7_strengthOf_b51 K5 F 24 x2 x3 x4 S = some r) : Ev (d + 2) Mx62 (51, [mK, .ref 24, .int x2, .int x3, .int x4, mK], [], S, 0) r := by
  unfold f_X7_strengthOf_b51 at hf
  exact ev_sts 2 (c2 := (5, [mK, .ref 24, .int x2, .int x3, .int (x4 + (1 : Int32)), mK], [], S, 0)) rfl (hK5 hf)
theorem f_X7_strengthOf_b5_ok_24 {d F : Nat} : ∀ (n : Nat) {x2 : Int32} {x3 : Int32} {x4 : Int32} {S : mS} {r : mR}, f_X7_strengthOf_b5 F 24 n x2 x3 x4 S = some r → Ev (d + 2) Mx62 (5, [mK, .ref 24, .int x2, .int x3, .int x4, mK], [], S, 0) r := by
  intro n
  induction n with
  | zero => intro x2 x3 x4 S r hf; cases hf
  | succ n ih =>
    intro x2 x3 x4 S r hf
    rw [f_X7_strengthOf_b5] at hf
    refine ev_sts 3 (c2 := (10, [mK, .ref 24, .int x2, .int x3, .int x4, mK], [.int ((13 : Int32)), .ref 24, .int x4], S, 0)) rfl ?_
    refine ev_bI0 (d := d + 1) (M' := Mx1) (ct := (13, [mK, .ref 24, .int x2, .int x3, .int x4, mK], [.int x4], S, 0)) hf rfl rfl rfl rfl (fun r9 h9 => f_X0_at_ok_24 (d := d + 1) h9) (fun r2 S1 hf => ?_)
    show Ev (d + 2) Mx62 (13, [mK, .ref 24, .int x2, .int x3, .int x4, mK], [.int r2, .int x4], S1, 0) r
    refine ev_if (c1 := (57, [mK, .ref 24, .int x2, .int x3, .int x4, mK], [], S1, 0)) (c2 := (16, [mK, .ref 24, .int x2, .int x3, .int x4, mK], [], S1, 0)) hf rfl rfl (fun _ hf => ?_) (fun _ hf => ?_)
    · refine ev_sts 1 (c2 := (58, [mK, .ref 24, .int x2, .int x3, .int x4, mK], [.int x3], S1, 0)) rfl ?_
      exact ev_ret hf rfl rfl
    · refine ev_sts 2 (c2 := (19, [mK, .ref 24, .int x2, .int x3, .int x4, mK], [.int x4, .int x2], S1, 0)) rfl ?_
      refine ev_bI0 (d := d + 1) (M' := Mx143) (ct := (22, [mK, .ref 24, .int x2, .int x3, .int x4, mK], [], S1, 0)) hf rfl rfl rfl rfl (fun r9 h9 => f_X9_hasBit_ok (d := d + 1) h9) (fun r4 S3 hf => ?_)
      show Ev (d + 2) Mx62 (22, [mK, .ref 24, .int x2, .int x3, .int x4, mK], [.int r4], S3, 0) r
      refine ev_if (c1 := (51, [mK, .ref 24, .int x2, .int x3, .int x4, mK], [], S3, 0)) (c2 := (25, [mK, .ref 24, .int x2, .int x3, .int x4, mK], [], S3, 0)) hf rfl rfl (fun _ hf => ?_) (fun _ hf => ?_)
      · exact f_X7_strengthOf_b51_ok_24 (fun h9 => ih h9) hf
      · refine ev_sts 3 (c2 := (29, [mK, .ref 24, .int x2, .int x3, .int x4, mK], [.int ((0 : Int32)), .int x4, .ref 24], S3, 0)) rfl ?_
        refine ev_bI0 (d := d + 1) (M' := Mx6) (ct := (32, [mK, .ref 24, .int x2, .int x3, .int x4, mK], [], S3, 0)) hf rfl rfl rfl rfl (fun r9 h9 => f_X0_ofHolder_ok_24 (d := d) h9) (fun r6 S5 hf => ?_)
        show Ev (d + 2) Mx62 (32, [mK, .ref 24, .int x2, .int x3, .int x4, mK], [.int r6], S5, 0) r
        refine ev_sts 3 (c2 := (36, [mK, .ref 24, .int x2, .int x3, .int x4, mK], [.int ((1 : Int32)), .int x4, .ref 24, .int r6], S5, 0)) rfl ?_
        refine ev_bI0 (d := d + 1) (M' := Mx6) (ct := (39, [mK, .ref 24, .int x2, .int x3, .int x4, mK], [.int r6], S5, 0)) hf rfl rfl rfl rfl (fun r9 h9 => f_X0_ofHolder_ok_24 (d := d) h9) (fun r8 S7 hf => ?_)
        show Ev (d + 2) Mx62 (39, [mK, .ref 24, .int x2, .int x3, .int x4, mK], [.int r8, .int r6], S7, 0) r
        refine ev_sts 2 (c2 := (42, [mK, .ref 24, .int x2, .int x3, .int x4, .int (r6 - r8)], [], S7, 0)) rfl ?_
        refine ev_let (P := fun y9 => Ev (d + 2) Mx62 (42, [mK, .ref 24, .int x2, .int x3, .int x4, .int y9], [], S7, 0) r) (fun y9 hf => ?_) hf
        refine ev_sts 6 (c2 := (51, [mK, .ref 24, .int x2, .int (x3 + (if ((0 : Int32)) < y9 then y9 else ((0 : Int32)))), .int x4, mK], [], S7, 0)) rfl ?_
        refine ev_let (P := fun y10 => Ev (d + 2) Mx62 (51, [mK, .ref 24, .int x2, .int y10, .int x4, mK], [], S7, 0) r) (fun y10 hf => ?_) hf
        exact f_X7_strengthOf_b51_ok_24 (fun h9 => ih h9) hf
theorem f_X7_strengthOf_ok_24 {d F : Nat} {p2 : Int32} {S : mS} {r : mR} (hf : f_X7_strengthOf F 24 p2 S = some r) : Ev (d + 2) Mx62 (entry Mx62 [.ref 32, .ref 24, .int p2] S) r := by
  unfold f_X7_strengthOf at hf
  exact ev_sts 4 (c2 := (5, [mK, .ref 24, .int p2, .int ((0 : Int32)), .int ((0 : Int32)), mK], [], S, 0)) rfl (f_X7_strengthOf_b5_ok_24 _ hf)
def f_X7_isHeldByAll_b21 (F : Nat) (u1 : Nat) (t0 : Int32) (S : mS) : Option mR := some (.inl (some (.int (t0 &&& 1))), S)
def f_X7_isHeldByAll (F : Nat) (u1 : Nat) (p2 : Int32) (p3 : Int32) (S : mS) : Option mR := bI0 (f_X7_strengthOf F u1 ((-1 : Int32)) S) (fun r2 S1 => bI0 (f_X7_loadOf u1 p2 p3 S1) (fun r4 S3 => (if r2 < r4 then f_X7_isHeldByAll_b21 F u1 ((0 : Int32)) S3 else f_X7_isHeldByAll_b21 F u1 ((1 : Int32)) S3)))
theorem f_X7_isHeldByAll_b21_ok_26 {d F : Nat} {t0 : Int32} {S : mS} {r : mR} (hf : f_X7_isHeldByAll_b21 F 26 t0 S = some r) : Ev (d + 3) Mx63 (21, [mK, mK, mK, mK], [.int t0], S, 0) r := by
  unfold f_X7_isHeldByAll_b21 at hf
  exact ev_ret hf rfl rfl
theorem f_X7_isHeldByAll_ok_26 {d F : Nat} {p2 : Int32} {p3 : Int32} {S : mS} {r : mR} (hf : f_X7_isHeldByAll F 26 p2 p3 S = some r) : Ev (d + 3) Mx63 (entry Mx63 [.ref 32, .ref 26, .int p2, .int p3] S) r := by
  unfold f_X7_isHeldByAll at hf
  refine ev_sts 3 (c2 := (3, [.ref 32, .ref 26, .int p2, .int p3], [.int ((-1 : Int32)), .ref 26, .ref 32], S, 0)) rfl ?_
  refine ev_bI0 (d := d + 2) (M' := Mx62) (ct := (6, [.ref 32, .ref 26, .int p2, .int p3], [], S, 0)) hf rfl rfl rfl rfl (fun r9 h9 => f_X7_strengthOf_ok_26 (d := d) h9) (fun r2 S1 hf => ?_)
  show Ev (d + 3) Mx63 (6, [.ref 32, .ref 26, .int p2, .int p3], [.int r2], S1, 0) r
  refine ev_sts 4 (c2 := (10, [.ref 32, .ref 26, .int p2, .int p3], [.int p3, .int p2, .ref 26, .ref 32, .int r2], S1, 0)) rfl ?_
  refine ev_bI0 (d := d + 2) (M' := Mx61) (ct := (13, [.ref 32, .ref 26, .int p2, .int p3], [.int r2], S1, 0)) hf rfl rfl rfl rfl (fun r9 h9 => f_X7_loadOf_ok_26 (d := d) h9) (fun r4 S3 hf => ?_)
  show Ev (d + 3) Mx63 (13, [.ref 32, .ref 26, .int p2, .int p3], [.int r4, .int r2], S3, 0) r
  refine ev_if (c1 := (20, [.ref 32, .ref 26, .int p2, .int p3], [], S3, 0)) (c2 := (16, [.ref 32, .ref 26, .int p2, .int p3], [], S3, 0)) hf rfl rfl (fun _ hf => ?_) (fun _ hf => ?_)
  · exact ev_sts 1 (c2 := (21, [mK, mK, mK, mK], [.int ((0 : Int32))], S3, 0)) rfl (f_X7_isHeldByAll_b21_ok_26 hf)
  · exact ev_sts 2 (c2 := (21, [mK, mK, mK, mK], [.int ((1 : Int32))], S3, 0)) rfl (f_X7_isHeldByAll_b21_ok_26 hf)
theorem f_X7_isHeldByAll_b21_ok_24 {d F : Nat} {t0 : Int32} {S : mS} {r : mR} (hf : f_X7_isHeldByAll_b21 F 24 t0 S = some r) : Ev (d + 3) Mx63 (21, [mK, mK, mK, mK], [.int t0], S, 0) r := by
  unfold f_X7_isHeldByAll_b21 at hf
  exact ev_ret hf rfl rfl
theorem f_X7_isHeldByAll_ok_24 {d F : Nat} {p2 : Int32} {p3 : Int32} {S : mS} {r : mR} (hf : f_X7_isHeldByAll F 24 p2 p3 S = some r) : Ev (d + 3) Mx63 (entry Mx63 [.ref 32, .ref 24, .int p2, .int p3] S) r := by
  unfold f_X7_isHeldByAll at hf
  refine ev_sts 3 (c2 := (3, [.ref 32, .ref 24, .int p2, .int p3], [.int ((-1 : Int32)), .ref 24, .ref 32], S, 0)) rfl ?_
  refine ev_bI0 (d := d + 2) (M' := Mx62) (ct := (6, [.ref 32, .ref 24, .int p2, .int p3], [], S, 0)) hf rfl rfl rfl rfl (fun r9 h9 => f_X7_strengthOf_ok_24 (d := d) h9) (fun r2 S1 hf => ?_)
  show Ev (d + 3) Mx63 (6, [.ref 32, .ref 24, .int p2, .int p3], [.int r2], S1, 0) r
  refine ev_sts 4 (c2 := (10, [.ref 32, .ref 24, .int p2, .int p3], [.int p3, .int p2, .ref 24, .ref 32, .int r2], S1, 0)) rfl ?_
  refine ev_bI0 (d := d + 2) (M' := Mx61) (ct := (13, [.ref 32, .ref 24, .int p2, .int p3], [.int r2], S1, 0)) hf rfl rfl rfl rfl (fun r9 h9 => f_X7_loadOf_ok_24 (d := d) h9) (fun r4 S3 hf => ?_)
  show Ev (d + 3) Mx63 (13, [.ref 32, .ref 24, .int p2, .int p3], [.int r4, .int r2], S3, 0) r
  refine ev_if (c1 := (20, [.ref 32, .ref 24, .int p2, .int p3], [], S3, 0)) (c2 := (16, [.ref 32, .ref 24, .int p2, .int p3], [], S3, 0)) hf rfl rfl (fun _ hf => ?_) (fun _ hf => ?_)
  · exact ev_sts 1 (c2 := (21, [mK, mK, mK, mK], [.int ((0 : Int32))], S3, 0)) rfl (f_X7_isHeldByAll_b21_ok_24 hf)
  · exact ev_sts 2 (c2 := (21, [mK, mK, mK, mK], [.int ((1 : Int32))], S3, 0)) rfl (f_X7_isHeldByAll_b21_ok_24 hf)
def f_X7_canLet_b57 (F : Nat) (u1 : Nat) (t0 : Int32) (S : mS) : Option mR := some (.inl (some (.int (t0 &&& 1))), S)
def f_X7_canLet_b56 (F : Nat) (u1 : Nat) (S : mS) : Option mR := f_X7_canLet_b57 F u1 ((0 : Int32)) S
def f_X7_canLet (F : Nat) (u1 : Nat) (p2 : Int32) (p3 : Int32) (S : mS) : Option mR := bI0 (f_X0_at u1 ((0 : Int32)) S) (fun r2 S1 => bI0 (f_X0_ofLedge u1 p3 ((0 : Int32)) S1) (fun r4 S3 => (if r2 < r4 then f_X7_canLet_b56 F u1 S3 else bI0 (f_X0_at u1 ((1 : Int32)) S3) (fun r6 S5 => bI0 (f_X0_at u1 ((2 : Int32)) S5) (fun r8 S7 => (if r8 ≤ r6 then f_X7_canLet_b56 F u1 S7 else bI0 (f_X7_isHeldByAll F u1 p2 p3 S7) (fun r10 S9 => (if r10 = 0 then f_X7_canLet_b56 F u1 S9 else bI0 (f_X0_at u1 ((4 : Int32)) S9) (fun r12 S11 => bI0 (f_X7_kicksTo F u1 p3 r12 S11) (fun r14 S13 => (if r14 = ((-1 : Int32)) then f_X7_canLet_b56 F u1 S13 else f_X7_canLet_b57 F u1 ((1 : Int32)) S13)))))))))))
theorem f_X7_canLet_b57_ok_26 {d F : Nat} {t0 : Int32} {S : mS} {r : mR} (hf : f_X7_canLet_b57 F 26 t0 S = some r) : Ev (d + 5) Mx64 (57, [mK, mK, mK, mK], [.int t0], S, 0) r := by
  unfold f_X7_canLet_b57 at hf
  exact ev_ret hf rfl rfl
theorem f_X7_canLet_b56_ok_26 {d F : Nat} {S : mS} {r : mR} (hf : f_X7_canLet_b56 F 26  S = some r) : Ev (d + 5) Mx64 (56, [mK, mK, mK, mK], [], S, 0) r := by
  unfold f_X7_canLet_b56 at hf
  exact ev_sts 1 (c2 := (57, [mK, mK, mK, mK], [.int ((0 : Int32))], S, 0)) rfl (f_X7_canLet_b57_ok_26 hf)
theorem f_X7_canLet_ok_26 {d F : Nat} {p2 : Int32} {p3 : Int32} {S : mS} {r : mR} (hf : f_X7_canLet F 26 p2 p3 S = some r) : Ev (d + 5) Mx64 (entry Mx64 [.ref 32, .ref 26, .int p2, .int p3] S) r := by
  unfold f_X7_canLet at hf
  refine ev_sts 2 (c2 := (2, [.ref 32, .ref 26, .int p2, .int p3], [.int ((0 : Int32)), .ref 26], S, 0)) rfl ?_
  refine ev_bI0 (d := d + 4) (M' := Mx1) (ct := (5, [.ref 32, .ref 26, .int p2, .int p3], [], S, 0)) hf rfl rfl rfl rfl (fun r9 h9 => f_X0_at_ok_26 (d := d + 4) h9) (fun r2 S1 hf => ?_)
  show Ev (d + 5) Mx64 (5, [.ref 32, .ref 26, .int p2, .int p3], [.int r2], S1, 0) r
  refine ev_sts 3 (c2 := (8, [.ref 32, .ref 26, .int p2, .int p3], [.int ((0 : Int32)), .int p3, .ref 26, .int r2], S1, 0)) rfl ?_
  refine ev_bI0 (d := d + 4) (M' := Mx4) (ct := (11, [.ref 32, .ref 26, .int p2, .int p3], [.int r2], S1, 0)) hf rfl rfl rfl rfl (fun r9 h9 => f_X0_ofLedge_ok_26 (d := d + 3) h9) (fun r4 S3 hf => ?_)
  show Ev (d + 5) Mx64 (11, [.ref 32, .ref 26, .int p2, .int p3], [.int r4, .int r2], S3, 0) r
  refine ev_if (c1 := (56, [mK, mK, mK, mK], [], S3, 0)) (c2 := (14, [.ref 32, .ref 26, .int p2, .int p3], [], S3, 0)) hf rfl rfl (fun _ hf => ?_) (fun _ hf => ?_)
  · exact f_X7_canLet_b56_ok_26 hf
  · refine ev_sts 2 (c2 := (16, [.ref 32, .ref 26, .int p2, .int p3], [.int ((1 : Int32)), .ref 26], S3, 0)) rfl ?_
    refine ev_bI0 (d := d + 4) (M' := Mx1) (ct := (19, [.ref 32, .ref 26, .int p2, .int p3], [], S3, 0)) hf rfl rfl rfl rfl (fun r9 h9 => f_X0_at_ok_26 (d := d + 4) h9) (fun r6 S5 hf => ?_)
    show Ev (d + 5) Mx64 (19, [.ref 32, .ref 26, .int p2, .int p3], [.int r6], S5, 0) r
    refine ev_sts 2 (c2 := (21, [.ref 32, .ref 26, .int p2, .int p3], [.int ((2 : Int32)), .ref 26, .int r6], S5, 0)) rfl ?_
    refine ev_bI0 (d := d + 4) (M' := Mx1) (ct := (24, [.ref 32, .ref 26, .int p2, .int p3], [.int r6], S5, 0)) hf rfl rfl rfl rfl (fun r9 h9 => f_X0_at_ok_26 (d := d + 4) h9) (fun r8 S7 hf => ?_)
    show Ev (d + 5) Mx64 (24, [.ref 32, .ref 26, .int p2, .int p3], [.int r8, .int r6], S7, 0) r
    refine ev_if (c1 := (56, [mK, mK, mK, mK], [], S7, 0)) (c2 := (27, [.ref 32, .ref 26, .int p2, .int p3], [], S7, 0)) hf rfl rfl (fun _ hf => ?_) (fun _ hf => ?_)
    · exact f_X7_canLet_b56_ok_26 hf
    · refine ev_sts 4 (c2 := (31, [.ref 32, .ref 26, .int p2, .int p3], [.int p3, .int p2, .ref 26, .ref 32], S7, 0)) rfl ?_
      refine ev_bI0 (d := d + 4) (M' := Mx63) (ct := (34, [.ref 32, .ref 26, .int p2, .int p3], [], S7, 0)) hf rfl rfl rfl rfl (fun r9 h9 => f_X7_isHeldByAll_ok_26 (d := d + 1) h9) (fun r10 S9 hf => ?_)
      show Ev (d + 5) Mx64 (34, [.ref 32, .ref 26, .int p2, .int p3], [.int r10], S9, 0) r
      refine ev_if (c1 := (56, [mK, mK, mK, mK], [], S9, 0)) (c2 := (37, [.ref 32, .ref 26, .int p2, .int p3], [], S9, 0)) hf rfl rfl (fun _ hf => ?_) (fun _ hf => ?_)
      · exact f_X7_canLet_b56_ok_26 hf
      · refine ev_sts 5 (c2 := (42, [.ref 32, .ref 26, .int p2, .int p3], [.int ((4 : Int32)), .ref 26, .int p3, .ref 26, .ref 32], S9, 0)) rfl ?_
        refine ev_bI0 (d := d + 4) (M' := Mx1) (ct := (45, [.ref 32, .ref 26, .int p2, .int p3], [.int p3, .ref 26, .ref 32], S9, 0)) hf rfl rfl rfl rfl (fun r9 h9 => f_X0_at_ok_26 (d := d + 4) h9) (fun r12 S11 hf => ?_)
        show Ev (d + 5) Mx64 (45, [.ref 32, .ref 26, .int p2, .int p3], [.int r12, .int p3, .ref 26, .ref 32], S11, 0) r
        refine ev_bI0 (d := d + 4) (M' := Mx60) (ct := (48, [.ref 32, .ref 26, .int p2, .int p3], [], S11, 0)) hf rfl rfl rfl rfl (fun r9 h9 => f_X7_kicksTo_ok_26 (d := d) h9) (fun r14 S13 hf => ?_)
        show Ev (d + 5) Mx64 (48, [.ref 32, .ref 26, .int p2, .int p3], [.int r14], S13, 0) r
        refine ev_sts 1 (c2 := (49, [.ref 32, .ref 26, .int p2, .int p3], [.int ((-1 : Int32)), .int r14], S13, 0)) rfl ?_
        refine ev_if (c1 := (56, [mK, mK, mK, mK], [], S13, 0)) (c2 := (52, [.ref 32, .ref 26, .int p2, .int p3], [], S13, 0)) hf rfl rfl (fun _ hf => ?_) (fun _ hf => ?_)
        · exact f_X7_canLet_b56_ok_26 hf
        · exact ev_sts 2 (c2 := (57, [mK, mK, mK, mK], [.int ((1 : Int32))], S13, 0)) rfl (f_X7_canLet_b57_ok_26 hf)
theorem f_X7_canLet_b57_ok_24 {d F : Nat} {t0 : Int32} {S : mS} {r : mR} (hf : f_X7_canLet_b57 F 24 t0 S = some r) : Ev (d + 5) Mx64 (57, [mK, mK, mK, mK], [.int t0], S, 0) r := by
  unfold f_X7_canLet_b57 at hf
  exact ev_ret hf rfl rfl
theorem f_X7_canLet_b56_ok_24 {d F : Nat} {S : mS} {r : mR} (hf : f_X7_canLet_b56 F 24  S = some r) : Ev (d + 5) Mx64 (56, [mK, mK, mK, mK], [], S, 0) r := by
  unfold f_X7_canLet_b56 at hf
  exact ev_sts 1 (c2 := (57, [mK, mK, mK, mK], [.int ((0 : Int32))], S, 0)) rfl (f_X7_canLet_b57_ok_24 hf)
theorem f_X7_canLet_ok_24 {d F : Nat} {p2 : Int32} {p3 : Int32} {S : mS} {r : mR} (hf : f_X7_canLet F 24 p2 p3 S = some r) : Ev (d + 5) Mx64 (entry Mx64 [.ref 32, .ref 24, .int p2, .int p3] S) r := by
  unfold f_X7_canLet at hf
  refine ev_sts 2 (c2 := (2, [.ref 32, .ref 24, .int p2, .int p3], [.int ((0 : Int32)), .ref 24], S, 0)) rfl ?_
  refine ev_bI0 (d := d + 4) (M' := Mx1) (ct := (5, [.ref 32, .ref 24, .int p2, .int p3], [], S, 0)) hf rfl rfl rfl rfl (fun r9 h9 => f_X0_at_ok_24 (d := d + 4) h9) (fun r2 S1 hf => ?_)
  show Ev (d + 5) Mx64 (5, [.ref 32, .ref 24, .int p2, .int p3], [.int r2], S1, 0) r
  refine ev_sts 3 (c2 := (8, [.ref 32, .ref 24, .int p2, .int p3], [.int ((0 : Int32)), .int p3, .ref 24, .int r2], S1, 0)) rfl ?_
  refine ev_bI0 (d := d + 4) (M' := Mx4) (ct := (11, [.ref 32, .ref 24, .int p2, .int p3], [.int r2], S1, 0)) hf rfl rfl rfl rfl (fun r9 h9 => f_X0_ofLedge_ok_24 (d := d + 3) h9) (fun r4 S3 hf => ?_)
  show Ev (d + 5) Mx64 (11, [.ref 32, .ref 24, .int p2, .int p3], [.int r4, .int r2], S3, 0) r
  refine ev_if (c1 := (56, [mK, mK, mK, mK], [], S3, 0)) (c2 := (14, [.ref 32, .ref 24, .int p2, .int p3], [], S3, 0)) hf rfl rfl (fun _ hf => ?_) (fun _ hf => ?_)
  · exact f_X7_canLet_b56_ok_24 hf
  · refine ev_sts 2 (c2 := (16, [.ref 32, .ref 24, .int p2, .int p3], [.int ((1 : Int32)), .ref 24], S3, 0)) rfl ?_
    refine ev_bI0 (d := d + 4) (M' := Mx1) (ct := (19, [.ref 32, .ref 24, .int p2, .int p3], [], S3, 0)) hf rfl rfl rfl rfl (fun r9 h9 => f_X0_at_ok_24 (d := d + 4) h9) (fun r6 S5 hf => ?_)
    show Ev (d + 5) Mx64 (19, [.ref 32, .ref 24, .int p2, .int p3], [.int r6], S5, 0) r
    refine ev_sts 2 (c2 := (21, [.ref 32, .ref 24, .int p2, .int p3], [.int ((2 : Int32)), .ref 24, .int r6], S5, 0)) rfl ?_
    refine ev_bI0 (d := d + 4) (M' := Mx1) (ct := (24, [.ref 32, .ref 24, .int p2, .int p3], [.int r6], S5, 0)) hf rfl rfl rfl rfl (fun r9 h9 => f_X0_at_ok_24 (d := d + 4) h9) (fun r8 S7 hf => ?_)
    show Ev (d + 5) Mx64 (24, [.ref 32, .ref 24, .int p2, .int p3], [.int r8, .int r6], S7, 0) r
    refine ev_if (c1 := (56, [mK, mK, mK, mK], [], S7, 0)) (c2 := (27, [.ref 32, .ref 24, .int p2, .int p3], [], S7, 0)) hf rfl rfl (fun _ hf => ?_) (fun _ hf => ?_)
    · exact f_X7_canLet_b56_ok_24 hf
    · refine ev_sts 4 (c2 := (31, [.ref 32, .ref 24, .int p2, .int p3], [.int p3, .int p2, .ref 24, .ref 32], S7, 0)) rfl ?_
      refine ev_bI0 (d := d + 4) (M' := Mx63) (ct := (34, [.ref 32, .ref 24, .int p2, .int p3], [], S7, 0)) hf rfl rfl rfl rfl (fun r9 h9 => f_X7_isHeldByAll_ok_24 (d := d + 1) h9) (fun r10 S9 hf => ?_)
      show Ev (d + 5) Mx64 (34, [.ref 32, .ref 24, .int p2, .int p3], [.int r10], S9, 0) r
      refine ev_if (c1 := (56, [mK, mK, mK, mK], [], S9, 0)) (c2 := (37, [.ref 32, .ref 24, .int p2, .int p3], [], S9, 0)) hf rfl rfl (fun _ hf => ?_) (fun _ hf => ?_)
      · exact f_X7_canLet_b56_ok_24 hf
      · refine ev_sts 5 (c2 := (42, [.ref 32, .ref 24, .int p2, .int p3], [.int ((4 : Int32)), .ref 24, .int p3, .ref 24, .ref 32], S9, 0)) rfl ?_
        refine ev_bI0 (d := d + 4) (M' := Mx1) (ct := (45, [.ref 32, .ref 24, .int p2, .int p3], [.int p3, .ref 24, .ref 32], S9, 0)) hf rfl rfl rfl rfl (fun r9 h9 => f_X0_at_ok_24 (d := d + 4) h9) (fun r12 S11 hf => ?_)
        show Ev (d + 5) Mx64 (45, [.ref 32, .ref 24, .int p2, .int p3], [.int r12, .int p3, .ref 24, .ref 32], S11, 0) r
        refine ev_bI0 (d := d + 4) (M' := Mx60) (ct := (48, [.ref 32, .ref 24, .int p2, .int p3], [], S11, 0)) hf rfl rfl rfl rfl (fun r9 h9 => f_X7_kicksTo_ok_24 (d := d) h9) (fun r14 S13 hf => ?_)
        show Ev (d + 5) Mx64 (48, [.ref 32, .ref 24, .int p2, .int p3], [.int r14], S13, 0) r
        refine ev_sts 1 (c2 := (49, [.ref 32, .ref 24, .int p2, .int p3], [.int ((-1 : Int32)), .int r14], S13, 0)) rfl ?_
        refine ev_if (c1 := (56, [mK, mK, mK, mK], [], S13, 0)) (c2 := (52, [.ref 32, .ref 24, .int p2, .int p3], [], S13, 0)) hf rfl rfl (fun _ hf => ?_) (fun _ hf => ?_)
        · exact f_X7_canLet_b56_ok_24 hf
        · exact ev_sts 2 (c2 := (57, [mK, mK, mK, mK], [.int ((1 : Int32))], S13, 0)) rfl (f_X7_canLet_b57_ok_24 hf)
def f_X9_reachOf_b39 (K4 : Int32 → Int32 → Int32 → mS → Option mR) (F : Nat) (x1 : Int32) (x2 : Int32) (x3 : Int32) (S : mS) : Option mR := K4 x1 x2 (x3 + (1 : Int32)) S
def f_X9_reachOf_b4 (F : Nat) : Nat → Int32 → Int32 → Int32 → mS → Option mR
  | 0, _, _, _, _ => none
  | n + 1, x1, x2, x3, S => bI0 (f_X0_at 24 ((12 : Int32)) S) (fun r2 S1 => (if r2 ≤ x3 then some (.inl (some (.int x2)), S1) else bI0 (f_X7_canLet F 24 x1 x3 S1) (fun r4 S3 => (if r4 = 0 then f_X9_reachOf_b39 (fun x1 x2 x3 S => f_X9_reachOf_b4 F n x1 x2 x3 S) F x1 x2 x3 S3 else bnd (x2 ||| (((1 : Int32)) <<< (x3 &&& 31)) : Int32) (fun y5 => f_X9_reachOf_b39 (fun x1 x2 x3 S => f_X9_reachOf_b4 F n x1 x2 x3 S) F x1 y5 x3 S3)))))
def f_X9_reachOf (F : Nat) (p1 : Int32) (S : mS) : Option mR := f_X9_reachOf_b4 F F p1 ((0 : Int32)) ((0 : Int32)) S
theorem f_X9_reachOf_b39_ok {d F : Nat} {K4 : Int32 → Int32 → Int32 → mS → Option mR} (hK4 : ∀ {x1 : Int32} {x2 : Int32} {x3 : Int32} {S : mS} {r : mR}, K4 x1 x2 x3 S = some r → Ev (d + 6) Mx150 (4, [.ref 0, .int x1, .int x2, .int x3], [], S, 0) r) {x1 : Int32} {x2 : Int32} {x3 : Int32} {S : mS} {r : mR} (hf : f_X9_reachOf_b39 K4 F x1 x2 x3 S = some r) : Ev (d + 6) Mx150 (39, [.ref 0, .int x1, .int x2, .int x3], [], S, 0) r := by
  unfold f_X9_reachOf_b39 at hf
  exact ev_sts 2 (c2 := (4, [.ref 0, .int x1, .int x2, .int (x3 + (1 : Int32))], [], S, 0)) rfl (hK4 hf)
theorem f_X9_reachOf_b4_ok {d F : Nat} : ∀ (n : Nat) {x1 : Int32} {x2 : Int32} {x3 : Int32} {S : mS} {r : mR}, f_X9_reachOf_b4 F n x1 x2 x3 S = some r → Ev (d + 6) Mx150 (4, [.ref 0, .int x1, .int x2, .int x3], [], S, 0) r := by
  intro n
  induction n with
  | zero => intro x1 x2 x3 S r hf; cases hf
  | succ n ih =>
    intro x1 x2 x3 S r hf
    rw [f_X9_reachOf_b4] at hf
    refine ev_sts 4 (c2 := (11, [.ref 0, .int x1, .int x2, .int x3], [.int ((12 : Int32)), .ref 24, .int x3], S, 0)) rfl ?_
    refine ev_bI0 (d := d + 5) (M' := Mx1) (ct := (14, [.ref 0, .int x1, .int x2, .int x3], [.int x3], S, 0)) hf rfl rfl rfl rfl (fun r9 h9 => f_X0_at_ok_24 (d := d + 5) h9) (fun r2 S1 hf => ?_)
    show Ev (d + 6) Mx150 (14, [.ref 0, .int x1, .int x2, .int x3], [.int r2, .int x3], S1, 0) r
    refine ev_if (c1 := (45, [.ref 0, .int x1, .int x2, .int x3], [], S1, 0)) (c2 := (17, [.ref 0, .int x1, .int x2, .int x3], [], S1, 0)) hf rfl rfl (fun _ hf => ?_) (fun _ hf => ?_)
    · refine ev_sts 1 (c2 := (46, [.ref 0, .int x1, .int x2, .int x3], [.int x2], S1, 0)) rfl ?_
      exact ev_ret hf rfl rfl
    · refine ev_sts 6 (c2 := (27, [.ref 0, .int x1, .int x2, .int x3], [.int x3, .int x1, .ref 24, .ref 32], S1, 0)) rfl ?_
      refine ev_bI0 (d := d + 5) (M' := Mx64) (ct := (30, [.ref 0, .int x1, .int x2, .int x3], [], S1, 0)) hf rfl rfl rfl rfl (fun r9 h9 => f_X7_canLet_ok_24 (d := d) h9) (fun r4 S3 hf => ?_)
      show Ev (d + 6) Mx150 (30, [.ref 0, .int x1, .int x2, .int x3], [.int r4], S3, 0) r
      refine ev_if (c1 := (39, [.ref 0, .int x1, .int x2, .int x3], [], S3, 0)) (c2 := (33, [.ref 0, .int x1, .int x2, .int x3], [], S3, 0)) hf rfl rfl (fun _ hf => ?_) (fun _ hf => ?_)
      · exact f_X9_reachOf_b39_ok (fun h9 => ih h9) hf
      · refine ev_sts 6 (c2 := (39, [.ref 0, .int x1, .int (x2 ||| (((1 : Int32)) <<< (x3 &&& 31))), .int x3], [], S3, 0)) rfl ?_
        refine ev_let (P := fun y5 => Ev (d + 6) Mx150 (39, [.ref 0, .int x1, .int y5, .int x3], [], S3, 0) r) (fun y5 hf => ?_) hf
        exact f_X9_reachOf_b39_ok (fun h9 => ih h9) hf
theorem f_X9_reachOf_ok {d F : Nat} {p1 : Int32} {S : mS} {r : mR} (hf : f_X9_reachOf F p1 S = some r) : Ev (d + 6) Mx150 (entry Mx150 [.ref 0, .int p1] S) r := by
  unfold f_X9_reachOf at hf
  exact ev_sts 4 (c2 := (4, [.ref 0, .int p1, .int ((0 : Int32)), .int ((0 : Int32))], [], S, 0)) rfl (f_X9_reachOf_b4_ok _ hf)
def f_X9_climber_b14 (F : Nat) (S : mS) : Option mR := some (.inr 4, S)
def f_X9_climber_b46 (F : Nat) (t0 : Int32) (S : mS) : Option mR := some (.inl (some (.int t0)), S)
def f_X9_climber (F : Nat) (p1 : Int32) (p2 : Int32) (S : mS) : Option mR := bV (f_X9_needClimber p1 S) (fun S1 => (if p2 < 0 then f_X9_climber_b14 F S1 else (if p2 ≤ ((2 : Int32)) then (if ¬ p2 = ((2 : Int32)) then bI0 (f_X0_ofClimber 24 p1 p2 S1) (fun r3 S2 => f_X9_climber_b46 F r3 S2) else bI0 (f_X9_reachOf F p1 S1) (fun r5 S4 => f_X9_climber_b46 F r5 S4)) else f_X9_climber_b14 F S1)))
theorem f_X9_climber_b14_ok {d F : Nat} {S : mS} {r : mR} (hf : f_X9_climber_b14 F  S = some r) : Ev (d + 7) Mx94 (14, [mK, mK, mK], [], S, 1) r := by
  unfold f_X9_climber_b14 at hf
  exact ev_ret hf rfl rfl
theorem f_X9_climber_b46_ok {d F : Nat} {t0 : Int32} {S : mS} {r : mR} (hf : f_X9_climber_b46 F t0 S = some r) : Ev (d + 7) Mx94 (46, [mK, mK, mK], [.int t0], S, 1) r := by
  unfold f_X9_climber_b46 at hf
  exact ev_ret hf rfl rfl
theorem f_X9_climber_ok {d F : Nat} {p1 : Int32} {p2 : Int32} {S : mS} {r : mR} (hf : f_X9_climber F p1 p2 S = some r) : Ev (d + 7) Mx94 (entry Mx94 [.ref 0, .int p1, .int p2] S) r := by
  unfold f_X9_climber at hf
  refine ev_sts 2 (c2 := (2, [.ref 0, .int p1, .int p2], [.int p1, .ref 0], S, 0)) rfl ?_
  refine ev_bV (d := d + 6) (M' := Mx141) (ct := (5, [.ref 0, .int p1, .int p2], [], S, 1)) hf rfl rfl rfl rfl (by decide) (fun r9 h9 => f_X9_needClimber_ok (d := d + 5) h9) (fun S1 hf => ?_)
  show Ev (d + 7) Mx94 (5, [.ref 0, .int p1, .int p2], [], S1, 1) r
  refine ev_sts 1 (c2 := (6, [.ref 0, .int p1, .int p2], [.int p2], S1, 1)) rfl ?_
  refine ev_if (c1 := (14, [mK, mK, mK], [], S1, 1)) (c2 := (9, [.ref 0, .int p1, .int p2], [], S1, 1)) hf rfl rfl (fun _ hf => ?_) (fun _ hf => ?_)
  · exact f_X9_climber_b14_ok hf
  · refine ev_sts 2 (c2 := (11, [.ref 0, .int p1, .int p2], [.int ((2 : Int32)), .int p2], S1, 1)) rfl ?_
    refine ev_if (c1 := (24, [.ref 0, .int p1, .int p2], [], S1, 1)) (c2 := (14, [mK, mK, mK], [], S1, 1)) hf rfl rfl (fun _ hf => ?_) (fun _ hf => ?_)
    · refine ev_sts 2 (c2 := (26, [.ref 0, .int p1, .int p2], [.int ((2 : Int32)), .int p2], S1, 1)) rfl ?_
      refine ev_if (c1 := (37, [.ref 0, .int p1, .int p2], [], S1, 1)) (c2 := (29, [.ref 0, .int p1, .int p2], [], S1, 1)) hf rfl rfl (fun _ hf => ?_) (fun _ hf => ?_)
      · refine ev_sts 4 (c2 := (43, [.ref 0, .int p1, .int p2], [.int p2, .int p1, .ref 24], S1, 1)) rfl ?_
        refine ev_bI0 (d := d + 6) (M' := Mx8) (ct := (46, [mK, mK, mK], [], S1, 1)) hf rfl rfl rfl rfl (fun r9 h9 => f_X0_ofClimber_ok_24 (d := d + 5) h9) (fun r3 S2 hf => ?_)
        show Ev (d + 7) Mx94 (46, [mK, mK, mK], [.int r3], S2, 1) r
        exact f_X9_climber_b46_ok hf
      · refine ev_sts 2 (c2 := (31, [.ref 0, .int p1, .int p2], [.int p1, .ref 0], S1, 1)) rfl ?_
        refine ev_bI0 (d := d + 6) (M' := Mx150) (ct := (34, [.ref 0, .int p1, .int p2], [], S1, 1)) hf rfl rfl rfl rfl (fun r9 h9 => f_X9_reachOf_ok (d := d) h9) (fun r5 S4 hf => ?_)
        show Ev (d + 7) Mx94 (34, [.ref 0, .int p1, .int p2], [.int r5], S4, 1) r
        exact ev_sts 1 (c2 := (46, [mK, mK, mK], [.int r5], S4, 1)) rfl (f_X9_climber_b46_ok hf)
    · exact f_X9_climber_b14_ok hf
def f_X0_totalOf_b4 (F : Nat) (u0 : Nat) : Nat → Int32 → Int32 → Int32 → mS → Option mR
  | 0, _, _, _, _ => none
  | n + 1, x1, x2, x3, S => gd (inb ((12 : Int32)) 446) ((if (S ((u0 + 1)) ((12 : Int32)).toNatClampNeg) ≤ x3 then some (.inl (some (.int x2)), S) else bI0 (f_X0_ofLedge u0 x3 x1 S) (fun r2 S1 => bnd (x2 + r2 : Int32) (fun y3 => f_X0_totalOf_b4 F u0 n x1 y3 (x3 + (1 : Int32)) S1))))
def f_X0_totalOf (F : Nat) (u0 : Nat) (p1 : Int32) (S : mS) : Option mR := f_X0_totalOf_b4 F u0 F p1 ((0 : Int32)) ((0 : Int32)) S
theorem f_X0_totalOf_b4_ok_24 {d F : Nat} : ∀ (n : Nat) {x1 : Int32} {x2 : Int32} {x3 : Int32} {S : mS} {r : mR}, f_X0_totalOf_b4 F 24 n x1 x2 x3 S = some r → Ev (d + 2) Mx15 (4, [.ref 24, .int x1, .int x2, .int x3], [], S, 0) r := by
  intro n
  induction n with
  | zero => intro x1 x2 x3 S r hf; cases hf
  | succ n ih =>
    intro x1 x2 x3 S r hf
    rw [f_X0_totalOf_b4] at hf
    refine ev_sts 4 (c2 := (11, [.ref 24, .int x1, .int x2, .int x3], [.int ((12 : Int32)), .ref 25, .int x3], S, 0)) rfl ?_
    refine ev_gd (c1 := (12, [.ref 24, .int x1, .int x2, .int x3], [.int (S ((24 + 1)) ((12 : Int32)).toNatClampNeg), .int x3], S, 0)) hf rfl rfl (fun hf => ?_)
    refine ev_if (c1 := (30, [.ref 24, .int x1, .int x2, .int x3], [], S, 0)) (c2 := (15, [.ref 24, .int x1, .int x2, .int x3], [], S, 0)) hf rfl rfl (fun _ hf => ?_) (fun _ hf => ?_)
    · refine ev_sts 1 (c2 := (31, [.ref 24, .int x1, .int x2, .int x3], [.int x2], S, 0)) rfl ?_
      exact ev_ret hf rfl rfl
    · refine ev_sts 4 (c2 := (19, [.ref 24, .int x1, .int x2, .int x3], [.int x1, .int x3, .ref 24, .int x2], S, 0)) rfl ?_
      refine ev_bI0 (d := d + 1) (M' := Mx4) (ct := (22, [.ref 24, .int x1, .int x2, .int x3], [.int x2], S, 0)) hf rfl rfl rfl rfl (fun r9 h9 => f_X0_ofLedge_ok_24 (d := d) h9) (fun r2 S1 hf => ?_)
      show Ev (d + 2) Mx15 (22, [.ref 24, .int x1, .int x2, .int x3], [.int r2, .int x2], S1, 0) r
      refine ev_sts 2 (c2 := (24, [.ref 24, .int x1, .int (x2 + r2), .int x3], [], S1, 0)) rfl ?_
      refine ev_let (P := fun y3 => Ev (d + 2) Mx15 (24, [.ref 24, .int x1, .int y3, .int x3], [], S1, 0) r) (fun y3 hf => ?_) hf
      exact ev_sts 2 (c2 := (4, [.ref 24, .int x1, .int y3, .int (x3 + (1 : Int32))], [], S1, 0)) rfl (ih hf)
theorem f_X0_totalOf_ok_24 {d F : Nat} {p1 : Int32} {S : mS} {r : mR} (hf : f_X0_totalOf F 24 p1 S = some r) : Ev (d + 2) Mx15 (entry Mx15 [.ref 24, .int p1] S) r := by
  unfold f_X0_totalOf at hf
  exact ev_sts 4 (c2 := (4, [.ref 24, .int p1, .int ((0 : Int32)), .int ((0 : Int32))], [], S, 0)) rfl (f_X0_totalOf_b4_ok_24 _ hf)
theorem f_X0_totalOf_b4_ok_26 {d F : Nat} : ∀ (n : Nat) {x1 : Int32} {x2 : Int32} {x3 : Int32} {S : mS} {r : mR}, f_X0_totalOf_b4 F 26 n x1 x2 x3 S = some r → Ev (d + 2) Mx15 (4, [.ref 26, .int x1, .int x2, .int x3], [], S, 0) r := by
  intro n
  induction n with
  | zero => intro x1 x2 x3 S r hf; cases hf
  | succ n ih =>
    intro x1 x2 x3 S r hf
    rw [f_X0_totalOf_b4] at hf
    refine ev_sts 4 (c2 := (11, [.ref 26, .int x1, .int x2, .int x3], [.int ((12 : Int32)), .ref 27, .int x3], S, 0)) rfl ?_
    refine ev_gd (c1 := (12, [.ref 26, .int x1, .int x2, .int x3], [.int (S ((26 + 1)) ((12 : Int32)).toNatClampNeg), .int x3], S, 0)) hf rfl rfl (fun hf => ?_)
    refine ev_if (c1 := (30, [.ref 26, .int x1, .int x2, .int x3], [], S, 0)) (c2 := (15, [.ref 26, .int x1, .int x2, .int x3], [], S, 0)) hf rfl rfl (fun _ hf => ?_) (fun _ hf => ?_)
    · refine ev_sts 1 (c2 := (31, [.ref 26, .int x1, .int x2, .int x3], [.int x2], S, 0)) rfl ?_
      exact ev_ret hf rfl rfl
    · refine ev_sts 4 (c2 := (19, [.ref 26, .int x1, .int x2, .int x3], [.int x1, .int x3, .ref 26, .int x2], S, 0)) rfl ?_
      refine ev_bI0 (d := d + 1) (M' := Mx4) (ct := (22, [.ref 26, .int x1, .int x2, .int x3], [.int x2], S, 0)) hf rfl rfl rfl rfl (fun r9 h9 => f_X0_ofLedge_ok_26 (d := d) h9) (fun r2 S1 hf => ?_)
      show Ev (d + 2) Mx15 (22, [.ref 26, .int x1, .int x2, .int x3], [.int r2, .int x2], S1, 0) r
      refine ev_sts 2 (c2 := (24, [.ref 26, .int x1, .int (x2 + r2), .int x3], [], S1, 0)) rfl ?_
      refine ev_let (P := fun y3 => Ev (d + 2) Mx15 (24, [.ref 26, .int x1, .int y3, .int x3], [], S1, 0) r) (fun y3 hf => ?_) hf
      exact ev_sts 2 (c2 := (4, [.ref 26, .int x1, .int y3, .int (x3 + (1 : Int32))], [], S1, 0)) rfl (ih hf)
theorem f_X0_totalOf_ok_26 {d F : Nat} {p1 : Int32} {S : mS} {r : mR} (hf : f_X0_totalOf F 26 p1 S = some r) : Ev (d + 2) Mx15 (entry Mx15 [.ref 26, .int p1] S) r := by
  unfold f_X0_totalOf at hf
  exact ev_sts 4 (c2 := (4, [.ref 26, .int p1, .int ((0 : Int32)), .int ((0 : Int32))], [], S, 0)) rfl (f_X0_totalOf_b4_ok_26 _ hf)
def f_X2_size (S : mS) : Option mR := some (.inl (some (.int (S 3 6))), S)
theorem f_X2_size_ok {d : Nat} {S : mS} {r : mR} (hf : f_X2_size S = some r) : Ev (d) Mx27 (entry Mx27 [.ref 3] S) r := by
  unfold f_X2_size at hf
  refine ev_sts 2 (c2 := (4, [.ref 3], [.int (S 3 6)], S, 0)) rfl ?_
  exact ev_ret hf rfl rfl
def f_X5_size (S : mS) : Option mR := some (.inl (some (.int (S 36 2))), S)
theorem f_X5_size_ok {d : Nat} {S : mS} {r : mR} (hf : f_X5_size S = some r) : Ev (d) Mx42 (entry Mx42 [.ref 36] S) r := by
  unfold f_X5_size at hf
  refine ev_sts 2 (c2 := (4, [.ref 36], [.int (S 36 2)], S, 0)) rfl ?_
  exact ev_ret hf rfl rfl
def f_X9_count (F : Nat) (p1 : Int32) (S : mS) : Option mR := (if p1 = (0 : Int32) then bI0 (f_X0_at 24 ((12 : Int32)) S) (fun r3 S2 => some (.inl (some (.int r3)), S2)) else if p1 = (1 : Int32) then bI0 (f_X0_at 24 ((13 : Int32)) S) (fun r6 S5 => some (.inl (some (.int r6)), S5)) else if p1 = (2 : Int32) then bI0 (f_X0_at 24 ((14 : Int32)) S) (fun r9 S8 => some (.inl (some (.int r9)), S8)) else if p1 = (3 : Int32) then bI0 (f_X0_at 24 ((11 : Int32)) S) (fun r12 S11 => some (.inl (some (.int r12)), S11)) else if p1 = (4 : Int32) then bI0 (f_X2_size S) (fun r15 S14 => some (.inl (some (.int r15)), S14)) else if p1 = (5 : Int32) then bI0 (f_X0_at 24 ((3 : Int32)) S) (fun r18 S17 => some (.inl (some (.int r18)), S17)) else if p1 = (6 : Int32) then bI0 (f_X0_at 24 ((4 : Int32)) S) (fun r21 S20 => some (.inl (some (.int r21)), S20)) else if p1 = (7 : Int32) then bI0 (f_X0_at 24 ((0 : Int32)) S) (fun r24 S23 => some (.inl (some (.int r24)), S23)) else if p1 = (8 : Int32) then bI0 (f_X0_at 24 ((1 : Int32)) S) (fun r27 S26 => some (.inl (some (.int r27)), S26)) else if p1 = (9 : Int32) then bI0 (f_X0_at 24 ((2 : Int32)) S) (fun r30 S29 => some (.inl (some (.int r30)), S29)) else if p1 = (10 : Int32) then bI0 (f_X0_at 24 ((8 : Int32)) S) (fun r33 S32 => some (.inl (some (.int r33)), S32)) else if p1 = (11 : Int32) then bI0 (f_X0_at 24 ((9 : Int32)) S) (fun r36 S35 => some (.inl (some (.int r36)), S35)) else if p1 = (12 : Int32) then bI0 (f_X0_at 24 ((7 : Int32)) S) (fun r39 S38 => some (.inl (some (.int r39)), S38)) else if p1 = (13 : Int32) then bI0 (f_X0_totalOf F 24 ((2 : Int32)) S) (fun r42 S41 => some (.inl (some (.int r42)), S41)) else if p1 = (14 : Int32) then bI0 (f_X0_totalOf F 24 ((4 : Int32)) S) (fun r45 S44 => some (.inl (some (.int r45)), S44)) else if p1 = (15 : Int32) then bI0 (f_X0_at 24 ((15 : Int32)) S) (fun r48 S47 => some (.inl (some (.int r48)), S47)) else if p1 = (16 : Int32) then bI0 (f_X5_size S) (fun r51 S50 => some (.inl (some (.int r51)), S50)) else some (.inl (some (.int ((-1 : Int32)))), S))
theorem f_X9_count_ok {d F : Nat} {p1 : Int32} {S : mS} {r : mR} (hf : f_X9_count F p1 S = some r) : Ev (d + 3) Mx138 (entry Mx138 [.ref 0, .int p1] S) r := by
  unfold f_X9_count at hf
  refine ev_sts 1 (c2 := (1, [.ref 0, .int p1], [.int p1], S, 0)) rfl ?_
  rcases ite_or hf with ⟨h0, hf⟩ | ⟨h0, hf⟩
  · refine ev_sw (l2 := [.ref 0, .int p1]) (st2 := []) (msw_p h0) rfl rfl ?_
    show Ev (d + 3) Mx138 (84, [.ref 0, .int p1], [], S, 0) r
    refine ev_sts 3 (c2 := (90, [.ref 0, .int p1], [.int ((12 : Int32)), .ref 24], S, 0)) rfl ?_
    refine ev_bI0 (d := d + 2) (M' := Mx1) (ct := (93, [.ref 0, .int p1], [], S, 0)) hf rfl rfl rfl rfl (fun r9 h9 => f_X0_at_ok_24 (d := d + 2) h9) (fun r3 S2 hf => ?_)
    show Ev (d + 3) Mx138 (93, [.ref 0, .int p1], [.int r3], S2, 0) r
    exact ev_ret hf rfl rfl
  rcases ite_or hf with ⟨h3, hf⟩ | ⟨h3, hf⟩
  · refine ev_sw (l2 := [.ref 0, .int p1]) (st2 := []) (msw_n h0 (msw_p h3)) rfl rfl ?_
    show Ev (d + 3) Mx138 (94, [.ref 0, .int p1], [], S, 0) r
    refine ev_sts 3 (c2 := (100, [.ref 0, .int p1], [.int ((13 : Int32)), .ref 24], S, 0)) rfl ?_
    refine ev_bI0 (d := d + 2) (M' := Mx1) (ct := (103, [.ref 0, .int p1], [], S, 0)) hf rfl rfl rfl rfl (fun r9 h9 => f_X0_at_ok_24 (d := d + 2) h9) (fun r6 S5 hf => ?_)
    show Ev (d + 3) Mx138 (103, [.ref 0, .int p1], [.int r6], S5, 0) r
    exact ev_ret hf rfl rfl
  rcases ite_or hf with ⟨h6, hf⟩ | ⟨h6, hf⟩
  · refine ev_sw (l2 := [.ref 0, .int p1]) (st2 := []) (msw_n h0 (msw_n h3 (msw_p h6))) rfl rfl ?_
    show Ev (d + 3) Mx138 (104, [.ref 0, .int p1], [], S, 0) r
    refine ev_sts 3 (c2 := (110, [.ref 0, .int p1], [.int ((14 : Int32)), .ref 24], S, 0)) rfl ?_
    refine ev_bI0 (d := d + 2) (M' := Mx1) (ct := (113, [.ref 0, .int p1], [], S, 0)) hf rfl rfl rfl rfl (fun r9 h9 => f_X0_at_ok_24 (d := d + 2) h9) (fun r9 S8 hf => ?_)
    show Ev (d + 3) Mx138 (113, [.ref 0, .int p1], [.int r9], S8, 0) r
    exact ev_ret hf rfl rfl
  rcases ite_or hf with ⟨h9, hf⟩ | ⟨h9, hf⟩
  · refine ev_sw (l2 := [.ref 0, .int p1]) (st2 := []) (msw_n h0 (msw_n h3 (msw_n h6 (msw_p h9)))) rfl rfl ?_
    show Ev (d + 3) Mx138 (114, [.ref 0, .int p1], [], S, 0) r
    refine ev_sts 3 (c2 := (120, [.ref 0, .int p1], [.int ((11 : Int32)), .ref 24], S, 0)) rfl ?_
    refine ev_bI0 (d := d + 2) (M' := Mx1) (ct := (123, [.ref 0, .int p1], [], S, 0)) hf rfl rfl rfl rfl (fun r9 h9 => f_X0_at_ok_24 (d := d + 2) h9) (fun r12 S11 hf => ?_)
    show Ev (d + 3) Mx138 (123, [.ref 0, .int p1], [.int r12], S11, 0) r
    exact ev_ret hf rfl rfl
  rcases ite_or hf with ⟨h12, hf⟩ | ⟨h12, hf⟩
  · refine ev_sw (l2 := [.ref 0, .int p1]) (st2 := []) (msw_n h0 (msw_n h3 (msw_n h6 (msw_n h9 (msw_p h12))))) rfl rfl ?_
    show Ev (d + 3) Mx138 (124, [.ref 0, .int p1], [], S, 0) r
    refine ev_sts 2 (c2 := (128, [.ref 0, .int p1], [.ref 3], S, 0)) rfl ?_
    refine ev_bI0 (d := d + 2) (M' := Mx27) (ct := (131, [.ref 0, .int p1], [], S, 0)) hf rfl rfl rfl rfl (fun r9 h9 => f_X2_size_ok (d := d + 2) h9) (fun r15 S14 hf => ?_)
    show Ev (d + 3) Mx138 (131, [.ref 0, .int p1], [.int r15], S14, 0) r
    exact ev_ret hf rfl rfl
  rcases ite_or hf with ⟨h15, hf⟩ | ⟨h15, hf⟩
  · refine ev_sw (l2 := [.ref 0, .int p1]) (st2 := []) (msw_n h0 (msw_n h3 (msw_n h6 (msw_n h9 (msw_n h12 (msw_p h15)))))) rfl rfl ?_
    show Ev (d + 3) Mx138 (132, [.ref 0, .int p1], [], S, 0) r
    refine ev_sts 3 (c2 := (137, [.ref 0, .int p1], [.int ((3 : Int32)), .ref 24], S, 0)) rfl ?_
    refine ev_bI0 (d := d + 2) (M' := Mx1) (ct := (140, [.ref 0, .int p1], [], S, 0)) hf rfl rfl rfl rfl (fun r9 h9 => f_X0_at_ok_24 (d := d + 2) h9) (fun r18 S17 hf => ?_)
    show Ev (d + 3) Mx138 (140, [.ref 0, .int p1], [.int r18], S17, 0) r
    exact ev_ret hf rfl rfl
  rcases ite_or hf with ⟨h18, hf⟩ | ⟨h18, hf⟩
  · refine ev_sw (l2 := [.ref 0, .int p1]) (st2 := []) (msw_n h0 (msw_n h3 (msw_n h6 (msw_n h9 (msw_n h12 (msw_n h15 (msw_p h18))))))) rfl rfl ?_
    show Ev (d + 3) Mx138 (141, [.ref 0, .int p1], [], S, 0) r
    refine ev_sts 3 (c2 := (146, [.ref 0, .int p1], [.int ((4 : Int32)), .ref 24], S, 0)) rfl ?_
    refine ev_bI0 (d := d + 2) (M' := Mx1) (ct := (149, [.ref 0, .int p1], [], S, 0)) hf rfl rfl rfl rfl (fun r9 h9 => f_X0_at_ok_24 (d := d + 2) h9) (fun r21 S20 hf => ?_)
    show Ev (d + 3) Mx138 (149, [.ref 0, .int p1], [.int r21], S20, 0) r
    exact ev_ret hf rfl rfl
  rcases ite_or hf with ⟨h21, hf⟩ | ⟨h21, hf⟩
  · refine ev_sw (l2 := [.ref 0, .int p1]) (st2 := []) (msw_n h0 (msw_n h3 (msw_n h6 (msw_n h9 (msw_n h12 (msw_n h15 (msw_n h18 (msw_p h21)))))))) rfl rfl ?_
    show Ev (d + 3) Mx138 (150, [.ref 0, .int p1], [], S, 0) r
    refine ev_sts 3 (c2 := (155, [.ref 0, .int p1], [.int ((0 : Int32)), .ref 24], S, 0)) rfl ?_
    refine ev_bI0 (d := d + 2) (M' := Mx1) (ct := (158, [.ref 0, .int p1], [], S, 0)) hf rfl rfl rfl rfl (fun r9 h9 => f_X0_at_ok_24 (d := d + 2) h9) (fun r24 S23 hf => ?_)
    show Ev (d + 3) Mx138 (158, [.ref 0, .int p1], [.int r24], S23, 0) r
    exact ev_ret hf rfl rfl
  rcases ite_or hf with ⟨h24, hf⟩ | ⟨h24, hf⟩
  · refine ev_sw (l2 := [.ref 0, .int p1]) (st2 := []) (msw_n h0 (msw_n h3 (msw_n h6 (msw_n h9 (msw_n h12 (msw_n h15 (msw_n h18 (msw_n h21 (msw_p h24))))))))) rfl rfl ?_
    show Ev (d + 3) Mx138 (159, [.ref 0, .int p1], [], S, 0) r
    refine ev_sts 3 (c2 := (164, [.ref 0, .int p1], [.int ((1 : Int32)), .ref 24], S, 0)) rfl ?_
    refine ev_bI0 (d := d + 2) (M' := Mx1) (ct := (167, [.ref 0, .int p1], [], S, 0)) hf rfl rfl rfl rfl (fun r9 h9 => f_X0_at_ok_24 (d := d + 2) h9) (fun r27 S26 hf => ?_)
    show Ev (d + 3) Mx138 (167, [.ref 0, .int p1], [.int r27], S26, 0) r
    exact ev_ret hf rfl rfl
  rcases ite_or hf with ⟨h27, hf⟩ | ⟨h27, hf⟩
  · refine ev_sw (l2 := [.ref 0, .int p1]) (st2 := []) (msw_n h0 (msw_n h3 (msw_n h6 (msw_n h9 (msw_n h12 (msw_n h15 (msw_n h18 (msw_n h21 (msw_n h24 (msw_p h27)))))))))) rfl rfl ?_
    show Ev (d + 3) Mx138 (168, [.ref 0, .int p1], [], S, 0) r
    refine ev_sts 3 (c2 := (173, [.ref 0, .int p1], [.int ((2 : Int32)), .ref 24], S, 0)) rfl ?_
    refine ev_bI0 (d := d + 2) (M' := Mx1) (ct := (176, [.ref 0, .int p1], [], S, 0)) hf rfl rfl rfl rfl (fun r9 h9 => f_X0_at_ok_24 (d := d + 2) h9) (fun r30 S29 hf => ?_)
    show Ev (d + 3) Mx138 (176, [.ref 0, .int p1], [.int r30], S29, 0) r
    exact ev_ret hf rfl rfl
  rcases ite_or hf with ⟨h30, hf⟩ | ⟨h30, hf⟩
  · refine ev_sw (l2 := [.ref 0, .int p1]) (st2 := []) (msw_n h0 (msw_n h3 (msw_n h6 (msw_n h9 (msw_n h12 (msw_n h15 (msw_n h18 (msw_n h21 (msw_n h24 (msw_n h27 (msw_p h30))))))))))) rfl rfl ?_
    show Ev (d + 3) Mx138 (177, [.ref 0, .int p1], [], S, 0) r
    refine ev_sts 3 (c2 := (183, [.ref 0, .int p1], [.int ((8 : Int32)), .ref 24], S, 0)) rfl ?_
    refine ev_bI0 (d := d + 2) (M' := Mx1) (ct := (186, [.ref 0, .int p1], [], S, 0)) hf rfl rfl rfl rfl (fun r9 h9 => f_X0_at_ok_24 (d := d + 2) h9) (fun r33 S32 hf => ?_)
    show Ev (d + 3) Mx138 (186, [.ref 0, .int p1], [.int r33], S32, 0) r
    exact ev_ret hf rfl rfl
  rcases ite_or hf with ⟨h33, hf⟩ | ⟨h33, hf⟩
  · refine ev_sw (l2 := [.ref 0, .int p1]) (st2 := []) (msw_n h0 (msw_n h3 (msw_n h6 (msw_n h9 (msw_n h12 (msw_n h15 (msw_n h18 (msw_n h21 (msw_n h24 (msw_n h27 (msw_n h30 (msw_p h33)))))))))))) rfl rfl ?_
    show Ev (d + 3) Mx138 (187, [.ref 0, .int p1], [], S, 0) r
    refine ev_sts 3 (c2 := (193, [.ref 0, .int p1], [.int ((9 : Int32)), .ref 24], S, 0)) rfl ?_
    refine ev_bI0 (d := d + 2) (M' := Mx1) (ct := (196, [.ref 0, .int p1], [], S, 0)) hf rfl rfl rfl rfl (fun r9 h9 => f_X0_at_ok_24 (d := d + 2) h9) (fun r36 S35 hf => ?_)
    show Ev (d + 3) Mx138 (196, [.ref 0, .int p1], [.int r36], S35, 0) r
    exact ev_ret hf rfl rfl
  rcases ite_or hf with ⟨h36, hf⟩ | ⟨h36, hf⟩
  · refine ev_sw (l2 := [.ref 0, .int p1]) (st2 := []) (msw_n h0 (msw_n h3 (msw_n h6 (msw_n h9 (msw_n h12 (msw_n h15 (msw_n h18 (msw_n h21 (msw_n h24 (msw_n h27 (msw_n h30 (msw_n h33 (msw_p h36))))))))))))) rfl rfl ?_
    show Ev (d + 3) Mx138 (197, [.ref 0, .int p1], [], S, 0) r
    refine ev_sts 3 (c2 := (203, [.ref 0, .int p1], [.int ((7 : Int32)), .ref 24], S, 0)) rfl ?_
    refine ev_bI0 (d := d + 2) (M' := Mx1) (ct := (206, [.ref 0, .int p1], [], S, 0)) hf rfl rfl rfl rfl (fun r9 h9 => f_X0_at_ok_24 (d := d + 2) h9) (fun r39 S38 hf => ?_)
    show Ev (d + 3) Mx138 (206, [.ref 0, .int p1], [.int r39], S38, 0) r
    exact ev_ret hf rfl rfl
  rcases ite_or hf with ⟨h39, hf⟩ | ⟨h39, hf⟩
  · refine ev_sw (l2 := [.ref 0, .int p1]) (st2 := []) (msw_n h0 (msw_n h3 (msw_n h6 (msw_n h9 (msw_n h12 (msw_n h15 (msw_n h18 (msw_n h21 (msw_n h24 (msw_n h27 (msw_n h30 (msw_n h33 (msw_n h36 (msw_p h39)))))))))))))) rfl rfl ?_
    show Ev (d + 3) Mx138 (207, [.ref 0, .int p1], [], S, 0) r
    refine ev_sts 3 (c2 := (212, [.ref 0, .int p1], [.int ((2 : Int32)), .ref 24], S, 0)) rfl ?_
    refine ev_bI0 (d := d + 2) (M' := Mx15) (ct := (215, [.ref 0, .int p1], [], S, 0)) hf rfl rfl rfl rfl (fun r9 h9 => f_X0_totalOf_ok_24 (d := d) h9) (fun r42 S41 hf => ?_)
    show Ev (d + 3) Mx138 (215, [.ref 0, .int p1], [.int r42], S41, 0) r
    exact ev_ret hf rfl rfl
  rcases ite_or hf with ⟨h42, hf⟩ | ⟨h42, hf⟩
  · refine ev_sw (l2 := [.ref 0, .int p1]) (st2 := []) (msw_n h0 (msw_n h3 (msw_n h6 (msw_n h9 (msw_n h12 (msw_n h15 (msw_n h18 (msw_n h21 (msw_n h24 (msw_n h27 (msw_n h30 (msw_n h33 (msw_n h36 (msw_n h39 (msw_p h42))))))))))))))) rfl rfl ?_
    show Ev (d + 3) Mx138 (216, [.ref 0, .int p1], [], S, 0) r
    refine ev_sts 3 (c2 := (221, [.ref 0, .int p1], [.int ((4 : Int32)), .ref 24], S, 0)) rfl ?_
    refine ev_bI0 (d := d + 2) (M' := Mx15) (ct := (224, [.ref 0, .int p1], [], S, 0)) hf rfl rfl rfl rfl (fun r9 h9 => f_X0_totalOf_ok_24 (d := d) h9) (fun r45 S44 hf => ?_)
    show Ev (d + 3) Mx138 (224, [.ref 0, .int p1], [.int r45], S44, 0) r
    exact ev_ret hf rfl rfl
  rcases ite_or hf with ⟨h45, hf⟩ | ⟨h45, hf⟩
  · refine ev_sw (l2 := [.ref 0, .int p1]) (st2 := []) (msw_n h0 (msw_n h3 (msw_n h6 (msw_n h9 (msw_n h12 (msw_n h15 (msw_n h18 (msw_n h21 (msw_n h24 (msw_n h27 (msw_n h30 (msw_n h33 (msw_n h36 (msw_n h39 (msw_n h42 (msw_p h45)))))))))))))))) rfl rfl ?_
    show Ev (d + 3) Mx138 (225, [.ref 0, .int p1], [], S, 0) r
    refine ev_sts 3 (c2 := (231, [.ref 0, .int p1], [.int ((15 : Int32)), .ref 24], S, 0)) rfl ?_
    refine ev_bI0 (d := d + 2) (M' := Mx1) (ct := (234, [.ref 0, .int p1], [], S, 0)) hf rfl rfl rfl rfl (fun r9 h9 => f_X0_at_ok_24 (d := d + 2) h9) (fun r48 S47 hf => ?_)
    show Ev (d + 3) Mx138 (234, [.ref 0, .int p1], [.int r48], S47, 0) r
    exact ev_ret hf rfl rfl
  rcases ite_or hf with ⟨h48, hf⟩ | ⟨h48, hf⟩
  · refine ev_sw (l2 := [.ref 0, .int p1]) (st2 := []) (msw_n h0 (msw_n h3 (msw_n h6 (msw_n h9 (msw_n h12 (msw_n h15 (msw_n h18 (msw_n h21 (msw_n h24 (msw_n h27 (msw_n h30 (msw_n h33 (msw_n h36 (msw_n h39 (msw_n h42 (msw_n h45 (msw_p h48))))))))))))))))) rfl rfl ?_
    show Ev (d + 3) Mx138 (235, [.ref 0, .int p1], [], S, 0) r
    refine ev_sts 2 (c2 := (239, [.ref 0, .int p1], [.ref 36], S, 0)) rfl ?_
    refine ev_bI0 (d := d + 2) (M' := Mx42) (ct := (242, [.ref 0, .int p1], [], S, 0)) hf rfl rfl rfl rfl (fun r9 h9 => f_X5_size_ok (d := d + 2) h9) (fun r51 S50 hf => ?_)
    show Ev (d + 3) Mx138 (242, [.ref 0, .int p1], [.int r51], S50, 0) r
    exact ev_ret hf rfl rfl
  refine ev_sw (l2 := [.ref 0, .int p1]) (st2 := []) (msw_n h0 (msw_n h3 (msw_n h6 (msw_n h9 (msw_n h12 (msw_n h15 (msw_n h18 (msw_n h21 (msw_n h24 (msw_n h27 (msw_n h30 (msw_n h33 (msw_n h36 (msw_n h39 (msw_n h42 (msw_n h45 (msw_n h48 rfl))))))))))))))))) rfl rfl ?_
  show Ev (d + 3) Mx138 (243, [.ref 0, .int p1], [], S, 0) r
  refine ev_sts 1 (c2 := (244, [.ref 0, .int p1], [.int ((-1 : Int32))], S, 0)) rfl ?_
  exact ev_ret hf rfl rfl
def f_X0_draw (u0 : Nat) (S : mS) : Option mR := gd (inb ((10 : Int32)) 446) (gd (inb ((10 : Int32)) 446) (bnd (upS S ((u0 + 1)) ((10 : Int32)).toNatClampNeg ((((1103515245 : Int32)) * (S ((u0 + 1)) ((10 : Int32)).toNatClampNeg)) + ((12345 : Int32)))) (fun S1 => gd (inb ((10 : Int32)) 446) (some (.inl (some (.int (((S1 ((u0 + 1)) ((10 : Int32)).toNatClampNeg) >>> (((16 : Int32)) &&& 31)) &&& ((32767 : Int32))))), S1)))))
theorem f_X0_draw_ok_26 {d : Nat} {S : mS} {r : mR} (hf : f_X0_draw 26 S = some r) : Ev (d) Mx18 (entry Mx18 [.ref 26] S) r := by
  unfold f_X0_draw at hf
  refine ev_sts 7 (c2 := (14, [.ref 26], [.int ((10 : Int32)), .ref 27, .int ((1103515245 : Int32)), .int ((10 : Int32)), .ref 27], S, 0)) rfl ?_
  refine ev_gd (c1 := (15, [.ref 26], [.int (S ((26 + 1)) ((10 : Int32)).toNatClampNeg), .int ((1103515245 : Int32)), .int ((10 : Int32)), .ref 27], S, 0)) hf rfl rfl (fun hf => ?_)
  refine ev_sts 3 (c2 := (20, [.ref 26], [.int ((((1103515245 : Int32)) * (S ((26 + 1)) ((10 : Int32)).toNatClampNeg)) + ((12345 : Int32))), .int ((10 : Int32)), .ref 27], S, 0)) rfl ?_
  refine ev_gd (c1 := (21, [.ref 26], [], (upS S ((26 + 1)) ((10 : Int32)).toNatClampNeg ((((1103515245 : Int32)) * (S ((26 + 1)) ((10 : Int32)).toNatClampNeg)) + ((12345 : Int32)))), 0)) hf rfl rfl (fun hf => ?_)
  refine ev_let (P := fun S1 => Ev (d) Mx18 (21, [.ref 26], [], S1, 0) r) (fun S1 hf => ?_) hf
  refine ev_sts 3 (c2 := (27, [.ref 26], [.int ((10 : Int32)), .ref 27], S1, 0)) rfl ?_
  refine ev_gd (c1 := (28, [.ref 26], [.int (S1 ((26 + 1)) ((10 : Int32)).toNatClampNeg)], S1, 0)) hf rfl rfl (fun hf => ?_)
  refine ev_sts 4 (c2 := (35, [.ref 26], [.int (((S1 ((26 + 1)) ((10 : Int32)).toNatClampNeg) >>> (((16 : Int32)) &&& 31)) &&& ((32767 : Int32)))], S1, 0)) rfl ?_
  exact ev_ret hf rfl rfl
theorem f_X0_draw_ok_24 {d : Nat} {S : mS} {r : mR} (hf : f_X0_draw 24 S = some r) : Ev (d) Mx18 (entry Mx18 [.ref 24] S) r := by
  unfold f_X0_draw at hf
  refine ev_sts 7 (c2 := (14, [.ref 24], [.int ((10 : Int32)), .ref 25, .int ((1103515245 : Int32)), .int ((10 : Int32)), .ref 25], S, 0)) rfl ?_
  refine ev_gd (c1 := (15, [.ref 24], [.int (S ((24 + 1)) ((10 : Int32)).toNatClampNeg), .int ((1103515245 : Int32)), .int ((10 : Int32)), .ref 25], S, 0)) hf rfl rfl (fun hf => ?_)
  refine ev_sts 3 (c2 := (20, [.ref 24], [.int ((((1103515245 : Int32)) * (S ((24 + 1)) ((10 : Int32)).toNatClampNeg)) + ((12345 : Int32))), .int ((10 : Int32)), .ref 25], S, 0)) rfl ?_
  refine ev_gd (c1 := (21, [.ref 24], [], (upS S ((24 + 1)) ((10 : Int32)).toNatClampNeg ((((1103515245 : Int32)) * (S ((24 + 1)) ((10 : Int32)).toNatClampNeg)) + ((12345 : Int32)))), 0)) hf rfl rfl (fun hf => ?_)
  refine ev_let (P := fun S1 => Ev (d) Mx18 (21, [.ref 24], [], S1, 0) r) (fun S1 hf => ?_) hf
  refine ev_sts 3 (c2 := (27, [.ref 24], [.int ((10 : Int32)), .ref 25], S1, 0)) rfl ?_
  refine ev_gd (c1 := (28, [.ref 24], [.int (S1 ((24 + 1)) ((10 : Int32)).toNatClampNeg)], S1, 0)) hf rfl rfl (fun hf => ?_)
  refine ev_sts 4 (c2 := (35, [.ref 24], [.int (((S1 ((24 + 1)) ((10 : Int32)).toNatClampNeg) >>> (((16 : Int32)) &&& 31)) &&& ((32767 : Int32)))], S1, 0)) rfl ?_
  exact ev_ret hf rfl rfl
def f_X0_putHolder (u0 : Nat) (p1 : Int32) (p2 : Int32) (p3 : Int32) (S : mS) : Option mR := bV0 (f_X0_put u0 ((((66 : Int32)) + (p1 * ((2 : Int32)))) + p2) p3 S) (fun S1 => some (.inl none, S1))
theorem f_X0_putHolder_ok_26 {d : Nat} {p1 : Int32} {p2 : Int32} {p3 : Int32} {S : mS} {r : mR} (hf : f_X0_putHolder 26 p1 p2 p3 S = some r) : Ev (d + 1) Mx7 (entry Mx7 [.ref 26, .int p1, .int p2, .int p3] S) r := by
  unfold f_X0_putHolder at hf
  refine ev_sts 9 (c2 := (10, [.ref 26, .int p1, .int p2, .int p3], [.int p3, .int ((((66 : Int32)) + (p1 * ((2 : Int32)))) + p2), .ref 26], S, 0)) rfl ?_
  refine ev_bV0 (d := d) (M' := Mx2) (ct := (13, [.ref 26, .int p1, .int p2, .int p3], [], S, 0)) hf rfl rfl rfl rfl (fun r9 h9 => f_X0_put_ok_26 (d := d) h9) (fun S1 hf => ?_)
  show Ev (d + 1) Mx7 (13, [.ref 26, .int p1, .int p2, .int p3], [], S1, 0) r
  exact ev_ret hf rfl rfl
theorem f_X0_putHolder_ok_24 {d : Nat} {p1 : Int32} {p2 : Int32} {p3 : Int32} {S : mS} {r : mR} (hf : f_X0_putHolder 24 p1 p2 p3 S = some r) : Ev (d + 1) Mx7 (entry Mx7 [.ref 24, .int p1, .int p2, .int p3] S) r := by
  unfold f_X0_putHolder at hf
  refine ev_sts 9 (c2 := (10, [.ref 24, .int p1, .int p2, .int p3], [.int p3, .int ((((66 : Int32)) + (p1 * ((2 : Int32)))) + p2), .ref 24], S, 0)) rfl ?_
  refine ev_bV0 (d := d) (M' := Mx2) (ct := (13, [.ref 24, .int p1, .int p2, .int p3], [], S, 0)) hf rfl rfl rfl rfl (fun r9 h9 => f_X0_put_ok_24 (d := d) h9) (fun S1 hf => ?_)
  show Ev (d + 1) Mx7 (13, [.ref 24, .int p1, .int p2, .int p3], [], S1, 0) r
  exact ev_ret hf rfl rfl
def f_X7_easeHolders_b2 (F : Nat) (u1 : Nat) : Nat → Int32 → mS → Option mR
  | 0, _, _ => none
  | n + 1, x2, S => bI0 (f_X0_at u1 ((13 : Int32)) S) (fun r2 S1 => (if r2 ≤ x2 then some (.inl none, S1) else bI0 (f_X0_ofHolder u1 x2 ((1 : Int32)) S1) (fun r4 S3 => bV0 (f_X0_putHolder u1 x2 ((1 : Int32)) (if ((0 : Int32)) < (r4 - ((2 : Int32))) then (r4 - ((2 : Int32))) else ((0 : Int32))) S3) (fun S5 => f_X7_easeHolders_b2 F u1 n (x2 + (1 : Int32)) S5))))
def f_X7_easeHolders (F : Nat) (u1 : Nat) (S : mS) : Option mR := f_X7_easeHolders_b2 F u1 F ((0 : Int32)) S
theorem f_X7_easeHolders_b2_ok_26 {d F : Nat} : ∀ (n : Nat) {x2 : Int32} {S : mS} {r : mR}, f_X7_easeHolders_b2 F 26 n x2 S = some r → Ev (d + 2) Mx70 (2, [mK, .ref 26, .int x2], [], S, 0) r := by
  intro n
  induction n with
  | zero => intro x2 S r hf; cases hf
  | succ n ih =>
    intro x2 S r hf
    rw [f_X7_easeHolders_b2] at hf
    refine ev_sts 3 (c2 := (6, [mK, .ref 26, .int x2], [.int ((13 : Int32)), .ref 26, .int x2], S, 0)) rfl ?_
    refine ev_bI0 (d := d + 1) (M' := Mx1) (ct := (9, [mK, .ref 26, .int x2], [.int x2], S, 0)) hf rfl rfl rfl rfl (fun r9 h9 => f_X0_at_ok_26 (d := d + 1) h9) (fun r2 S1 hf => ?_)
    show Ev (d + 2) Mx70 (9, [mK, .ref 26, .int x2], [.int r2, .int x2], S1, 0) r
    refine ev_if (c1 := (36, [mK, .ref 26, .int x2], [], S1, 0)) (c2 := (12, [mK, .ref 26, .int x2], [], S1, 0)) hf rfl rfl (fun _ hf => ?_) (fun _ hf => ?_)
    · exact ev_ret hf rfl rfl
    · refine ev_sts 7 (c2 := (19, [mK, .ref 26, .int x2], [.int ((1 : Int32)), .int x2, .ref 26, .int ((0 : Int32)), .int ((1 : Int32)), .int x2, .ref 26], S1, 0)) rfl ?_
      refine ev_bI0 (d := d + 1) (M' := Mx6) (ct := (22, [mK, .ref 26, .int x2], [.int ((0 : Int32)), .int ((1 : Int32)), .int x2, .ref 26], S1, 0)) hf rfl rfl rfl rfl (fun r9 h9 => f_X0_ofHolder_ok_26 (d := d) h9) (fun r4 S3 hf => ?_)
      show Ev (d + 2) Mx70 (22, [mK, .ref 26, .int x2], [.int r4, .int ((0 : Int32)), .int ((1 : Int32)), .int x2, .ref 26], S3, 0) r
      refine ev_sts 3 (c2 := (27, [mK, .ref 26, .int x2], [.int (if ((0 : Int32)) < (r4 - ((2 : Int32))) then (r4 - ((2 : Int32))) else ((0 : Int32))), .int ((1 : Int32)), .int x2, .ref 26], S3, 0)) rfl ?_
      refine ev_bV0 (d := d + 1) (M' := Mx7) (ct := (30, [mK, .ref 26, .int x2], [], S3, 0)) hf rfl rfl rfl rfl (fun r9 h9 => f_X0_putHolder_ok_26 (d := d) h9) (fun S5 hf => ?_)
      show Ev (d + 2) Mx70 (30, [mK, .ref 26, .int x2], [], S5, 0) r
      exact ev_sts 2 (c2 := (2, [mK, .ref 26, .int (x2 + (1 : Int32))], [], S5, 0)) rfl (ih hf)
theorem f_X7_easeHolders_ok_26 {d F : Nat} {S : mS} {r : mR} (hf : f_X7_easeHolders F 26 S = some r) : Ev (d + 2) Mx70 (entry Mx70 [.ref 32, .ref 26] S) r := by
  unfold f_X7_easeHolders at hf
  exact ev_sts 2 (c2 := (2, [mK, .ref 26, .int ((0 : Int32))], [], S, 0)) rfl (f_X7_easeHolders_b2_ok_26 _ hf)
theorem f_X7_easeHolders_b2_ok_24 {d F : Nat} : ∀ (n : Nat) {x2 : Int32} {S : mS} {r : mR}, f_X7_easeHolders_b2 F 24 n x2 S = some r → Ev (d + 2) Mx70 (2, [mK, .ref 24, .int x2], [], S, 0) r := by
  intro n
  induction n with
  | zero => intro x2 S r hf; cases hf
  | succ n ih =>
    intro x2 S r hf
    rw [f_X7_easeHolders_b2] at hf
    refine ev_sts 3 (c2 := (6, [mK, .ref 24, .int x2], [.int ((13 : Int32)), .ref 24, .int x2], S, 0)) rfl ?_
    refine ev_bI0 (d := d + 1) (M' := Mx1) (ct := (9, [mK, .ref 24, .int x2], [.int x2], S, 0)) hf rfl rfl rfl rfl (fun r9 h9 => f_X0_at_ok_24 (d := d + 1) h9) (fun r2 S1 hf => ?_)
    show Ev (d + 2) Mx70 (9, [mK, .ref 24, .int x2], [.int r2, .int x2], S1, 0) r
    refine ev_if (c1 := (36, [mK, .ref 24, .int x2], [], S1, 0)) (c2 := (12, [mK, .ref 24, .int x2], [], S1, 0)) hf rfl rfl (fun _ hf => ?_) (fun _ hf => ?_)
    · exact ev_ret hf rfl rfl
    · refine ev_sts 7 (c2 := (19, [mK, .ref 24, .int x2], [.int ((1 : Int32)), .int x2, .ref 24, .int ((0 : Int32)), .int ((1 : Int32)), .int x2, .ref 24], S1, 0)) rfl ?_
      refine ev_bI0 (d := d + 1) (M' := Mx6) (ct := (22, [mK, .ref 24, .int x2], [.int ((0 : Int32)), .int ((1 : Int32)), .int x2, .ref 24], S1, 0)) hf rfl rfl rfl rfl (fun r9 h9 => f_X0_ofHolder_ok_24 (d := d) h9) (fun r4 S3 hf => ?_)
      show Ev (d + 2) Mx70 (22, [mK, .ref 24, .int x2], [.int r4, .int ((0 : Int32)), .int ((1 : Int32)), .int x2, .ref 24], S3, 0) r
      refine ev_sts 3 (c2 := (27, [mK, .ref 24, .int x2], [.int (if ((0 : Int32)) < (r4 - ((2 : Int32))) then (r4 - ((2 : Int32))) else ((0 : Int32))), .int ((1 : Int32)), .int x2, .ref 24], S3, 0)) rfl ?_
      refine ev_bV0 (d := d + 1) (M' := Mx7) (ct := (30, [mK, .ref 24, .int x2], [], S3, 0)) hf rfl rfl rfl rfl (fun r9 h9 => f_X0_putHolder_ok_24 (d := d) h9) (fun S5 hf => ?_)
      show Ev (d + 2) Mx70 (30, [mK, .ref 24, .int x2], [], S5, 0) r
      exact ev_sts 2 (c2 := (2, [mK, .ref 24, .int (x2 + (1 : Int32))], [], S5, 0)) rfl (ih hf)
theorem f_X7_easeHolders_ok_24 {d F : Nat} {S : mS} {r : mR} (hf : f_X7_easeHolders F 24 S = some r) : Ev (d + 2) Mx70 (entry Mx70 [.ref 32, .ref 24] S) r := by
  unfold f_X7_easeHolders at hf
  exact ev_sts 2 (c2 := (2, [mK, .ref 24, .int ((0 : Int32))], [], S, 0)) rfl (f_X7_easeHolders_b2_ok_24 _ hf)
