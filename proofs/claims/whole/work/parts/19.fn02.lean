def f_X7_dayMore_b38 (F : Nat) (u1 : Nat) : Nat → Int32 → Int32 → mS → Option mR
  | 0, _, _, _ => none
  | n + 1, x2, x3, S => bI0 (f_X0_at u1 ((12 : Int32)) S) (fun r9 S8 => (if r9 ≤ x3 then bV0 (f_X7_easeHolders F u1 S8) (fun S10 => bV0 (f_X0_passDay u1 S10) (fun S11 => some (.inl (some (.int x2)), S11))) else bI0 (f_X7_layOn F u1 x3 S8) (fun r13 S12 => bnd (x2 + r13 : Int32) (fun y14 => f_X7_dayMore_b38 F u1 n y14 (x3 + (1 : Int32)) S12))))
def f_X7_dayMore_b34 (F : Nat) (u1 : Nat) (S : mS) : Option mR := f_X7_dayMore_b38 F u1 F ((0 : Int32)) ((0 : Int32)) S
def f_X7_dayMore (F : Nat) (u1 : Nat) (S : mS) : Option mR := bI0 (f_X0_draw u1 S) (fun r2 S1 => gd (decide (¬ (10 : Int32) = 0)) (bV0 (f_X0_put u1 ((4 : Int32)) (r2 - r2 / ((10 : Int32)) * ((10 : Int32))) S1) (fun S3 => bI0 (f_X0_draw u1 S3) (fun r5 S4 => gd (decide (¬ (100 : Int32) = 0)) (bI0 (f_X0_at u1 ((5 : Int32)) S4) (fun r7 S6 => (if r7 ≤ (r5 - r5 / ((100 : Int32)) * ((100 : Int32))) then f_X7_dayMore_b34 F u1 S6 else bV0 (f_X0_put u1 ((4 : Int32)) ((9 : Int32)) S6) (fun S15 => f_X7_dayMore_b34 F u1 S15))))))))
theorem f_X7_dayMore_b38_ok_26 {d F : Nat} : ∀ (n : Nat) {x2 : Int32} {x3 : Int32} {S : mS} {r : mR}, f_X7_dayMore_b38 F 26 n x2 x3 S = some r → Ev (d + 5) Mx67 (38, [.ref 32, .ref 26, .int x2, .int x3], [], S, 0) r := by
  intro n
  induction n with
  | zero => intro x2 x3 S r hf; cases hf
  | succ n ih =>
    intro x2 x3 S r hf
    rw [f_X7_dayMore_b38] at hf
    refine ev_sts 3 (c2 := (42, [.ref 32, .ref 26, .int x2, .int x3], [.int ((12 : Int32)), .ref 26, .int x3], S, 0)) rfl ?_
    refine ev_bI0 (d := d + 4) (M' := Mx1) (ct := (45, [.ref 32, .ref 26, .int x2, .int x3], [.int x3], S, 0)) hf rfl rfl rfl rfl (fun r9 h9 => f_X0_at_ok_26 (d := d + 4) h9) (fun r9 S8 hf => ?_)
    show Ev (d + 5) Mx67 (45, [.ref 32, .ref 26, .int x2, .int x3], [.int r9, .int x3], S8, 0) r
    refine ev_if (c1 := (63, [.ref 32, .ref 26, .int x2, .int x3], [], S8, 0)) (c2 := (48, [.ref 32, .ref 26, .int x2, .int x3], [], S8, 0)) hf rfl rfl (fun _ hf => ?_) (fun _ hf => ?_)
    · refine ev_sts 2 (c2 := (65, [.ref 32, .ref 26, .int x2, .int x3], [.ref 26, .ref 32], S8, 0)) rfl ?_
      refine ev_bV0 (d := d + 4) (M' := Mx70) (ct := (68, [.ref 32, .ref 26, .int x2, .int x3], [], S8, 0)) hf rfl rfl rfl rfl (fun r9 h9 => f_X7_easeHolders_ok_26 (d := d + 2) h9) (fun S10 hf => ?_)
      show Ev (d + 5) Mx67 (68, [.ref 32, .ref 26, .int x2, .int x3], [], S10, 0) r
      refine ev_sts 1 (c2 := (69, [.ref 32, .ref 26, .int x2, .int x3], [.ref 26], S10, 0)) rfl ?_
      refine ev_bV0 (d := d + 4) (M' := Mx19) (ct := (72, [.ref 32, .ref 26, .int x2, .int x3], [], S10, 0)) hf rfl rfl rfl rfl (fun r9 h9 => f_X0_passDay_ok_26 (d := d + 4) h9) (fun S11 hf => ?_)
      show Ev (d + 5) Mx67 (72, [.ref 32, .ref 26, .int x2, .int x3], [], S11, 0) r
      refine ev_sts 1 (c2 := (73, [.ref 32, .ref 26, .int x2, .int x3], [.int x2], S11, 0)) rfl ?_
      exact ev_ret hf rfl rfl
    · refine ev_sts 4 (c2 := (52, [.ref 32, .ref 26, .int x2, .int x3], [.int x3, .ref 26, .ref 32, .int x2], S8, 0)) rfl ?_
      refine ev_bI0 (d := d + 4) (M' := Mx69) (ct := (55, [.ref 32, .ref 26, .int x2, .int x3], [.int x2], S8, 0)) hf rfl rfl rfl rfl (fun r9 h9 => f_X7_layOn_ok_26 (d := d) h9) (fun r13 S12 hf => ?_)
      show Ev (d + 5) Mx67 (55, [.ref 32, .ref 26, .int x2, .int x3], [.int r13, .int x2], S12, 0) r
      refine ev_sts 2 (c2 := (57, [.ref 32, .ref 26, .int (x2 + r13), .int x3], [], S12, 0)) rfl ?_
      refine ev_let (P := fun y14 => Ev (d + 5) Mx67 (57, [.ref 32, .ref 26, .int y14, .int x3], [], S12, 0) r) (fun y14 hf => ?_) hf
      exact ev_sts 2 (c2 := (38, [.ref 32, .ref 26, .int y14, .int (x3 + (1 : Int32))], [], S12, 0)) rfl (ih hf)
theorem f_X7_dayMore_b34_ok_26 {d F : Nat} {S : mS} {r : mR} (hf : f_X7_dayMore_b34 F 26  S = some r) : Ev (d + 5) Mx67 (34, [.ref 32, .ref 26, mK, mK], [], S, 0) r := by
  unfold f_X7_dayMore_b34 at hf
  exact ev_sts 4 (c2 := (38, [.ref 32, .ref 26, .int ((0 : Int32)), .int ((0 : Int32))], [], S, 0)) rfl (f_X7_dayMore_b38_ok_26 _ hf)
theorem f_X7_dayMore_ok_26 {d F : Nat} {S : mS} {r : mR} (hf : f_X7_dayMore F 26 S = some r) : Ev (d + 5) Mx67 (entry Mx67 [.ref 32, .ref 26] S) r := by
  unfold f_X7_dayMore at hf
  refine ev_sts 3 (c2 := (3, [.ref 32, .ref 26, mK, mK], [.ref 26, .int ((4 : Int32)), .ref 26], S, 0)) rfl ?_
  refine ev_bI0 (d := d + 4) (M' := Mx18) (ct := (6, [.ref 32, .ref 26, mK, mK], [.int ((4 : Int32)), .ref 26], S, 0)) hf rfl rfl rfl rfl (fun r9 h9 => f_X0_draw_ok_26 (d := d + 4) h9) (fun r2 S1 hf => ?_)
  show Ev (d + 5) Mx67 (6, [.ref 32, .ref 26, mK, mK], [.int r2, .int ((4 : Int32)), .ref 26], S1, 0) r
  refine ev_sts 1 (c2 := (8, [.ref 32, .ref 26, mK, mK], [.int ((10 : Int32)), .int r2, .int ((4 : Int32)), .ref 26], S1, 0)) rfl ?_
  refine ev_gd (c1 := (9, [.ref 32, .ref 26, mK, mK], [.int (r2 - r2 / ((10 : Int32)) * ((10 : Int32))), .int ((4 : Int32)), .ref 26], S1, 0)) hf rfl rfl (fun hf => ?_)
  refine ev_bV0 (d := d + 4) (M' := Mx2) (ct := (12, [.ref 32, .ref 26, mK, mK], [], S1, 0)) hf rfl rfl rfl rfl (fun r9 h9 => f_X0_put_ok_26 (d := d + 4) h9) (fun S3 hf => ?_)
  show Ev (d + 5) Mx67 (12, [.ref 32, .ref 26, mK, mK], [], S3, 0) r
  refine ev_sts 1 (c2 := (13, [.ref 32, .ref 26, mK, mK], [.ref 26], S3, 0)) rfl ?_
  refine ev_bI0 (d := d + 4) (M' := Mx18) (ct := (16, [.ref 32, .ref 26, mK, mK], [], S3, 0)) hf rfl rfl rfl rfl (fun r9 h9 => f_X0_draw_ok_26 (d := d + 4) h9) (fun r5 S4 hf => ?_)
  show Ev (d + 5) Mx67 (16, [.ref 32, .ref 26, mK, mK], [.int r5], S4, 0) r
  refine ev_sts 1 (c2 := (18, [.ref 32, .ref 26, mK, mK], [.int ((100 : Int32)), .int r5], S4, 0)) rfl ?_
  refine ev_gd (c1 := (19, [.ref 32, .ref 26, mK, mK], [.int (r5 - r5 / ((100 : Int32)) * ((100 : Int32)))], S4, 0)) hf rfl rfl (fun hf => ?_)
  refine ev_sts 2 (c2 := (21, [.ref 32, .ref 26, mK, mK], [.int ((5 : Int32)), .ref 26, .int (r5 - r5 / ((100 : Int32)) * ((100 : Int32)))], S4, 0)) rfl ?_
  refine ev_bI0 (d := d + 4) (M' := Mx1) (ct := (24, [.ref 32, .ref 26, mK, mK], [.int (r5 - r5 / ((100 : Int32)) * ((100 : Int32)))], S4, 0)) hf rfl rfl rfl rfl (fun r9 h9 => f_X0_at_ok_26 (d := d + 4) h9) (fun r7 S6 hf => ?_)
  show Ev (d + 5) Mx67 (24, [.ref 32, .ref 26, mK, mK], [.int r7, .int (r5 - r5 / ((100 : Int32)) * ((100 : Int32)))], S6, 0) r
  refine ev_if (c1 := (34, [.ref 32, .ref 26, mK, mK], [], S6, 0)) (c2 := (27, [.ref 32, .ref 26, mK, mK], [], S6, 0)) hf rfl rfl (fun _ hf => ?_) (fun _ hf => ?_)
  · exact f_X7_dayMore_b34_ok_26 hf
  · refine ev_sts 3 (c2 := (31, [.ref 32, .ref 26, mK, mK], [.int ((9 : Int32)), .int ((4 : Int32)), .ref 26], S6, 0)) rfl ?_
    refine ev_bV0 (d := d + 4) (M' := Mx2) (ct := (34, [.ref 32, .ref 26, mK, mK], [], S6, 0)) hf rfl rfl rfl rfl (fun r9 h9 => f_X0_put_ok_26 (d := d + 4) h9) (fun S15 hf => ?_)
    show Ev (d + 5) Mx67 (34, [.ref 32, .ref 26, mK, mK], [], S15, 0) r
    exact f_X7_dayMore_b34_ok_26 hf
theorem f_X7_dayMore_b38_ok_24 {d F : Nat} : ∀ (n : Nat) {x2 : Int32} {x3 : Int32} {S : mS} {r : mR}, f_X7_dayMore_b38 F 24 n x2 x3 S = some r → Ev (d + 5) Mx67 (38, [.ref 32, .ref 24, .int x2, .int x3], [], S, 0) r := by
  intro n
  induction n with
  | zero => intro x2 x3 S r hf; cases hf
  | succ n ih =>
    intro x2 x3 S r hf
    rw [f_X7_dayMore_b38] at hf
    refine ev_sts 3 (c2 := (42, [.ref 32, .ref 24, .int x2, .int x3], [.int ((12 : Int32)), .ref 24, .int x3], S, 0)) rfl ?_
    refine ev_bI0 (d := d + 4) (M' := Mx1) (ct := (45, [.ref 32, .ref 24, .int x2, .int x3], [.int x3], S, 0)) hf rfl rfl rfl rfl (fun r9 h9 => f_X0_at_ok_24 (d := d + 4) h9) (fun r9 S8 hf => ?_)
    show Ev (d + 5) Mx67 (45, [.ref 32, .ref 24, .int x2, .int x3], [.int r9, .int x3], S8, 0) r
    refine ev_if (c1 := (63, [.ref 32, .ref 24, .int x2, .int x3], [], S8, 0)) (c2 := (48, [.ref 32, .ref 24, .int x2, .int x3], [], S8, 0)) hf rfl rfl (fun _ hf => ?_) (fun _ hf => ?_)
    · refine ev_sts 2 (c2 := (65, [.ref 32, .ref 24, .int x2, .int x3], [.ref 24, .ref 32], S8, 0)) rfl ?_
      refine ev_bV0 (d := d + 4) (M' := Mx70) (ct := (68, [.ref 32, .ref 24, .int x2, .int x3], [], S8, 0)) hf rfl rfl rfl rfl (fun r9 h9 => f_X7_easeHolders_ok_24 (d := d + 2) h9) (fun S10 hf => ?_)
      show Ev (d + 5) Mx67 (68, [.ref 32, .ref 24, .int x2, .int x3], [], S10, 0) r
      refine ev_sts 1 (c2 := (69, [.ref 32, .ref 24, .int x2, .int x3], [.ref 24], S10, 0)) rfl ?_
      refine ev_bV0 (d := d + 4) (M' := Mx19) (ct := (72, [.ref 32, .ref 24, .int x2, .int x3], [], S10, 0)) hf rfl rfl rfl rfl (fun r9 h9 => f_X0_passDay_ok_24 (d := d + 4) h9) (fun S11 hf => ?_)
      show Ev (d + 5) Mx67 (72, [.ref 32, .ref 24, .int x2, .int x3], [], S11, 0) r
      refine ev_sts 1 (c2 := (73, [.ref 32, .ref 24, .int x2, .int x3], [.int x2], S11, 0)) rfl ?_
      exact ev_ret hf rfl rfl
    · refine ev_sts 4 (c2 := (52, [.ref 32, .ref 24, .int x2, .int x3], [.int x3, .ref 24, .ref 32, .int x2], S8, 0)) rfl ?_
      refine ev_bI0 (d := d + 4) (M' := Mx69) (ct := (55, [.ref 32, .ref 24, .int x2, .int x3], [.int x2], S8, 0)) hf rfl rfl rfl rfl (fun r9 h9 => f_X7_layOn_ok_24 (d := d) h9) (fun r13 S12 hf => ?_)
      show Ev (d + 5) Mx67 (55, [.ref 32, .ref 24, .int x2, .int x3], [.int r13, .int x2], S12, 0) r
      refine ev_sts 2 (c2 := (57, [.ref 32, .ref 24, .int (x2 + r13), .int x3], [], S12, 0)) rfl ?_
      refine ev_let (P := fun y14 => Ev (d + 5) Mx67 (57, [.ref 32, .ref 24, .int y14, .int x3], [], S12, 0) r) (fun y14 hf => ?_) hf
      exact ev_sts 2 (c2 := (38, [.ref 32, .ref 24, .int y14, .int (x3 + (1 : Int32))], [], S12, 0)) rfl (ih hf)
theorem f_X7_dayMore_b34_ok_24 {d F : Nat} {S : mS} {r : mR} (hf : f_X7_dayMore_b34 F 24  S = some r) : Ev (d + 5) Mx67 (34, [.ref 32, .ref 24, mK, mK], [], S, 0) r := by
  unfold f_X7_dayMore_b34 at hf
  exact ev_sts 4 (c2 := (38, [.ref 32, .ref 24, .int ((0 : Int32)), .int ((0 : Int32))], [], S, 0)) rfl (f_X7_dayMore_b38_ok_24 _ hf)
theorem f_X7_dayMore_ok_24 {d F : Nat} {S : mS} {r : mR} (hf : f_X7_dayMore F 24 S = some r) : Ev (d + 5) Mx67 (entry Mx67 [.ref 32, .ref 24] S) r := by
  unfold f_X7_dayMore at hf
  refine ev_sts 3 (c2 := (3, [.ref 32, .ref 24, mK, mK], [.ref 24, .int ((4 : Int32)), .ref 24], S, 0)) rfl ?_
  refine ev_bI0 (d := d + 4) (M' := Mx18) (ct := (6, [.ref 32, .ref 24, mK, mK], [.int ((4 : Int32)), .ref 24], S, 0)) hf rfl rfl rfl rfl (fun r9 h9 => f_X0_draw_ok_24 (d := d + 4) h9) (fun r2 S1 hf => ?_)
  show Ev (d + 5) Mx67 (6, [.ref 32, .ref 24, mK, mK], [.int r2, .int ((4 : Int32)), .ref 24], S1, 0) r
  refine ev_sts 1 (c2 := (8, [.ref 32, .ref 24, mK, mK], [.int ((10 : Int32)), .int r2, .int ((4 : Int32)), .ref 24], S1, 0)) rfl ?_
  refine ev_gd (c1 := (9, [.ref 32, .ref 24, mK, mK], [.int (r2 - r2 / ((10 : Int32)) * ((10 : Int32))), .int ((4 : Int32)), .ref 24], S1, 0)) hf rfl rfl (fun hf => ?_)
  refine ev_bV0 (d := d + 4) (M' := Mx2) (ct := (12, [.ref 32, .ref 24, mK, mK], [], S1, 0)) hf rfl rfl rfl rfl (fun r9 h9 => f_X0_put_ok_24 (d := d + 4) h9) (fun S3 hf => ?_)
  show Ev (d + 5) Mx67 (12, [.ref 32, .ref 24, mK, mK], [], S3, 0) r
  refine ev_sts 1 (c2 := (13, [.ref 32, .ref 24, mK, mK], [.ref 24], S3, 0)) rfl ?_
  refine ev_bI0 (d := d + 4) (M' := Mx18) (ct := (16, [.ref 32, .ref 24, mK, mK], [], S3, 0)) hf rfl rfl rfl rfl (fun r9 h9 => f_X0_draw_ok_24 (d := d + 4) h9) (fun r5 S4 hf => ?_)
  show Ev (d + 5) Mx67 (16, [.ref 32, .ref 24, mK, mK], [.int r5], S4, 0) r
  refine ev_sts 1 (c2 := (18, [.ref 32, .ref 24, mK, mK], [.int ((100 : Int32)), .int r5], S4, 0)) rfl ?_
  refine ev_gd (c1 := (19, [.ref 32, .ref 24, mK, mK], [.int (r5 - r5 / ((100 : Int32)) * ((100 : Int32)))], S4, 0)) hf rfl rfl (fun hf => ?_)
  refine ev_sts 2 (c2 := (21, [.ref 32, .ref 24, mK, mK], [.int ((5 : Int32)), .ref 24, .int (r5 - r5 / ((100 : Int32)) * ((100 : Int32)))], S4, 0)) rfl ?_
  refine ev_bI0 (d := d + 4) (M' := Mx1) (ct := (24, [.ref 32, .ref 24, mK, mK], [.int (r5 - r5 / ((100 : Int32)) * ((100 : Int32)))], S4, 0)) hf rfl rfl rfl rfl (fun r9 h9 => f_X0_at_ok_24 (d := d + 4) h9) (fun r7 S6 hf => ?_)
  show Ev (d + 5) Mx67 (24, [.ref 32, .ref 24, mK, mK], [.int r7, .int (r5 - r5 / ((100 : Int32)) * ((100 : Int32)))], S6, 0) r
  refine ev_if (c1 := (34, [.ref 32, .ref 24, mK, mK], [], S6, 0)) (c2 := (27, [.ref 32, .ref 24, mK, mK], [], S6, 0)) hf rfl rfl (fun _ hf => ?_) (fun _ hf => ?_)
  · exact f_X7_dayMore_b34_ok_24 hf
  · refine ev_sts 3 (c2 := (31, [.ref 32, .ref 24, mK, mK], [.int ((9 : Int32)), .int ((4 : Int32)), .ref 24], S6, 0)) rfl ?_
    refine ev_bV0 (d := d + 4) (M' := Mx2) (ct := (34, [.ref 32, .ref 24, mK, mK], [], S6, 0)) hf rfl rfl rfl rfl (fun r9 h9 => f_X0_put_ok_24 (d := d + 4) h9) (fun S15 hf => ?_)
    show Ev (d + 5) Mx67 (34, [.ref 32, .ref 24, mK, mK], [], S15, 0) r
    exact f_X7_dayMore_b34_ok_24 hf
def f_X9_days_b22 (F : Nat) : Nat → Int32 → Int32 → Int32 → mS → Option mR
  | 0, _, _, _, _ => none
  | n + 1, x1, x2, x3, S => (if x1 ≤ x3 then some (.inl (some (.int x2)), S) else bI0 (f_X7_dayMore F 24 S) (fun r4 S3 => bnd (x2 + r4 : Int32) (fun y5 => f_X9_days_b22 F n x1 y5 (x3 + (1 : Int32)) S3)))
def f_X9_days (F : Nat) (p1 : Int32) (S : mS) : Option mR := bV (f_X9_needWithin p1 ((1 : Int32)) ((60 : Int32)) S) (fun S1 => bV0 (f_X5_remember S1) (fun S2 => f_X9_days_b22 F F p1 ((0 : Int32)) ((0 : Int32)) S2))
theorem f_X9_days_b22_ok {d F : Nat} : ∀ (n : Nat) {x1 : Int32} {x2 : Int32} {x3 : Int32} {S : mS} {r : mR}, f_X9_days_b22 F n x1 x2 x3 S = some r → Ev (d + 6) Mx103 (22, [.ref 0, .int x1, .int x2, .int x3], [], S, 1) r := by
  intro n
  induction n with
  | zero => intro x1 x2 x3 S r hf; cases hf
  | succ n ih =>
    intro x1 x2 x3 S r hf
    rw [f_X9_days_b22] at hf
    refine ev_sts 2 (c2 := (24, [.ref 0, .int x1, .int x2, .int x3], [.int x1, .int x3], S, 1)) rfl ?_
    refine ev_if (c1 := (47, [.ref 0, .int x1, .int x2, .int x3], [], S, 1)) (c2 := (27, [.ref 0, .int x1, .int x2, .int x3], [], S, 1)) hf rfl rfl (fun _ hf => ?_) (fun _ hf => ?_)
    · refine ev_sts 1 (c2 := (48, [.ref 0, .int x1, .int x2, .int x3], [.int x2], S, 1)) rfl ?_
      exact ev_ret hf rfl rfl
    · refine ev_sts 5 (c2 := (36, [.ref 0, .int x1, .int x2, .int x3], [.ref 24, .ref 32, .int x2], S, 1)) rfl ?_
      refine ev_bI0 (d := d + 5) (M' := Mx67) (ct := (39, [.ref 0, .int x1, .int x2, .int x3], [.int x2], S, 1)) hf rfl rfl rfl rfl (fun r9 h9 => f_X7_dayMore_ok_24 (d := d) h9) (fun r4 S3 hf => ?_)
      show Ev (d + 6) Mx103 (39, [.ref 0, .int x1, .int x2, .int x3], [.int r4, .int x2], S3, 1) r
      refine ev_sts 2 (c2 := (41, [.ref 0, .int x1, .int (x2 + r4), .int x3], [], S3, 1)) rfl ?_
      refine ev_let (P := fun y5 => Ev (d + 6) Mx103 (41, [.ref 0, .int x1, .int y5, .int x3], [], S3, 1) r) (fun y5 hf => ?_) hf
      exact ev_sts 2 (c2 := (22, [.ref 0, .int x1, .int y5, .int (x3 + (1 : Int32))], [], S3, 1)) rfl (ih hf)
theorem f_X9_days_ok {d F : Nat} {p1 : Int32} {S : mS} {r : mR} (hf : f_X9_days F p1 S = some r) : Ev (d + 6) Mx103 (entry Mx103 [.ref 0, .int p1] S) r := by
  unfold f_X9_days at hf
  refine ev_sts 3 (c2 := (4, [.ref 0, .int p1, mK, mK], [.int ((60 : Int32)), .int ((1 : Int32)), .int p1], S, 0)) rfl ?_
  refine ev_bV (d := d + 5) (M' := Mx142) (ct := (7, [.ref 0, .int p1, mK, mK], [], S, 1)) hf rfl rfl rfl rfl (by decide) (fun r9 h9 => f_X9_needWithin_ok (d := d + 5) h9) (fun S1 hf => ?_)
  show Ev (d + 6) Mx103 (7, [.ref 0, .int p1, mK, mK], [], S1, 1) r
  refine ev_sts 4 (c2 := (15, [.ref 0, .int p1, mK, mK], [.ref 24, .ref 36], S1, 1)) rfl ?_
  refine ev_bV0 (d := d + 5) (M' := Mx44) (ct := (18, [.ref 0, .int p1, mK, mK], [], S1, 1)) hf rfl rfl rfl rfl (fun r9 h9 => f_X5_remember_ok (d := d + 4) h9) (fun S2 hf => ?_)
  show Ev (d + 6) Mx103 (18, [.ref 0, .int p1, mK, mK], [], S2, 1) r
  exact ev_sts 4 (c2 := (22, [.ref 0, .int p1, .int ((0 : Int32)), .int ((0 : Int32))], [], S2, 1)) rfl (f_X9_days_b22_ok _ hf)
def f_X8_cut (p1 : Int32) (S : mS) : Option mR := bnd (upS S 1 1 p1) (fun S1 => some (.inl none, S1))
theorem f_X8_cut_ok {d : Nat} {p1 : Int32} {S : mS} {r : mR} (hf : f_X8_cut p1 S = some r) : Ev (d) Mx74 (entry Mx74 [.ref 1, .int p1] S) r := by
  unfold f_X8_cut at hf
  refine ev_sts 3 (c2 := (5, [.ref 1, .int p1], [], (upS S 1 1 p1), 0)) rfl ?_
  refine ev_let (P := fun S1 => Ev (d) Mx74 (5, [.ref 1, .int p1], [], S1, 0) r) (fun S1 hf => ?_) hf
  exact ev_ret hf rfl rfl
def f_X8_size (S : mS) : Option mR := some (.inl (some (.int (S 1 1))), S)
theorem f_X8_size_ok {d : Nat} {S : mS} {r : mR} (hf : f_X8_size S = some r) : Ev (d) Mx71 (entry Mx71 [.ref 1] S) r := by
  unfold f_X8_size at hf
  refine ev_sts 2 (c2 := (4, [.ref 1], [.int (S 1 1)], S, 0)) rfl ?_
  exact ev_ret hf rfl rfl
def f_X9_end_b15 (S : mS) : Option mR := some (.inl (some (.int (((0 : Int32)) &&& 1))), S)
def f_X9_end (p1 : Int32) (S : mS) : Option mR := (if p1 < 0 then f_X9_end_b15 S else bI0 (f_X8_size S) (fun r2 S1 => (if p1 ≤ r2 then bV0 (f_X8_cut p1 S1) (fun S3 => some (.inl (some (.int (((1 : Int32)) &&& 1))), S3)) else f_X9_end_b15 S1)))
theorem f_X9_end_b15_ok {d : Nat} {S : mS} {r : mR} (hf : f_X9_end_b15  S = some r) : Ev (d + 1) Mx88 (15, [mK, mK], [], S, 0) r := by
  unfold f_X9_end_b15 at hf
  refine ev_sts 1 (c2 := (16, [mK, mK], [.int ((0 : Int32))], S, 0)) rfl ?_
  exact ev_ret hf rfl rfl
theorem f_X9_end_ok {d : Nat} {p1 : Int32} {S : mS} {r : mR} (hf : f_X9_end p1 S = some r) : Ev (d + 1) Mx88 (entry Mx88 [.ref 0, .int p1] S) r := by
  unfold f_X9_end at hf
  refine ev_sts 1 (c2 := (1, [.ref 0, .int p1], [.int p1], S, 0)) rfl ?_
  refine ev_if (c1 := (15, [mK, mK], [], S, 0)) (c2 := (4, [.ref 0, .int p1], [], S, 0)) hf rfl rfl (fun _ hf => ?_) (fun _ hf => ?_)
  · exact f_X9_end_b15_ok hf
  · refine ev_sts 3 (c2 := (9, [.ref 0, .int p1], [.ref 1, .int p1], S, 0)) rfl ?_
    refine ev_bI0 (d := d) (M' := Mx71) (ct := (12, [.ref 0, .int p1], [.int p1], S, 0)) hf rfl rfl rfl rfl (fun r9 h9 => f_X8_size_ok (d := d) h9) (fun r2 S1 hf => ?_)
    show Ev (d + 1) Mx88 (12, [.ref 0, .int p1], [.int r2, .int p1], S1, 0) r
    refine ev_if (c1 := (17, [.ref 0, .int p1], [], S1, 0)) (c2 := (15, [mK, mK], [], S1, 0)) hf rfl rfl (fun _ hf => ?_) (fun _ hf => ?_)
    · refine ev_sts 3 (c2 := (22, [.ref 0, .int p1], [.int p1, .ref 1], S1, 0)) rfl ?_
      refine ev_bV0 (d := d) (M' := Mx74) (ct := (25, [.ref 0, .int p1], [], S1, 0)) hf rfl rfl rfl rfl (fun r9 h9 => f_X8_cut_ok (d := d) h9) (fun S3 hf => ?_)
      show Ev (d + 1) Mx88 (25, [.ref 0, .int p1], [], S3, 0) r
      refine ev_sts 1 (c2 := (26, [.ref 0, .int p1], [.int ((1 : Int32))], S3, 0)) rfl ?_
      exact ev_ret hf rfl rfl
    · exact f_X9_end_b15_ok hf
def f_X9_holderSets (S : mS) : Option mR := bI0 (f_X0_at 24 ((13 : Int32)) S) (fun r2 S1 => some (.inl (some (.int (((1 : Int32)) <<< (r2 &&& 31)))), S1))
theorem f_X9_holderSets_ok {d : Nat} {S : mS} {r : mR} (hf : f_X9_holderSets S = some r) : Ev (d + 1) Mx145 (entry Mx145 [.ref 0] S) r := by
  unfold f_X9_holderSets at hf
  refine ev_sts 4 (c2 := (7, [.ref 0], [.int ((13 : Int32)), .ref 24, .int ((1 : Int32))], S, 0)) rfl ?_
  refine ev_bI0 (d := d) (M' := Mx1) (ct := (10, [.ref 0], [.int ((1 : Int32))], S, 0)) hf rfl rfl rfl rfl (fun r9 h9 => f_X0_at_ok_24 (d := d) h9) (fun r2 S1 hf => ?_)
  show Ev (d + 1) Mx145 (10, [.ref 0], [.int r2, .int ((1 : Int32))], S1, 0) r
  refine ev_sts 1 (c2 := (11, [.ref 0], [.int (((1 : Int32)) <<< (r2 &&& 31))], S1, 0)) rfl ?_
  exact ev_ret hf rfl rfl
def f_J6_bitCount_0f7a4 (p0 : Int32) (S : mS) : Option mR := bnd (p0 - (((p0.toUInt32 >>> (((1 : Int32)).toUInt32 &&& Int32.toUInt32 31)).toInt32) &&& ((1431655765 : Int32))) : Int32) (fun y1 => bnd ((y1 &&& ((858993459 : Int32))) + (((y1.toUInt32 >>> (((2 : Int32)).toUInt32 &&& Int32.toUInt32 31)).toInt32) &&& ((858993459 : Int32))) : Int32) (fun y2 => bnd ((y2 + ((y2.toUInt32 >>> (((4 : Int32)).toUInt32 &&& Int32.toUInt32 31)).toInt32)) &&& ((252645135 : Int32)) : Int32) (fun y3 => bnd (y3 + ((y3.toUInt32 >>> (((8 : Int32)).toUInt32 &&& Int32.toUInt32 31)).toInt32) : Int32) (fun y4 => bnd (y4 + ((y4.toUInt32 >>> (((16 : Int32)).toUInt32 &&& Int32.toUInt32 31)).toInt32) : Int32) (fun y5 => some (.inl (some (.int (y5 &&& ((63 : Int32))))), S))))))
theorem f_J6_bitCount_0f7a4_ok {d : Nat} {p0 : Int32} {S : mS} {r : mR} (hf : f_J6_bitCount_0f7a4 p0 S = some r) : Ev (d) Mx284 (entry Mx284 [.int p0] S) r := by
  unfold f_J6_bitCount_0f7a4 at hf
  refine ev_sts 8 (c2 := (10, [.int (p0 - (((p0.toUInt32 >>> (((1 : Int32)).toUInt32 &&& Int32.toUInt32 31)).toInt32) &&& ((1431655765 : Int32))))], [], S, 0)) rfl ?_
  refine ev_let (P := fun y1 => Ev (d) Mx284 (10, [.int y1], [], S, 0) r) (fun y1 hf => ?_) hf
  refine ev_sts 10 (c2 := (24, [.int ((y1 &&& ((858993459 : Int32))) + (((y1.toUInt32 >>> (((2 : Int32)).toUInt32 &&& Int32.toUInt32 31)).toInt32) &&& ((858993459 : Int32))))], [], S, 0)) rfl ?_
  refine ev_let (P := fun y2 => Ev (d) Mx284 (24, [.int y2], [], S, 0) r) (fun y2 hf => ?_) hf
  refine ev_sts 8 (c2 := (34, [.int ((y2 + ((y2.toUInt32 >>> (((4 : Int32)).toUInt32 &&& Int32.toUInt32 31)).toInt32)) &&& ((252645135 : Int32)))], [], S, 0)) rfl ?_
  refine ev_let (P := fun y3 => Ev (d) Mx284 (34, [.int y3], [], S, 0) r) (fun y3 hf => ?_) hf
  refine ev_sts 6 (c2 := (41, [.int (y3 + ((y3.toUInt32 >>> (((8 : Int32)).toUInt32 &&& Int32.toUInt32 31)).toInt32))], [], S, 0)) rfl ?_
  refine ev_let (P := fun y4 => Ev (d) Mx284 (41, [.int y4], [], S, 0) r) (fun y4 hf => ?_) hf
  refine ev_sts 6 (c2 := (48, [.int (y4 + ((y4.toUInt32 >>> (((16 : Int32)).toUInt32 &&& Int32.toUInt32 31)).toInt32))], [], S, 0)) rfl ?_
  refine ev_let (P := fun y5 => Ev (d) Mx284 (48, [.int y5], [], S, 0) r) (fun y5 hf => ?_) hf
  refine ev_sts 3 (c2 := (52, [.int y5], [.int (y5 &&& ((63 : Int32)))], S, 0)) rfl ?_
  exact ev_ret hf rfl rfl
def f_X9_enough_b91 (K30 : Int32 → Int32 → Int32 → mS → Option mR) (F : Nat) (x3 : Int32) (x4 : Int32) (x5 : Int32) (S : mS) : Option mR := K30 x3 x4 (x5 + (1 : Int32)) S
def f_X9_enough_b63 (K30 : Int32 → Int32 → Int32 → mS → Option mR) (F : Nat) (x3 : Int32) (x4 : Int32) (x5 : Int32) (t0 : Int32) (S : mS) : Option mR := (if t0 = 0 then f_X9_enough_b91 K30 F x3 x4 x5 S else bI0 (f_X7_strengthOf F 24 x5 S) (fun r8 S7 => (if r8 < x3 then f_X9_enough_b91 K30 F x3 x4 x5 S7 else f_X9_enough_b91 K30 F x3 x5 x5 S7)))
def f_X9_enough_b58 (K30 : Int32 → Int32 → Int32 → mS → Option mR) (F : Nat) (x3 : Int32) (x4 : Int32) (x5 : Int32) (S : mS) : Option mR := f_X9_enough_b63 K30 F x3 x4 x5 ((1 : Int32)) S
def f_X9_enough_b30 (F : Nat) : Nat → Int32 → Int32 → Int32 → mS → Option mR
  | 0, _, _, _, _ => none
  | n + 1, x3, x4, x5, S => bI0 (f_X9_holderSets S) (fun r6 S5 => (if r6 ≤ x5 then some (.inl (some (.int x4)), S5) else (if x4 = ((-1 : Int32)) then f_X9_enough_b58 (fun x3 x4 x5 S => f_X9_enough_b30 F n x3 x4 x5 S) F x3 x4 x5 S5 else bI0 (f_J6_bitCount_0f7a4 x5 S5) (fun r10 S9 => bI0 (f_J6_bitCount_0f7a4 x4 S9) (fun r12 S11 => (if r12 ≤ r10 then f_X9_enough_b63 (fun x3 x4 x5 S => f_X9_enough_b30 F n x3 x4 x5 S) F x3 x4 x5 ((0 : Int32)) S11 else f_X9_enough_b58 (fun x3 x4 x5 S => f_X9_enough_b30 F n x3 x4 x5 S) F x3 x4 x5 S11))))))
def f_X9_enough (F : Nat) (p1 : Int32) (p2 : Int32) (S : mS) : Option mR := bV (f_X9_needClimber p1 S) (fun S1 => bV (f_X9_needLedge p2 S1) (fun S2 => bI0 (f_X7_loadOf 24 p1 p2 S2) (fun r4 S3 => f_X9_enough_b30 F F r4 ((-1 : Int32)) ((0 : Int32)) S3)))
theorem f_X9_enough_b91_ok {d F : Nat} {K30 : Int32 → Int32 → Int32 → mS → Option mR} (hK30 : ∀ {x3 : Int32} {x4 : Int32} {x5 : Int32} {S : mS} {r : mR}, K30 x3 x4 x5 S = some r → Ev (d + 3) Mx114 (30, [.ref 0, mK, mK, .int x3, .int x4, .int x5, mK], [], S, 2) r) {x3 : Int32} {x4 : Int32} {x5 : Int32} {S : mS} {r : mR} (hf : f_X9_enough_b91 K30 F x3 x4 x5 S = some r) : Ev (d + 3) Mx114 (91, [.ref 0, mK, mK, .int x3, .int x4, .int x5, mK], [], S, 2) r := by
  unfold f_X9_enough_b91 at hf
  exact ev_sts 2 (c2 := (30, [.ref 0, mK, mK, .int x3, .int x4, .int (x5 + (1 : Int32)), mK], [], S, 2)) rfl (hK30 hf)
theorem f_X9_enough_b63_ok {d F : Nat} {K30 : Int32 → Int32 → Int32 → mS → Option mR} (hK30 : ∀ {x3 : Int32} {x4 : Int32} {x5 : Int32} {S : mS} {r : mR}, K30 x3 x4 x5 S = some r → Ev (d + 3) Mx114 (30, [.ref 0, mK, mK, .int x3, .int x4, .int x5, mK], [], S, 2) r) {x3 : Int32} {x4 : Int32} {x5 : Int32} {t0 : Int32} {S : mS} {r : mR} (hf : f_X9_enough_b63 K30 F x3 x4 x5 t0 S = some r) : Ev (d + 3) Mx114 (63, [.ref 0, mK, mK, .int x3, .int x4, .int x5, mK], [.int t0], S, 2) r := by
  unfold f_X9_enough_b63 at hf
  refine ev_sts 2 (c2 := (67, [.ref 0, mK, mK, .int x3, .int x4, .int x5, .int t0], [.int t0], S, 2)) rfl ?_
  refine ev_if (c1 := (91, [.ref 0, mK, mK, .int x3, .int x4, .int x5, mK], [], S, 2)) (c2 := (70, [.ref 0, mK, mK, .int x3, .int x4, .int x5, .int t0], [], S, 2)) hf rfl rfl (fun _ hf => ?_) (fun _ hf => ?_)
  · exact f_X9_enough_b91_ok hK30 hf
  · refine ev_sts 5 (c2 := (80, [.ref 0, mK, mK, .int x3, .int x4, .int x5, .int t0], [.int x5, .ref 24, .ref 32], S, 2)) rfl ?_
    refine ev_bI0 (d := d + 2) (M' := Mx62) (ct := (83, [.ref 0, mK, mK, .int x3, .int x4, .int x5, .int t0], [], S, 2)) hf rfl rfl rfl rfl (fun r9 h9 => f_X7_strengthOf_ok_24 (d := d) h9) (fun r8 S7 hf => ?_)
    show Ev (d + 3) Mx114 (83, [.ref 0, mK, mK, .int x3, .int x4, .int x5, .int t0], [.int r8], S7, 2) r
    refine ev_sts 1 (c2 := (84, [.ref 0, mK, mK, .int x3, .int x4, .int x5, .int t0], [.int x3, .int r8], S7, 2)) rfl ?_
    refine ev_if (c1 := (91, [.ref 0, mK, mK, .int x3, .int x4, .int x5, mK], [], S7, 2)) (c2 := (87, [.ref 0, mK, mK, .int x3, .int x4, .int x5, .int t0], [], S7, 2)) hf rfl rfl (fun _ hf => ?_) (fun _ hf => ?_)
    · exact f_X9_enough_b91_ok hK30 hf
    · exact ev_sts 2 (c2 := (91, [.ref 0, mK, mK, .int x3, .int x5, .int x5, mK], [], S7, 2)) rfl (f_X9_enough_b91_ok hK30 hf)
theorem f_X9_enough_b58_ok {d F : Nat} {K30 : Int32 → Int32 → Int32 → mS → Option mR} (hK30 : ∀ {x3 : Int32} {x4 : Int32} {x5 : Int32} {S : mS} {r : mR}, K30 x3 x4 x5 S = some r → Ev (d + 3) Mx114 (30, [.ref 0, mK, mK, .int x3, .int x4, .int x5, mK], [], S, 2) r) {x3 : Int32} {x4 : Int32} {x5 : Int32} {S : mS} {r : mR} (hf : f_X9_enough_b58 K30 F x3 x4 x5 S = some r) : Ev (d + 3) Mx114 (58, [.ref 0, mK, mK, .int x3, .int x4, .int x5, mK], [], S, 2) r := by
  unfold f_X9_enough_b58 at hf
  exact ev_sts 2 (c2 := (63, [.ref 0, mK, mK, .int x3, .int x4, .int x5, mK], [.int ((1 : Int32))], S, 2)) rfl (f_X9_enough_b63_ok hK30 hf)
theorem f_X9_enough_b30_ok {d F : Nat} : ∀ (n : Nat) {x3 : Int32} {x4 : Int32} {x5 : Int32} {S : mS} {r : mR}, f_X9_enough_b30 F n x3 x4 x5 S = some r → Ev (d + 3) Mx114 (30, [.ref 0, mK, mK, .int x3, .int x4, .int x5, mK], [], S, 2) r := by
  intro n
  induction n with
  | zero => intro x3 x4 x5 S r hf; cases hf
  | succ n ih =>
    intro x3 x4 x5 S r hf
    rw [f_X9_enough_b30] at hf
    refine ev_sts 2 (c2 := (33, [.ref 0, mK, mK, .int x3, .int x4, .int x5, mK], [.ref 0, .int x5], S, 2)) rfl ?_
    refine ev_bI0 (d := d + 2) (M' := Mx145) (ct := (36, [.ref 0, mK, mK, .int x3, .int x4, .int x5, mK], [.int x5], S, 2)) hf rfl rfl rfl rfl (fun r9 h9 => f_X9_holderSets_ok (d := d + 1) h9) (fun r6 S5 hf => ?_)
    show Ev (d + 3) Mx114 (36, [.ref 0, mK, mK, .int x3, .int x4, .int x5, mK], [.int r6, .int x5], S5, 2) r
    refine ev_if (c1 := (97, [.ref 0, mK, mK, .int x3, .int x4, .int x5, mK], [], S5, 2)) (c2 := (39, [.ref 0, mK, mK, .int x3, .int x4, .int x5, mK], [], S5, 2)) hf rfl rfl (fun _ hf => ?_) (fun _ hf => ?_)
    · refine ev_sts 1 (c2 := (99, [.ref 0, mK, mK, .int x3, .int x4, .int x5, mK], [.int x4], S5, 2)) rfl ?_
      exact ev_ret hf rfl rfl
    · refine ev_sts 2 (c2 := (42, [.ref 0, mK, mK, .int x3, .int x4, .int x5, mK], [.int ((-1 : Int32)), .int x4], S5, 2)) rfl ?_
      refine ev_if (c1 := (58, [.ref 0, mK, mK, .int x3, .int x4, .int x5, mK], [], S5, 2)) (c2 := (45, [.ref 0, mK, mK, .int x3, .int x4, .int x5, mK], [], S5, 2)) hf rfl rfl (fun _ hf => ?_) (fun _ hf => ?_)
      · exact f_X9_enough_b58_ok (fun h9 => ih h9) hf
      · refine ev_sts 1 (c2 := (47, [.ref 0, mK, mK, .int x3, .int x4, .int x5, mK], [.int x5], S5, 2)) rfl ?_
        refine ev_bI0 (d := d + 2) (M' := Mx284) (ct := (50, [.ref 0, mK, mK, .int x3, .int x4, .int x5, mK], [], S5, 2)) hf rfl rfl rfl rfl (fun r9 h9 => f_J6_bitCount_0f7a4_ok (d := d + 2) h9) (fun r10 S9 hf => ?_)
        show Ev (d + 3) Mx114 (50, [.ref 0, mK, mK, .int x3, .int x4, .int x5, mK], [.int r10], S9, 2) r
        refine ev_sts 1 (c2 := (52, [.ref 0, mK, mK, .int x3, .int x4, .int x5, mK], [.int x4, .int r10], S9, 2)) rfl ?_
        refine ev_bI0 (d := d + 2) (M' := Mx284) (ct := (55, [.ref 0, mK, mK, .int x3, .int x4, .int x5, mK], [.int r10], S9, 2)) hf rfl rfl rfl rfl (fun r9 h9 => f_J6_bitCount_0f7a4_ok (d := d + 2) h9) (fun r12 S11 hf => ?_)
        show Ev (d + 3) Mx114 (55, [.ref 0, mK, mK, .int x3, .int x4, .int x5, mK], [.int r12, .int r10], S11, 2) r
        refine ev_if (c1 := (62, [.ref 0, mK, mK, .int x3, .int x4, .int x5, mK], [], S11, 2)) (c2 := (58, [.ref 0, mK, mK, .int x3, .int x4, .int x5, mK], [], S11, 2)) hf rfl rfl (fun _ hf => ?_) (fun _ hf => ?_)
        · exact ev_sts 1 (c2 := (63, [.ref 0, mK, mK, .int x3, .int x4, .int x5, mK], [.int ((0 : Int32))], S11, 2)) rfl (f_X9_enough_b63_ok (fun h9 => ih h9) hf)
        · exact f_X9_enough_b58_ok (fun h9 => ih h9) hf
theorem f_X9_enough_ok {d F : Nat} {p1 : Int32} {p2 : Int32} {S : mS} {r : mR} (hf : f_X9_enough F p1 p2 S = some r) : Ev (d + 3) Mx114 (entry Mx114 [.ref 0, .int p1, .int p2] S) r := by
  unfold f_X9_enough at hf
  refine ev_sts 2 (c2 := (2, [.ref 0, .int p1, .int p2, mK, mK, mK, mK], [.int p1, .ref 0], S, 0)) rfl ?_
  refine ev_bV (d := d + 2) (M' := Mx141) (ct := (5, [.ref 0, .int p1, .int p2, mK, mK, mK, mK], [], S, 1)) hf rfl rfl rfl rfl (by decide) (fun r9 h9 => f_X9_needClimber_ok (d := d + 1) h9) (fun S1 hf => ?_)
  show Ev (d + 3) Mx114 (5, [.ref 0, .int p1, .int p2, mK, mK, mK, mK], [], S1, 1) r
  refine ev_sts 2 (c2 := (7, [.ref 0, .int p1, .int p2, mK, mK, mK, mK], [.int p2, .ref 0], S1, 1)) rfl ?_
  refine ev_bV (d := d + 2) (M' := Mx139) (ct := (10, [.ref 0, .int p1, .int p2, mK, mK, mK, mK], [], S1, 2)) hf rfl rfl rfl rfl (by decide) (fun r9 h9 => f_X9_needLedge_ok (d := d + 1) h9) (fun S2 hf => ?_)
  show Ev (d + 3) Mx114 (10, [.ref 0, .int p1, .int p2, mK, mK, mK, mK], [], S2, 2) r
  refine ev_sts 6 (c2 := (20, [.ref 0, .int p1, .int p2, mK, mK, mK, mK], [.int p2, .int p1, .ref 24, .ref 32], S2, 2)) rfl ?_
  refine ev_bI0 (d := d + 2) (M' := Mx61) (ct := (23, [.ref 0, .int p1, .int p2, mK, mK, mK, mK], [], S2, 2)) hf rfl rfl rfl rfl (fun r9 h9 => f_X7_loadOf_ok_24 (d := d) h9) (fun r4 S3 hf => ?_)
  show Ev (d + 3) Mx114 (23, [.ref 0, .int p1, .int p2, mK, mK, mK, mK], [.int r4], S3, 2) r
  exact ev_sts 5 (c2 := (30, [.ref 0, mK, mK, .int r4, .int ((-1 : Int32)), .int ((0 : Int32)), mK], [], S3, 2)) rfl (f_X9_enough_b30_ok _ hf)
def f_X9_farthest_b25 (F : Nat) : Nat → Int32 → Int32 → Int32 → Int32 → Int32 → mS → Option mR
  | 0, _, _, _, _, _, _ => none
  | n + 1, x1, x2, x3, x4, x5, S => (if x2 < x5 then some (.inl (some (.int x4)), S) else bI0 (f_X7_swingOf F 24 x1 x5 x3 S) (fun r5 S4 => bnd (x4 + r5 : Int32) (fun y6 => f_X9_farthest_b25 F n x1 x2 x3 y6 (x5 + (1 : Int32)) S4)))
def f_X9_farthest (F : Nat) (p1 : Int32) (p2 : Int32) (p3 : Int32) (S : mS) : Option mR := bV (f_X9_needLedge p1 S) (fun S1 => bV (f_X9_needWithin p2 ((0 : Int32)) ((12 : Int32)) S1) (fun S2 => bV (f_X9_needWithin p3 ((0 : Int32)) ((9 : Int32)) S2) (fun S3 => f_X9_farthest_b25 F F p1 p2 p3 ((0 : Int32)) ((1 : Int32)) S3)))
theorem f_X9_farthest_b25_ok {d F : Nat} : ∀ (n : Nat) {x1 : Int32} {x2 : Int32} {x3 : Int32} {x4 : Int32} {x5 : Int32} {S : mS} {r : mR}, f_X9_farthest_b25 F n x1 x2 x3 x4 x5 S = some r → Ev (d + 4) Mx117 (25, [.ref 0, .int x1, .int x2, .int x3, .int x4, .int x5], [], S, 3) r := by
  intro n
  induction n with
  | zero => intro x1 x2 x3 x4 x5 S r hf; cases hf
  | succ n ih =>
    intro x1 x2 x3 x4 x5 S r hf
    rw [f_X9_farthest_b25] at hf
    refine ev_sts 2 (c2 := (28, [.ref 0, .int x1, .int x2, .int x3, .int x4, .int x5], [.int x2, .int x5], S, 3)) rfl ?_
    refine ev_if (c1 := (57, [.ref 0, .int x1, .int x2, .int x3, .int x4, .int x5], [], S, 3)) (c2 := (31, [.ref 0, .int x1, .int x2, .int x3, .int x4, .int x5], [], S, 3)) hf rfl rfl (fun _ hf => ?_) (fun _ hf => ?_)
    · refine ev_sts 1 (c2 := (59, [.ref 0, .int x1, .int x2, .int x3, .int x4, .int x5], [.int x4], S, 3)) rfl ?_
      exact ev_ret hf rfl rfl
    · refine ev_sts 8 (c2 := (45, [.ref 0, .int x1, .int x2, .int x3, .int x4, .int x5], [.int x3, .int x5, .int x1, .ref 24, .ref 32, .int x4], S, 3)) rfl ?_
      refine ev_bI0 (d := d + 3) (M' := Mx57) (ct := (48, [.ref 0, .int x1, .int x2, .int x3, .int x4, .int x5], [.int x4], S, 3)) hf rfl rfl rfl rfl (fun r9 h9 => f_X7_swingOf_ok_24 (d := d) h9) (fun r5 S4 hf => ?_)
      show Ev (d + 4) Mx117 (48, [.ref 0, .int x1, .int x2, .int x3, .int x4, .int x5], [.int r5, .int x4], S4, 3) r
      refine ev_sts 2 (c2 := (51, [.ref 0, .int x1, .int x2, .int x3, .int (x4 + r5), .int x5], [], S4, 3)) rfl ?_
      refine ev_let (P := fun y6 => Ev (d + 4) Mx117 (51, [.ref 0, .int x1, .int x2, .int x3, .int y6, .int x5], [], S4, 3) r) (fun y6 hf => ?_) hf
      exact ev_sts 2 (c2 := (25, [.ref 0, .int x1, .int x2, .int x3, .int y6, .int (x5 + (1 : Int32))], [], S4, 3)) rfl (ih hf)
theorem f_X9_farthest_ok {d F : Nat} {p1 : Int32} {p2 : Int32} {p3 : Int32} {S : mS} {r : mR} (hf : f_X9_farthest F p1 p2 p3 S = some r) : Ev (d + 4) Mx117 (entry Mx117 [.ref 0, .int p1, .int p2, .int p3] S) r := by
  unfold f_X9_farthest at hf
  refine ev_sts 2 (c2 := (2, [.ref 0, .int p1, .int p2, .int p3, mK, mK], [.int p1, .ref 0], S, 0)) rfl ?_
  refine ev_bV (d := d + 3) (M' := Mx139) (ct := (5, [.ref 0, .int p1, .int p2, .int p3, mK, mK], [], S, 1)) hf rfl rfl rfl rfl (by decide) (fun r9 h9 => f_X9_needLedge_ok (d := d + 2) h9) (fun S1 hf => ?_)
  show Ev (d + 4) Mx117 (5, [.ref 0, .int p1, .int p2, .int p3, mK, mK], [], S1, 1) r
  refine ev_sts 3 (c2 := (9, [.ref 0, .int p1, .int p2, .int p3, mK, mK], [.int ((12 : Int32)), .int ((0 : Int32)), .int p2], S1, 1)) rfl ?_
  refine ev_bV (d := d + 3) (M' := Mx142) (ct := (12, [.ref 0, .int p1, .int p2, .int p3, mK, mK], [], S1, 2)) hf rfl rfl rfl rfl (by decide) (fun r9 h9 => f_X9_needWithin_ok (d := d + 3) h9) (fun S2 hf => ?_)
  show Ev (d + 4) Mx117 (12, [.ref 0, .int p1, .int p2, .int p3, mK, mK], [], S2, 2) r
  refine ev_sts 3 (c2 := (16, [.ref 0, .int p1, .int p2, .int p3, mK, mK], [.int ((9 : Int32)), .int ((0 : Int32)), .int p3], S2, 2)) rfl ?_
  refine ev_bV (d := d + 3) (M' := Mx142) (ct := (19, [.ref 0, .int p1, .int p2, .int p3, mK, mK], [], S2, 3)) hf rfl rfl rfl rfl (by decide) (fun r9 h9 => f_X9_needWithin_ok (d := d + 3) h9) (fun S3 hf => ?_)
  show Ev (d + 4) Mx117 (19, [.ref 0, .int p1, .int p2, .int p3, mK, mK], [], S3, 3) r
  exact ev_sts 4 (c2 := (25, [.ref 0, .int p1, .int p2, .int p3, .int ((0 : Int32)), .int ((1 : Int32))], [], S3, 3)) rfl (f_X9_farthest_b25_ok _ hf)
def f_X8_firstWrong (S : mS) : Option mR := some (.inl (some (.int (S 1 3))), S)
theorem f_X8_firstWrong_ok {d : Nat} {S : mS} {r : mR} (hf : f_X8_firstWrong S = some r) : Ev (d) Mx72 (entry Mx72 [.ref 1] S) r := by
  unfold f_X8_firstWrong at hf
  refine ev_sts 2 (c2 := (4, [.ref 1], [.int (S 1 3)], S, 0)) rfl ?_
  exact ev_ret hf rfl rfl
def f_X9_fault (S : mS) : Option mR := bI0 (f_X8_firstWrong S) (fun r2 S1 => some (.inl (some (.int r2)), S1))
theorem f_X9_fault_ok {d : Nat} {S : mS} {r : mR} (hf : f_X9_fault S = some r) : Ev (d + 1) Mx91 (entry Mx91 [.ref 0] S) r := by
  unfold f_X9_fault at hf
  refine ev_sts 2 (c2 := (4, [.ref 0], [.ref 1], S, 0)) rfl ?_
  refine ev_bI0 (d := d) (M' := Mx72) (ct := (7, [.ref 0], [], S, 0)) hf rfl rfl rfl rfl (fun r9 h9 => f_X8_firstWrong_ok (d := d) h9) (fun r2 S1 hf => ?_)
  show Ev (d + 1) Mx91 (7, [.ref 0], [.int r2], S1, 0) r
  exact ev_ret hf rfl rfl
def f_X8_append_b52 (K3 : Int32 → Int32 → mS → Option mR) (F : Nat) (x1 : Int32) (x2 : Int32) (S : mS) : Option mR := K3 x1 (x2 + (-8 : Int32)) S
def f_X8_append_b3 (F : Nat) : Nat → Int32 → Int32 → mS → Option mR
  | 0, _, _, _ => none
  | n + 1, x1, x2, S => (if x2 < 0 then some (.inl none, S) else (if (S 1 1) < 0 then f_X8_append_b52 (fun x1 x2 S => f_X8_append_b3 F n x1 x2 S) F x1 x2 S else (if (Int32.ofNat 400) ≤ (S 1 1) then f_X8_append_b52 (fun x1 x2 S => f_X8_append_b3 F n x1 x2 S) F x1 x2 S else gd (inb (S 1 1) 400) (bnd (upS S 2 (S 1 1).toNatClampNeg ((x1 >>> (x2 &&& 31)) &&& ((255 : Int32)))) (fun S1 => bnd (upS S1 1 1 ((S1 1 1) + ((1 : Int32)))) (fun S2 => f_X8_append_b52 (fun x1 x2 S => f_X8_append_b3 F n x1 x2 S) F x1 x2 S2))))))
def f_X8_append (F : Nat) (p1 : Int32) (S : mS) : Option mR := f_X8_append_b3 F F p1 ((24 : Int32)) S
theorem f_X8_append_b52_ok {d F : Nat} {K3 : Int32 → Int32 → mS → Option mR} (hK3 : ∀ {x1 : Int32} {x2 : Int32} {S : mS} {r : mR}, K3 x1 x2 S = some r → Ev (d) Mx73 (3, [.ref 1, .int x1, .int x2], [], S, 0) r) {x1 : Int32} {x2 : Int32} {S : mS} {r : mR} (hf : f_X8_append_b52 K3 F x1 x2 S = some r) : Ev (d) Mx73 (52, [.ref 1, .int x1, .int x2], [], S, 0) r := by
  unfold f_X8_append_b52 at hf
  exact ev_sts 2 (c2 := (3, [.ref 1, .int x1, .int (x2 + (-8 : Int32))], [], S, 0)) rfl (hK3 hf)
theorem f_X8_append_b3_ok {d F : Nat} : ∀ (n : Nat) {x1 : Int32} {x2 : Int32} {S : mS} {r : mR}, f_X8_append_b3 F n x1 x2 S = some r → Ev (d) Mx73 (3, [.ref 1, .int x1, .int x2], [], S, 0) r := by
  intro n
  induction n with
  | zero => intro x1 x2 S r hf; cases hf
  | succ n ih =>
    intro x1 x2 S r hf
    rw [f_X8_append_b3] at hf
    refine ev_sts 1 (c2 := (4, [.ref 1, .int x1, .int x2], [.int x2], S, 0)) rfl ?_
    refine ev_if (c1 := (58, [.ref 1, .int x1, .int x2], [], S, 0)) (c2 := (7, [.ref 1, .int x1, .int x2], [], S, 0)) hf rfl rfl (fun _ hf => ?_) (fun _ hf => ?_)
    · exact ev_ret hf rfl rfl
    · refine ev_sts 2 (c2 := (11, [.ref 1, .int x1, .int x2], [.int (S 1 1)], S, 0)) rfl ?_
      refine ev_if (c1 := (52, [.ref 1, .int x1, .int x2], [], S, 0)) (c2 := (14, [.ref 1, .int x1, .int x2], [], S, 0)) hf rfl rfl (fun _ hf => ?_) (fun _ hf => ?_)
      · exact f_X8_append_b52_ok (fun h9 => ih h9) hf
      · refine ev_sts 5 (c2 := (23, [.ref 1, .int x1, .int x2], [.int (Int32.ofNat 400), .int (S 1 1)], S, 0)) rfl ?_
        refine ev_if (c1 := (52, [.ref 1, .int x1, .int x2], [], S, 0)) (c2 := (26, [.ref 1, .int x1, .int x2], [], S, 0)) hf rfl rfl (fun _ hf => ?_) (fun _ hf => ?_)
        · exact f_X8_append_b52_ok (fun h9 => ih h9) hf
        · refine ev_sts 9 (c2 := (41, [.ref 1, .int x1, .int x2], [.int ((x1 >>> (x2 &&& 31)) &&& ((255 : Int32))), .int (S 1 1), .ref 2], S, 0)) rfl ?_
          refine ev_gd (c1 := (42, [.ref 1, .int x1, .int x2], [], (upS S 2 (S 1 1).toNatClampNeg ((x1 >>> (x2 &&& 31)) &&& ((255 : Int32)))), 0)) hf rfl rfl (fun hf => ?_)
          refine ev_let (P := fun S1 => Ev (d) Mx73 (42, [.ref 1, .int x1, .int x2], [], S1, 0) r) (fun S1 hf => ?_) hf
          refine ev_sts 6 (c2 := (52, [.ref 1, .int x1, .int x2], [], (upS S1 1 1 ((S1 1 1) + ((1 : Int32)))), 0)) rfl ?_
          refine ev_let (P := fun S2 => Ev (d) Mx73 (52, [.ref 1, .int x1, .int x2], [], S2, 0) r) (fun S2 hf => ?_) hf
          exact f_X8_append_b52_ok (fun h9 => ih h9) hf
theorem f_X8_append_ok {d F : Nat} {p1 : Int32} {S : mS} {r : mR} (hf : f_X8_append F p1 S = some r) : Ev (d) Mx73 (entry Mx73 [.ref 1, .int p1] S) r := by
  unfold f_X8_append at hf
  exact ev_sts 2 (c2 := (3, [.ref 1, .int p1, .int ((24 : Int32))], [], S, 0)) rfl (f_X8_append_b3_ok _ hf)
def f_X9_feed (F : Nat) (p1 : Int32) (p2 : Int32) (p3 : Int32) (p4 : Int32) (p5 : Int32) (S : mS) : Option mR := bI0 (f_X8_size S) (fun r2 S1 => (if (r2 + ((20 : Int32))) ≤ ((400 : Int32)) then bV0 (f_X8_append F p1 S1) (fun S3 => bV0 (f_X8_append F p2 S3) (fun S4 => bV0 (f_X8_append F p3 S4) (fun S5 => bV0 (f_X8_append F p4 S5) (fun S6 => bV0 (f_X8_append F p5 S6) (fun S7 => bI0 (f_X8_size S7) (fun r9 S8 => some (.inl (some (.int r9)), S8))))))) else some (.inl (some (.int ((-1 : Int32)))), S1)))
theorem f_X9_feed_ok {d F : Nat} {p1 : Int32} {p2 : Int32} {p3 : Int32} {p4 : Int32} {p5 : Int32} {S : mS} {r : mR} (hf : f_X9_feed F p1 p2 p3 p4 p5 S = some r) : Ev (d + 1) Mx87 (entry Mx87 [.ref 0, .int p1, .int p2, .int p3, .int p4, .int p5] S) r := by
  unfold f_X9_feed at hf
  refine ev_sts 2 (c2 := (4, [.ref 0, .int p1, .int p2, .int p3, .int p4, .int p5], [.ref 1], S, 0)) rfl ?_
  refine ev_bI0 (d := d) (M' := Mx71) (ct := (7, [.ref 0, .int p1, .int p2, .int p3, .int p4, .int p5], [], S, 0)) hf rfl rfl rfl rfl (fun r9 h9 => f_X8_size_ok (d := d) h9) (fun r2 S1 hf => ?_)
  show Ev (d + 1) Mx87 (7, [.ref 0, .int p1, .int p2, .int p3, .int p4, .int p5], [.int r2], S1, 0) r
  refine ev_sts 3 (c2 := (13, [.ref 0, .int p1, .int p2, .int p3, .int p4, .int p5], [.int ((400 : Int32)), .int (r2 + ((20 : Int32)))], S1, 0)) rfl ?_
  refine ev_if (c1 := (18, [.ref 0, .int p1, .int p2, .int p3, .int p4, .int p5], [], S1, 0)) (c2 := (16, [.ref 0, .int p1, .int p2, .int p3, .int p4, .int p5], [], S1, 0)) hf rfl rfl (fun _ hf => ?_) (fun _ hf => ?_)
  · refine ev_sts 3 (c2 := (23, [.ref 0, .int p1, .int p2, .int p3, .int p4, .int p5], [.int p1, .ref 1], S1, 0)) rfl ?_
    refine ev_bV0 (d := d) (M' := Mx73) (ct := (26, [.ref 0, .int p1, .int p2, .int p3, .int p4, .int p5], [], S1, 0)) hf rfl rfl rfl rfl (fun r9 h9 => f_X8_append_ok (d := d) h9) (fun S3 hf => ?_)
    show Ev (d + 1) Mx87 (26, [.ref 0, .int p1, .int p2, .int p3, .int p4, .int p5], [], S3, 0) r
    refine ev_sts 3 (c2 := (31, [.ref 0, .int p1, .int p2, .int p3, .int p4, .int p5], [.int p2, .ref 1], S3, 0)) rfl ?_
    refine ev_bV0 (d := d) (M' := Mx73) (ct := (34, [.ref 0, .int p1, .int p2, .int p3, .int p4, .int p5], [], S3, 0)) hf rfl rfl rfl rfl (fun r9 h9 => f_X8_append_ok (d := d) h9) (fun S4 hf => ?_)
    show Ev (d + 1) Mx87 (34, [.ref 0, .int p1, .int p2, .int p3, .int p4, .int p5], [], S4, 0) r
    refine ev_sts 3 (c2 := (39, [.ref 0, .int p1, .int p2, .int p3, .int p4, .int p5], [.int p3, .ref 1], S4, 0)) rfl ?_
    refine ev_bV0 (d := d) (M' := Mx73) (ct := (42, [.ref 0, .int p1, .int p2, .int p3, .int p4, .int p5], [], S4, 0)) hf rfl rfl rfl rfl (fun r9 h9 => f_X8_append_ok (d := d) h9) (fun S5 hf => ?_)
    show Ev (d + 1) Mx87 (42, [.ref 0, .int p1, .int p2, .int p3, .int p4, .int p5], [], S5, 0) r
    refine ev_sts 3 (c2 := (48, [.ref 0, .int p1, .int p2, .int p3, .int p4, .int p5], [.int p4, .ref 1], S5, 0)) rfl ?_
    refine ev_bV0 (d := d) (M' := Mx73) (ct := (51, [.ref 0, .int p1, .int p2, .int p3, .int p4, .int p5], [], S5, 0)) hf rfl rfl rfl rfl (fun r9 h9 => f_X8_append_ok (d := d) h9) (fun S6 hf => ?_)
    show Ev (d + 1) Mx87 (51, [.ref 0, .int p1, .int p2, .int p3, .int p4, .int p5], [], S6, 0) r
    refine ev_sts 3 (c2 := (57, [.ref 0, .int p1, .int p2, .int p3, .int p4, .int p5], [.int p5, .ref 1], S6, 0)) rfl ?_
    refine ev_bV0 (d := d) (M' := Mx73) (ct := (60, [.ref 0, .int p1, .int p2, .int p3, .int p4, .int p5], [], S6, 0)) hf rfl rfl rfl rfl (fun r9 h9 => f_X8_append_ok (d := d) h9) (fun S7 hf => ?_)
    show Ev (d + 1) Mx87 (60, [.ref 0, .int p1, .int p2, .int p3, .int p4, .int p5], [], S7, 0) r
    refine ev_sts 2 (c2 := (64, [.ref 0, .int p1, .int p2, .int p3, .int p4, .int p5], [.ref 1], S7, 0)) rfl ?_
    refine ev_bI0 (d := d) (M' := Mx71) (ct := (67, [.ref 0, .int p1, .int p2, .int p3, .int p4, .int p5], [], S7, 0)) hf rfl rfl rfl rfl (fun r9 h9 => f_X8_size_ok (d := d) h9) (fun r9 S8 hf => ?_)
    show Ev (d + 1) Mx87 (67, [.ref 0, .int p1, .int p2, .int p3, .int p4, .int p5], [.int r9], S8, 0) r
    exact ev_ret hf rfl rfl
  · refine ev_sts 1 (c2 := (17, [.ref 0, .int p1, .int p2, .int p3, .int p4, .int p5], [.int ((-1 : Int32))], S1, 0)) rfl ?_
    exact ev_ret hf rfl rfl
def f_X0_freshEggs_b20 (u0 : Nat) (t0 : Int32) (S : mS) : Option mR := some (.inl (some (.int t0)), S)
def f_X0_freshEggs (u0 : Nat) (p1 : Int32) (S : mS) : Option mR := bI0 (f_X0_ofLedge u0 p1 ((3 : Int32)) S) (fun r2 S1 => (if ((3 : Int32)) < r2 then f_X0_freshEggs_b20 u0 ((0 : Int32)) S1 else bI0 (f_X0_ofLedge u0 p1 ((2 : Int32)) S1) (fun r4 S3 => f_X0_freshEggs_b20 u0 r4 S3)))
theorem f_X0_freshEggs_b20_ok_26 {d : Nat} {t0 : Int32} {S : mS} {r : mR} (hf : f_X0_freshEggs_b20 26 t0 S = some r) : Ev (d + 2) Mx17 (20, [mK, mK], [.int t0], S, 0) r := by
  unfold f_X0_freshEggs_b20 at hf
  exact ev_ret hf rfl rfl
theorem f_X0_freshEggs_ok_26 {d : Nat} {p1 : Int32} {S : mS} {r : mR} (hf : f_X0_freshEggs 26 p1 S = some r) : Ev (d + 2) Mx17 (entry Mx17 [.ref 26, .int p1] S) r := by
  unfold f_X0_freshEggs at hf
  refine ev_sts 3 (c2 := (3, [.ref 26, .int p1], [.int ((3 : Int32)), .int p1, .ref 26], S, 0)) rfl ?_
  refine ev_bI0 (d := d + 1) (M' := Mx4) (ct := (6, [.ref 26, .int p1], [], S, 0)) hf rfl rfl rfl rfl (fun r9 h9 => f_X0_ofLedge_ok_26 (d := d) h9) (fun r2 S1 hf => ?_)
  show Ev (d + 2) Mx17 (6, [.ref 26, .int p1], [.int r2], S1, 0) r
  refine ev_sts 1 (c2 := (7, [.ref 26, .int p1], [.int ((3 : Int32)), .int r2], S1, 0)) rfl ?_
  refine ev_if (c1 := (19, [.ref 26, .int p1], [], S1, 0)) (c2 := (10, [.ref 26, .int p1], [], S1, 0)) hf rfl rfl (fun _ hf => ?_) (fun _ hf => ?_)
  · exact ev_sts 1 (c2 := (20, [mK, mK], [.int ((0 : Int32))], S1, 0)) rfl (f_X0_freshEggs_b20_ok_26 hf)
  · refine ev_sts 3 (c2 := (13, [.ref 26, .int p1], [.int ((2 : Int32)), .int p1, .ref 26], S1, 0)) rfl ?_
    refine ev_bI0 (d := d + 1) (M' := Mx4) (ct := (16, [.ref 26, .int p1], [], S1, 0)) hf rfl rfl rfl rfl (fun r9 h9 => f_X0_ofLedge_ok_26 (d := d) h9) (fun r4 S3 hf => ?_)
    show Ev (d + 2) Mx17 (16, [.ref 26, .int p1], [.int r4], S3, 0) r
    exact ev_sts 1 (c2 := (20, [mK, mK], [.int r4], S3, 0)) rfl (f_X0_freshEggs_b20_ok_26 hf)
theorem f_X0_freshEggs_b20_ok_24 {d : Nat} {t0 : Int32} {S : mS} {r : mR} (hf : f_X0_freshEggs_b20 24 t0 S = some r) : Ev (d + 2) Mx17 (20, [mK, mK], [.int t0], S, 0) r := by
  unfold f_X0_freshEggs_b20 at hf
  exact ev_ret hf rfl rfl
theorem f_X0_freshEggs_ok_24 {d : Nat} {p1 : Int32} {S : mS} {r : mR} (hf : f_X0_freshEggs 24 p1 S = some r) : Ev (d + 2) Mx17 (entry Mx17 [.ref 24, .int p1] S) r := by
  unfold f_X0_freshEggs at hf
  refine ev_sts 3 (c2 := (3, [.ref 24, .int p1], [.int ((3 : Int32)), .int p1, .ref 24], S, 0)) rfl ?_
  refine ev_bI0 (d := d + 1) (M' := Mx4) (ct := (6, [.ref 24, .int p1], [], S, 0)) hf rfl rfl rfl rfl (fun r9 h9 => f_X0_ofLedge_ok_24 (d := d) h9) (fun r2 S1 hf => ?_)
  show Ev (d + 2) Mx17 (6, [.ref 24, .int p1], [.int r2], S1, 0) r
  refine ev_sts 1 (c2 := (7, [.ref 24, .int p1], [.int ((3 : Int32)), .int r2], S1, 0)) rfl ?_
  refine ev_if (c1 := (19, [.ref 24, .int p1], [], S1, 0)) (c2 := (10, [.ref 24, .int p1], [], S1, 0)) hf rfl rfl (fun _ hf => ?_) (fun _ hf => ?_)
  · exact ev_sts 1 (c2 := (20, [mK, mK], [.int ((0 : Int32))], S1, 0)) rfl (f_X0_freshEggs_b20_ok_24 hf)
  · refine ev_sts 3 (c2 := (13, [.ref 24, .int p1], [.int ((2 : Int32)), .int p1, .ref 24], S1, 0)) rfl ?_
    refine ev_bI0 (d := d + 1) (M' := Mx4) (ct := (16, [.ref 24, .int p1], [], S1, 0)) hf rfl rfl rfl rfl (fun r9 h9 => f_X0_ofLedge_ok_24 (d := d) h9) (fun r4 S3 hf => ?_)
    show Ev (d + 2) Mx17 (16, [.ref 24, .int p1], [.int r4], S3, 0) r
    exact ev_sts 1 (c2 := (20, [mK, mK], [.int r4], S3, 0)) rfl (f_X0_freshEggs_b20_ok_24 hf)
def f_X0_isFresh_b13 (u0 : Nat) (t0 : Int32) (S : mS) : Option mR := some (.inl (some (.int (t0 &&& 1))), S)
def f_X0_isFresh (u0 : Nat) (p1 : Int32) (S : mS) : Option mR := bI0 (f_X0_freshEggs u0 p1 S) (fun r2 S1 => (if r2 ≤ 0 then f_X0_isFresh_b13 u0 ((0 : Int32)) S1 else f_X0_isFresh_b13 u0 ((1 : Int32)) S1))
theorem f_X0_isFresh_b13_ok_26 {d : Nat} {t0 : Int32} {S : mS} {r : mR} (hf : f_X0_isFresh_b13 26 t0 S = some r) : Ev (d + 3) Mx16 (13, [mK, mK], [.int t0], S, 0) r := by
  unfold f_X0_isFresh_b13 at hf
  exact ev_ret hf rfl rfl
theorem f_X0_isFresh_ok_26 {d : Nat} {p1 : Int32} {S : mS} {r : mR} (hf : f_X0_isFresh 26 p1 S = some r) : Ev (d + 3) Mx16 (entry Mx16 [.ref 26, .int p1] S) r := by
  unfold f_X0_isFresh at hf
  refine ev_sts 2 (c2 := (2, [.ref 26, .int p1], [.int p1, .ref 26], S, 0)) rfl ?_
  refine ev_bI0 (d := d + 2) (M' := Mx17) (ct := (5, [.ref 26, .int p1], [], S, 0)) hf rfl rfl rfl rfl (fun r9 h9 => f_X0_freshEggs_ok_26 (d := d) h9) (fun r2 S1 hf => ?_)
  show Ev (d + 3) Mx16 (5, [.ref 26, .int p1], [.int r2], S1, 0) r
  refine ev_if (c1 := (12, [.ref 26, .int p1], [], S1, 0)) (c2 := (8, [.ref 26, .int p1], [], S1, 0)) hf rfl rfl (fun _ hf => ?_) (fun _ hf => ?_)
  · exact ev_sts 1 (c2 := (13, [mK, mK], [.int ((0 : Int32))], S1, 0)) rfl (f_X0_isFresh_b13_ok_26 hf)
  · exact ev_sts 2 (c2 := (13, [mK, mK], [.int ((1 : Int32))], S1, 0)) rfl (f_X0_isFresh_b13_ok_26 hf)
theorem f_X0_isFresh_b13_ok_24 {d : Nat} {t0 : Int32} {S : mS} {r : mR} (hf : f_X0_isFresh_b13 24 t0 S = some r) : Ev (d + 3) Mx16 (13, [mK, mK], [.int t0], S, 0) r := by
  unfold f_X0_isFresh_b13 at hf
  exact ev_ret hf rfl rfl
theorem f_X0_isFresh_ok_24 {d : Nat} {p1 : Int32} {S : mS} {r : mR} (hf : f_X0_isFresh 24 p1 S = some r) : Ev (d + 3) Mx16 (entry Mx16 [.ref 24, .int p1] S) r := by
  unfold f_X0_isFresh at hf
  refine ev_sts 2 (c2 := (2, [.ref 24, .int p1], [.int p1, .ref 24], S, 0)) rfl ?_
  refine ev_bI0 (d := d + 2) (M' := Mx17) (ct := (5, [.ref 24, .int p1], [], S, 0)) hf rfl rfl rfl rfl (fun r9 h9 => f_X0_freshEggs_ok_24 (d := d) h9) (fun r2 S1 hf => ?_)
  show Ev (d + 3) Mx16 (5, [.ref 24, .int p1], [.int r2], S1, 0) r
  refine ev_if (c1 := (12, [.ref 24, .int p1], [], S1, 0)) (c2 := (8, [.ref 24, .int p1], [], S1, 0)) hf rfl rfl (fun _ hf => ?_) (fun _ hf => ?_)
  · exact ev_sts 1 (c2 := (13, [mK, mK], [.int ((0 : Int32))], S1, 0)) rfl (f_X0_isFresh_b13_ok_24 hf)
  · exact ev_sts 2 (c2 := (13, [mK, mK], [.int ((1 : Int32))], S1, 0)) rfl (f_X0_isFresh_b13_ok_24 hf)
def f_X9_fresh_b34 (K4 : Int32 → Int32 → mS → Option mR) (F : Nat) (x1 : Int32) (x2 : Int32) (S : mS) : Option mR := K4 x1 (x2 + (1 : Int32)) S
def f_X9_fresh_b4 (F : Nat) : Nat → Int32 → Int32 → mS → Option mR
  | 0, _, _, _ => none
  | n + 1, x1, x2, S => bI0 (f_X0_at 24 ((12 : Int32)) S) (fun r2 S1 => (if r2 ≤ x2 then some (.inl (some (.int x1)), S1) else bI0 (f_X0_isFresh 24 x2 S1) (fun r4 S3 => (if r4 = 0 then f_X9_fresh_b34 (fun x1 x2 S => f_X9_fresh_b4 F n x1 x2 S) F x1 x2 S3 else bnd (x1 ||| (((1 : Int32)) <<< (x2 &&& 31)) : Int32) (fun y5 => f_X9_fresh_b34 (fun x1 x2 S => f_X9_fresh_b4 F n x1 x2 S) F y5 x2 S3)))))
def f_X9_fresh (F : Nat) (S : mS) : Option mR := f_X9_fresh_b4 F F ((0 : Int32)) ((0 : Int32)) S
theorem f_X9_fresh_b34_ok {d F : Nat} {K4 : Int32 → Int32 → mS → Option mR} (hK4 : ∀ {x1 : Int32} {x2 : Int32} {S : mS} {r : mR}, K4 x1 x2 S = some r → Ev (d + 4) Mx105 (4, [.ref 0, .int x1, .int x2], [], S, 0) r) {x1 : Int32} {x2 : Int32} {S : mS} {r : mR} (hf : f_X9_fresh_b34 K4 F x1 x2 S = some r) : Ev (d + 4) Mx105 (34, [.ref 0, .int x1, .int x2], [], S, 0) r := by
  unfold f_X9_fresh_b34 at hf
  exact ev_sts 2 (c2 := (4, [.ref 0, .int x1, .int (x2 + (1 : Int32))], [], S, 0)) rfl (hK4 hf)
theorem f_X9_fresh_b4_ok {d F : Nat} : ∀ (n : Nat) {x1 : Int32} {x2 : Int32} {S : mS} {r : mR}, f_X9_fresh_b4 F n x1 x2 S = some r → Ev (d + 4) Mx105 (4, [.ref 0, .int x1, .int x2], [], S, 0) r := by
  intro n
  induction n with
  | zero => intro x1 x2 S r hf; cases hf
  | succ n ih =>
    intro x1 x2 S r hf
    rw [f_X9_fresh_b4] at hf
    refine ev_sts 4 (c2 := (11, [.ref 0, .int x1, .int x2], [.int ((12 : Int32)), .ref 24, .int x2], S, 0)) rfl ?_
    refine ev_bI0 (d := d + 3) (M' := Mx1) (ct := (14, [.ref 0, .int x1, .int x2], [.int x2], S, 0)) hf rfl rfl rfl rfl (fun r9 h9 => f_X0_at_ok_24 (d := d + 3) h9) (fun r2 S1 hf => ?_)
    show Ev (d + 4) Mx105 (14, [.ref 0, .int x1, .int x2], [.int r2, .int x2], S1, 0) r
    refine ev_if (c1 := (40, [.ref 0, .int x1, .int x2], [], S1, 0)) (c2 := (17, [.ref 0, .int x1, .int x2], [], S1, 0)) hf rfl rfl (fun _ hf => ?_) (fun _ hf => ?_)
    · refine ev_sts 1 (c2 := (41, [.ref 0, .int x1, .int x2], [.int x1], S1, 0)) rfl ?_
      exact ev_ret hf rfl rfl
    · refine ev_sts 3 (c2 := (22, [.ref 0, .int x1, .int x2], [.int x2, .ref 24], S1, 0)) rfl ?_
      refine ev_bI0 (d := d + 3) (M' := Mx16) (ct := (25, [.ref 0, .int x1, .int x2], [], S1, 0)) hf rfl rfl rfl rfl (fun r9 h9 => f_X0_isFresh_ok_24 (d := d) h9) (fun r4 S3 hf => ?_)
      show Ev (d + 4) Mx105 (25, [.ref 0, .int x1, .int x2], [.int r4], S3, 0) r
      refine ev_if (c1 := (34, [.ref 0, .int x1, .int x2], [], S3, 0)) (c2 := (28, [.ref 0, .int x1, .int x2], [], S3, 0)) hf rfl rfl (fun _ hf => ?_) (fun _ hf => ?_)
      · exact f_X9_fresh_b34_ok (fun h9 => ih h9) hf
      · refine ev_sts 6 (c2 := (34, [.ref 0, .int (x1 ||| (((1 : Int32)) <<< (x2 &&& 31))), .int x2], [], S3, 0)) rfl ?_
        refine ev_let (P := fun y5 => Ev (d + 4) Mx105 (34, [.ref 0, .int y5, .int x2], [], S3, 0) r) (fun y5 hf => ?_) hf
        exact f_X9_fresh_b34_ok (fun h9 => ih h9) hf
theorem f_X9_fresh_ok {d F : Nat} {S : mS} {r : mR} (hf : f_X9_fresh F S = some r) : Ev (d + 4) Mx105 (entry Mx105 [.ref 0] S) r := by
  unfold f_X9_fresh at hf
  exact ev_sts 4 (c2 := (4, [.ref 0, .int ((0 : Int32)), .int ((0 : Int32))], [], S, 0)) rfl (f_X9_fresh_b4_ok _ hf)
def f_X9_freshBehind_b51 (F : Nat) : Nat → Int32 → Int32 → mS → Option mR
  | 0, _, _, _ => none
  | n + 1, x3, x4, S => bI0 (f_X0_at 26 ((12 : Int32)) S) (fun r4 S3 => (if r4 ≤ x4 then some (.inl (some (.int x3)), S3) else bI0 (f_X0_freshEggs 26 x4 S3) (fun r6 S5 => bnd (x3 + r6 : Int32) (fun y7 => f_X9_freshBehind_b51 F n y7 (x4 + (1 : Int32)) S5))))
def f_X9_freshBehind_b23 (F : Nat) : Nat → Int32 → Int32 → mS → Option mR
  | 0, _, _, _ => none
  | n + 1, x1, x3, S => (if x1 ≤ x3 then f_X9_freshBehind_b51 F F ((0 : Int32)) ((0 : Int32)) S else bI0 (f_X7_dayMore F 26 S) (fun r9 S8 => f_X9_freshBehind_b23 F n x1 (x3 + (1 : Int32)) S8))
def f_X9_freshBehind (F : Nat) (p1 : Int32) (p2 : Int32) (S : mS) : Option mR := bV0 (f_X0_copy 26 24 S) (fun S1 => bV0 (f_X0_put 26 ((10 : Int32)) p2 S1) (fun S2 => f_X9_freshBehind_b23 F F p1 ((0 : Int32)) S2))
theorem f_X9_freshBehind_b51_ok {d F : Nat} : ∀ (n : Nat) {x3 : Int32} {x4 : Int32} {S : mS} {r : mR}, f_X9_freshBehind_b51 F n x3 x4 S = some r → Ev (d + 6) Mx153 (51, [.ref 0, mK, mK, .int x3, .int x4], [], S, 0) r := by
  intro n
  induction n with
  | zero => intro x3 x4 S r hf; cases hf
  | succ n ih =>
    intro x3 x4 S r hf
    rw [f_X9_freshBehind_b51] at hf
    refine ev_sts 4 (c2 := (59, [.ref 0, mK, mK, .int x3, .int x4], [.int ((12 : Int32)), .ref 26, .int x4], S, 0)) rfl ?_
    refine ev_bI0 (d := d + 5) (M' := Mx1) (ct := (62, [.ref 0, mK, mK, .int x3, .int x4], [.int x4], S, 0)) hf rfl rfl rfl rfl (fun r9 h9 => f_X0_at_ok_26 (d := d + 5) h9) (fun r4 S3 hf => ?_)
    show Ev (d + 6) Mx153 (62, [.ref 0, mK, mK, .int x3, .int x4], [.int r4, .int x4], S3, 0) r
    refine ev_if (c1 := (83, [.ref 0, mK, mK, .int x3, .int x4], [], S3, 0)) (c2 := (65, [.ref 0, mK, mK, .int x3, .int x4], [], S3, 0)) hf rfl rfl (fun _ hf => ?_) (fun _ hf => ?_)
    · refine ev_sts 1 (c2 := (84, [.ref 0, mK, mK, .int x3, .int x4], [.int x3], S3, 0)) rfl ?_
      exact ev_ret hf rfl rfl
    · refine ev_sts 4 (c2 := (72, [.ref 0, mK, mK, .int x3, .int x4], [.int x4, .ref 26, .int x3], S3, 0)) rfl ?_
      refine ev_bI0 (d := d + 5) (M' := Mx17) (ct := (75, [.ref 0, mK, mK, .int x3, .int x4], [.int x3], S3, 0)) hf rfl rfl rfl rfl (fun r9 h9 => f_X0_freshEggs_ok_26 (d := d + 3) h9) (fun r6 S5 hf => ?_)
      show Ev (d + 6) Mx153 (75, [.ref 0, mK, mK, .int x3, .int x4], [.int r6, .int x3], S5, 0) r
      refine ev_sts 2 (c2 := (77, [.ref 0, mK, mK, .int (x3 + r6), .int x4], [], S5, 0)) rfl ?_
      refine ev_let (P := fun y7 => Ev (d + 6) Mx153 (77, [.ref 0, mK, mK, .int y7, .int x4], [], S5, 0) r) (fun y7 hf => ?_) hf
      exact ev_sts 2 (c2 := (51, [.ref 0, mK, mK, .int y7, .int (x4 + (1 : Int32))], [], S5, 0)) rfl (ih hf)
theorem f_X9_freshBehind_b23_ok {d F : Nat} : ∀ (n : Nat) {x1 : Int32} {x3 : Int32} {S : mS} {r : mR}, f_X9_freshBehind_b23 F n x1 x3 S = some r → Ev (d + 6) Mx153 (23, [.ref 0, .int x1, mK, .int x3, mK], [], S, 0) r := by
  intro n
  induction n with
  | zero => intro x1 x3 S r hf; cases hf
  | succ n ih =>
    intro x1 x3 S r hf
    rw [f_X9_freshBehind_b23] at hf
    refine ev_sts 2 (c2 := (25, [.ref 0, .int x1, mK, .int x3, mK], [.int x1, .int x3], S, 0)) rfl ?_
    refine ev_if (c1 := (46, [.ref 0, .int x1, mK, .int x3, mK], [], S, 0)) (c2 := (28, [.ref 0, .int x1, mK, .int x3, mK], [], S, 0)) hf rfl rfl (fun _ hf => ?_) (fun _ hf => ?_)
    · exact ev_sts 4 (c2 := (51, [.ref 0, mK, mK, .int ((0 : Int32)), .int ((0 : Int32))], [], S, 0)) rfl (f_X9_freshBehind_b51_ok _ hf)
    · refine ev_sts 4 (c2 := (36, [.ref 0, .int x1, mK, .int x3, mK], [.ref 26, .ref 32], S, 0)) rfl ?_
      refine ev_bI0 (d := d + 5) (M' := Mx67) (ct := (39, [.ref 0, .int x1, mK, .int x3, mK], [], S, 0)) hf rfl rfl rfl rfl (fun r9 h9 => f_X7_dayMore_ok_26 (d := d) h9) (fun r9 S8 hf => ?_)
      show Ev (d + 6) Mx153 (39, [.ref 0, .int x1, mK, .int x3, mK], [.int r9], S8, 0) r
      exact ev_sts 3 (c2 := (23, [.ref 0, .int x1, mK, .int (x3 + (1 : Int32)), mK], [], S8, 0)) rfl (ih hf)
theorem f_X9_freshBehind_ok {d F : Nat} {p1 : Int32} {p2 : Int32} {S : mS} {r : mR} (hf : f_X9_freshBehind F p1 p2 S = some r) : Ev (d + 6) Mx153 (entry Mx153 [.ref 0, .int p1, .int p2] S) r := by
  unfold f_X9_freshBehind at hf
  refine ev_sts 4 (c2 := (8, [.ref 0, .int p1, .int p2, mK, mK], [.ref 24, .ref 26], S, 0)) rfl ?_
  refine ev_bV0 (d := d + 5) (M' := Mx0) (ct := (11, [.ref 0, .int p1, .int p2, mK, mK], [], S, 0)) hf rfl rfl rfl rfl (fun r9 h9 => f_X0_copy_ok_26_24 (d := d + 5) h9) (fun S1 hf => ?_)
  show Ev (d + 6) Mx153 (11, [.ref 0, .int p1, .int p2, mK, mK], [], S1, 0) r
  refine ev_sts 4 (c2 := (18, [.ref 0, .int p1, .int p2, mK, mK], [.int p2, .int ((10 : Int32)), .ref 26], S1, 0)) rfl ?_
  refine ev_bV0 (d := d + 5) (M' := Mx2) (ct := (21, [.ref 0, .int p1, .int p2, mK, mK], [], S1, 0)) hf rfl rfl rfl rfl (fun r9 h9 => f_X0_put_ok_26 (d := d + 5) h9) (fun S2 hf => ?_)
  show Ev (d + 6) Mx153 (21, [.ref 0, .int p1, .int p2, mK, mK], [], S2, 0) r
  exact ev_sts 2 (c2 := (23, [.ref 0, .int p1, mK, .int ((0 : Int32)), mK], [], S2, 0)) rfl (f_X9_freshBehind_b23_ok _ hf)
def f_X6_bestFrom_b49 (t0 : Int32) (S : mS) : Option mR := some (.inl (some (.int t0)), S)
def f_X6_bestFrom_b28 (x1 : Int32) (x2 : Int32) (t0 : Int32) (S : mS) : Option mR := (if t0 = 0 then f_X6_bestFrom_b49 ((0 : Int32)) S else gd (inb ((x1 * ((1024 : Int32))) + x2) 10240) (f_X6_bestFrom_b49 (S 35 ((x1 * ((1024 : Int32))) + x2).toNatClampNeg) S))
def f_X6_bestFrom_b27 (x1 : Int32) (x2 : Int32) (S : mS) : Option mR := f_X6_bestFrom_b28 x1 x2 ((0 : Int32)) S
def f_X6_bestFrom (p1 : Int32) (p2 : Int32) (S : mS) : Option mR := (if p1 < 0 then f_X6_bestFrom_b27 p1 p2 S else (if (S 33 4) ≤ p1 then f_X6_bestFrom_b27 p1 p2 S else (if p2 < 0 then f_X6_bestFrom_b27 p1 p2 S else (if ((1024 : Int32)) ≤ p2 then f_X6_bestFrom_b27 p1 p2 S else f_X6_bestFrom_b28 p1 p2 ((1 : Int32)) S))))
theorem f_X6_bestFrom_b49_ok {d : Nat} {t0 : Int32} {S : mS} {r : mR} (hf : f_X6_bestFrom_b49 t0 S = some r) : Ev (d) Mx55 (49, [mK, mK, mK, mK], [.int t0], S, 0) r := by
  unfold f_X6_bestFrom_b49 at hf
  exact ev_ret hf rfl rfl
theorem f_X6_bestFrom_b28_ok {d : Nat} {x1 : Int32} {x2 : Int32} {t0 : Int32} {S : mS} {r : mR} (hf : f_X6_bestFrom_b28 x1 x2 t0 S = some r) : Ev (d) Mx55 (28, [.ref 33, .int x1, .int x2, mK], [.int t0], S, 0) r := by
  unfold f_X6_bestFrom_b28 at hf
  refine ev_sts 2 (c2 := (30, [.ref 33, .int x1, .int x2, .int t0], [.int t0], S, 0)) rfl ?_
  refine ev_if (c1 := (48, [.ref 33, .int x1, .int x2, .int t0], [], S, 0)) (c2 := (33, [.ref 33, .int x1, .int x2, .int t0], [], S, 0)) hf rfl rfl (fun _ hf => ?_) (fun _ hf => ?_)
  · exact ev_sts 1 (c2 := (49, [mK, mK, mK, mK], [.int ((0 : Int32))], S, 0)) rfl (f_X6_bestFrom_b49_ok hf)
  · refine ev_sts 7 (c2 := (44, [.ref 33, .int x1, .int x2, .int t0], [.int ((x1 * ((1024 : Int32))) + x2), .ref 35], S, 0)) rfl ?_
    refine ev_gd (c1 := (45, [.ref 33, .int x1, .int x2, .int t0], [.int (S 35 ((x1 * ((1024 : Int32))) + x2).toNatClampNeg)], S, 0)) hf rfl rfl (fun hf => ?_)
    exact ev_sts 1 (c2 := (49, [mK, mK, mK, mK], [.int (S 35 ((x1 * ((1024 : Int32))) + x2).toNatClampNeg)], S, 0)) rfl (f_X6_bestFrom_b49_ok hf)
theorem f_X6_bestFrom_b27_ok {d : Nat} {x1 : Int32} {x2 : Int32} {S : mS} {r : mR} (hf : f_X6_bestFrom_b27 x1 x2 S = some r) : Ev (d) Mx55 (27, [.ref 33, .int x1, .int x2, mK], [], S, 0) r := by
  unfold f_X6_bestFrom_b27 at hf
  exact ev_sts 1 (c2 := (28, [.ref 33, .int x1, .int x2, mK], [.int ((0 : Int32))], S, 0)) rfl (f_X6_bestFrom_b28_ok hf)
theorem f_X6_bestFrom_ok {d : Nat} {p1 : Int32} {p2 : Int32} {S : mS} {r : mR} (hf : f_X6_bestFrom p1 p2 S = some r) : Ev (d) Mx55 (entry Mx55 [.ref 33, .int p1, .int p2] S) r := by
  unfold f_X6_bestFrom at hf
  refine ev_sts 1 (c2 := (1, [.ref 33, .int p1, .int p2, mK], [.int p1], S, 0)) rfl ?_
  refine ev_if (c1 := (27, [.ref 33, .int p1, .int p2, mK], [], S, 0)) (c2 := (4, [.ref 33, .int p1, .int p2, mK], [], S, 0)) hf rfl rfl (fun _ hf => ?_) (fun _ hf => ?_)
  · exact f_X6_bestFrom_b27_ok hf
  · refine ev_sts 3 (c2 := (9, [.ref 33, .int p1, .int p2, mK], [.int (S 33 4), .int p1], S, 0)) rfl ?_
    refine ev_if (c1 := (27, [.ref 33, .int p1, .int p2, mK], [], S, 0)) (c2 := (12, [.ref 33, .int p1, .int p2, mK], [], S, 0)) hf rfl rfl (fun _ hf => ?_) (fun _ hf => ?_)
    · exact f_X6_bestFrom_b27_ok hf
    · refine ev_sts 1 (c2 := (13, [.ref 33, .int p1, .int p2, mK], [.int p2], S, 0)) rfl ?_
      refine ev_if (c1 := (27, [.ref 33, .int p1, .int p2, mK], [], S, 0)) (c2 := (16, [.ref 33, .int p1, .int p2, mK], [], S, 0)) hf rfl rfl (fun _ hf => ?_) (fun _ hf => ?_)
      · exact f_X6_bestFrom_b27_ok hf
      · refine ev_sts 2 (c2 := (20, [.ref 33, .int p1, .int p2, mK], [.int ((1024 : Int32)), .int p2], S, 0)) rfl ?_
        refine ev_if (c1 := (27, [.ref 33, .int p1, .int p2, mK], [], S, 0)) (c2 := (23, [.ref 33, .int p1, .int p2, mK], [], S, 0)) hf rfl rfl (fun _ hf => ?_) (fun _ hf => ?_)
        · exact f_X6_bestFrom_b27_ok hf
        · exact ev_sts 2 (c2 := (28, [.ref 33, .int p1, .int p2, mK], [.int ((1 : Int32))], S, 0)) rfl (f_X6_bestFrom_b28_ok hf)
def f_X6_worthOf_b49 (t0 : Int32) (S : mS) : Option mR := some (.inl (some (.int t0)), S)
def f_X6_worthOf_b29 (x1 : Int32) (x2 : Int32) (t0 : Int32) (S : mS) : Option mR := (if t0 = 0 then f_X6_worthOf_b49 ((0 : Int32)) S else gd (inb ((x1 * ((10 : Int32))) + x2) 100) (f_X6_worthOf_b49 (S 34 ((x1 * ((10 : Int32))) + x2).toNatClampNeg) S))
def f_X6_worthOf_b28 (x1 : Int32) (x2 : Int32) (S : mS) : Option mR := f_X6_worthOf_b29 x1 x2 ((0 : Int32)) S
def f_X6_worthOf (p1 : Int32) (p2 : Int32) (S : mS) : Option mR := (if p1 < 0 then f_X6_worthOf_b28 p1 p2 S else (if (S 33 4) ≤ p1 then f_X6_worthOf_b28 p1 p2 S else (if p2 < 0 then f_X6_worthOf_b28 p1 p2 S else (if (S 33 5) ≤ p2 then f_X6_worthOf_b28 p1 p2 S else f_X6_worthOf_b29 p1 p2 ((1 : Int32)) S))))
theorem f_X6_worthOf_b49_ok {d : Nat} {t0 : Int32} {S : mS} {r : mR} (hf : f_X6_worthOf_b49 t0 S = some r) : Ev (d) Mx56 (49, [mK, mK, mK, mK], [.int t0], S, 0) r := by
  unfold f_X6_worthOf_b49 at hf
  exact ev_ret hf rfl rfl
theorem f_X6_worthOf_b29_ok {d : Nat} {x1 : Int32} {x2 : Int32} {t0 : Int32} {S : mS} {r : mR} (hf : f_X6_worthOf_b29 x1 x2 t0 S = some r) : Ev (d) Mx56 (29, [.ref 33, .int x1, .int x2, mK], [.int t0], S, 0) r := by
  unfold f_X6_worthOf_b29 at hf
  refine ev_sts 2 (c2 := (31, [.ref 33, .int x1, .int x2, .int t0], [.int t0], S, 0)) rfl ?_
  refine ev_if (c1 := (48, [.ref 33, .int x1, .int x2, .int t0], [], S, 0)) (c2 := (34, [.ref 33, .int x1, .int x2, .int t0], [], S, 0)) hf rfl rfl (fun _ hf => ?_) (fun _ hf => ?_)
  · exact ev_sts 1 (c2 := (49, [mK, mK, mK, mK], [.int ((0 : Int32))], S, 0)) rfl (f_X6_worthOf_b49_ok hf)
  · refine ev_sts 7 (c2 := (44, [.ref 33, .int x1, .int x2, .int t0], [.int ((x1 * ((10 : Int32))) + x2), .ref 34], S, 0)) rfl ?_
    refine ev_gd (c1 := (45, [.ref 33, .int x1, .int x2, .int t0], [.int (S 34 ((x1 * ((10 : Int32))) + x2).toNatClampNeg)], S, 0)) hf rfl rfl (fun hf => ?_)
    exact ev_sts 1 (c2 := (49, [mK, mK, mK, mK], [.int (S 34 ((x1 * ((10 : Int32))) + x2).toNatClampNeg)], S, 0)) rfl (f_X6_worthOf_b49_ok hf)
theorem f_X6_worthOf_b28_ok {d : Nat} {x1 : Int32} {x2 : Int32} {S : mS} {r : mR} (hf : f_X6_worthOf_b28 x1 x2 S = some r) : Ev (d) Mx56 (28, [.ref 33, .int x1, .int x2, mK], [], S, 0) r := by
  unfold f_X6_worthOf_b28 at hf
  exact ev_sts 1 (c2 := (29, [.ref 33, .int x1, .int x2, mK], [.int ((0 : Int32))], S, 0)) rfl (f_X6_worthOf_b29_ok hf)
theorem f_X6_worthOf_ok {d : Nat} {p1 : Int32} {p2 : Int32} {S : mS} {r : mR} (hf : f_X6_worthOf p1 p2 S = some r) : Ev (d) Mx56 (entry Mx56 [.ref 33, .int p1, .int p2] S) r := by
  unfold f_X6_worthOf at hf
  refine ev_sts 1 (c2 := (1, [.ref 33, .int p1, .int p2, mK], [.int p1], S, 0)) rfl ?_
  refine ev_if (c1 := (28, [.ref 33, .int p1, .int p2, mK], [], S, 0)) (c2 := (4, [.ref 33, .int p1, .int p2, mK], [], S, 0)) hf rfl rfl (fun _ hf => ?_) (fun _ hf => ?_)
  · exact f_X6_worthOf_b28_ok hf
  · refine ev_sts 3 (c2 := (9, [.ref 33, .int p1, .int p2, mK], [.int (S 33 4), .int p1], S, 0)) rfl ?_
    refine ev_if (c1 := (28, [.ref 33, .int p1, .int p2, mK], [], S, 0)) (c2 := (12, [.ref 33, .int p1, .int p2, mK], [], S, 0)) hf rfl rfl (fun _ hf => ?_) (fun _ hf => ?_)
    · exact f_X6_worthOf_b28_ok hf
    · refine ev_sts 1 (c2 := (13, [.ref 33, .int p1, .int p2, mK], [.int p2], S, 0)) rfl ?_
      refine ev_if (c1 := (28, [.ref 33, .int p1, .int p2, mK], [], S, 0)) (c2 := (16, [.ref 33, .int p1, .int p2, mK], [], S, 0)) hf rfl rfl (fun _ hf => ?_) (fun _ hf => ?_)
      · exact f_X6_worthOf_b28_ok hf
      · refine ev_sts 3 (c2 := (21, [.ref 33, .int p1, .int p2, mK], [.int (S 33 5), .int p2], S, 0)) rfl ?_
        refine ev_if (c1 := (28, [.ref 33, .int p1, .int p2, mK], [], S, 0)) (c2 := (24, [.ref 33, .int p1, .int p2, mK], [], S, 0)) hf rfl rfl (fun _ hf => ?_) (fun _ hf => ?_)
        · exact f_X6_worthOf_b28_ok hf
        · exact ev_sts 2 (c2 := (29, [.ref 33, .int p1, .int p2, mK], [.int ((1 : Int32))], S, 0)) rfl (f_X6_worthOf_b29_ok hf)
def f_X6_bestWith (p1 : Int32) (p2 : Int32) (p3 : Int32) (S : mS) : Option mR := bI0 (f_X6_worthOf p1 p3 S) (fun r2 S1 => bI0 (f_X6_bestFrom (p1 + ((1 : Int32))) (p2 ||| (((1 : Int32)) <<< (p3 &&& 31))) S1) (fun r4 S3 => some (.inl (some (.int (r2 + r4))), S3)))
theorem f_X6_bestWith_ok {d : Nat} {p1 : Int32} {p2 : Int32} {p3 : Int32} {S : mS} {r : mR} (hf : f_X6_bestWith p1 p2 p3 S = some r) : Ev (d + 1) Mx54 (entry Mx54 [.ref 33, .int p1, .int p2, .int p3] S) r := by
  unfold f_X6_bestWith at hf
  refine ev_sts 3 (c2 := (3, [.ref 33, .int p1, .int p2, .int p3], [.int p3, .int p1, .ref 33], S, 0)) rfl ?_
  refine ev_bI0 (d := d) (M' := Mx56) (ct := (6, [.ref 33, .int p1, .int p2, .int p3], [], S, 0)) hf rfl rfl rfl rfl (fun r9 h9 => f_X6_worthOf_ok (d := d) h9) (fun r2 S1 hf => ?_)
  show Ev (d + 1) Mx54 (6, [.ref 33, .int p1, .int p2, .int p3], [.int r2], S1, 0) r
  refine ev_sts 9 (c2 := (15, [.ref 33, .int p1, .int p2, .int p3], [.int (p2 ||| (((1 : Int32)) <<< (p3 &&& 31))), .int (p1 + ((1 : Int32))), .ref 33, .int r2], S1, 0)) rfl ?_
  refine ev_bI0 (d := d) (M' := Mx55) (ct := (18, [.ref 33, .int p1, .int p2, .int p3], [.int r2], S1, 0)) hf rfl rfl rfl rfl (fun r9 h9 => f_X6_bestFrom_ok (d := d) h9) (fun r4 S3 hf => ?_)
  show Ev (d + 1) Mx54 (18, [.ref 33, .int p1, .int p2, .int p3], [.int r4, .int r2], S3, 0) r
  refine ev_sts 1 (c2 := (19, [.ref 33, .int p1, .int p2, .int p3], [.int (r2 + r4)], S3, 0)) rfl ?_
  exact ev_ret hf rfl rfl
def f_X6_firstOf_b57 (K24 : Int32 → Int32 → Int32 → Int32 → mS → Option mR) (F : Nat) (x1 : Int32) (x2 : Int32) (x3 : Int32) (x4 : Int32) (S : mS) : Option mR := K24 x1 x2 x3 (x4 + (1 : Int32)) S
def f_X6_firstOf_b24 (F : Nat) : Nat → Int32 → Int32 → Int32 → Int32 → mS → Option mR
  | 0, _, _, _, _, _ => none
  | n + 1, x1, x2, x3, x4, S => (if (S 33 5) ≤ x4 then some (.inl (some (.int ((-1 : Int32)))), S) else bI0 (f_X9_hasBit x2 x4 S) (fun r6 S5 => (if ¬ r6 = 0 then f_X6_firstOf_b57 (fun x1 x2 x3 x4 S => f_X6_firstOf_b24 F n x1 x2 x3 x4 S) F x1 x2 x3 x4 S5 else bI0 (f_X6_bestWith x1 x2 x4 S5) (fun r8 S7 => (if ¬ r8 = x3 then f_X6_firstOf_b57 (fun x1 x2 x3 x4 S => f_X6_firstOf_b24 F n x1 x2 x3 x4 S) F x1 x2 x3 x4 S7 else some (.inl (some (.int x4)), S7))))))
def f_X6_firstOf (F : Nat) (p1 : Int32) (p2 : Int32) (S : mS) : Option mR := bI0 (f_X6_bestFrom p1 p2 S) (fun r2 S1 => bI0 (f_X6_bestFrom (p1 + ((1 : Int32))) p2 S1) (fun r4 S3 => (if ¬ r4 = r2 then f_X6_firstOf_b24 F F p1 p2 r2 ((0 : Int32)) S3 else some (.inl (some (.int ((-1 : Int32)))), S3))))
theorem f_X6_firstOf_b57_ok {d F : Nat} {K24 : Int32 → Int32 → Int32 → Int32 → mS → Option mR} (hK24 : ∀ {x1 : Int32} {x2 : Int32} {x3 : Int32} {x4 : Int32} {S : mS} {r : mR}, K24 x1 x2 x3 x4 S = some r → Ev (d + 2) Mx53 (24, [.ref 33, .int x1, .int x2, .int x3, .int x4], [], S, 0) r) {x1 : Int32} {x2 : Int32} {x3 : Int32} {x4 : Int32} {S : mS} {r : mR} (hf : f_X6_firstOf_b57 K24 F x1 x2 x3 x4 S = some r) : Ev (d + 2) Mx53 (57, [.ref 33, .int x1, .int x2, .int x3, .int x4], [], S, 0) r := by
  unfold f_X6_firstOf_b57 at hf
  exact ev_sts 2 (c2 := (24, [.ref 33, .int x1, .int x2, .int x3, .int (x4 + (1 : Int32))], [], S, 0)) rfl (hK24 hf)
theorem f_X6_firstOf_b24_ok {d F : Nat} : ∀ (n : Nat) {x1 : Int32} {x2 : Int32} {x3 : Int32} {x4 : Int32} {S : mS} {r : mR}, f_X6_firstOf_b24 F n x1 x2 x3 x4 S = some r → Ev (d + 2) Mx53 (24, [.ref 33, .int x1, .int x2, .int x3, .int x4], [], S, 0) r := by
  intro n
  induction n with
  | zero => intro x1 x2 x3 x4 S r hf; cases hf
  | succ n ih =>
    intro x1 x2 x3 x4 S r hf
    rw [f_X6_firstOf_b24] at hf
    refine ev_sts 3 (c2 := (30, [.ref 33, .int x1, .int x2, .int x3, .int x4], [.int (S 33 5), .int x4], S, 0)) rfl ?_
    refine ev_if (c1 := (63, [.ref 33, .int x1, .int x2, .int x3, .int x4], [], S, 0)) (c2 := (33, [.ref 33, .int x1, .int x2, .int x3, .int x4], [], S, 0)) hf rfl rfl (fun _ hf => ?_) (fun _ hf => ?_)
    · refine ev_sts 1 (c2 := (64, [.ref 33, .int x1, .int x2, .int x3, .int x4], [.int ((-1 : Int32))], S, 0)) rfl ?_
      exact ev_ret hf rfl rfl
    · refine ev_sts 2 (c2 := (36, [.ref 33, .int x1, .int x2, .int x3, .int x4], [.int x4, .int x2], S, 0)) rfl ?_
      refine ev_bI0 (d := d + 1) (M' := Mx143) (ct := (39, [.ref 33, .int x1, .int x2, .int x3, .int x4], [], S, 0)) hf rfl rfl rfl rfl (fun r9 h9 => f_X9_hasBit_ok (d := d + 1) h9) (fun r6 S5 hf => ?_)
      show Ev (d + 2) Mx53 (39, [.ref 33, .int x1, .int x2, .int x3, .int x4], [.int r6], S5, 0) r
      refine ev_if (c1 := (57, [.ref 33, .int x1, .int x2, .int x3, .int x4], [], S5, 0)) (c2 := (42, [.ref 33, .int x1, .int x2, .int x3, .int x4], [], S5, 0)) hf rfl rfl (fun _ hf => ?_) (fun _ hf => ?_)
      · exact f_X6_firstOf_b57_ok (fun h9 => ih h9) hf
      · refine ev_sts 4 (c2 := (47, [.ref 33, .int x1, .int x2, .int x3, .int x4], [.int x4, .int x2, .int x1, .ref 33], S5, 0)) rfl ?_
        refine ev_bI0 (d := d + 1) (M' := Mx54) (ct := (50, [.ref 33, .int x1, .int x2, .int x3, .int x4], [], S5, 0)) hf rfl rfl rfl rfl (fun r9 h9 => f_X6_bestWith_ok (d := d) h9) (fun r8 S7 hf => ?_)
        show Ev (d + 2) Mx53 (50, [.ref 33, .int x1, .int x2, .int x3, .int x4], [.int r8], S7, 0) r
        refine ev_sts 1 (c2 := (51, [.ref 33, .int x1, .int x2, .int x3, .int x4], [.int x3, .int r8], S7, 0)) rfl ?_
        refine ev_if (c1 := (57, [.ref 33, .int x1, .int x2, .int x3, .int x4], [], S7, 0)) (c2 := (54, [.ref 33, .int x1, .int x2, .int x3, .int x4], [], S7, 0)) hf rfl rfl (fun _ hf => ?_) (fun _ hf => ?_)
        · exact f_X6_firstOf_b57_ok (fun h9 => ih h9) hf
        · refine ev_sts 1 (c2 := (56, [.ref 33, .int x1, .int x2, .int x3, .int x4], [.int x4], S7, 0)) rfl ?_
          exact ev_ret hf rfl rfl
theorem f_X6_firstOf_ok {d F : Nat} {p1 : Int32} {p2 : Int32} {S : mS} {r : mR} (hf : f_X6_firstOf F p1 p2 S = some r) : Ev (d + 2) Mx53 (entry Mx53 [.ref 33, .int p1, .int p2] S) r := by
  unfold f_X6_firstOf at hf
  refine ev_sts 3 (c2 := (3, [.ref 33, .int p1, .int p2, mK, mK], [.int p2, .int p1, .ref 33], S, 0)) rfl ?_
  refine ev_bI0 (d := d + 1) (M' := Mx55) (ct := (6, [.ref 33, .int p1, .int p2, mK, mK], [], S, 0)) hf rfl rfl rfl rfl (fun r9 h9 => f_X6_bestFrom_ok (d := d + 1) h9) (fun r2 S1 hf => ?_)
  show Ev (d + 2) Mx53 (6, [.ref 33, .int p1, .int p2, mK, mK], [.int r2], S1, 0) r
  refine ev_sts 6 (c2 := (12, [.ref 33, .int p1, .int p2, .int r2, mK], [.int p2, .int (p1 + ((1 : Int32))), .ref 33], S1, 0)) rfl ?_
  refine ev_bI0 (d := d + 1) (M' := Mx55) (ct := (15, [.ref 33, .int p1, .int p2, .int r2, mK], [], S1, 0)) hf rfl rfl rfl rfl (fun r9 h9 => f_X6_bestFrom_ok (d := d + 1) h9) (fun r4 S3 hf => ?_)
  show Ev (d + 2) Mx53 (15, [.ref 33, .int p1, .int p2, .int r2, mK], [.int r4], S3, 0) r
  refine ev_sts 1 (c2 := (16, [.ref 33, .int p1, .int p2, .int r2, mK], [.int r2, .int r4], S3, 0)) rfl ?_
  refine ev_if (c1 := (21, [.ref 33, .int p1, .int p2, .int r2, mK], [], S3, 0)) (c2 := (19, [.ref 33, .int p1, .int p2, .int r2, mK], [], S3, 0)) hf rfl rfl (fun _ hf => ?_) (fun _ hf => ?_)
  · exact ev_sts 2 (c2 := (24, [.ref 33, .int p1, .int p2, .int r2, .int ((0 : Int32))], [], S3, 0)) rfl (f_X6_firstOf_b24_ok _ hf)
  · refine ev_sts 1 (c2 := (20, [.ref 33, .int p1, .int p2, .int r2, mK], [.int ((-1 : Int32))], S3, 0)) rfl ?_
    exact ev_ret hf rfl rfl
def f_X6_ledgeOf_b64 (F : Nat) (t0 : Int32) (S : mS) : Option mR := some (.inl (some (.int t0)), S)
def f_X6_ledgeOf_b59 (F : Nat) (S : mS) : Option mR := f_X6_ledgeOf_b64 F ((-1 : Int32)) S
def f_X6_ledgeOf_b47 (F : Nat) (x1 : Int32) (x3 : Int32) (S : mS) : Option mR := (if x1 < 0 then f_X6_ledgeOf_b59 F S else (if x1 < (S 33 4) then f_X6_ledgeOf_b64 F x3 S else f_X6_ledgeOf_b59 F S))
def f_X6_ledgeOf_b41 (K7 : Int32 → Int32 → Int32 → Int32 → mS → Option mR) (F : Nat) (x1 : Int32) (x2 : Int32) (x3 : Int32) (x4 : Int32) (S : mS) : Option mR := K7 x1 x2 x3 (x4 + (1 : Int32)) S
def f_X6_ledgeOf_b7 (F : Nat) : Nat → Int32 → Int32 → Int32 → Int32 → mS → Option mR
  | 0, _, _, _, _, _ => none
  | n + 1, x1, x2, x3, x4, S => (if x1 < x4 then f_X6_ledgeOf_b47 F x1 x3 S else (if (S 33 4) ≤ x4 then f_X6_ledgeOf_b47 F x1 x3 S else bI0 (f_X6_firstOf F x4 x2 S) (fun r2 S1 => (if r2 = ((-1 : Int32)) then f_X6_ledgeOf_b41 (fun x1 x2 x3 x4 S => f_X6_ledgeOf_b7 F n x1 x2 x3 x4 S) F x1 x2 r2 x4 S1 else bnd (x2 ||| (((1 : Int32)) <<< (r2 &&& 31)) : Int32) (fun y3 => f_X6_ledgeOf_b41 (fun x1 x2 x3 x4 S => f_X6_ledgeOf_b7 F n x1 x2 x3 x4 S) F x1 y3 r2 x4 S1)))))
def f_X6_ledgeOf (F : Nat) (p1 : Int32) (S : mS) : Option mR := f_X6_ledgeOf_b7 F F p1 ((0 : Int32)) ((-1 : Int32)) ((0 : Int32)) S
theorem f_X6_ledgeOf_b64_ok {d F : Nat} {t0 : Int32} {S : mS} {r : mR} (hf : f_X6_ledgeOf_b64 F t0 S = some r) : Ev (d + 3) Mx50 (64, [mK, mK, mK, mK, mK], [.int t0], S, 0) r := by
  unfold f_X6_ledgeOf_b64 at hf
  exact ev_ret hf rfl rfl
theorem f_X6_ledgeOf_b59_ok {d F : Nat} {S : mS} {r : mR} (hf : f_X6_ledgeOf_b59 F  S = some r) : Ev (d + 3) Mx50 (59, [mK, mK, mK, mK, mK], [], S, 0) r := by
  unfold f_X6_ledgeOf_b59 at hf
  exact ev_sts 2 (c2 := (64, [mK, mK, mK, mK, mK], [.int ((-1 : Int32))], S, 0)) rfl (f_X6_ledgeOf_b64_ok hf)
theorem f_X6_ledgeOf_b47_ok {d F : Nat} {x1 : Int32} {x3 : Int32} {S : mS} {r : mR} (hf : f_X6_ledgeOf_b47 F x1 x3 S = some r) : Ev (d + 3) Mx50 (47, [.ref 33, .int x1, mK, .int x3, mK], [], S, 0) r := by
  unfold f_X6_ledgeOf_b47 at hf
  refine ev_sts 1 (c2 := (48, [.ref 33, .int x1, mK, .int x3, mK], [.int x1], S, 0)) rfl ?_
  refine ev_if (c1 := (59, [mK, mK, mK, mK, mK], [], S, 0)) (c2 := (51, [.ref 33, .int x1, mK, .int x3, mK], [], S, 0)) hf rfl rfl (fun _ hf => ?_) (fun _ hf => ?_)
  · exact f_X6_ledgeOf_b59_ok hf
  · refine ev_sts 3 (c2 := (56, [.ref 33, .int x1, mK, .int x3, mK], [.int (S 33 4), .int x1], S, 0)) rfl ?_
    refine ev_if (c1 := (63, [.ref 33, .int x1, mK, .int x3, mK], [], S, 0)) (c2 := (59, [mK, mK, mK, mK, mK], [], S, 0)) hf rfl rfl (fun _ hf => ?_) (fun _ hf => ?_)
    · exact ev_sts 1 (c2 := (64, [mK, mK, mK, mK, mK], [.int x3], S, 0)) rfl (f_X6_ledgeOf_b64_ok hf)
    · exact f_X6_ledgeOf_b59_ok hf
theorem f_X6_ledgeOf_b41_ok {d F : Nat} {K7 : Int32 → Int32 → Int32 → Int32 → mS → Option mR} (hK7 : ∀ {x1 : Int32} {x2 : Int32} {x3 : Int32} {x4 : Int32} {S : mS} {r : mR}, K7 x1 x2 x3 x4 S = some r → Ev (d + 3) Mx50 (7, [.ref 33, .int x1, .int x2, .int x3, .int x4], [], S, 0) r) {x1 : Int32} {x2 : Int32} {x3 : Int32} {x4 : Int32} {S : mS} {r : mR} (hf : f_X6_ledgeOf_b41 K7 F x1 x2 x3 x4 S = some r) : Ev (d + 3) Mx50 (41, [.ref 33, .int x1, .int x2, .int x3, .int x4], [], S, 0) r := by
  unfold f_X6_ledgeOf_b41 at hf
  exact ev_sts 2 (c2 := (7, [.ref 33, .int x1, .int x2, .int x3, .int (x4 + (1 : Int32))], [], S, 0)) rfl (hK7 hf)
theorem f_X6_ledgeOf_b7_ok {d F : Nat} : ∀ (n : Nat) {x1 : Int32} {x2 : Int32} {x3 : Int32} {x4 : Int32} {S : mS} {r : mR}, f_X6_ledgeOf_b7 F n x1 x2 x3 x4 S = some r → Ev (d + 3) Mx50 (7, [.ref 33, .int x1, .int x2, .int x3, .int x4], [], S, 0) r := by
  intro n
  induction n with
  | zero => intro x1 x2 x3 x4 S r hf; cases hf
  | succ n ih =>
    intro x1 x2 x3 x4 S r hf
    rw [f_X6_ledgeOf_b7] at hf
    refine ev_sts 2 (c2 := (10, [.ref 33, .int x1, .int x2, .int x3, .int x4], [.int x1, .int x4], S, 0)) rfl ?_
    refine ev_if (c1 := (47, [.ref 33, .int x1, mK, .int x3, mK], [], S, 0)) (c2 := (13, [.ref 33, .int x1, .int x2, .int x3, .int x4], [], S, 0)) hf rfl rfl (fun _ hf => ?_) (fun _ hf => ?_)
    · exact f_X6_ledgeOf_b47_ok hf
    · refine ev_sts 3 (c2 := (19, [.ref 33, .int x1, .int x2, .int x3, .int x4], [.int (S 33 4), .int x4], S, 0)) rfl ?_
      refine ev_if (c1 := (47, [.ref 33, .int x1, mK, .int x3, mK], [], S, 0)) (c2 := (22, [.ref 33, .int x1, .int x2, .int x3, .int x4], [], S, 0)) hf rfl rfl (fun _ hf => ?_) (fun _ hf => ?_)
      · exact f_X6_ledgeOf_b47_ok hf
      · refine ev_sts 3 (c2 := (26, [.ref 33, .int x1, .int x2, .int x3, .int x4], [.int x2, .int x4, .ref 33], S, 0)) rfl ?_
        refine ev_bI0 (d := d + 2) (M' := Mx53) (ct := (29, [.ref 33, .int x1, .int x2, .int x3, .int x4], [], S, 0)) hf rfl rfl rfl rfl (fun r9 h9 => f_X6_firstOf_ok (d := d) h9) (fun r2 S1 hf => ?_)
        show Ev (d + 3) Mx50 (29, [.ref 33, .int x1, .int x2, .int x3, .int x4], [.int r2], S1, 0) r
        refine ev_sts 3 (c2 := (32, [.ref 33, .int x1, .int x2, .int r2, .int x4], [.int ((-1 : Int32)), .int r2], S1, 0)) rfl ?_
        refine ev_if (c1 := (41, [.ref 33, .int x1, .int x2, .int r2, .int x4], [], S1, 0)) (c2 := (35, [.ref 33, .int x1, .int x2, .int r2, .int x4], [], S1, 0)) hf rfl rfl (fun _ hf => ?_) (fun _ hf => ?_)
        · exact f_X6_ledgeOf_b41_ok (fun h9 => ih h9) hf
        · refine ev_sts 6 (c2 := (41, [.ref 33, .int x1, .int (x2 ||| (((1 : Int32)) <<< (r2 &&& 31))), .int r2, .int x4], [], S1, 0)) rfl ?_
          refine ev_let (P := fun y3 => Ev (d + 3) Mx50 (41, [.ref 33, .int x1, .int y3, .int r2, .int x4], [], S1, 0) r) (fun y3 hf => ?_) hf
          exact f_X6_ledgeOf_b41_ok (fun h9 => ih h9) hf
theorem f_X6_ledgeOf_ok {d F : Nat} {p1 : Int32} {S : mS} {r : mR} (hf : f_X6_ledgeOf F p1 S = some r) : Ev (d + 3) Mx50 (entry Mx50 [.ref 33, .int p1] S) r := by
  unfold f_X6_ledgeOf at hf
  exact ev_sts 6 (c2 := (7, [.ref 33, .int p1, .int ((0 : Int32)), .int ((-1 : Int32)), .int ((0 : Int32))], [], S, 0)) rfl (f_X6_ledgeOf_b7_ok _ hf)
def f_X6_most (S : mS) : Option mR := bI0 (f_X6_bestFrom ((0 : Int32)) ((0 : Int32)) S) (fun r2 S1 => some (.inl (some (.int r2)), S1))
theorem f_X6_most_ok {d : Nat} {S : mS} {r : mR} (hf : f_X6_most S = some r) : Ev (d + 1) Mx49 (entry Mx49 [.ref 33] S) r := by
  unfold f_X6_most at hf
  refine ev_sts 3 (c2 := (3, [.ref 33], [.int ((0 : Int32)), .int ((0 : Int32)), .ref 33], S, 0)) rfl ?_
  refine ev_bI0 (d := d) (M' := Mx55) (ct := (6, [.ref 33], [], S, 0)) hf rfl rfl rfl rfl (fun r9 h9 => f_X6_bestFrom_ok (d := d) h9) (fun r2 S1 hf => ?_)
  show Ev (d + 1) Mx49 (6, [.ref 33], [.int r2], S1, 0) r
  exact ev_ret hf rfl rfl
def f_X6_bestOf_b43 (K12 : Int32 → Int32 → Int32 → Int32 → mS → Option mR) (F : Nat) (x1 : Int32) (x2 : Int32) (x3 : Int32) (x4 : Int32) (S : mS) : Option mR := K12 x1 x2 x3 (x4 + (1 : Int32)) S
def f_X6_bestOf_b12 (F : Nat) : Nat → Int32 → Int32 → Int32 → Int32 → mS → Option mR
  | 0, _, _, _, _, _ => none
  | n + 1, x1, x2, x3, x4, S => (if (S 33 5) ≤ x4 then some (.inl (some (.int x3)), S) else bI0 (f_X9_hasBit x2 x4 S) (fun r4 S3 => (if ¬ r4 = 0 then f_X6_bestOf_b43 (fun x1 x2 x3 x4 S => f_X6_bestOf_b12 F n x1 x2 x3 x4 S) F x1 x2 x3 x4 S3 else bI0 (f_X6_bestWith x1 x2 x4 S3) (fun r6 S5 => bnd (if x3 < r6 then r6 else x3 : Int32) (fun y7 => f_X6_bestOf_b43 (fun x1 x2 x3 x4 S => f_X6_bestOf_b12 F n x1 x2 x3 x4 S) F x1 x2 y7 x4 S5)))))
def f_X6_bestOf (F : Nat) (p1 : Int32) (p2 : Int32) (S : mS) : Option mR := bI0 (f_X6_bestFrom (p1 + ((1 : Int32))) p2 S) (fun r2 S1 => f_X6_bestOf_b12 F F p1 p2 r2 ((0 : Int32)) S1)
theorem f_X6_bestOf_b43_ok {d F : Nat} {K12 : Int32 → Int32 → Int32 → Int32 → mS → Option mR} (hK12 : ∀ {x1 : Int32} {x2 : Int32} {x3 : Int32} {x4 : Int32} {S : mS} {r : mR}, K12 x1 x2 x3 x4 S = some r → Ev (d + 2) Mx52 (12, [.ref 33, .int x1, .int x2, .int x3, .int x4], [], S, 0) r) {x1 : Int32} {x2 : Int32} {x3 : Int32} {x4 : Int32} {S : mS} {r : mR} (hf : f_X6_bestOf_b43 K12 F x1 x2 x3 x4 S = some r) : Ev (d + 2) Mx52 (43, [.ref 33, .int x1, .int x2, .int x3, .int x4], [], S, 0) r := by
  unfold f_X6_bestOf_b43 at hf
  exact ev_sts 2 (c2 := (12, [.ref 33, .int x1, .int x2, .int x3, .int (x4 + (1 : Int32))], [], S, 0)) rfl (hK12 hf)
theorem f_X6_bestOf_b12_ok {d F : Nat} : ∀ (n : Nat) {x1 : Int32} {x2 : Int32} {x3 : Int32} {x4 : Int32} {S : mS} {r : mR}, f_X6_bestOf_b12 F n x1 x2 x3 x4 S = some r → Ev (d + 2) Mx52 (12, [.ref 33, .int x1, .int x2, .int x3, .int x4], [], S, 0) r := by
  intro n
  induction n with
  | zero => intro x1 x2 x3 x4 S r hf; cases hf
  | succ n ih =>
    intro x1 x2 x3 x4 S r hf
    rw [f_X6_bestOf_b12] at hf
    refine ev_sts 3 (c2 := (18, [.ref 33, .int x1, .int x2, .int x3, .int x4], [.int (S 33 5), .int x4], S, 0)) rfl ?_
    refine ev_if (c1 := (49, [.ref 33, .int x1, .int x2, .int x3, .int x4], [], S, 0)) (c2 := (21, [.ref 33, .int x1, .int x2, .int x3, .int x4], [], S, 0)) hf rfl rfl (fun _ hf => ?_) (fun _ hf => ?_)
    · refine ev_sts 1 (c2 := (50, [.ref 33, .int x1, .int x2, .int x3, .int x4], [.int x3], S, 0)) rfl ?_
      exact ev_ret hf rfl rfl
    · refine ev_sts 2 (c2 := (24, [.ref 33, .int x1, .int x2, .int x3, .int x4], [.int x4, .int x2], S, 0)) rfl ?_
      refine ev_bI0 (d := d + 1) (M' := Mx143) (ct := (27, [.ref 33, .int x1, .int x2, .int x3, .int x4], [], S, 0)) hf rfl rfl rfl rfl (fun r9 h9 => f_X9_hasBit_ok (d := d + 1) h9) (fun r4 S3 hf => ?_)
      show Ev (d + 2) Mx52 (27, [.ref 33, .int x1, .int x2, .int x3, .int x4], [.int r4], S3, 0) r
      refine ev_if (c1 := (43, [.ref 33, .int x1, .int x2, .int x3, .int x4], [], S3, 0)) (c2 := (30, [.ref 33, .int x1, .int x2, .int x3, .int x4], [], S3, 0)) hf rfl rfl (fun _ hf => ?_) (fun _ hf => ?_)
      · exact f_X6_bestOf_b43_ok (fun h9 => ih h9) hf
      · refine ev_sts 5 (c2 := (36, [.ref 33, .int x1, .int x2, .int x3, .int x4], [.int x4, .int x2, .int x1, .ref 33, .int x3], S3, 0)) rfl ?_
        refine ev_bI0 (d := d + 1) (M' := Mx54) (ct := (39, [.ref 33, .int x1, .int x2, .int x3, .int x4], [.int x3], S3, 0)) hf rfl rfl rfl rfl (fun r9 h9 => f_X6_bestWith_ok (d := d) h9) (fun r6 S5 hf => ?_)
        show Ev (d + 2) Mx52 (39, [.ref 33, .int x1, .int x2, .int x3, .int x4], [.int r6, .int x3], S5, 0) r
        refine ev_sts 2 (c2 := (43, [.ref 33, .int x1, .int x2, .int (if x3 < r6 then r6 else x3), .int x4], [], S5, 0)) rfl ?_
        refine ev_let (P := fun y7 => Ev (d + 2) Mx52 (43, [.ref 33, .int x1, .int x2, .int y7, .int x4], [], S5, 0) r) (fun y7 hf => ?_) hf
        exact f_X6_bestOf_b43_ok (fun h9 => ih h9) hf
theorem f_X6_bestOf_ok {d F : Nat} {p1 : Int32} {p2 : Int32} {S : mS} {r : mR} (hf : f_X6_bestOf F p1 p2 S = some r) : Ev (d + 2) Mx52 (entry Mx52 [.ref 33, .int p1, .int p2] S) r := by
  unfold f_X6_bestOf at hf
  refine ev_sts 5 (c2 := (5, [.ref 33, .int p1, .int p2, mK, mK], [.int p2, .int (p1 + ((1 : Int32))), .ref 33], S, 0)) rfl ?_
  refine ev_bI0 (d := d + 1) (M' := Mx55) (ct := (8, [.ref 33, .int p1, .int p2, mK, mK], [], S, 0)) hf rfl rfl rfl rfl (fun r9 h9 => f_X6_bestFrom_ok (d := d + 1) h9) (fun r2 S1 hf => ?_)
  show Ev (d + 2) Mx52 (8, [.ref 33, .int p1, .int p2, mK, mK], [.int r2], S1, 0) r
  exact ev_sts 3 (c2 := (12, [.ref 33, .int p1, .int p2, .int r2, .int ((0 : Int32))], [], S1, 0)) rfl (f_X6_bestOf_b12_ok _ hf)
def f_X6_search_b49 (K7 : Int32 → mS → Option mR) (K13 : Int32 → Int32 → mS → Option mR) (F : Nat) (x1 : Int32) (x2 : Int32) (S : mS) : Option mR := K13 x1 (x2 + (1 : Int32)) S
def f_X6_search_b13 (K7 : Int32 → mS → Option mR) (F : Nat) : Nat → Int32 → Int32 → mS → Option mR
  | 0, _, _, _ => none
  | n + 1, x1, x2, S => (if (((1 : Int32)) <<< ((S 33 5) &&& 31)) ≤ x2 then K7 (x1 + (-1 : Int32)) S else bI0 (f_J6_bitCount_0f7a4 x2 S) (fun r3 S2 => (if x1 < r3 then f_X6_search_b49 K7 (fun x1 x2 S => f_X6_search_b13 K7 F n x1 x2 S) F x1 x2 S2 else bI0 (f_X6_bestOf F x1 x2 S2) (fun r5 S4 => gd (inb ((x1 * ((1024 : Int32))) + x2) 10240) (bnd (upS S4 35 ((x1 * ((1024 : Int32))) + x2).toNatClampNeg r5) (fun S6 => f_X6_search_b49 K7 (fun x1 x2 S => f_X6_search_b13 K7 F n x1 x2 S) F x1 x2 S6))))))
def f_X6_search_b7 (F : Nat) : Nat → Int32 → mS → Option mR
  | 0, _, _ => none
  | n + 1, x1, S => (if x1 < 0 then some (.inl none, S) else f_X6_search_b13 (fun x1 S => f_X6_search_b7 F n x1 S) F F x1 ((0 : Int32)) S)
def f_X6_search (F : Nat) (S : mS) : Option mR := bnd ((S 33 4) - ((1 : Int32)) : Int32) (fun y1 => f_X6_search_b7 F F y1 S)
theorem f_X6_search_b49_ok {d F : Nat} {K7 : Int32 → mS → Option mR} (hK7 : ∀ {x1 : Int32} {S : mS} {r : mR}, K7 x1 S = some r → Ev (d + 3) Mx48 (7, [.ref 33, .int x1, mK], [], S, 0) r) {K13 : Int32 → Int32 → mS → Option mR} (hK13 : ∀ {x1 : Int32} {x2 : Int32} {S : mS} {r : mR}, K13 x1 x2 S = some r → Ev (d + 3) Mx48 (13, [.ref 33, .int x1, .int x2], [], S, 0) r) {x1 : Int32} {x2 : Int32} {S : mS} {r : mR} (hf : f_X6_search_b49 K7 K13 F x1 x2 S = some r) : Ev (d + 3) Mx48 (49, [.ref 33, .int x1, .int x2], [], S, 0) r := by
  unfold f_X6_search_b49 at hf
  exact ev_sts 2 (c2 := (13, [.ref 33, .int x1, .int (x2 + (1 : Int32))], [], S, 0)) rfl (hK13 hf)
theorem f_X6_search_b13_ok {d F : Nat} {K7 : Int32 → mS → Option mR} (hK7 : ∀ {x1 : Int32} {S : mS} {r : mR}, K7 x1 S = some r → Ev (d + 3) Mx48 (7, [.ref 33, .int x1, mK], [], S, 0) r) : ∀ (n : Nat) {x1 : Int32} {x2 : Int32} {S : mS} {r : mR}, f_X6_search_b13 K7 F n x1 x2 S = some r → Ev (d + 3) Mx48 (13, [.ref 33, .int x1, .int x2], [], S, 0) r := by
  intro n
  induction n with
  | zero => intro x1 x2 S r hf; cases hf
  | succ n ih =>
    intro x1 x2 S r hf
    rw [f_X6_search_b13] at hf
    refine ev_sts 5 (c2 := (20, [.ref 33, .int x1, .int x2], [.int (((1 : Int32)) <<< ((S 33 5) &&& 31)), .int x2], S, 0)) rfl ?_
    refine ev_if (c1 := (55, [.ref 33, .int x1, .int x2], [], S, 0)) (c2 := (23, [.ref 33, .int x1, .int x2], [], S, 0)) hf rfl rfl (fun _ hf => ?_) (fun _ hf => ?_)
    · exact ev_sts 2 (c2 := (7, [.ref 33, .int (x1 + (-1 : Int32)), mK], [], S, 0)) rfl (hK7 hf)
    · refine ev_sts 1 (c2 := (24, [.ref 33, .int x1, .int x2], [.int x2], S, 0)) rfl ?_
      refine ev_bI0 (d := d + 2) (M' := Mx284) (ct := (27, [.ref 33, .int x1, .int x2], [], S, 0)) hf rfl rfl rfl rfl (fun r9 h9 => f_J6_bitCount_0f7a4_ok (d := d + 2) h9) (fun r3 S2 hf => ?_)
      show Ev (d + 3) Mx48 (27, [.ref 33, .int x1, .int x2], [.int r3], S2, 0) r
      refine ev_sts 1 (c2 := (28, [.ref 33, .int x1, .int x2], [.int x1, .int r3], S2, 0)) rfl ?_
      refine ev_if (c1 := (49, [.ref 33, .int x1, .int x2], [], S2, 0)) (c2 := (31, [.ref 33, .int x1, .int x2], [], S2, 0)) hf rfl rfl (fun _ hf => ?_) (fun _ hf => ?_)
      · exact f_X6_search_b49_ok hK7 (fun h9 => ih h9) hf
      · refine ev_sts 10 (c2 := (45, [.ref 33, .int x1, .int x2], [.int x2, .int x1, .ref 33, .int ((x1 * ((1024 : Int32))) + x2), .ref 35], S2, 0)) rfl ?_
        refine ev_bI0 (d := d + 2) (M' := Mx52) (ct := (48, [.ref 33, .int x1, .int x2], [.int ((x1 * ((1024 : Int32))) + x2), .ref 35], S2, 0)) hf rfl rfl rfl rfl (fun r9 h9 => f_X6_bestOf_ok (d := d) h9) (fun r5 S4 hf => ?_)
        show Ev (d + 3) Mx48 (48, [.ref 33, .int x1, .int x2], [.int r5, .int ((x1 * ((1024 : Int32))) + x2), .ref 35], S4, 0) r
        refine ev_gd (c1 := (49, [.ref 33, .int x1, .int x2], [], (upS S4 35 ((x1 * ((1024 : Int32))) + x2).toNatClampNeg r5), 0)) hf rfl rfl (fun hf => ?_)
        refine ev_let (P := fun S6 => Ev (d + 3) Mx48 (49, [.ref 33, .int x1, .int x2], [], S6, 0) r) (fun S6 hf => ?_) hf
        exact f_X6_search_b49_ok hK7 (fun h9 => ih h9) hf
theorem f_X6_search_b7_ok {d F : Nat} : ∀ (n : Nat) {x1 : Int32} {S : mS} {r : mR}, f_X6_search_b7 F n x1 S = some r → Ev (d + 3) Mx48 (7, [.ref 33, .int x1, mK], [], S, 0) r := by
  intro n
  induction n with
  | zero => intro x1 S r hf; cases hf
  | succ n ih =>
    intro x1 S r hf
    rw [f_X6_search_b7] at hf
    refine ev_sts 1 (c2 := (8, [.ref 33, .int x1, mK], [.int x1], S, 0)) rfl ?_
    refine ev_if (c1 := (61, [.ref 33, .int x1, mK], [], S, 0)) (c2 := (11, [.ref 33, .int x1, mK], [], S, 0)) hf rfl rfl (fun _ hf => ?_) (fun _ hf => ?_)
    · exact ev_ret hf rfl rfl
    · exact ev_sts 2 (c2 := (13, [.ref 33, .int x1, .int ((0 : Int32))], [], S, 0)) rfl (f_X6_search_b13_ok (fun h9 => ih h9) _ hf)
theorem f_X6_search_ok {d F : Nat} {S : mS} {r : mR} (hf : f_X6_search F S = some r) : Ev (d + 3) Mx48 (entry Mx48 [.ref 33] S) r := by
  unfold f_X6_search at hf
  refine ev_sts 5 (c2 := (7, [.ref 33, .int ((S 33 4) - ((1 : Int32))), mK], [], S, 0)) rfl ?_
  refine ev_let (P := fun y1 => Ev (d + 3) Mx48 (7, [.ref 33, .int y1, mK], [], S, 0) r) (fun y1 hf => ?_) hf
  exact f_X6_search_b7_ok _ hf
def f_X6_weigh_b46 (K35 : Int32 → mS → Option mR) (F : Nat) : Nat → Int32 → Int32 → mS → Option mR
  | 0, _, _, _ => none
  | n + 1, x3, x4, S => (if (S 33 5) ≤ x4 then bV0 (f_X0_passDay 26 S) (fun S6 => K35 (x3 + (1 : Int32)) S6) else bI0 (f_X0_freshEggs 26 x4 S) (fun r8 S7 => gd (inb ((x3 * ((10 : Int32))) + x4) 100) (bnd (upS S7 34 ((x3 * ((10 : Int32))) + x4).toNatClampNeg r8) (fun S9 => bI0 (f_X7_layOn F 26 x4 S9) (fun r11 S10 => f_X6_weigh_b46 K35 F n x3 (x4 + (1 : Int32)) S10)))))
def f_X6_weigh_b35 (F : Nat) : Nat → Int32 → mS → Option mR
  | 0, _, _ => none
  | n + 1, x3, S => (if (S 33 4) ≤ x3 then some (.inl none, S) else f_X6_weigh_b46 (fun x3 S => f_X6_weigh_b35 F n x3 S) F F x3 ((0 : Int32)) S)
def f_X6_weigh (F : Nat) (p2 : Int32) (S : mS) : Option mR := bnd (upS S 33 4 (if ((10 : Int32)) < p2 then ((10 : Int32)) else p2)) (fun S1 => bI0 (f_X0_at 24 ((12 : Int32)) S1) (fun r3 S2 => bnd (upS S2 33 5 (if ((10 : Int32)) < r3 then ((10 : Int32)) else r3)) (fun S4 => bV0 (f_X0_copy 26 24 S4) (fun S5 => f_X6_weigh_b35 F F ((0 : Int32)) S5))))
theorem f_X6_weigh_b46_ok {d F : Nat} {K35 : Int32 → mS → Option mR} (hK35 : ∀ {x3 : Int32} {S : mS} {r : mR}, K35 x3 S = some r → Ev (d + 5) Mx47 (35, [.ref 33, mK, mK, .int x3, mK], [], S, 0) r) : ∀ (n : Nat) {x3 : Int32} {x4 : Int32} {S : mS} {r : mR}, f_X6_weigh_b46 K35 F n x3 x4 S = some r → Ev (d + 5) Mx47 (46, [.ref 33, mK, mK, .int x3, .int x4], [], S, 0) r := by
  intro n
  induction n with
  | zero => intro x3 x4 S r hf; cases hf
  | succ n ih =>
    intro x3 x4 S r hf
    rw [f_X6_weigh_b46] at hf
    refine ev_sts 3 (c2 := (52, [.ref 33, mK, mK, .int x3, .int x4], [.int (S 33 5), .int x4], S, 0)) rfl ?_
    refine ev_if (c1 := (96, [.ref 33, mK, mK, .int x3, .int x4], [], S, 0)) (c2 := (55, [.ref 33, mK, mK, .int x3, .int x4], [], S, 0)) hf rfl rfl (fun _ hf => ?_) (fun _ hf => ?_)
    · refine ev_sts 2 (c2 := (100, [.ref 33, mK, mK, .int x3, .int x4], [.ref 26], S, 0)) rfl ?_
      refine ev_bV0 (d := d + 4) (M' := Mx19) (ct := (103, [.ref 33, mK, mK, .int x3, .int x4], [], S, 0)) hf rfl rfl rfl rfl (fun r9 h9 => f_X0_passDay_ok_26 (d := d + 4) h9) (fun S6 hf => ?_)
      show Ev (d + 5) Mx47 (103, [.ref 33, mK, mK, .int x3, .int x4], [], S6, 0) r
      exact ev_sts 2 (c2 := (35, [.ref 33, mK, mK, .int (x3 + (1 : Int32)), mK], [], S6, 0)) rfl (hK35 hf)
    · refine ev_sts 10 (c2 := (72, [.ref 33, mK, mK, .int x3, .int x4], [.int x4, .ref 26, .int ((x3 * ((10 : Int32))) + x4), .ref 34], S, 0)) rfl ?_
      refine ev_bI0 (d := d + 4) (M' := Mx17) (ct := (75, [.ref 33, mK, mK, .int x3, .int x4], [.int ((x3 * ((10 : Int32))) + x4), .ref 34], S, 0)) hf rfl rfl rfl rfl (fun r9 h9 => f_X0_freshEggs_ok_26 (d := d + 2) h9) (fun r8 S7 hf => ?_)
      show Ev (d + 5) Mx47 (75, [.ref 33, mK, mK, .int x3, .int x4], [.int r8, .int ((x3 * ((10 : Int32))) + x4), .ref 34], S7, 0) r
      refine ev_gd (c1 := (76, [.ref 33, mK, mK, .int x3, .int x4], [], (upS S7 34 ((x3 * ((10 : Int32))) + x4).toNatClampNeg r8), 0)) hf rfl rfl (fun hf => ?_)
      refine ev_let (P := fun S9 => Ev (d + 5) Mx47 (76, [.ref 33, mK, mK, .int x3, .int x4], [], S9, 0) r) (fun S9 hf => ?_) hf
      refine ev_sts 5 (c2 := (86, [.ref 33, mK, mK, .int x3, .int x4], [.int x4, .ref 26, .ref 32], S9, 0)) rfl ?_
      refine ev_bI0 (d := d + 4) (M' := Mx69) (ct := (89, [.ref 33, mK, mK, .int x3, .int x4], [], S9, 0)) hf rfl rfl rfl rfl (fun r9 h9 => f_X7_layOn_ok_26 (d := d) h9) (fun r11 S10 hf => ?_)
      show Ev (d + 5) Mx47 (89, [.ref 33, mK, mK, .int x3, .int x4], [.int r11], S10, 0) r
      exact ev_sts 3 (c2 := (46, [.ref 33, mK, mK, .int x3, .int (x4 + (1 : Int32))], [], S10, 0)) rfl (ih hf)
theorem f_X6_weigh_b35_ok {d F : Nat} : ∀ (n : Nat) {x3 : Int32} {S : mS} {r : mR}, f_X6_weigh_b35 F n x3 S = some r → Ev (d + 5) Mx47 (35, [.ref 33, mK, mK, .int x3, mK], [], S, 0) r := by
  intro n
  induction n with
  | zero => intro x3 S r hf; cases hf
  | succ n ih =>
    intro x3 S r hf
    rw [f_X6_weigh_b35] at hf
    refine ev_sts 3 (c2 := (40, [.ref 33, mK, mK, .int x3, mK], [.int (S 33 4), .int x3], S, 0)) rfl ?_
    refine ev_if (c1 := (109, [.ref 33, mK, mK, .int x3, mK], [], S, 0)) (c2 := (43, [.ref 33, mK, mK, .int x3, mK], [], S, 0)) hf rfl rfl (fun _ hf => ?_) (fun _ hf => ?_)
    · exact ev_ret hf rfl rfl
    · exact ev_sts 2 (c2 := (46, [.ref 33, mK, mK, .int x3, .int ((0 : Int32))], [], S, 0)) rfl (f_X6_weigh_b46_ok (fun h9 => ih h9) _ hf)
theorem f_X6_weigh_ok {d F : Nat} {p2 : Int32} {S : mS} {r : mR} (hf : f_X6_weigh F p2 S = some r) : Ev (d + 5) Mx47 (entry Mx47 [.ref 33, .ref 24, .int p2] S) r := by
  unfold f_X6_weigh at hf
  refine ev_sts 5 (c2 := (10, [.ref 33, .ref 24, .int p2, mK, mK], [], (upS S 33 4 (if ((10 : Int32)) < p2 then ((10 : Int32)) else p2)), 0)) rfl ?_
  refine ev_let (P := fun S1 => Ev (d + 5) Mx47 (10, [.ref 33, .ref 24, .int p2, mK, mK], [], S1, 0) r) (fun S1 hf => ?_) hf
  refine ev_sts 3 (c2 := (14, [.ref 33, .ref 24, .int p2, mK, mK], [.int ((12 : Int32)), .ref 24, .ref 33], S1, 0)) rfl ?_
  refine ev_bI0 (d := d + 4) (M' := Mx1) (ct := (17, [.ref 33, .ref 24, .int p2, mK, mK], [.ref 33], S1, 0)) hf rfl rfl rfl rfl (fun r9 h9 => f_X0_at_ok_24 (d := d + 4) h9) (fun r3 S2 hf => ?_)
  show Ev (d + 5) Mx47 (17, [.ref 33, .ref 24, .int p2, mK, mK], [.int r3, .ref 33], S2, 0) r
  refine ev_sts 3 (c2 := (25, [.ref 33, .ref 24, .int p2, mK, mK], [], (upS S2 33 5 (if ((10 : Int32)) < r3 then ((10 : Int32)) else r3)), 0)) rfl ?_
  refine ev_let (P := fun S4 => Ev (d + 5) Mx47 (25, [.ref 33, .ref 24, .int p2, mK, mK], [], S4, 0) r) (fun S4 hf => ?_) hf
  refine ev_sts 3 (c2 := (30, [.ref 33, .ref 24, .int p2, mK, mK], [.ref 24, .ref 26], S4, 0)) rfl ?_
  refine ev_bV0 (d := d + 4) (M' := Mx0) (ct := (33, [.ref 33, .ref 24, .int p2, mK, mK], [], S4, 0)) hf rfl rfl rfl rfl (fun r9 h9 => f_X0_copy_ok_26_24 (d := d + 4) h9) (fun S5 hf => ?_)
  show Ev (d + 5) Mx47 (33, [.ref 33, .ref 24, .int p2, mK, mK], [], S5, 0) r
  exact ev_sts 2 (c2 := (35, [.ref 33, mK, mK, .int ((0 : Int32)), mK], [], S5, 0)) rfl (f_X6_weigh_b35_ok _ hf)
def f_X9_harvest_b49 (F : Nat) (t0 : Int32) (S : mS) : Option mR := some (.inl (some (.int t0)), S)
def f_X9_harvest (F : Nat) (p1 : Int32) (p2 : Int32) (S : mS) : Option mR := bV (f_X9_needWithin p1 ((1 : Int32)) ((10 : Int32)) S) (fun S1 => bV0 (f_X6_weigh F p1 S1) (fun S2 => bV0 (f_X6_search F S2) (fun S3 => (if ¬ p2 = ((-1 : Int32)) then bI0 (f_X6_ledgeOf F p2 S3) (fun r5 S4 => f_X9_harvest_b49 F r5 S4) else bI0 (f_X6_most S3) (fun r7 S6 => f_X9_harvest_b49 F r7 S6)))))
theorem f_X9_harvest_b49_ok {d F : Nat} {t0 : Int32} {S : mS} {r : mR} (hf : f_X9_harvest_b49 F t0 S = some r) : Ev (d + 6) Mx108 (49, [mK, mK, mK], [.int t0], S, 1) r := by
  unfold f_X9_harvest_b49 at hf
  exact ev_ret hf rfl rfl
theorem f_X9_harvest_ok {d F : Nat} {p1 : Int32} {p2 : Int32} {S : mS} {r : mR} (hf : f_X9_harvest F p1 p2 S = some r) : Ev (d + 6) Mx108 (entry Mx108 [.ref 0, .int p1, .int p2] S) r := by
  unfold f_X9_harvest at hf
  refine ev_sts 3 (c2 := (4, [.ref 0, .int p1, .int p2], [.int ((10 : Int32)), .int ((1 : Int32)), .int p1], S, 0)) rfl ?_
  refine ev_bV (d := d + 5) (M' := Mx142) (ct := (7, [.ref 0, .int p1, .int p2], [], S, 1)) hf rfl rfl rfl rfl (by decide) (fun r9 h9 => f_X9_needWithin_ok (d := d + 5) h9) (fun S1 hf => ?_)
  show Ev (d + 6) Mx108 (7, [.ref 0, .int p1, .int p2], [], S1, 1) r
  refine ev_sts 5 (c2 := (16, [.ref 0, .int p1, .int p2], [.int p1, .ref 24, .ref 33], S1, 1)) rfl ?_
  refine ev_bV0 (d := d + 5) (M' := Mx47) (ct := (19, [.ref 0, .int p1, .int p2], [], S1, 1)) hf rfl rfl rfl rfl (fun r9 h9 => f_X6_weigh_ok (d := d) h9) (fun S2 hf => ?_)
  show Ev (d + 6) Mx108 (19, [.ref 0, .int p1, .int p2], [], S2, 1) r
  refine ev_sts 2 (c2 := (23, [.ref 0, .int p1, .int p2], [.ref 33], S2, 1)) rfl ?_
  refine ev_bV0 (d := d + 5) (M' := Mx48) (ct := (26, [.ref 0, .int p1, .int p2], [], S2, 1)) hf rfl rfl rfl rfl (fun r9 h9 => f_X6_search_ok (d := d + 2) h9) (fun S3 hf => ?_)
  show Ev (d + 6) Mx108 (26, [.ref 0, .int p1, .int p2], [], S3, 1) r
  refine ev_sts 2 (c2 := (28, [.ref 0, .int p1, .int p2], [.int ((-1 : Int32)), .int p2], S3, 1)) rfl ?_
  refine ev_if (c1 := (41, [.ref 0, .int p1, .int p2], [], S3, 1)) (c2 := (31, [.ref 0, .int p1, .int p2], [], S3, 1)) hf rfl rfl (fun _ hf => ?_) (fun _ hf => ?_)
  · refine ev_sts 3 (c2 := (46, [.ref 0, .int p1, .int p2], [.int p2, .ref 33], S3, 1)) rfl ?_
    refine ev_bI0 (d := d + 5) (M' := Mx50) (ct := (49, [mK, mK, mK], [], S3, 1)) hf rfl rfl rfl rfl (fun r9 h9 => f_X6_ledgeOf_ok (d := d + 2) h9) (fun r5 S4 hf => ?_)
    show Ev (d + 6) Mx108 (49, [mK, mK, mK], [.int r5], S4, 1) r
    exact f_X9_harvest_b49_ok hf
  · refine ev_sts 2 (c2 := (35, [.ref 0, .int p1, .int p2], [.ref 33], S3, 1)) rfl ?_
    refine ev_bI0 (d := d + 5) (M' := Mx49) (ct := (38, [.ref 0, .int p1, .int p2], [], S3, 1)) hf rfl rfl rfl rfl (fun r9 h9 => f_X6_most_ok (d := d + 4) h9) (fun r7 S6 hf => ?_)
    show Ev (d + 6) Mx108 (38, [.ref 0, .int p1, .int p2], [.int r7], S6, 1) r
    exact ev_sts 1 (c2 := (49, [mK, mK, mK], [.int r7], S6, 1)) rfl (f_X9_harvest_b49_ok hf)
def f_X9_heard_b64 (K12 : Int32 → Int32 → Int32 → Int32 → Int32 → mS → Option mR) (F : Nat) (x1 : Int32) (x2 : Int32) (x3 : Int32) (x4 : Int32) (x5 : Int32) (S : mS) : Option mR := K12 x1 x2 x3 x4 (x5 + (1 : Int32)) S
def f_X9_heard_b12 (F : Nat) : Nat → Int32 → Int32 → Int32 → Int32 → Int32 → mS → Option mR
  | 0, _, _, _, _, _, _ => none
  | n + 1, x1, x2, x3, x4, x5, S => (if ((12 : Int32)) ≤ x5 then some (.inl (some (.int x4)), S) else bnd (x2.toInt64 - ((x5 + ((1 : Int32))).toInt64) : Int64) (fun y2 => bI0 (f_X9_hasBit x1 x5 S) (fun r4 S3 => (if r4 = 0 then f_X9_heard_b64 (fun x1 x2 x3 x4 x5 S => f_X9_heard_b12 F n x1 x2 x3 x4 x5 S) F x1 x2 x3 x4 x5 S3 else (if 0 < (lg_cmp y2 x3.toInt64) then f_X9_heard_b64 (fun x1 x2 x3 x4 x5 S => f_X9_heard_b12 F n x1 x2 x3 x4 x5 S) F x1 x2 x3 x4 x5 S3 else (if 0 < (lg_cmp (-y2) x3.toInt64) then f_X9_heard_b64 (fun x1 x2 x3 x4 x5 S => f_X9_heard_b12 F n x1 x2 x3 x4 x5 S) F x1 x2 x3 x4 x5 S3 else bnd (x4 ||| (((1 : Int32)) <<< (x5 &&& 31)) : Int32) (fun y5 => f_X9_heard_b64 (fun x1 x2 x3 x4 x5 S => f_X9_heard_b12 F n x1 x2 x3 x4 x5 S) F x1 x2 x3 y5 x5 S3)))))))
def f_X9_heard (F : Nat) (p1 : Int32) (p2 : Int32) (p3 : Int32) (S : mS) : Option mR := bV (f_X9_needWithin p3 ((0 : Int32)) ((5 : Int32)) S) (fun S1 => f_X9_heard_b12 F F p1 p2 p3 ((0 : Int32)) ((0 : Int32)) S1)
theorem f_X9_heard_b64_ok {d F : Nat} {K12 : Int32 → Int32 → Int32 → Int32 → Int32 → mS → Option mR} (hK12 : ∀ {x1 : Int32} {x2 : Int32} {x3 : Int32} {x4 : Int32} {x5 : Int32} {S : mS} {r : mR}, K12 x1 x2 x3 x4 x5 S = some r → Ev (d + 1) Mx125 (12, [mK, .int x1, .int x2, .int x3, .int x4, .int x5, mK, mK], [], S, 1) r) {x1 : Int32} {x2 : Int32} {x3 : Int32} {x4 : Int32} {x5 : Int32} {S : mS} {r : mR} (hf : f_X9_heard_b64 K12 F x1 x2 x3 x4 x5 S = some r) : Ev (d + 1) Mx125 (64, [mK, .int x1, .int x2, .int x3, .int x4, .int x5, mK, mK], [], S, 1) r := by
  unfold f_X9_heard_b64 at hf
  exact ev_sts 2 (c2 := (12, [mK, .int x1, .int x2, .int x3, .int x4, .int (x5 + (1 : Int32)), mK, mK], [], S, 1)) rfl (hK12 hf)
theorem f_X9_heard_b12_ok {d F : Nat} : ∀ (n : Nat) {x1 : Int32} {x2 : Int32} {x3 : Int32} {x4 : Int32} {x5 : Int32} {S : mS} {r : mR}, f_X9_heard_b12 F n x1 x2 x3 x4 x5 S = some r → Ev (d + 1) Mx125 (12, [mK, .int x1, .int x2, .int x3, .int x4, .int x5, mK, mK], [], S, 1) r := by
  intro n
  induction n with
  | zero => intro x1 x2 x3 x4 x5 S r hf; cases hf
  | succ n ih =>
    intro x1 x2 x3 x4 x5 S r hf
    rw [f_X9_heard_b12] at hf
    refine ev_sts 2 (c2 := (16, [mK, .int x1, .int x2, .int x3, .int x4, .int x5, mK, mK], [.int ((12 : Int32)), .int x5], S, 1)) rfl ?_
    refine ev_if (c1 := (70, [mK, .int x1, .int x2, .int x3, .int x4, .int x5, mK, mK], [], S, 1)) (c2 := (19, [mK, .int x1, .int x2, .int x3, .int x4, .int x5, mK, mK], [], S, 1)) hf rfl rfl (fun _ hf => ?_) (fun _ hf => ?_)
    · refine ev_sts 1 (c2 := (72, [mK, .int x1, .int x2, .int x3, .int x4, .int x5, mK, mK], [.int x4], S, 1)) rfl ?_
      exact ev_ret hf rfl rfl
    · refine ev_sts 8 (c2 := (29, [mK, .int x1, .int x2, .int x3, .int x4, .int x5, .long (x2.toInt64 - ((x5 + ((1 : Int32))).toInt64)), mK], [], S, 1)) rfl ?_
      refine ev_let (P := fun y2 => Ev (d + 1) Mx125 (29, [mK, .int x1, .int x2, .int x3, .int x4, .int x5, .long y2, mK], [], S, 1) r) (fun y2 hf => ?_) hf
      refine ev_sts 2 (c2 := (32, [mK, .int x1, .int x2, .int x3, .int x4, .int x5, .long y2, mK], [.int x5, .int x1], S, 1)) rfl ?_
      refine ev_bI0 (d := d) (M' := Mx143) (ct := (35, [mK, .int x1, .int x2, .int x3, .int x4, .int x5, .long y2, mK], [], S, 1)) hf rfl rfl rfl rfl (fun r9 h9 => f_X9_hasBit_ok (d := d) h9) (fun r4 S3 hf => ?_)
      show Ev (d + 1) Mx125 (35, [mK, .int x1, .int x2, .int x3, .int x4, .int x5, .long y2, mK], [.int r4], S3, 1) r
      refine ev_if (c1 := (64, [mK, .int x1, .int x2, .int x3, .int x4, .int x5, mK, mK], [], S3, 1)) (c2 := (38, [mK, .int x1, .int x2, .int x3, .int x4, .int x5, .long y2, mK], [], S3, 1)) hf rfl rfl (fun _ hf => ?_) (fun _ hf => ?_)
      · exact f_X9_heard_b64_ok (fun h9 => ih h9) hf
      · refine ev_sts 4 (c2 := (43, [mK, .int x1, .int x2, .int x3, .int x4, .int x5, .long y2, mK], [.int (lg_cmp y2 x3.toInt64)], S3, 1)) rfl ?_
        refine ev_if (c1 := (64, [mK, .int x1, .int x2, .int x3, .int x4, .int x5, mK, mK], [], S3, 1)) (c2 := (46, [mK, .int x1, .int x2, .int x3, .int x4, .int x5, .long y2, mK], [], S3, 1)) hf rfl rfl (fun _ hf => ?_) (fun _ hf => ?_)
        · exact f_X9_heard_b64_ok (fun h9 => ih h9) hf
        · refine ev_sts 5 (c2 := (52, [mK, .int x1, .int x2, .int x3, .int x4, .int x5, .long y2, mK], [.int (lg_cmp (-y2) x3.toInt64)], S3, 1)) rfl ?_
          refine ev_if (c1 := (64, [mK, .int x1, .int x2, .int x3, .int x4, .int x5, mK, mK], [], S3, 1)) (c2 := (55, [mK, .int x1, .int x2, .int x3, .int x4, .int x5, .long y2, mK], [], S3, 1)) hf rfl rfl (fun _ hf => ?_) (fun _ hf => ?_)
          · exact f_X9_heard_b64_ok (fun h9 => ih h9) hf
          · refine ev_sts 6 (c2 := (64, [mK, .int x1, .int x2, .int x3, .int (x4 ||| (((1 : Int32)) <<< (x5 &&& 31))), .int x5, mK, mK], [], S3, 1)) rfl ?_
            refine ev_let (P := fun y5 => Ev (d + 1) Mx125 (64, [mK, .int x1, .int x2, .int x3, .int y5, .int x5, mK, mK], [], S3, 1) r) (fun y5 hf => ?_) hf
            exact f_X9_heard_b64_ok (fun h9 => ih h9) hf
theorem f_X9_heard_ok {d F : Nat} {p1 : Int32} {p2 : Int32} {p3 : Int32} {S : mS} {r : mR} (hf : f_X9_heard F p1 p2 p3 S = some r) : Ev (d + 1) Mx125 (entry Mx125 [.ref 0, .int p1, .int p2, .int p3] S) r := by
  unfold f_X9_heard at hf
  refine ev_sts 3 (c2 := (3, [.ref 0, .int p1, .int p2, .int p3, mK, mK, mK, mK], [.int ((5 : Int32)), .int ((0 : Int32)), .int p3], S, 0)) rfl ?_
  refine ev_bV (d := d) (M' := Mx142) (ct := (6, [.ref 0, .int p1, .int p2, .int p3, mK, mK, mK, mK], [], S, 1)) hf rfl rfl rfl rfl (by decide) (fun r9 h9 => f_X9_needWithin_ok (d := d) h9) (fun S1 hf => ?_)
  show Ev (d + 1) Mx125 (6, [.ref 0, .int p1, .int p2, .int p3, mK, mK, mK, mK], [], S1, 1) r
  exact ev_sts 4 (c2 := (12, [mK, .int p1, .int p2, .int p3, .int ((0 : Int32)), .int ((0 : Int32)), mK, mK], [], S1, 1)) rfl (f_X9_heard_b12_ok _ hf)
def f_X9_held_b43 (F : Nat) (t0 : Int32) (S : mS) : Option mR := some (.inl (some (.int (t0 &&& 1))), S)
def f_X9_held (F : Nat) (p1 : Int32) (p2 : Int32) (p3 : Int32) (S : mS) : Option mR := bV (f_X9_needClimber p1 S) (fun S1 => bV (f_X9_needLedge p2 S1) (fun S2 => bI0 (f_X7_strengthOf F 24 p3 S2) (fun r4 S3 => bI0 (f_X7_loadOf 24 p1 p2 S3) (fun r6 S5 => (if r4 < r6 then f_X9_held_b43 F ((0 : Int32)) S5 else f_X9_held_b43 F ((1 : Int32)) S5)))))
theorem f_X9_held_b43_ok {d F : Nat} {t0 : Int32} {S : mS} {r : mR} (hf : f_X9_held_b43 F t0 S = some r) : Ev (d + 3) Mx98 (43, [mK, mK, mK, mK], [.int t0], S, 2) r := by
  unfold f_X9_held_b43 at hf
  exact ev_ret hf rfl rfl
theorem f_X9_held_ok {d F : Nat} {p1 : Int32} {p2 : Int32} {p3 : Int32} {S : mS} {r : mR} (hf : f_X9_held F p1 p2 p3 S = some r) : Ev (d + 3) Mx98 (entry Mx98 [.ref 0, .int p1, .int p2, .int p3] S) r := by
  unfold f_X9_held at hf
  refine ev_sts 2 (c2 := (2, [.ref 0, .int p1, .int p2, .int p3], [.int p1, .ref 0], S, 0)) rfl ?_
  refine ev_bV (d := d + 2) (M' := Mx141) (ct := (5, [.ref 0, .int p1, .int p2, .int p3], [], S, 1)) hf rfl rfl rfl rfl (by decide) (fun r9 h9 => f_X9_needClimber_ok (d := d + 1) h9) (fun S1 hf => ?_)
  show Ev (d + 3) Mx98 (5, [.ref 0, .int p1, .int p2, .int p3], [], S1, 1) r
  refine ev_sts 2 (c2 := (7, [.ref 0, .int p1, .int p2, .int p3], [.int p2, .ref 0], S1, 1)) rfl ?_
  refine ev_bV (d := d + 2) (M' := Mx139) (ct := (10, [.ref 0, .int p1, .int p2, .int p3], [], S1, 2)) hf rfl rfl rfl rfl (by decide) (fun r9 h9 => f_X9_needLedge_ok (d := d + 1) h9) (fun S2 hf => ?_)
  show Ev (d + 3) Mx98 (10, [.ref 0, .int p1, .int p2, .int p3], [], S2, 2) r
  refine ev_sts 5 (c2 := (19, [.ref 0, .int p1, .int p2, .int p3], [.int p3, .ref 24, .ref 32], S2, 2)) rfl ?_
  refine ev_bI0 (d := d + 2) (M' := Mx62) (ct := (22, [.ref 0, .int p1, .int p2, .int p3], [], S2, 2)) hf rfl rfl rfl rfl (fun r9 h9 => f_X7_strengthOf_ok_24 (d := d) h9) (fun r4 S3 hf => ?_)
  show Ev (d + 3) Mx98 (22, [.ref 0, .int p1, .int p2, .int p3], [.int r4], S3, 2) r
  refine ev_sts 6 (c2 := (32, [.ref 0, .int p1, .int p2, .int p3], [.int p2, .int p1, .ref 24, .ref 32, .int r4], S3, 2)) rfl ?_
  refine ev_bI0 (d := d + 2) (M' := Mx61) (ct := (35, [.ref 0, .int p1, .int p2, .int p3], [.int r4], S3, 2)) hf rfl rfl rfl rfl (fun r9 h9 => f_X7_loadOf_ok_24 (d := d) h9) (fun r6 S5 hf => ?_)
  show Ev (d + 3) Mx98 (35, [.ref 0, .int p1, .int p2, .int p3], [.int r6, .int r4], S5, 2) r
  refine ev_if (c1 := (42, [.ref 0, .int p1, .int p2, .int p3], [], S5, 2)) (c2 := (38, [.ref 0, .int p1, .int p2, .int p3], [], S5, 2)) hf rfl rfl (fun _ hf => ?_) (fun _ hf => ?_)
  · exact ev_sts 1 (c2 := (43, [mK, mK, mK, mK], [.int ((0 : Int32))], S5, 2)) rfl (f_X9_held_b43_ok hf)
  · exact ev_sts 2 (c2 := (43, [mK, mK, mK, mK], [.int ((1 : Int32))], S5, 2)) rfl (f_X9_held_b43_ok hf)
def f_X9_needHolder_b17 (S : mS) : Option mR := some (.inr 3, S)
def f_X9_needHolder (p1 : Int32) (S : mS) : Option mR := (if p1 < 0 then f_X9_needHolder_b17 S else bI0 (f_X0_at 24 ((13 : Int32)) S) (fun r2 S1 => (if p1 < r2 then some (.inl none, S1) else f_X9_needHolder_b17 S1)))
theorem f_X9_needHolder_b17_ok {d : Nat} {S : mS} {r : mR} (hf : f_X9_needHolder_b17  S = some r) : Ev (d + 1) Mx140 (17, [mK, mK], [], S, 0) r := by
  unfold f_X9_needHolder_b17 at hf
  exact ev_ret hf rfl rfl
theorem f_X9_needHolder_ok {d : Nat} {p1 : Int32} {S : mS} {r : mR} (hf : f_X9_needHolder p1 S = some r) : Ev (d + 1) Mx140 (entry Mx140 [.ref 0, .int p1] S) r := by
  unfold f_X9_needHolder at hf
  refine ev_sts 1 (c2 := (1, [.ref 0, .int p1], [.int p1], S, 0)) rfl ?_
  refine ev_if (c1 := (17, [mK, mK], [], S, 0)) (c2 := (4, [.ref 0, .int p1], [], S, 0)) hf rfl rfl (fun _ hf => ?_) (fun _ hf => ?_)
  · exact f_X9_needHolder_b17_ok hf
  · refine ev_sts 4 (c2 := (11, [.ref 0, .int p1], [.int ((13 : Int32)), .ref 24, .int p1], S, 0)) rfl ?_
    refine ev_bI0 (d := d) (M' := Mx1) (ct := (14, [.ref 0, .int p1], [.int p1], S, 0)) hf rfl rfl rfl rfl (fun r9 h9 => f_X0_at_ok_24 (d := d) h9) (fun r2 S1 hf => ?_)
    show Ev (d + 1) Mx140 (14, [.ref 0, .int p1], [.int r2, .int p1], S1, 0) r
    refine ev_if (c1 := (28, [.ref 0, .int p1], [], S1, 0)) (c2 := (17, [mK, mK], [], S1, 0)) hf rfl rfl (fun _ hf => ?_) (fun _ hf => ?_)
    · exact ev_ret hf rfl rfl
    · exact f_X9_needHolder_b17_ok hf
def f_X9_holder_b19 (t2 : Int32) (t1 : Int32) (S : mS) : Option mR := bI0 (f_X0_ofHolder 24 t1 t2 S) (fun r3 S2 => some (.inl (some (.int r3)), S2))
def f_X9_holder (p1 : Int32) (p2 : Int32) (S : mS) : Option mR := bV (f_X9_needHolder p1 S) (fun S1 => (if p2 = 0 then f_X9_holder_b19 ((0 : Int32)) p1 S1 else f_X9_holder_b19 ((1 : Int32)) p1 S1))
theorem f_X9_holder_b19_ok {d : Nat} {t2 : Int32} {t1 : Int32} {S : mS} {r : mR} (hf : f_X9_holder_b19 t2 t1 S = some r) : Ev (d + 2) Mx93 (19, [mK, mK, mK], [.int t2, .int t1, .ref 24], S, 1) r := by
  unfold f_X9_holder_b19 at hf
  refine ev_bI0 (d := d + 1) (M' := Mx6) (ct := (22, [mK, mK, mK], [], S, 1)) hf rfl rfl rfl rfl (fun r9 h9 => f_X0_ofHolder_ok_24 (d := d) h9) (fun r3 S2 hf => ?_)
  show Ev (d + 2) Mx93 (22, [mK, mK, mK], [.int r3], S2, 1) r
  exact ev_ret hf rfl rfl
theorem f_X9_holder_ok {d : Nat} {p1 : Int32} {p2 : Int32} {S : mS} {r : mR} (hf : f_X9_holder p1 p2 S = some r) : Ev (d + 2) Mx93 (entry Mx93 [.ref 0, .int p1, .int p2] S) r := by
  unfold f_X9_holder at hf
  refine ev_sts 2 (c2 := (2, [.ref 0, .int p1, .int p2], [.int p1, .ref 0], S, 0)) rfl ?_
  refine ev_bV (d := d + 1) (M' := Mx140) (ct := (5, [.ref 0, .int p1, .int p2], [], S, 1)) hf rfl rfl rfl rfl (by decide) (fun r9 h9 => f_X9_needHolder_ok (d := d) h9) (fun S1 hf => ?_)
  show Ev (d + 2) Mx93 (5, [.ref 0, .int p1, .int p2], [], S1, 1) r
  refine ev_sts 4 (c2 := (11, [.ref 0, .int p1, .int p2], [.int p2, .int p1, .ref 24], S1, 1)) rfl ?_
  refine ev_if (c1 := (18, [.ref 0, .int p1, .int p2], [.int p1, .ref 24], S1, 1)) (c2 := (14, [.ref 0, .int p1, .int p2], [.int p1, .ref 24], S1, 1)) hf rfl rfl (fun _ hf => ?_) (fun _ hf => ?_)
  · exact ev_sts 1 (c2 := (19, [mK, mK, mK], [.int ((0 : Int32)), .int p1, .ref 24], S1, 1)) rfl (f_X9_holder_b19_ok hf)
  · exact ev_sts 2 (c2 := (19, [mK, mK, mK], [.int ((1 : Int32)), .int p1, .ref 24], S1, 1)) rfl (f_X9_holder_b19_ok hf)
