def f_X10_fresh_b33 (K9 : Int32 → Int32 → mS → Option mR) (F : Nat) (x2 : Int32) (t1 : Int32) (t0 : Int32) (S : mS) : Option mR := bnd (t0 ||| t1 : Int32) (fun y6 => K9 y6 (x2 + (1 : Int32)) S)
def f_X10_fresh_b9 (F : Nat) : Nat → Int32 → Int32 → mS → Option mR
  | 0, _, _, _ => none
  | n + 1, x1, x2, S => bI0 (f_X10_ledges S) (fun r3 S2 => (if r3 ≤ x2 then some (.inl (some (.int x1)), S2) else bI0 (f_X10_isFresh x2 S2) (fun r5 S4 => (if r5 = 0 then f_X10_fresh_b33 (fun x1 x2 S => f_X10_fresh_b9 F n x1 x2 S) F x2 ((0 : Int32)) x1 S4 else f_X10_fresh_b33 (fun x1 x2 S => f_X10_fresh_b9 F n x1 x2 S) F x2 (((1 : Int32)) <<< (x2 &&& 31)) x1 S4))))
def f_X10_fresh (F : Nat) (S : mS) : Option mR := bnd (upS S 63 0 ((0 : Int32))) (fun S1 => f_X10_fresh_b9 F F ((0 : Int32)) ((0 : Int32)) S1)
theorem f_X10_fresh_b33_ok {d F : Nat} {K9 : Int32 → Int32 → mS → Option mR} (hK9 : ∀ {x1 : Int32} {x2 : Int32} {S : mS} {r : mR}, K9 x1 x2 S = some r → Ev (d + 3) Mx251 (9, [.ref 63, .int x1, .int x2], [], S, 0) r) {x2 : Int32} {t1 : Int32} {t0 : Int32} {S : mS} {r : mR} (hf : f_X10_fresh_b33 K9 F x2 t1 t0 S = some r) : Ev (d + 3) Mx251 (33, [.ref 63, mK, .int x2], [.int t1, .int t0], S, 0) r := by
  unfold f_X10_fresh_b33 at hf
  refine ev_sts 2 (c2 := (35, [.ref 63, .int (t0 ||| t1), .int x2], [], S, 0)) rfl ?_
  refine ev_let (P := fun y6 => Ev (d + 3) Mx251 (35, [.ref 63, .int y6, .int x2], [], S, 0) r) (fun y6 hf => ?_) hf
  exact ev_sts 2 (c2 := (9, [.ref 63, .int y6, .int (x2 + (1 : Int32))], [], S, 0)) rfl (hK9 hf)
theorem f_X10_fresh_b9_ok {d F : Nat} : ∀ (n : Nat) {x1 : Int32} {x2 : Int32} {S : mS} {r : mR}, f_X10_fresh_b9 F n x1 x2 S = some r → Ev (d + 3) Mx251 (9, [.ref 63, .int x1, .int x2], [], S, 0) r := by
  intro n
  induction n with
  | zero => intro x1 x2 S r hf; cases hf
  | succ n ih =>
    intro x1 x2 S r hf
    rw [f_X10_fresh_b9] at hf
    refine ev_sts 2 (c2 := (11, [.ref 63, .int x1, .int x2], [.ref 63, .int x2], S, 0)) rfl ?_
    refine ev_bI0 (d := d + 2) (M' := Mx162) (ct := (14, [.ref 63, .int x1, .int x2], [.int x2], S, 0)) hf rfl rfl rfl rfl (fun r9 h9 => f_X10_ledges_ok (d := d + 2) h9) (fun r3 S2 hf => ?_)
    show Ev (d + 3) Mx251 (14, [.ref 63, .int x1, .int x2], [.int r3, .int x2], S2, 0) r
    refine ev_if (c1 := (41, [.ref 63, .int x1, .int x2], [], S2, 0)) (c2 := (17, [.ref 63, .int x1, .int x2], [], S2, 0)) hf rfl rfl (fun _ hf => ?_) (fun _ hf => ?_)
    · refine ev_sts 1 (c2 := (42, [.ref 63, .int x1, .int x2], [.int x1], S2, 0)) rfl ?_
      exact ev_ret hf rfl rfl
    · refine ev_sts 3 (c2 := (20, [.ref 63, .int x1, .int x2], [.int x2, .ref 63, .int x1], S2, 0)) rfl ?_
      refine ev_bI0 (d := d + 2) (M' := Mx203) (ct := (23, [.ref 63, .int x1, .int x2], [.int x1], S2, 0)) hf rfl rfl rfl rfl (fun r9 h9 => f_X10_isFresh_ok (d := d) h9) (fun r5 S4 hf => ?_)
      show Ev (d + 3) Mx251 (23, [.ref 63, .int x1, .int x2], [.int r5, .int x1], S4, 0) r
      refine ev_if (c1 := (32, [.ref 63, .int x1, .int x2], [.int x1], S4, 0)) (c2 := (26, [.ref 63, .int x1, .int x2], [.int x1], S4, 0)) hf rfl rfl (fun _ hf => ?_) (fun _ hf => ?_)
      · exact ev_sts 1 (c2 := (33, [.ref 63, mK, .int x2], [.int ((0 : Int32)), .int x1], S4, 0)) rfl (f_X10_fresh_b33_ok (fun h9 => ih h9) hf)
      · exact ev_sts 4 (c2 := (33, [.ref 63, mK, .int x2], [.int (((1 : Int32)) <<< (x2 &&& 31)), .int x1], S4, 0)) rfl (f_X10_fresh_b33_ok (fun h9 => ih h9) hf)
theorem f_X10_fresh_ok {d F : Nat} {S : mS} {r : mR} (hf : f_X10_fresh F S = some r) : Ev (d + 3) Mx251 (entry Mx251 [.ref 63] S) r := by
  unfold f_X10_fresh at hf
  refine ev_sts 3 (c2 := (5, [.ref 63, mK, mK], [], (upS S 63 0 ((0 : Int32))), 0)) rfl ?_
  refine ev_let (P := fun S1 => Ev (d + 3) Mx251 (5, [.ref 63, mK, mK], [], S1, 0) r) (fun S1 hf => ?_) hf
  exact ev_sts 4 (c2 := (9, [.ref 63, .int ((0 : Int32)), .int ((0 : Int32))], [], S1, 0)) rfl (f_X10_fresh_b9_ok _ hf)
def f_X10_freshEggs_b31 (K4 : Int32 → Int32 → mS → Option mR) (F : Nat) (x2 : Int32) (t1 : Int32) (t0 : Int32) (S : mS) : Option mR := bnd (t0 + t1 : Int32) (fun y5 => K4 y5 (x2 + (1 : Int32)) S)
def f_X10_freshEggs_b4 (F : Nat) : Nat → Int32 → Int32 → mS → Option mR
  | 0, _, _, _ => none
  | n + 1, x1, x2, S => bI0 (f_X10_ledges S) (fun r2 S1 => (if r2 ≤ x2 then some (.inl (some (.int x1)), S1) else bI0 (f_X10_isFresh x2 S1) (fun r4 S3 => (if r4 = 0 then f_X10_freshEggs_b31 (fun x1 x2 S => f_X10_freshEggs_b4 F n x1 x2 S) F x2 ((0 : Int32)) x1 S3 else bI0 (f_X10_of x2 ((2 : Int32)) S3) (fun r7 S6 => f_X10_freshEggs_b31 (fun x1 x2 S => f_X10_freshEggs_b4 F n x1 x2 S) F x2 r7 x1 S6)))))
def f_X10_freshEggs (F : Nat) (S : mS) : Option mR := f_X10_freshEggs_b4 F F ((0 : Int32)) ((0 : Int32)) S
theorem f_X10_freshEggs_b31_ok {d F : Nat} {K4 : Int32 → Int32 → mS → Option mR} (hK4 : ∀ {x1 : Int32} {x2 : Int32} {S : mS} {r : mR}, K4 x1 x2 S = some r → Ev (d + 3) Mx274 (4, [.ref 63, .int x1, .int x2], [], S, 0) r) {x2 : Int32} {t1 : Int32} {t0 : Int32} {S : mS} {r : mR} (hf : f_X10_freshEggs_b31 K4 F x2 t1 t0 S = some r) : Ev (d + 3) Mx274 (31, [.ref 63, mK, .int x2], [.int t1, .int t0], S, 0) r := by
  unfold f_X10_freshEggs_b31 at hf
  refine ev_sts 2 (c2 := (33, [.ref 63, .int (t0 + t1), .int x2], [], S, 0)) rfl ?_
  refine ev_let (P := fun y5 => Ev (d + 3) Mx274 (33, [.ref 63, .int y5, .int x2], [], S, 0) r) (fun y5 hf => ?_) hf
  exact ev_sts 2 (c2 := (4, [.ref 63, .int y5, .int (x2 + (1 : Int32))], [], S, 0)) rfl (hK4 hf)
theorem f_X10_freshEggs_b4_ok {d F : Nat} : ∀ (n : Nat) {x1 : Int32} {x2 : Int32} {S : mS} {r : mR}, f_X10_freshEggs_b4 F n x1 x2 S = some r → Ev (d + 3) Mx274 (4, [.ref 63, .int x1, .int x2], [], S, 0) r := by
  intro n
  induction n with
  | zero => intro x1 x2 S r hf; cases hf
  | succ n ih =>
    intro x1 x2 S r hf
    rw [f_X10_freshEggs_b4] at hf
    refine ev_sts 2 (c2 := (6, [.ref 63, .int x1, .int x2], [.ref 63, .int x2], S, 0)) rfl ?_
    refine ev_bI0 (d := d + 2) (M' := Mx162) (ct := (9, [.ref 63, .int x1, .int x2], [.int x2], S, 0)) hf rfl rfl rfl rfl (fun r9 h9 => f_X10_ledges_ok (d := d + 2) h9) (fun r2 S1 hf => ?_)
    show Ev (d + 3) Mx274 (9, [.ref 63, .int x1, .int x2], [.int r2, .int x2], S1, 0) r
    refine ev_if (c1 := (39, [.ref 63, .int x1, .int x2], [], S1, 0)) (c2 := (12, [.ref 63, .int x1, .int x2], [], S1, 0)) hf rfl rfl (fun _ hf => ?_) (fun _ hf => ?_)
    · refine ev_sts 1 (c2 := (40, [.ref 63, .int x1, .int x2], [.int x1], S1, 0)) rfl ?_
      exact ev_ret hf rfl rfl
    · refine ev_sts 3 (c2 := (15, [.ref 63, .int x1, .int x2], [.int x2, .ref 63, .int x1], S1, 0)) rfl ?_
      refine ev_bI0 (d := d + 2) (M' := Mx203) (ct := (18, [.ref 63, .int x1, .int x2], [.int x1], S1, 0)) hf rfl rfl rfl rfl (fun r9 h9 => f_X10_isFresh_ok (d := d) h9) (fun r4 S3 hf => ?_)
      show Ev (d + 3) Mx274 (18, [.ref 63, .int x1, .int x2], [.int r4, .int x1], S3, 0) r
      refine ev_if (c1 := (30, [.ref 63, .int x1, .int x2], [.int x1], S3, 0)) (c2 := (21, [.ref 63, .int x1, .int x2], [.int x1], S3, 0)) hf rfl rfl (fun _ hf => ?_) (fun _ hf => ?_)
      · exact ev_sts 1 (c2 := (31, [.ref 63, mK, .int x2], [.int ((0 : Int32)), .int x1], S3, 0)) rfl (f_X10_freshEggs_b31_ok (fun h9 => ih h9) hf)
      · refine ev_sts 3 (c2 := (24, [.ref 63, .int x1, .int x2], [.int ((2 : Int32)), .int x2, .ref 63, .int x1], S3, 0)) rfl ?_
        refine ev_bI0 (d := d + 2) (M' := Mx166) (ct := (27, [.ref 63, .int x1, .int x2], [.int x1], S3, 0)) hf rfl rfl rfl rfl (fun r9 h9 => f_X10_of_ok (d := d + 1) h9) (fun r7 S6 hf => ?_)
        show Ev (d + 3) Mx274 (27, [.ref 63, .int x1, .int x2], [.int r7, .int x1], S6, 0) r
        exact ev_sts 1 (c2 := (31, [.ref 63, mK, .int x2], [.int r7, .int x1], S6, 0)) rfl (f_X10_freshEggs_b31_ok (fun h9 => ih h9) hf)
theorem f_X10_freshEggs_ok {d F : Nat} {S : mS} {r : mR} (hf : f_X10_freshEggs F S = some r) : Ev (d + 3) Mx274 (entry Mx274 [.ref 63] S) r := by
  unfold f_X10_freshEggs at hf
  exact ev_sts 4 (c2 := (4, [.ref 63, .int ((0 : Int32)), .int ((0 : Int32))], [], S, 0)) rfl (f_X10_freshEggs_b4_ok _ hf)
def f_X10_laysWorths_b49 (K6 : Int32 → Int32 → mS → Option mR) (K13 : Int32 → Int32 → Int32 → mS → Option mR) (F : Nat) (x1 : Int32) (x2 : Int32) (x3 : Int32) (t2 : Int32) (t1 : Int32) (S : mS) : Option mR := gd (inb t1 100) (bnd (upS S 73 t1.toNatClampNeg t2) (fun S9 => K13 x1 x2 (x3 + (1 : Int32)) S9))
def f_X10_laysWorths_b13 (K6 : Int32 → Int32 → mS → Option mR) (F : Nat) : Nat → Int32 → Int32 → Int32 → mS → Option mR
  | 0, _, _, _, _ => none
  | n + 1, x1, x2, x3, S => bI0 (f_X10_ledges S) (fun r4 S3 => (if r4 ≤ x3 then bI0 (f_X10_oneDay F ((1 : Int32)) S3) (fun r6 S5 => K6 x1 (x2 + (1 : Int32)) S5) else bI0 (f_X10_isFresh x3 S3) (fun r8 S7 => (if r8 = 0 then f_X10_laysWorths_b49 K6 (fun x1 x2 x3 S => f_X10_laysWorths_b13 K6 F n x1 x2 x3 S) F x1 x2 x3 ((0 : Int32)) ((((10 : Int32)) * x2) + x3) S7 else bI0 (f_X10_of x3 ((2 : Int32)) S7) (fun r11 S10 => f_X10_laysWorths_b49 K6 (fun x1 x2 x3 S => f_X10_laysWorths_b13 K6 F n x1 x2 x3 S) F x1 x2 x3 r11 ((((10 : Int32)) * x2) + x3) S10)))))
def f_X10_laysWorths_b6 (F : Nat) : Nat → Int32 → Int32 → mS → Option mR
  | 0, _, _, _ => none
  | n + 1, x1, x2, S => (if x1 ≤ x2 then bV0 (f_X10_bringsBack F S) (fun S2 => some (.inl none, S2)) else f_X10_laysWorths_b13 (fun x1 x2 S => f_X10_laysWorths_b6 F n x1 x2 S) F F x1 x2 ((0 : Int32)) S)
def f_X10_laysWorths (F : Nat) (p1 : Int32) (S : mS) : Option mR := bV0 (f_X10_keepsAll F S) (fun S1 => f_X10_laysWorths_b6 F F p1 ((0 : Int32)) S1)
theorem f_X10_laysWorths_b49_ok {d F : Nat} {K6 : Int32 → Int32 → mS → Option mR} (hK6 : ∀ {x1 : Int32} {x2 : Int32} {S : mS} {r : mR}, K6 x1 x2 S = some r → Ev (d + 9) Mx254 (6, [.ref 63, .int x1, .int x2, mK], [], S, 0) r) {K13 : Int32 → Int32 → Int32 → mS → Option mR} (hK13 : ∀ {x1 : Int32} {x2 : Int32} {x3 : Int32} {S : mS} {r : mR}, K13 x1 x2 x3 S = some r → Ev (d + 9) Mx254 (13, [.ref 63, .int x1, .int x2, .int x3], [], S, 0) r) {x1 : Int32} {x2 : Int32} {x3 : Int32} {t2 : Int32} {t1 : Int32} {S : mS} {r : mR} (hf : f_X10_laysWorths_b49 K6 K13 F x1 x2 x3 t2 t1 S = some r) : Ev (d + 9) Mx254 (49, [.ref 63, .int x1, .int x2, .int x3], [.int t2, .int t1, .ref 73], S, 0) r := by
  unfold f_X10_laysWorths_b49 at hf
  refine ev_gd (c1 := (50, [.ref 63, .int x1, .int x2, .int x3], [], (upS S 73 t1.toNatClampNeg t2), 0)) hf rfl rfl (fun hf => ?_)
  refine ev_let (P := fun S9 => Ev (d + 9) Mx254 (50, [.ref 63, .int x1, .int x2, .int x3], [], S9, 0) r) (fun S9 hf => ?_) hf
  exact ev_sts 2 (c2 := (13, [.ref 63, .int x1, .int x2, .int (x3 + (1 : Int32))], [], S9, 0)) rfl (hK13 hf)
theorem f_X10_laysWorths_b13_ok {d F : Nat} {K6 : Int32 → Int32 → mS → Option mR} (hK6 : ∀ {x1 : Int32} {x2 : Int32} {S : mS} {r : mR}, K6 x1 x2 S = some r → Ev (d + 9) Mx254 (6, [.ref 63, .int x1, .int x2, mK], [], S, 0) r) : ∀ (n : Nat) {x1 : Int32} {x2 : Int32} {x3 : Int32} {S : mS} {r : mR}, f_X10_laysWorths_b13 K6 F n x1 x2 x3 S = some r → Ev (d + 9) Mx254 (13, [.ref 63, .int x1, .int x2, .int x3], [], S, 0) r := by
  intro n
  induction n with
  | zero => intro x1 x2 x3 S r hf; cases hf
  | succ n ih =>
    intro x1 x2 x3 S r hf
    rw [f_X10_laysWorths_b13] at hf
    refine ev_sts 2 (c2 := (15, [.ref 63, .int x1, .int x2, .int x3], [.ref 63, .int x3], S, 0)) rfl ?_
    refine ev_bI0 (d := d + 8) (M' := Mx162) (ct := (18, [.ref 63, .int x1, .int x2, .int x3], [.int x3], S, 0)) hf rfl rfl rfl rfl (fun r9 h9 => f_X10_ledges_ok (d := d + 8) h9) (fun r4 S3 hf => ?_)
    show Ev (d + 9) Mx254 (18, [.ref 63, .int x1, .int x2, .int x3], [.int r4, .int x3], S3, 0) r
    refine ev_if (c1 := (56, [.ref 63, .int x1, .int x2, .int x3], [], S3, 0)) (c2 := (21, [.ref 63, .int x1, .int x2, .int x3], [], S3, 0)) hf rfl rfl (fun _ hf => ?_) (fun _ hf => ?_)
    · refine ev_sts 2 (c2 := (58, [.ref 63, .int x1, .int x2, .int x3], [.int ((1 : Int32)), .ref 63], S3, 0)) rfl ?_
      refine ev_bI0 (d := d + 8) (M' := Mx246) (ct := (61, [.ref 63, .int x1, .int x2, .int x3], [], S3, 0)) hf rfl rfl rfl rfl (fun r9 h9 => f_X10_oneDay_ok (d := d) h9) (fun r6 S5 hf => ?_)
      show Ev (d + 9) Mx254 (61, [.ref 63, .int x1, .int x2, .int x3], [.int r6], S5, 0) r
      exact ev_sts 3 (c2 := (6, [.ref 63, .int x1, .int (x2 + (1 : Int32)), mK], [], S5, 0)) rfl (hK6 hf)
    · refine ev_sts 9 (c2 := (33, [.ref 63, .int x1, .int x2, .int x3], [.int x3, .ref 63, .int ((((10 : Int32)) * x2) + x3), .ref 73], S3, 0)) rfl ?_
      refine ev_bI0 (d := d + 8) (M' := Mx203) (ct := (36, [.ref 63, .int x1, .int x2, .int x3], [.int ((((10 : Int32)) * x2) + x3), .ref 73], S3, 0)) hf rfl rfl rfl rfl (fun r9 h9 => f_X10_isFresh_ok (d := d + 6) h9) (fun r8 S7 hf => ?_)
      show Ev (d + 9) Mx254 (36, [.ref 63, .int x1, .int x2, .int x3], [.int r8, .int ((((10 : Int32)) * x2) + x3), .ref 73], S7, 0) r
      refine ev_if (c1 := (48, [.ref 63, .int x1, .int x2, .int x3], [.int ((((10 : Int32)) * x2) + x3), .ref 73], S7, 0)) (c2 := (39, [.ref 63, .int x1, .int x2, .int x3], [.int ((((10 : Int32)) * x2) + x3), .ref 73], S7, 0)) hf rfl rfl (fun _ hf => ?_) (fun _ hf => ?_)
      · exact ev_sts 1 (c2 := (49, [.ref 63, .int x1, .int x2, .int x3], [.int ((0 : Int32)), .int ((((10 : Int32)) * x2) + x3), .ref 73], S7, 0)) rfl (f_X10_laysWorths_b49_ok hK6 (fun h9 => ih h9) hf)
      · refine ev_sts 3 (c2 := (42, [.ref 63, .int x1, .int x2, .int x3], [.int ((2 : Int32)), .int x3, .ref 63, .int ((((10 : Int32)) * x2) + x3), .ref 73], S7, 0)) rfl ?_
        refine ev_bI0 (d := d + 8) (M' := Mx166) (ct := (45, [.ref 63, .int x1, .int x2, .int x3], [.int ((((10 : Int32)) * x2) + x3), .ref 73], S7, 0)) hf rfl rfl rfl rfl (fun r9 h9 => f_X10_of_ok (d := d + 7) h9) (fun r11 S10 hf => ?_)
        show Ev (d + 9) Mx254 (45, [.ref 63, .int x1, .int x2, .int x3], [.int r11, .int ((((10 : Int32)) * x2) + x3), .ref 73], S10, 0) r
        exact ev_sts 1 (c2 := (49, [.ref 63, .int x1, .int x2, .int x3], [.int r11, .int ((((10 : Int32)) * x2) + x3), .ref 73], S10, 0)) rfl (f_X10_laysWorths_b49_ok hK6 (fun h9 => ih h9) hf)
theorem f_X10_laysWorths_b6_ok {d F : Nat} : ∀ (n : Nat) {x1 : Int32} {x2 : Int32} {S : mS} {r : mR}, f_X10_laysWorths_b6 F n x1 x2 S = some r → Ev (d + 9) Mx254 (6, [.ref 63, .int x1, .int x2, mK], [], S, 0) r := by
  intro n
  induction n with
  | zero => intro x1 x2 S r hf; cases hf
  | succ n ih =>
    intro x1 x2 S r hf
    rw [f_X10_laysWorths_b6] at hf
    refine ev_sts 2 (c2 := (8, [.ref 63, .int x1, .int x2, mK], [.int x1, .int x2], S, 0)) rfl ?_
    refine ev_if (c1 := (68, [.ref 63, .int x1, .int x2, mK], [], S, 0)) (c2 := (11, [.ref 63, .int x1, .int x2, mK], [], S, 0)) hf rfl rfl (fun _ hf => ?_) (fun _ hf => ?_)
    · refine ev_sts 1 (c2 := (69, [.ref 63, .int x1, .int x2, mK], [.ref 63], S, 0)) rfl ?_
      refine ev_bV0 (d := d + 8) (M' := Mx248) (ct := (72, [.ref 63, .int x1, .int x2, mK], [], S, 0)) hf rfl rfl rfl rfl (fun r9 h9 => f_X10_bringsBack_ok (d := d + 8) h9) (fun S2 hf => ?_)
      show Ev (d + 9) Mx254 (72, [.ref 63, .int x1, .int x2, mK], [], S2, 0) r
      exact ev_ret hf rfl rfl
    · exact ev_sts 2 (c2 := (13, [.ref 63, .int x1, .int x2, .int ((0 : Int32))], [], S, 0)) rfl (f_X10_laysWorths_b13_ok (fun h9 => ih h9) _ hf)
theorem f_X10_laysWorths_ok {d F : Nat} {p1 : Int32} {S : mS} {r : mR} (hf : f_X10_laysWorths F p1 S = some r) : Ev (d + 9) Mx254 (entry Mx254 [.ref 63, .int p1] S) r := by
  unfold f_X10_laysWorths at hf
  refine ev_sts 1 (c2 := (1, [.ref 63, .int p1, mK, mK], [.ref 63], S, 0)) rfl ?_
  refine ev_bV0 (d := d + 8) (M' := Mx247) (ct := (4, [.ref 63, .int p1, mK, mK], [], S, 0)) hf rfl rfl rfl rfl (fun r9 h9 => f_X10_keepsAll_ok (d := d + 8) h9) (fun S1 hf => ?_)
  show Ev (d + 9) Mx254 (4, [.ref 63, .int p1, mK, mK], [], S1, 0) r
  exact ev_sts 2 (c2 := (6, [.ref 63, .int p1, .int ((0 : Int32)), mK], [], S1, 0)) rfl (f_X10_laysWorths_b6_ok _ hf)
def f_X10_mostAt (p0 : Int32) (p1 : Int32) (S : mS) : Option mR := some (.inl (some (.int ((p0 <<< (((10 : Int32)) &&& 31)) ||| p1))), S)
theorem f_X10_mostAt_ok {d : Nat} {p0 : Int32} {p1 : Int32} {S : mS} {r : mR} (hf : f_X10_mostAt p0 p1 S = some r) : Ev (d) Mx255 (entry Mx255 [.int p0, .int p1] S) r := by
  unfold f_X10_mostAt at hf
  refine ev_sts 5 (c2 := (6, [.int p0, .int p1], [.int ((p0 <<< (((10 : Int32)) &&& 31)) ||| p1)], S, 0)) rfl ?_
  exact ev_ret hf rfl rfl
def f_X10_mostBy_b47 (t0 : Int32) (S : mS) : Option mR := some (.inl (some (.int t0)), S)
def f_X10_mostBy (p1 : Int32) (p2 : Int32) (p3 : Int32) (S : mS) : Option mR := (if 0 ≤ p3 then gd (inb ((((10 : Int32)) * p1) + p3) 100) (bI0 (f_X10_mostAt (p1 + ((1 : Int32))) (p2 ||| (((1 : Int32)) <<< (p3 &&& 31))) S) (fun r2 S1 => gd (inb r2 11264) (f_X10_mostBy_b47 ((S 73 ((((10 : Int32)) * p1) + p3).toNatClampNeg) + (S1 74 r2.toNatClampNeg)) S1))) else bI0 (f_X10_mostAt (p1 + ((1 : Int32))) p2 S) (fun r4 S3 => gd (inb r4 11264) (f_X10_mostBy_b47 (S3 74 r4.toNatClampNeg) S3)))
theorem f_X10_mostBy_b47_ok {d : Nat} {t0 : Int32} {S : mS} {r : mR} (hf : f_X10_mostBy_b47 t0 S = some r) : Ev (d + 1) Mx256 (47, [mK, mK, mK, mK], [.int t0], S, 0) r := by
  unfold f_X10_mostBy_b47 at hf
  exact ev_ret hf rfl rfl
theorem f_X10_mostBy_ok {d : Nat} {p1 : Int32} {p2 : Int32} {p3 : Int32} {S : mS} {r : mR} (hf : f_X10_mostBy p1 p2 p3 S = some r) : Ev (d + 1) Mx256 (entry Mx256 [.ref 63, .int p1, .int p2, .int p3] S) r := by
  unfold f_X10_mostBy at hf
  refine ev_sts 1 (c2 := (1, [.ref 63, .int p1, .int p2, .int p3], [.int p3], S, 0)) rfl ?_
  refine ev_if (c1 := (19, [.ref 63, .int p1, .int p2, .int p3], [], S, 0)) (c2 := (4, [.ref 63, .int p1, .int p2, .int p3], [], S, 0)) hf rfl rfl (fun _ hf => ?_) (fun _ hf => ?_)
  · refine ev_sts 7 (c2 := (29, [.ref 63, .int p1, .int p2, .int p3], [.int ((((10 : Int32)) * p1) + p3), .ref 73], S, 0)) rfl ?_
    refine ev_gd (c1 := (30, [.ref 63, .int p1, .int p2, .int p3], [.int (S 73 ((((10 : Int32)) * p1) + p3).toNatClampNeg)], S, 0)) hf rfl rfl (fun hf => ?_)
    refine ev_sts 10 (c2 := (42, [.ref 63, .int p1, .int p2, .int p3], [.int (p2 ||| (((1 : Int32)) <<< (p3 &&& 31))), .int (p1 + ((1 : Int32))), .ref 74, .int (S 73 ((((10 : Int32)) * p1) + p3).toNatClampNeg)], S, 0)) rfl ?_
    refine ev_bI0 (d := d) (M' := Mx255) (ct := (45, [.ref 63, .int p1, .int p2, .int p3], [.ref 74, .int (S 73 ((((10 : Int32)) * p1) + p3).toNatClampNeg)], S, 0)) hf rfl rfl rfl rfl (fun r9 h9 => f_X10_mostAt_ok (d := d) h9) (fun r2 S1 hf => ?_)
    show Ev (d + 1) Mx256 (45, [.ref 63, .int p1, .int p2, .int p3], [.int r2, .ref 74, .int (S 73 ((((10 : Int32)) * p1) + p3).toNatClampNeg)], S1, 0) r
    refine ev_gd (c1 := (46, [.ref 63, .int p1, .int p2, .int p3], [.int (S1 74 r2.toNatClampNeg), .int (S 73 ((((10 : Int32)) * p1) + p3).toNatClampNeg)], S1, 0)) hf rfl rfl (fun hf => ?_)
    exact ev_sts 1 (c2 := (47, [mK, mK, mK, mK], [.int ((S 73 ((((10 : Int32)) * p1) + p3).toNatClampNeg) + (S1 74 r2.toNatClampNeg))], S1, 0)) rfl (f_X10_mostBy_b47_ok hf)
  · refine ev_sts 6 (c2 := (12, [.ref 63, .int p1, .int p2, .int p3], [.int p2, .int (p1 + ((1 : Int32))), .ref 74], S, 0)) rfl ?_
    refine ev_bI0 (d := d) (M' := Mx255) (ct := (15, [.ref 63, .int p1, .int p2, .int p3], [.ref 74], S, 0)) hf rfl rfl rfl rfl (fun r9 h9 => f_X10_mostAt_ok (d := d) h9) (fun r4 S3 hf => ?_)
    show Ev (d + 1) Mx256 (15, [.ref 63, .int p1, .int p2, .int p3], [.int r4, .ref 74], S3, 0) r
    refine ev_gd (c1 := (16, [.ref 63, .int p1, .int p2, .int p3], [.int (S3 74 r4.toNatClampNeg)], S3, 0)) hf rfl rfl (fun hf => ?_)
    exact ev_sts 1 (c2 := (47, [mK, mK, mK, mK], [.int (S3 74 r4.toNatClampNeg)], S3, 0)) rfl (f_X10_mostBy_b47_ok hf)
def f_X10_laysMost_b103 (K42 : Int32 → Int32 → mS → Option mR) (K49 : Int32 → Int32 → Int32 → mS → Option mR) (K68 : Int32 → Int32 → Int32 → Int32 → Int32 → mS → Option mR) (F : Nat) (x2 : Int32) (x3 : Int32) (x4 : Int32) (x5 : Int32) (x6 : Int32) (S : mS) : Option mR := K68 x2 x3 x4 x5 (x6 + (1 : Int32)) S
def f_X10_laysMost_b68 (K42 : Int32 → Int32 → mS → Option mR) (K49 : Int32 → Int32 → Int32 → mS → Option mR) (F : Nat) : Nat → Int32 → Int32 → Int32 → Int32 → Int32 → mS → Option mR
  | 0, _, _, _, _, _, _ => none
  | n + 1, x2, x3, x4, x5, x6, S => bI0 (f_X10_ledges S) (fun r9 S8 => (if r9 ≤ x6 then bI0 (f_X10_mostAt x3 x4 S8) (fun r11 S10 => gd (inb r11 11264) (bnd (upS S10 74 r11.toNatClampNeg x5) (fun S12 => K49 x2 x3 (x4 + (1 : Int32)) S12))) else bI0 (f_X10_has x4 x6 S8) (fun r14 S13 => (if ¬ r14 = 0 then f_X10_laysMost_b103 K42 K49 (fun x2 x3 x4 x5 x6 S => f_X10_laysMost_b68 K42 K49 F n x2 x3 x4 x5 x6 S) F x2 x3 x4 x5 x6 S13 else bI0 (f_X10_mostBy x3 x4 x6 S13) (fun r16 S15 => bnd (if x5 < r16 then r16 else x5 : Int32) (fun y17 => f_X10_laysMost_b103 K42 K49 (fun x2 x3 x4 x5 x6 S => f_X10_laysMost_b68 K42 K49 F n x2 x3 x4 x5 x6 S) F x2 x3 x4 y17 x6 S15))))))
def f_X10_laysMost_b49 (K42 : Int32 → Int32 → mS → Option mR) (F : Nat) : Nat → Int32 → Int32 → Int32 → mS → Option mR
  | 0, _, _, _, _ => none
  | n + 1, x2, x3, x4, S => (if x2 < x4 then K42 x2 (x3 + (-1 : Int32)) S else bI0 (f_X10_mostBy x3 x4 ((-1 : Int32)) S) (fun r7 S6 => f_X10_laysMost_b68 K42 (fun x2 x3 x4 S => f_X10_laysMost_b49 K42 F n x2 x3 x4 S) F F x2 x3 x4 r7 ((0 : Int32)) S6))
def f_X10_laysMost_b42 (F : Nat) : Nat → Int32 → Int32 → mS → Option mR
  | 0, _, _, _ => none
  | n + 1, x2, x3, S => (if x3 < 0 then some (.inl none, S) else f_X10_laysMost_b49 (fun x2 x3 S => f_X10_laysMost_b42 F n x2 x3 S) F F x2 x3 ((0 : Int32)) S)
def f_X10_laysMost_b16 (F : Nat) : Nat → Int32 → Int32 → Int32 → mS → Option mR
  | 0, _, _, _, _ => none
  | n + 1, x1, x2, x3, S => (if x2 < x3 then bnd (x1 - ((1 : Int32)) : Int32) (fun y5 => f_X10_laysMost_b42 F F x2 y5 S) else bI0 (f_X10_mostAt x1 x3 S) (fun r19 S18 => gd (inb r19 11264) (bnd (upS S18 74 r19.toNatClampNeg ((0 : Int32))) (fun S20 => f_X10_laysMost_b16 F n x1 x2 (x3 + (1 : Int32)) S20))))
def f_X10_laysMost (F : Nat) (p1 : Int32) (S : mS) : Option mR := bV0 (f_X10_laysWorths F p1 S) (fun S1 => bI0 (f_X10_ledges S1) (fun r3 S2 => bnd ((((1 : Int32)) <<< (r3 &&& 31)) - ((1 : Int32)) : Int32) (fun y4 => f_X10_laysMost_b16 F F p1 y4 ((0 : Int32)) S2)))
theorem f_X10_laysMost_b103_ok {d F : Nat} {K42 : Int32 → Int32 → mS → Option mR} (hK42 : ∀ {x2 : Int32} {x3 : Int32} {S : mS} {r : mR}, K42 x2 x3 S = some r → Ev (d + 10) Mx257 (42, [.ref 63, mK, .int x2, .int x3, mK, mK, mK], [], S, 0) r) {K49 : Int32 → Int32 → Int32 → mS → Option mR} (hK49 : ∀ {x2 : Int32} {x3 : Int32} {x4 : Int32} {S : mS} {r : mR}, K49 x2 x3 x4 S = some r → Ev (d + 10) Mx257 (49, [.ref 63, mK, .int x2, .int x3, .int x4, mK, mK], [], S, 0) r) {K68 : Int32 → Int32 → Int32 → Int32 → Int32 → mS → Option mR} (hK68 : ∀ {x2 : Int32} {x3 : Int32} {x4 : Int32} {x5 : Int32} {x6 : Int32} {S : mS} {r : mR}, K68 x2 x3 x4 x5 x6 S = some r → Ev (d + 10) Mx257 (68, [.ref 63, mK, .int x2, .int x3, .int x4, .int x5, .int x6], [], S, 0) r) {x2 : Int32} {x3 : Int32} {x4 : Int32} {x5 : Int32} {x6 : Int32} {S : mS} {r : mR} (hf : f_X10_laysMost_b103 K42 K49 K68 F x2 x3 x4 x5 x6 S = some r) : Ev (d + 10) Mx257 (103, [.ref 63, mK, .int x2, .int x3, .int x4, .int x5, .int x6], [], S, 0) r := by
  unfold f_X10_laysMost_b103 at hf
  exact ev_sts 2 (c2 := (68, [.ref 63, mK, .int x2, .int x3, .int x4, .int x5, .int (x6 + (1 : Int32))], [], S, 0)) rfl (hK68 hf)
theorem f_X10_laysMost_b68_ok {d F : Nat} {K42 : Int32 → Int32 → mS → Option mR} (hK42 : ∀ {x2 : Int32} {x3 : Int32} {S : mS} {r : mR}, K42 x2 x3 S = some r → Ev (d + 10) Mx257 (42, [.ref 63, mK, .int x2, .int x3, mK, mK, mK], [], S, 0) r) {K49 : Int32 → Int32 → Int32 → mS → Option mR} (hK49 : ∀ {x2 : Int32} {x3 : Int32} {x4 : Int32} {S : mS} {r : mR}, K49 x2 x3 x4 S = some r → Ev (d + 10) Mx257 (49, [.ref 63, mK, .int x2, .int x3, .int x4, mK, mK], [], S, 0) r) : ∀ (n : Nat) {x2 : Int32} {x3 : Int32} {x4 : Int32} {x5 : Int32} {x6 : Int32} {S : mS} {r : mR}, f_X10_laysMost_b68 K42 K49 F n x2 x3 x4 x5 x6 S = some r → Ev (d + 10) Mx257 (68, [.ref 63, mK, .int x2, .int x3, .int x4, .int x5, .int x6], [], S, 0) r := by
  intro n
  induction n with
  | zero => intro x2 x3 x4 x5 x6 S r hf; cases hf
  | succ n ih =>
    intro x2 x3 x4 x5 x6 S r hf
    rw [f_X10_laysMost_b68] at hf
    refine ev_sts 2 (c2 := (71, [.ref 63, mK, .int x2, .int x3, .int x4, .int x5, .int x6], [.ref 63, .int x6], S, 0)) rfl ?_
    refine ev_bI0 (d := d + 9) (M' := Mx162) (ct := (74, [.ref 63, mK, .int x2, .int x3, .int x4, .int x5, .int x6], [.int x6], S, 0)) hf rfl rfl rfl rfl (fun r9 h9 => f_X10_ledges_ok (d := d + 9) h9) (fun r9 S8 hf => ?_)
    show Ev (d + 10) Mx257 (74, [.ref 63, mK, .int x2, .int x3, .int x4, .int x5, .int x6], [.int r9, .int x6], S8, 0) r
    refine ev_if (c1 := (109, [.ref 63, mK, .int x2, .int x3, .int x4, .int x5, .int x6], [], S8, 0)) (c2 := (77, [.ref 63, mK, .int x2, .int x3, .int x4, .int x5, .int x6], [], S8, 0)) hf rfl rfl (fun _ hf => ?_) (fun _ hf => ?_)
    · refine ev_sts 4 (c2 := (116, [.ref 63, mK, .int x2, .int x3, .int x4, .int x5, .int x6], [.int x4, .int x3, .ref 74], S8, 0)) rfl ?_
      refine ev_bI0 (d := d + 9) (M' := Mx255) (ct := (119, [.ref 63, mK, .int x2, .int x3, .int x4, .int x5, .int x6], [.ref 74], S8, 0)) hf rfl rfl rfl rfl (fun r9 h9 => f_X10_mostAt_ok (d := d + 9) h9) (fun r11 S10 hf => ?_)
      show Ev (d + 10) Mx257 (119, [.ref 63, mK, .int x2, .int x3, .int x4, .int x5, .int x6], [.int r11, .ref 74], S10, 0) r
      refine ev_sts 1 (c2 := (121, [.ref 63, mK, .int x2, .int x3, .int x4, .int x5, .int x6], [.int x5, .int r11, .ref 74], S10, 0)) rfl ?_
      refine ev_gd (c1 := (122, [.ref 63, mK, .int x2, .int x3, .int x4, .int x5, .int x6], [], (upS S10 74 r11.toNatClampNeg x5), 0)) hf rfl rfl (fun hf => ?_)
      refine ev_let (P := fun S12 => Ev (d + 10) Mx257 (122, [.ref 63, mK, .int x2, .int x3, .int x4, .int x5, .int x6], [], S12, 0) r) (fun S12 hf => ?_) hf
      exact ev_sts 2 (c2 := (49, [.ref 63, mK, .int x2, .int x3, .int (x4 + (1 : Int32)), mK, mK], [], S12, 0)) rfl (hK49 hf)
    · refine ev_sts 2 (c2 := (81, [.ref 63, mK, .int x2, .int x3, .int x4, .int x5, .int x6], [.int x6, .int x4], S8, 0)) rfl ?_
      refine ev_bI0 (d := d + 9) (M' := Mx157) (ct := (84, [.ref 63, mK, .int x2, .int x3, .int x4, .int x5, .int x6], [], S8, 0)) hf rfl rfl rfl rfl (fun r9 h9 => f_X10_has_ok (d := d + 9) h9) (fun r14 S13 hf => ?_)
      show Ev (d + 10) Mx257 (84, [.ref 63, mK, .int x2, .int x3, .int x4, .int x5, .int x6], [.int r14], S13, 0) r
      refine ev_if (c1 := (103, [.ref 63, mK, .int x2, .int x3, .int x4, .int x5, .int x6], [], S13, 0)) (c2 := (87, [.ref 63, mK, .int x2, .int x3, .int x4, .int x5, .int x6], [], S13, 0)) hf rfl rfl (fun _ hf => ?_) (fun _ hf => ?_)
      · exact f_X10_laysMost_b103_ok hK42 hK49 (fun h9 => ih h9) hf
      · refine ev_sts 5 (c2 := (95, [.ref 63, mK, .int x2, .int x3, .int x4, .int x5, .int x6], [.int x6, .int x4, .int x3, .ref 63, .int x5], S13, 0)) rfl ?_
        refine ev_bI0 (d := d + 9) (M' := Mx256) (ct := (98, [.ref 63, mK, .int x2, .int x3, .int x4, .int x5, .int x6], [.int x5], S13, 0)) hf rfl rfl rfl rfl (fun r9 h9 => f_X10_mostBy_ok (d := d + 8) h9) (fun r16 S15 hf => ?_)
        show Ev (d + 10) Mx257 (98, [.ref 63, mK, .int x2, .int x3, .int x4, .int x5, .int x6], [.int r16, .int x5], S15, 0) r
        refine ev_sts 2 (c2 := (103, [.ref 63, mK, .int x2, .int x3, .int x4, .int (if x5 < r16 then r16 else x5), .int x6], [], S15, 0)) rfl ?_
        refine ev_let (P := fun y17 => Ev (d + 10) Mx257 (103, [.ref 63, mK, .int x2, .int x3, .int x4, .int y17, .int x6], [], S15, 0) r) (fun y17 hf => ?_) hf
        exact f_X10_laysMost_b103_ok hK42 hK49 (fun h9 => ih h9) hf
theorem f_X10_laysMost_b49_ok {d F : Nat} {K42 : Int32 → Int32 → mS → Option mR} (hK42 : ∀ {x2 : Int32} {x3 : Int32} {S : mS} {r : mR}, K42 x2 x3 S = some r → Ev (d + 10) Mx257 (42, [.ref 63, mK, .int x2, .int x3, mK, mK, mK], [], S, 0) r) : ∀ (n : Nat) {x2 : Int32} {x3 : Int32} {x4 : Int32} {S : mS} {r : mR}, f_X10_laysMost_b49 K42 F n x2 x3 x4 S = some r → Ev (d + 10) Mx257 (49, [.ref 63, mK, .int x2, .int x3, .int x4, mK, mK], [], S, 0) r := by
  intro n
  induction n with
  | zero => intro x2 x3 x4 S r hf; cases hf
  | succ n ih =>
    intro x2 x3 x4 S r hf
    rw [f_X10_laysMost_b49] at hf
    refine ev_sts 2 (c2 := (52, [.ref 63, mK, .int x2, .int x3, .int x4, mK, mK], [.int x2, .int x4], S, 0)) rfl ?_
    refine ev_if (c1 := (128, [.ref 63, mK, .int x2, .int x3, .int x4, mK, mK], [], S, 0)) (c2 := (55, [.ref 63, mK, .int x2, .int x3, .int x4, mK, mK], [], S, 0)) hf rfl rfl (fun _ hf => ?_) (fun _ hf => ?_)
    · exact ev_sts 2 (c2 := (42, [.ref 63, mK, .int x2, .int (x3 + (-1 : Int32)), mK, mK, mK], [], S, 0)) rfl (hK42 hf)
    · refine ev_sts 4 (c2 := (60, [.ref 63, mK, .int x2, .int x3, .int x4, mK, mK], [.int ((-1 : Int32)), .int x4, .int x3, .ref 63], S, 0)) rfl ?_
      refine ev_bI0 (d := d + 9) (M' := Mx256) (ct := (63, [.ref 63, mK, .int x2, .int x3, .int x4, mK, mK], [], S, 0)) hf rfl rfl rfl rfl (fun r9 h9 => f_X10_mostBy_ok (d := d + 8) h9) (fun r7 S6 hf => ?_)
      show Ev (d + 10) Mx257 (63, [.ref 63, mK, .int x2, .int x3, .int x4, mK, mK], [.int r7], S6, 0) r
      exact ev_sts 3 (c2 := (68, [.ref 63, mK, .int x2, .int x3, .int x4, .int r7, .int ((0 : Int32))], [], S6, 0)) rfl (f_X10_laysMost_b68_ok hK42 (fun h9 => ih h9) _ hf)
theorem f_X10_laysMost_b42_ok {d F : Nat} : ∀ (n : Nat) {x2 : Int32} {x3 : Int32} {S : mS} {r : mR}, f_X10_laysMost_b42 F n x2 x3 S = some r → Ev (d + 10) Mx257 (42, [.ref 63, mK, .int x2, .int x3, mK, mK, mK], [], S, 0) r := by
  intro n
  induction n with
  | zero => intro x2 x3 S r hf; cases hf
  | succ n ih =>
    intro x2 x3 S r hf
    rw [f_X10_laysMost_b42] at hf
    refine ev_sts 1 (c2 := (43, [.ref 63, mK, .int x2, .int x3, mK, mK, mK], [.int x3], S, 0)) rfl ?_
    refine ev_if (c1 := (134, [.ref 63, mK, .int x2, .int x3, mK, mK, mK], [], S, 0)) (c2 := (46, [.ref 63, mK, .int x2, .int x3, mK, mK, mK], [], S, 0)) hf rfl rfl (fun _ hf => ?_) (fun _ hf => ?_)
    · exact ev_ret hf rfl rfl
    · exact ev_sts 2 (c2 := (49, [.ref 63, mK, .int x2, .int x3, .int ((0 : Int32)), mK, mK], [], S, 0)) rfl (f_X10_laysMost_b49_ok (fun h9 => ih h9) _ hf)
theorem f_X10_laysMost_b16_ok {d F : Nat} : ∀ (n : Nat) {x1 : Int32} {x2 : Int32} {x3 : Int32} {S : mS} {r : mR}, f_X10_laysMost_b16 F n x1 x2 x3 S = some r → Ev (d + 10) Mx257 (16, [.ref 63, .int x1, .int x2, .int x3, mK, mK, mK], [], S, 0) r := by
  intro n
  induction n with
  | zero => intro x1 x2 x3 S r hf; cases hf
  | succ n ih =>
    intro x1 x2 x3 S r hf
    rw [f_X10_laysMost_b16] at hf
    refine ev_sts 2 (c2 := (18, [.ref 63, .int x1, .int x2, .int x3, mK, mK, mK], [.int x2, .int x3], S, 0)) rfl ?_
    refine ev_if (c1 := (38, [.ref 63, .int x1, .int x2, .int x3, mK, mK, mK], [], S, 0)) (c2 := (21, [.ref 63, .int x1, .int x2, .int x3, mK, mK, mK], [], S, 0)) hf rfl rfl (fun _ hf => ?_) (fun _ hf => ?_)
    · refine ev_sts 4 (c2 := (42, [.ref 63, mK, .int x2, .int (x1 - ((1 : Int32))), mK, mK, mK], [], S, 0)) rfl ?_
      refine ev_let (P := fun y5 => Ev (d + 10) Mx257 (42, [.ref 63, mK, .int x2, .int y5, mK, mK, mK], [], S, 0) r) (fun y5 hf => ?_) hf
      exact f_X10_laysMost_b42_ok _ hf
    · refine ev_sts 4 (c2 := (27, [.ref 63, .int x1, .int x2, .int x3, mK, mK, mK], [.int x3, .int x1, .ref 74], S, 0)) rfl ?_
      refine ev_bI0 (d := d + 9) (M' := Mx255) (ct := (30, [.ref 63, .int x1, .int x2, .int x3, mK, mK, mK], [.ref 74], S, 0)) hf rfl rfl rfl rfl (fun r9 h9 => f_X10_mostAt_ok (d := d + 9) h9) (fun r19 S18 hf => ?_)
      show Ev (d + 10) Mx257 (30, [.ref 63, .int x1, .int x2, .int x3, mK, mK, mK], [.int r19, .ref 74], S18, 0) r
      refine ev_sts 1 (c2 := (31, [.ref 63, .int x1, .int x2, .int x3, mK, mK, mK], [.int ((0 : Int32)), .int r19, .ref 74], S18, 0)) rfl ?_
      refine ev_gd (c1 := (32, [.ref 63, .int x1, .int x2, .int x3, mK, mK, mK], [], (upS S18 74 r19.toNatClampNeg ((0 : Int32))), 0)) hf rfl rfl (fun hf => ?_)
      refine ev_let (P := fun S20 => Ev (d + 10) Mx257 (32, [.ref 63, .int x1, .int x2, .int x3, mK, mK, mK], [], S20, 0) r) (fun S20 hf => ?_) hf
      exact ev_sts 2 (c2 := (16, [.ref 63, .int x1, .int x2, .int (x3 + (1 : Int32)), mK, mK, mK], [], S20, 0)) rfl (ih hf)
theorem f_X10_laysMost_ok {d F : Nat} {p1 : Int32} {S : mS} {r : mR} (hf : f_X10_laysMost F p1 S = some r) : Ev (d + 10) Mx257 (entry Mx257 [.ref 63, .int p1] S) r := by
  unfold f_X10_laysMost at hf
  refine ev_sts 2 (c2 := (2, [.ref 63, .int p1, mK, mK, mK, mK, mK], [.int p1, .ref 63], S, 0)) rfl ?_
  refine ev_bV0 (d := d + 9) (M' := Mx254) (ct := (5, [.ref 63, .int p1, mK, mK, mK, mK, mK], [], S, 0)) hf rfl rfl rfl rfl (fun r9 h9 => f_X10_laysWorths_ok (d := d) h9) (fun S1 hf => ?_)
  show Ev (d + 10) Mx257 (5, [.ref 63, .int p1, mK, mK, mK, mK, mK], [], S1, 0) r
  refine ev_sts 2 (c2 := (7, [.ref 63, .int p1, mK, mK, mK, mK, mK], [.ref 63, .int ((1 : Int32))], S1, 0)) rfl ?_
  refine ev_bI0 (d := d + 9) (M' := Mx162) (ct := (10, [.ref 63, .int p1, mK, mK, mK, mK, mK], [.int ((1 : Int32))], S1, 0)) hf rfl rfl rfl rfl (fun r9 h9 => f_X10_ledges_ok (d := d + 9) h9) (fun r3 S2 hf => ?_)
  show Ev (d + 10) Mx257 (10, [.ref 63, .int p1, mK, mK, mK, mK, mK], [.int r3, .int ((1 : Int32))], S2, 0) r
  refine ev_sts 4 (c2 := (14, [.ref 63, .int p1, .int ((((1 : Int32)) <<< (r3 &&& 31)) - ((1 : Int32))), mK, mK, mK, mK], [], S2, 0)) rfl ?_
  refine ev_let (P := fun y4 => Ev (d + 10) Mx257 (14, [.ref 63, .int p1, .int y4, mK, mK, mK, mK], [], S2, 0) r) (fun y4 hf => ?_) hf
  exact ev_sts 2 (c2 := (16, [.ref 63, .int p1, .int y4, .int ((0 : Int32)), mK, mK, mK], [], S2, 0)) rfl (f_X10_laysMost_b16_ok _ hf)
def f_X10_harvest_b138 (K72 : Int32 → Int32 → Int32 → Int32 → mS → Option mR) (F : Nat) (x2 : Int32) (x4 : Int32) (x5 : Int32) (t1 : Int32) (t0 : Int32) (S : mS) : Option mR := bnd (t0 ||| t1 : Int32) (fun y13 => K72 x2 y13 x4 (x5 + (1 : Int32)) S)
def f_X10_harvest_b118 (K72 : Int32 → Int32 → Int32 → Int32 → mS → Option mR) (K81 : Int32 → Int32 → Int32 → Int32 → mS → Option mR) (F : Nat) (x2 : Int32) (x3 : Int32) (x4 : Int32) (x5 : Int32) (S : mS) : Option mR := K81 x2 x3 (x4 + (1 : Int32)) x5 S
def f_X10_harvest_b95 (K72 : Int32 → Int32 → Int32 → Int32 → mS → Option mR) (K81 : Int32 → Int32 → Int32 → Int32 → mS → Option mR) (F : Nat) (x2 : Int32) (x3 : Int32) (x4 : Int32) (x5 : Int32) (S : mS) : Option mR := bI0 (f_X10_mostBy x5 x3 x4 S) (fun r10 S9 => bI0 (f_X10_mostAt x5 x3 S9) (fun r12 S11 => gd (inb r12 11264) ((if r10 = (S11 74 r12.toNatClampNeg) then (if 0 ≤ x4 then f_X10_harvest_b138 K72 F x2 x4 x5 (((1 : Int32)) <<< (x4 &&& 31)) x3 S11 else f_X10_harvest_b138 K72 F x2 x4 x5 ((0 : Int32)) x3 S11) else f_X10_harvest_b118 K72 K81 F x2 x3 x4 x5 S11))))
def f_X10_harvest_b81 (K72 : Int32 → Int32 → Int32 → Int32 → mS → Option mR) (F : Nat) : Nat → Int32 → Int32 → Int32 → Int32 → mS → Option mR
  | 0, _, _, _, _, _ => none
  | n + 1, x2, x3, x4, x5, S => (if x4 < 0 then f_X10_harvest_b95 K72 (fun x2 x3 x4 x5 S => f_X10_harvest_b81 K72 F n x2 x3 x4 x5 S) F x2 x3 x4 x5 S else bI0 (f_X10_has x3 x4 S) (fun r15 S14 => (if ¬ r15 = 0 then f_X10_harvest_b118 K72 (fun x2 x3 x4 x5 S => f_X10_harvest_b81 K72 F n x2 x3 x4 x5 S) F x2 x3 x4 x5 S14 else f_X10_harvest_b95 K72 (fun x2 x3 x4 x5 S => f_X10_harvest_b81 K72 F n x2 x3 x4 x5 S) F x2 x3 x4 x5 S14)))
def f_X10_harvest_b72 (F : Nat) : Nat → Int32 → Int32 → Int32 → Int32 → mS → Option mR
  | 0, _, _, _, _, _ => none
  | n + 1, x2, x3, x4, x5, S => (if x2 < x5 then some (.inl (some (.int x4)), S) else f_X10_harvest_b81 (fun x2 x3 x4 x5 S => f_X10_harvest_b72 F n x2 x3 x4 x5 S) F F x2 x3 ((-1 : Int32)) x5 S)
def f_X10_harvest_b21 (F : Nat) (x1 : Int32) (x2 : Int32) (t1 : Int32) (S : mS) : Option mR := bI0 (f_X10_throwsIf t1 ((1 : Int32)) S) (fun r5 S4 => (if r5 = 0 then bV0 (f_X10_laysMost F x1 S4) (fun S6 => (if ¬ x2 = ((-1 : Int32)) then bI0 (f_X10_in x2 ((0 : Int32)) (x1 - ((1 : Int32))) S6) (fun r8 S7 => (if ¬ r8 = 0 then f_X10_harvest_b72 F F x2 ((0 : Int32)) ((-1 : Int32)) ((0 : Int32)) S7 else some (.inl (some (.int ((-1 : Int32)))), S7))) else bI0 (f_X10_mostAt ((0 : Int32)) ((0 : Int32)) S6) (fun r17 S16 => gd (inb r17 11264) (some (.inl (some (.int (S16 74 r17.toNatClampNeg))), S16))))) else some (.inl (some (.int ((0 : Int32)))), S4)))
def f_X10_harvest (F : Nat) (p1 : Int32) (p2 : Int32) (S : mS) : Option mR := bnd (upS S 63 0 ((0 : Int32))) (fun S1 => bI0 (f_X10_in p1 ((1 : Int32)) ((10 : Int32)) S1) (fun r3 S2 => (if ¬ r3 = 0 then f_X10_harvest_b21 F p1 p2 ((0 : Int32)) S2 else f_X10_harvest_b21 F p1 p2 ((1 : Int32)) S2)))
theorem f_X10_harvest_b138_ok {d F : Nat} {K72 : Int32 → Int32 → Int32 → Int32 → mS → Option mR} (hK72 : ∀ {x2 : Int32} {x3 : Int32} {x4 : Int32} {x5 : Int32} {S : mS} {r : mR}, K72 x2 x3 x4 x5 S = some r → Ev (d + 11) Mx258 (72, [.ref 63, mK, .int x2, .int x3, .int x4, .int x5], [], S, 0) r) {x2 : Int32} {x4 : Int32} {x5 : Int32} {t1 : Int32} {t0 : Int32} {S : mS} {r : mR} (hf : f_X10_harvest_b138 K72 F x2 x4 x5 t1 t0 S = some r) : Ev (d + 11) Mx258 (138, [.ref 63, mK, .int x2, mK, .int x4, .int x5], [.int t1, .int t0], S, 0) r := by
  unfold f_X10_harvest_b138 at hf
  refine ev_sts 2 (c2 := (140, [.ref 63, mK, .int x2, .int (t0 ||| t1), .int x4, .int x5], [], S, 0)) rfl ?_
  refine ev_let (P := fun y13 => Ev (d + 11) Mx258 (140, [.ref 63, mK, .int x2, .int y13, .int x4, .int x5], [], S, 0) r) (fun y13 hf => ?_) hf
  exact ev_sts 2 (c2 := (72, [.ref 63, mK, .int x2, .int y13, .int x4, .int (x5 + (1 : Int32))], [], S, 0)) rfl (hK72 hf)
theorem f_X10_harvest_b118_ok {d F : Nat} {K72 : Int32 → Int32 → Int32 → Int32 → mS → Option mR} (hK72 : ∀ {x2 : Int32} {x3 : Int32} {x4 : Int32} {x5 : Int32} {S : mS} {r : mR}, K72 x2 x3 x4 x5 S = some r → Ev (d + 11) Mx258 (72, [.ref 63, mK, .int x2, .int x3, .int x4, .int x5], [], S, 0) r) {K81 : Int32 → Int32 → Int32 → Int32 → mS → Option mR} (hK81 : ∀ {x2 : Int32} {x3 : Int32} {x4 : Int32} {x5 : Int32} {S : mS} {r : mR}, K81 x2 x3 x4 x5 S = some r → Ev (d + 11) Mx258 (81, [.ref 63, mK, .int x2, .int x3, .int x4, .int x5], [], S, 0) r) {x2 : Int32} {x3 : Int32} {x4 : Int32} {x5 : Int32} {S : mS} {r : mR} (hf : f_X10_harvest_b118 K72 K81 F x2 x3 x4 x5 S = some r) : Ev (d + 11) Mx258 (118, [.ref 63, mK, .int x2, .int x3, .int x4, .int x5], [], S, 0) r := by
  unfold f_X10_harvest_b118 at hf
  exact ev_sts 2 (c2 := (81, [.ref 63, mK, .int x2, .int x3, .int (x4 + (1 : Int32)), .int x5], [], S, 0)) rfl (hK81 hf)
theorem f_X10_harvest_b95_ok {d F : Nat} {K72 : Int32 → Int32 → Int32 → Int32 → mS → Option mR} (hK72 : ∀ {x2 : Int32} {x3 : Int32} {x4 : Int32} {x5 : Int32} {S : mS} {r : mR}, K72 x2 x3 x4 x5 S = some r → Ev (d + 11) Mx258 (72, [.ref 63, mK, .int x2, .int x3, .int x4, .int x5], [], S, 0) r) {K81 : Int32 → Int32 → Int32 → Int32 → mS → Option mR} (hK81 : ∀ {x2 : Int32} {x3 : Int32} {x4 : Int32} {x5 : Int32} {S : mS} {r : mR}, K81 x2 x3 x4 x5 S = some r → Ev (d + 11) Mx258 (81, [.ref 63, mK, .int x2, .int x3, .int x4, .int x5], [], S, 0) r) {x2 : Int32} {x3 : Int32} {x4 : Int32} {x5 : Int32} {S : mS} {r : mR} (hf : f_X10_harvest_b95 K72 K81 F x2 x3 x4 x5 S = some r) : Ev (d + 11) Mx258 (95, [.ref 63, mK, .int x2, .int x3, .int x4, .int x5], [], S, 0) r := by
  unfold f_X10_harvest_b95 at hf
  refine ev_sts 4 (c2 := (101, [.ref 63, mK, .int x2, .int x3, .int x4, .int x5], [.int x4, .int x3, .int x5, .ref 63], S, 0)) rfl ?_
  refine ev_bI0 (d := d + 10) (M' := Mx256) (ct := (104, [.ref 63, mK, .int x2, .int x3, .int x4, .int x5], [], S, 0)) hf rfl rfl rfl rfl (fun r9 h9 => f_X10_mostBy_ok (d := d + 9) h9) (fun r10 S9 hf => ?_)
  show Ev (d + 11) Mx258 (104, [.ref 63, mK, .int x2, .int x3, .int x4, .int x5], [.int r10], S9, 0) r
  refine ev_sts 4 (c2 := (111, [.ref 63, mK, .int x2, .int x3, .int x4, .int x5], [.int x3, .int x5, .ref 74, .int r10], S9, 0)) rfl ?_
  refine ev_bI0 (d := d + 10) (M' := Mx255) (ct := (114, [.ref 63, mK, .int x2, .int x3, .int x4, .int x5], [.ref 74, .int r10], S9, 0)) hf rfl rfl rfl rfl (fun r9 h9 => f_X10_mostAt_ok (d := d + 10) h9) (fun r12 S11 hf => ?_)
  show Ev (d + 11) Mx258 (114, [.ref 63, mK, .int x2, .int x3, .int x4, .int x5], [.int r12, .ref 74, .int r10], S11, 0) r
  refine ev_gd (c1 := (115, [.ref 63, mK, .int x2, .int x3, .int x4, .int x5], [.int (S11 74 r12.toNatClampNeg), .int r10], S11, 0)) hf rfl rfl (fun hf => ?_)
  refine ev_if (c1 := (124, [.ref 63, mK, .int x2, .int x3, .int x4, .int x5], [], S11, 0)) (c2 := (118, [.ref 63, mK, .int x2, .int x3, .int x4, .int x5], [], S11, 0)) hf rfl rfl (fun _ hf => ?_) (fun _ hf => ?_)
  · refine ev_sts 2 (c2 := (127, [.ref 63, mK, .int x2, .int x3, .int x4, .int x5], [.int x4, .int x3], S11, 0)) rfl ?_
    refine ev_if (c1 := (134, [.ref 63, mK, .int x2, .int x3, .int x4, .int x5], [.int x3], S11, 0)) (c2 := (130, [.ref 63, mK, .int x2, .int x3, .int x4, .int x5], [.int x3], S11, 0)) hf rfl rfl (fun _ hf => ?_) (fun _ hf => ?_)
    · exact ev_sts 3 (c2 := (138, [.ref 63, mK, .int x2, mK, .int x4, .int x5], [.int (((1 : Int32)) <<< (x4 &&& 31)), .int x3], S11, 0)) rfl (f_X10_harvest_b138_ok hK72 hf)
    · exact ev_sts 2 (c2 := (138, [.ref 63, mK, .int x2, mK, .int x4, .int x5], [.int ((0 : Int32)), .int x3], S11, 0)) rfl (f_X10_harvest_b138_ok hK72 hf)
  · exact f_X10_harvest_b118_ok hK72 hK81 hf
theorem f_X10_harvest_b81_ok {d F : Nat} {K72 : Int32 → Int32 → Int32 → Int32 → mS → Option mR} (hK72 : ∀ {x2 : Int32} {x3 : Int32} {x4 : Int32} {x5 : Int32} {S : mS} {r : mR}, K72 x2 x3 x4 x5 S = some r → Ev (d + 11) Mx258 (72, [.ref 63, mK, .int x2, .int x3, .int x4, .int x5], [], S, 0) r) : ∀ (n : Nat) {x2 : Int32} {x3 : Int32} {x4 : Int32} {x5 : Int32} {S : mS} {r : mR}, f_X10_harvest_b81 K72 F n x2 x3 x4 x5 S = some r → Ev (d + 11) Mx258 (81, [.ref 63, mK, .int x2, .int x3, .int x4, .int x5], [], S, 0) r := by
  intro n
  induction n with
  | zero => intro x2 x3 x4 x5 S r hf; cases hf
  | succ n ih =>
    intro x2 x3 x4 x5 S r hf
    rw [f_X10_harvest_b81] at hf
    refine ev_sts 1 (c2 := (83, [.ref 63, mK, .int x2, .int x3, .int x4, .int x5], [.int x4], S, 0)) rfl ?_
    refine ev_if (c1 := (95, [.ref 63, mK, .int x2, .int x3, .int x4, .int x5], [], S, 0)) (c2 := (86, [.ref 63, mK, .int x2, .int x3, .int x4, .int x5], [], S, 0)) hf rfl rfl (fun _ hf => ?_) (fun _ hf => ?_)
    · exact f_X10_harvest_b95_ok hK72 (fun h9 => ih h9) hf
    · refine ev_sts 2 (c2 := (89, [.ref 63, mK, .int x2, .int x3, .int x4, .int x5], [.int x4, .int x3], S, 0)) rfl ?_
      refine ev_bI0 (d := d + 10) (M' := Mx157) (ct := (92, [.ref 63, mK, .int x2, .int x3, .int x4, .int x5], [], S, 0)) hf rfl rfl rfl rfl (fun r9 h9 => f_X10_has_ok (d := d + 10) h9) (fun r15 S14 hf => ?_)
      show Ev (d + 11) Mx258 (92, [.ref 63, mK, .int x2, .int x3, .int x4, .int x5], [.int r15], S14, 0) r
      refine ev_if (c1 := (118, [.ref 63, mK, .int x2, .int x3, .int x4, .int x5], [], S14, 0)) (c2 := (95, [.ref 63, mK, .int x2, .int x3, .int x4, .int x5], [], S14, 0)) hf rfl rfl (fun _ hf => ?_) (fun _ hf => ?_)
      · exact f_X10_harvest_b118_ok hK72 (fun h9 => ih h9) hf
      · exact f_X10_harvest_b95_ok hK72 (fun h9 => ih h9) hf
theorem f_X10_harvest_b72_ok {d F : Nat} : ∀ (n : Nat) {x2 : Int32} {x3 : Int32} {x4 : Int32} {x5 : Int32} {S : mS} {r : mR}, f_X10_harvest_b72 F n x2 x3 x4 x5 S = some r → Ev (d + 11) Mx258 (72, [.ref 63, mK, .int x2, .int x3, .int x4, .int x5], [], S, 0) r := by
  intro n
  induction n with
  | zero => intro x2 x3 x4 x5 S r hf; cases hf
  | succ n ih =>
    intro x2 x3 x4 x5 S r hf
    rw [f_X10_harvest_b72] at hf
    refine ev_sts 2 (c2 := (75, [.ref 63, mK, .int x2, .int x3, .int x4, .int x5], [.int x2, .int x5], S, 0)) rfl ?_
    refine ev_if (c1 := (146, [.ref 63, mK, .int x2, .int x3, .int x4, .int x5], [], S, 0)) (c2 := (78, [.ref 63, mK, .int x2, .int x3, .int x4, .int x5], [], S, 0)) hf rfl rfl (fun _ hf => ?_) (fun _ hf => ?_)
    · refine ev_sts 1 (c2 := (148, [.ref 63, mK, .int x2, .int x3, .int x4, .int x5], [.int x4], S, 0)) rfl ?_
      exact ev_ret hf rfl rfl
    · exact ev_sts 2 (c2 := (81, [.ref 63, mK, .int x2, .int x3, .int ((-1 : Int32)), .int x5], [], S, 0)) rfl (f_X10_harvest_b81_ok (fun h9 => ih h9) _ hf)
theorem f_X10_harvest_b21_ok {d F : Nat} {x1 : Int32} {x2 : Int32} {t1 : Int32} {S : mS} {r : mR} (hf : f_X10_harvest_b21 F x1 x2 t1 S = some r) : Ev (d + 11) Mx258 (21, [.ref 63, .int x1, .int x2, mK, mK, mK], [.int t1, .ref 63], S, 0) r := by
  unfold f_X10_harvest_b21 at hf
  refine ev_sts 1 (c2 := (22, [.ref 63, .int x1, .int x2, mK, mK, mK], [.int ((1 : Int32)), .int t1, .ref 63], S, 0)) rfl ?_
  refine ev_bI0 (d := d + 10) (M' := Mx155) (ct := (25, [.ref 63, .int x1, .int x2, mK, mK, mK], [], S, 0)) hf rfl rfl rfl rfl (fun r9 h9 => f_X10_throwsIf_ok (d := d + 10) h9) (fun r5 S4 hf => ?_)
  show Ev (d + 11) Mx258 (25, [.ref 63, .int x1, .int x2, mK, mK, mK], [.int r5], S4, 0) r
  refine ev_if (c1 := (30, [.ref 63, .int x1, .int x2, mK, mK, mK], [], S4, 0)) (c2 := (28, [.ref 63, .int x1, .int x2, mK, mK, mK], [], S4, 0)) hf rfl rfl (fun _ hf => ?_) (fun _ hf => ?_)
  · refine ev_sts 2 (c2 := (32, [.ref 63, .int x1, .int x2, mK, mK, mK], [.int x1, .ref 63], S4, 0)) rfl ?_
    refine ev_bV0 (d := d + 10) (M' := Mx257) (ct := (35, [.ref 63, .int x1, .int x2, mK, mK, mK], [], S4, 0)) hf rfl rfl rfl rfl (fun r9 h9 => f_X10_laysMost_ok (d := d) h9) (fun S6 hf => ?_)
    show Ev (d + 11) Mx258 (35, [.ref 63, .int x1, .int x2, mK, mK, mK], [], S6, 0) r
    refine ev_sts 2 (c2 := (37, [.ref 63, .int x1, .int x2, mK, mK, mK], [.int ((-1 : Int32)), .int x2], S6, 0)) rfl ?_
    refine ev_if (c1 := (51, [.ref 63, .int x1, .int x2, mK, mK, mK], [], S6, 0)) (c2 := (40, [.ref 63, .int x1, .int x2, mK, mK, mK], [], S6, 0)) hf rfl rfl (fun _ hf => ?_) (fun _ hf => ?_)
    · refine ev_sts 5 (c2 := (56, [.ref 63, .int x1, .int x2, mK, mK, mK], [.int (x1 - ((1 : Int32))), .int ((0 : Int32)), .int x2], S6, 0)) rfl ?_
      refine ev_bI0 (d := d + 10) (M' := Mx156) (ct := (59, [.ref 63, .int x1, .int x2, mK, mK, mK], [], S6, 0)) hf rfl rfl rfl rfl (fun r9 h9 => f_X10_in_ok (d := d + 10) h9) (fun r8 S7 hf => ?_)
      show Ev (d + 11) Mx258 (59, [.ref 63, .int x1, .int x2, mK, mK, mK], [.int r8], S7, 0) r
      refine ev_if (c1 := (64, [.ref 63, .int x1, .int x2, mK, mK, mK], [], S7, 0)) (c2 := (62, [.ref 63, .int x1, .int x2, mK, mK, mK], [], S7, 0)) hf rfl rfl (fun _ hf => ?_) (fun _ hf => ?_)
      · exact ev_sts 6 (c2 := (72, [.ref 63, mK, .int x2, .int ((0 : Int32)), .int ((-1 : Int32)), .int ((0 : Int32))], [], S7, 0)) rfl (f_X10_harvest_b72_ok _ hf)
      · refine ev_sts 1 (c2 := (63, [.ref 63, .int x1, .int x2, mK, mK, mK], [.int ((-1 : Int32))], S7, 0)) rfl ?_
        exact ev_ret hf rfl rfl
    · refine ev_sts 4 (c2 := (46, [.ref 63, .int x1, .int x2, mK, mK, mK], [.int ((0 : Int32)), .int ((0 : Int32)), .ref 74], S6, 0)) rfl ?_
      refine ev_bI0 (d := d + 10) (M' := Mx255) (ct := (49, [.ref 63, .int x1, .int x2, mK, mK, mK], [.ref 74], S6, 0)) hf rfl rfl rfl rfl (fun r9 h9 => f_X10_mostAt_ok (d := d + 10) h9) (fun r17 S16 hf => ?_)
      show Ev (d + 11) Mx258 (49, [.ref 63, .int x1, .int x2, mK, mK, mK], [.int r17, .ref 74], S16, 0) r
      refine ev_gd (c1 := (50, [.ref 63, .int x1, .int x2, mK, mK, mK], [.int (S16 74 r17.toNatClampNeg)], S16, 0)) hf rfl rfl (fun hf => ?_)
      exact ev_ret hf rfl rfl
  · refine ev_sts 1 (c2 := (29, [.ref 63, .int x1, .int x2, mK, mK, mK], [.int ((0 : Int32))], S4, 0)) rfl ?_
    exact ev_ret hf rfl rfl
theorem f_X10_harvest_ok {d F : Nat} {p1 : Int32} {p2 : Int32} {S : mS} {r : mR} (hf : f_X10_harvest F p1 p2 S = some r) : Ev (d + 11) Mx258 (entry Mx258 [.ref 63, .int p1, .int p2] S) r := by
  unfold f_X10_harvest at hf
  refine ev_sts 3 (c2 := (5, [.ref 63, .int p1, .int p2, mK, mK, mK], [], (upS S 63 0 ((0 : Int32))), 0)) rfl ?_
  refine ev_let (P := fun S1 => Ev (d + 11) Mx258 (5, [.ref 63, .int p1, .int p2, mK, mK, mK], [], S1, 0) r) (fun S1 hf => ?_) hf
  refine ev_sts 4 (c2 := (10, [.ref 63, .int p1, .int p2, mK, mK, mK], [.int ((10 : Int32)), .int ((1 : Int32)), .int p1, .ref 63], S1, 0)) rfl ?_
  refine ev_bI0 (d := d + 10) (M' := Mx156) (ct := (13, [.ref 63, .int p1, .int p2, mK, mK, mK], [.ref 63], S1, 0)) hf rfl rfl rfl rfl (fun r9 h9 => f_X10_in_ok (d := d + 10) h9) (fun r3 S2 hf => ?_)
  show Ev (d + 11) Mx258 (13, [.ref 63, .int p1, .int p2, mK, mK, mK], [.int r3, .ref 63], S2, 0) r
  refine ev_if (c1 := (20, [.ref 63, .int p1, .int p2, mK, mK, mK], [.ref 63], S2, 0)) (c2 := (16, [.ref 63, .int p1, .int p2, mK, mK, mK], [.ref 63], S2, 0)) hf rfl rfl (fun _ hf => ?_) (fun _ hf => ?_)
  · exact ev_sts 1 (c2 := (21, [.ref 63, .int p1, .int p2, mK, mK, mK], [.int ((0 : Int32)), .ref 63], S2, 0)) rfl (f_X10_harvest_b21_ok hf)
  · exact ev_sts 2 (c2 := (21, [.ref 63, .int p1, .int p2, mK, mK, mK], [.int ((1 : Int32)), .ref 63], S2, 0)) rfl (f_X10_harvest_b21_ok hf)
def f_X10_noEar_b14 (t0 : Int32) (S : mS) : Option mR := some (.inl (some (.int (t0 &&& 1))), S)
def f_X10_noEar (p0 : Int32) (S : mS) : Option mR := bI0 (f_X10_in p0 ((0 : Int32)) ((5 : Int32)) S) (fun r2 S1 => (if ¬ r2 = 0 then f_X10_noEar_b14 ((0 : Int32)) S1 else f_X10_noEar_b14 ((1 : Int32)) S1))
theorem f_X10_noEar_b14_ok {d : Nat} {t0 : Int32} {S : mS} {r : mR} (hf : f_X10_noEar_b14 t0 S = some r) : Ev (d + 1) Mx264 (14, [mK], [.int t0], S, 0) r := by
  unfold f_X10_noEar_b14 at hf
  exact ev_ret hf rfl rfl
theorem f_X10_noEar_ok {d : Nat} {p0 : Int32} {S : mS} {r : mR} (hf : f_X10_noEar p0 S = some r) : Ev (d + 1) Mx264 (entry Mx264 [.int p0] S) r := by
  unfold f_X10_noEar at hf
  refine ev_sts 3 (c2 := (3, [.int p0], [.int ((5 : Int32)), .int ((0 : Int32)), .int p0], S, 0)) rfl ?_
  refine ev_bI0 (d := d) (M' := Mx156) (ct := (6, [.int p0], [], S, 0)) hf rfl rfl rfl rfl (fun r9 h9 => f_X10_in_ok (d := d) h9) (fun r2 S1 hf => ?_)
  show Ev (d + 1) Mx264 (6, [.int p0], [.int r2], S1, 0) r
  refine ev_if (c1 := (13, [.int p0], [], S1, 0)) (c2 := (9, [.int p0], [], S1, 0)) hf rfl rfl (fun _ hf => ?_) (fun _ hf => ?_)
  · exact ev_sts 1 (c2 := (14, [mK], [.int ((0 : Int32))], S1, 0)) rfl (f_X10_noEar_b14_ok hf)
  · exact ev_sts 2 (c2 := (14, [mK], [.int ((1 : Int32))], S1, 0)) rfl (f_X10_noEar_b14_ok hf)
def f_X10_heard_b79 (K25 : Int32 → Int32 → Int32 → Int32 → Int32 → mS → Option mR) (F : Nat) (x1 : Int32) (x2 : Int32) (x3 : Int32) (x5 : Int32) (t1 : Int32) (t0 : Int32) (S : mS) : Option mR := bnd (t0 ||| t1 : Int32) (fun y8 => K25 x1 x2 x3 y8 (x5 + (1 : Int32)) S)
def f_X10_heard_b78 (K25 : Int32 → Int32 → Int32 → Int32 → Int32 → mS → Option mR) (F : Nat) (x1 : Int32) (x2 : Int32) (x3 : Int32) (x5 : Int32) (t0 : Int32) (S : mS) : Option mR := f_X10_heard_b79 K25 F x1 x2 x3 x5 ((0 : Int32)) t0 S
def f_X10_heard_b25 (F : Nat) : Nat → Int32 → Int32 → Int32 → Int32 → Int32 → mS → Option mR
  | 0, _, _, _, _, _, _ => none
  | n + 1, x1, x2, x3, x4, x5, S => (if ((12 : Int32)) ≤ x5 then some (.inl (some (.int x4)), S) else bI0 (f_X10_has x1 x5 S) (fun r7 S6 => (if r7 = 0 then f_X10_heard_b78 (fun x1 x2 x3 x4 x5 S => f_X10_heard_b25 F n x1 x2 x3 x4 x5 S) F x1 x2 x3 x5 x4 S6 else (if 0 < (lg_cmp ((x2.toInt64 - x5.toInt64) - ((Int64.ofNat 1))) x3.toInt64) then f_X10_heard_b78 (fun x1 x2 x3 x4 x5 S => f_X10_heard_b25 F n x1 x2 x3 x4 x5 S) F x1 x2 x3 x5 x4 S6 else (if 0 < (lg_cmp ((x5.toInt64 + ((Int64.ofNat 1))) - x2.toInt64) x3.toInt64) then f_X10_heard_b78 (fun x1 x2 x3 x4 x5 S => f_X10_heard_b25 F n x1 x2 x3 x4 x5 S) F x1 x2 x3 x5 x4 S6 else f_X10_heard_b79 (fun x1 x2 x3 x4 x5 S => f_X10_heard_b25 F n x1 x2 x3 x4 x5 S) F x1 x2 x3 x5 (((1 : Int32)) <<< (x5 &&& 31)) x4 S6)))))
def f_X10_heard (F : Nat) (p1 : Int32) (p2 : Int32) (p3 : Int32) (S : mS) : Option mR := bnd (upS S 63 0 ((0 : Int32))) (fun S1 => bI0 (f_X10_noEar p3 S1) (fun r3 S2 => bI0 (f_X10_throwsIf r3 ((1 : Int32)) S2) (fun r5 S4 => (if r5 = 0 then f_X10_heard_b25 F F p1 p2 p3 ((0 : Int32)) ((0 : Int32)) S4 else some (.inl (some (.int ((0 : Int32)))), S4)))))
theorem f_X10_heard_b79_ok {d F : Nat} {K25 : Int32 → Int32 → Int32 → Int32 → Int32 → mS → Option mR} (hK25 : ∀ {x1 : Int32} {x2 : Int32} {x3 : Int32} {x4 : Int32} {x5 : Int32} {S : mS} {r : mR}, K25 x1 x2 x3 x4 x5 S = some r → Ev (d + 2) Mx267 (25, [mK, .int x1, .int x2, .int x3, .int x4, .int x5], [], S, 0) r) {x1 : Int32} {x2 : Int32} {x3 : Int32} {x5 : Int32} {t1 : Int32} {t0 : Int32} {S : mS} {r : mR} (hf : f_X10_heard_b79 K25 F x1 x2 x3 x5 t1 t0 S = some r) : Ev (d + 2) Mx267 (79, [mK, .int x1, .int x2, .int x3, mK, .int x5], [.int t1, .int t0], S, 0) r := by
  unfold f_X10_heard_b79 at hf
  refine ev_sts 2 (c2 := (82, [mK, .int x1, .int x2, .int x3, .int (t0 ||| t1), .int x5], [], S, 0)) rfl ?_
  refine ev_let (P := fun y8 => Ev (d + 2) Mx267 (82, [mK, .int x1, .int x2, .int x3, .int y8, .int x5], [], S, 0) r) (fun y8 hf => ?_) hf
  exact ev_sts 2 (c2 := (25, [mK, .int x1, .int x2, .int x3, .int y8, .int (x5 + (1 : Int32))], [], S, 0)) rfl (hK25 hf)
theorem f_X10_heard_b78_ok {d F : Nat} {K25 : Int32 → Int32 → Int32 → Int32 → Int32 → mS → Option mR} (hK25 : ∀ {x1 : Int32} {x2 : Int32} {x3 : Int32} {x4 : Int32} {x5 : Int32} {S : mS} {r : mR}, K25 x1 x2 x3 x4 x5 S = some r → Ev (d + 2) Mx267 (25, [mK, .int x1, .int x2, .int x3, .int x4, .int x5], [], S, 0) r) {x1 : Int32} {x2 : Int32} {x3 : Int32} {x5 : Int32} {t0 : Int32} {S : mS} {r : mR} (hf : f_X10_heard_b78 K25 F x1 x2 x3 x5 t0 S = some r) : Ev (d + 2) Mx267 (78, [mK, .int x1, .int x2, .int x3, mK, .int x5], [.int t0], S, 0) r := by
  unfold f_X10_heard_b78 at hf
  exact ev_sts 1 (c2 := (79, [mK, .int x1, .int x2, .int x3, mK, .int x5], [.int ((0 : Int32)), .int t0], S, 0)) rfl (f_X10_heard_b79_ok hK25 hf)
theorem f_X10_heard_b25_ok {d F : Nat} : ∀ (n : Nat) {x1 : Int32} {x2 : Int32} {x3 : Int32} {x4 : Int32} {x5 : Int32} {S : mS} {r : mR}, f_X10_heard_b25 F n x1 x2 x3 x4 x5 S = some r → Ev (d + 2) Mx267 (25, [mK, .int x1, .int x2, .int x3, .int x4, .int x5], [], S, 0) r := by
  intro n
  induction n with
  | zero => intro x1 x2 x3 x4 x5 S r hf; cases hf
  | succ n ih =>
    intro x1 x2 x3 x4 x5 S r hf
    rw [f_X10_heard_b25] at hf
    refine ev_sts 2 (c2 := (29, [mK, .int x1, .int x2, .int x3, .int x4, .int x5], [.int ((12 : Int32)), .int x5], S, 0)) rfl ?_
    refine ev_if (c1 := (88, [mK, .int x1, .int x2, .int x3, .int x4, .int x5], [], S, 0)) (c2 := (32, [mK, .int x1, .int x2, .int x3, .int x4, .int x5], [], S, 0)) hf rfl rfl (fun _ hf => ?_) (fun _ hf => ?_)
    · refine ev_sts 1 (c2 := (90, [mK, .int x1, .int x2, .int x3, .int x4, .int x5], [.int x4], S, 0)) rfl ?_
      exact ev_ret hf rfl rfl
    · refine ev_sts 3 (c2 := (37, [mK, .int x1, .int x2, .int x3, .int x4, .int x5], [.int x5, .int x1, .int x4], S, 0)) rfl ?_
      refine ev_bI0 (d := d + 1) (M' := Mx157) (ct := (40, [mK, .int x1, .int x2, .int x3, .int x4, .int x5], [.int x4], S, 0)) hf rfl rfl rfl rfl (fun r9 h9 => f_X10_has_ok (d := d + 1) h9) (fun r7 S6 hf => ?_)
      show Ev (d + 2) Mx267 (40, [mK, .int x1, .int x2, .int x3, .int x4, .int x5], [.int r7, .int x4], S6, 0) r
      refine ev_if (c1 := (78, [mK, .int x1, .int x2, .int x3, mK, .int x5], [.int x4], S6, 0)) (c2 := (43, [mK, .int x1, .int x2, .int x3, .int x4, .int x5], [.int x4], S6, 0)) hf rfl rfl (fun _ hf => ?_) (fun _ hf => ?_)
      · exact f_X10_heard_b78_ok (fun h9 => ih h9) hf
      · refine ev_sts 10 (c2 := (54, [mK, .int x1, .int x2, .int x3, .int x4, .int x5], [.int (lg_cmp ((x2.toInt64 - x5.toInt64) - ((Int64.ofNat 1))) x3.toInt64), .int x4], S6, 0)) rfl ?_
        refine ev_if (c1 := (78, [mK, .int x1, .int x2, .int x3, mK, .int x5], [.int x4], S6, 0)) (c2 := (57, [mK, .int x1, .int x2, .int x3, .int x4, .int x5], [.int x4], S6, 0)) hf rfl rfl (fun _ hf => ?_) (fun _ hf => ?_)
        · exact f_X10_heard_b78_ok (fun h9 => ih h9) hf
        · refine ev_sts 10 (c2 := (68, [mK, .int x1, .int x2, .int x3, .int x4, .int x5], [.int (lg_cmp ((x5.toInt64 + ((Int64.ofNat 1))) - x2.toInt64) x3.toInt64), .int x4], S6, 0)) rfl ?_
          refine ev_if (c1 := (78, [mK, .int x1, .int x2, .int x3, mK, .int x5], [.int x4], S6, 0)) (c2 := (71, [mK, .int x1, .int x2, .int x3, .int x4, .int x5], [.int x4], S6, 0)) hf rfl rfl (fun _ hf => ?_) (fun _ hf => ?_)
          · exact f_X10_heard_b78_ok (fun h9 => ih h9) hf
          · exact ev_sts 4 (c2 := (79, [mK, .int x1, .int x2, .int x3, mK, .int x5], [.int (((1 : Int32)) <<< (x5 &&& 31)), .int x4], S6, 0)) rfl (f_X10_heard_b79_ok (fun h9 => ih h9) hf)
theorem f_X10_heard_ok {d F : Nat} {p1 : Int32} {p2 : Int32} {p3 : Int32} {S : mS} {r : mR} (hf : f_X10_heard F p1 p2 p3 S = some r) : Ev (d + 2) Mx267 (entry Mx267 [.ref 63, .int p1, .int p2, .int p3] S) r := by
  unfold f_X10_heard at hf
  refine ev_sts 3 (c2 := (5, [.ref 63, .int p1, .int p2, .int p3, mK, mK], [], (upS S 63 0 ((0 : Int32))), 0)) rfl ?_
  refine ev_let (P := fun S1 => Ev (d + 2) Mx267 (5, [.ref 63, .int p1, .int p2, .int p3, mK, mK], [], S1, 0) r) (fun S1 hf => ?_) hf
  refine ev_sts 2 (c2 := (7, [.ref 63, .int p1, .int p2, .int p3, mK, mK], [.int p3, .ref 63], S1, 0)) rfl ?_
  refine ev_bI0 (d := d + 1) (M' := Mx264) (ct := (10, [.ref 63, .int p1, .int p2, .int p3, mK, mK], [.ref 63], S1, 0)) hf rfl rfl rfl rfl (fun r9 h9 => f_X10_noEar_ok (d := d) h9) (fun r3 S2 hf => ?_)
  show Ev (d + 2) Mx267 (10, [.ref 63, .int p1, .int p2, .int p3, mK, mK], [.int r3, .ref 63], S2, 0) r
  refine ev_sts 1 (c2 := (11, [.ref 63, .int p1, .int p2, .int p3, mK, mK], [.int ((1 : Int32)), .int r3, .ref 63], S2, 0)) rfl ?_
  refine ev_bI0 (d := d + 1) (M' := Mx155) (ct := (14, [.ref 63, .int p1, .int p2, .int p3, mK, mK], [], S2, 0)) hf rfl rfl rfl rfl (fun r9 h9 => f_X10_throwsIf_ok (d := d + 1) h9) (fun r5 S4 hf => ?_)
  show Ev (d + 2) Mx267 (14, [.ref 63, .int p1, .int p2, .int p3, mK, mK], [.int r5], S4, 0) r
  refine ev_if (c1 := (19, [.ref 63, .int p1, .int p2, .int p3, mK, mK], [], S4, 0)) (c2 := (17, [.ref 63, .int p1, .int p2, .int p3, mK, mK], [], S4, 0)) hf rfl rfl (fun _ hf => ?_) (fun _ hf => ?_)
  · exact ev_sts 4 (c2 := (25, [mK, .int p1, .int p2, .int p3, .int ((0 : Int32)), .int ((0 : Int32))], [], S4, 0)) rfl (f_X10_heard_b25_ok _ hf)
  · refine ev_sts 1 (c2 := (18, [.ref 63, .int p1, .int p2, .int p3, mK, mK], [.int ((0 : Int32))], S4, 0)) rfl ?_
    exact ev_ret hf rfl rfl
def f_X10_held_b39 (F : Nat) (t0 : Int32) (S : mS) : Option mR := some (.inl (some (.int (t0 &&& 1))), S)
def f_X10_held_b38 (F : Nat) (S : mS) : Option mR := f_X10_held_b39 F ((0 : Int32)) S
def f_X10_held (F : Nat) (p1 : Int32) (p2 : Int32) (p3 : Int32) (S : mS) : Option mR := bnd (upS S 63 0 ((0 : Int32))) (fun S1 => bI0 (f_X10_noBoth p1 p2 S1) (fun r3 S2 => bI0 (f_X10_throwsIf r3 ((1 : Int32)) S2) (fun r5 S4 => (if ¬ r5 = 0 then f_X10_held_b38 F S4 else bI0 (f_X10_allHolders S4) (fun r7 S6 => bI0 (f_X10_isHeld F p1 p2 (p3 &&& r7) S6) (fun r9 S8 => (if r9 = 0 then f_X10_held_b38 F S8 else f_X10_held_b39 F ((1 : Int32)) S8)))))))
theorem f_X10_held_b39_ok {d F : Nat} {t0 : Int32} {S : mS} {r : mR} (hf : f_X10_held_b39 F t0 S = some r) : Ev (d + 4) Mx226 (39, [mK, mK, mK, mK], [.int t0], S, 0) r := by
  unfold f_X10_held_b39 at hf
  exact ev_ret hf rfl rfl
theorem f_X10_held_b38_ok {d F : Nat} {S : mS} {r : mR} (hf : f_X10_held_b38 F  S = some r) : Ev (d + 4) Mx226 (38, [mK, mK, mK, mK], [], S, 0) r := by
  unfold f_X10_held_b38 at hf
  exact ev_sts 1 (c2 := (39, [mK, mK, mK, mK], [.int ((0 : Int32))], S, 0)) rfl (f_X10_held_b39_ok hf)
theorem f_X10_held_ok {d F : Nat} {p1 : Int32} {p2 : Int32} {p3 : Int32} {S : mS} {r : mR} (hf : f_X10_held F p1 p2 p3 S = some r) : Ev (d + 4) Mx226 (entry Mx226 [.ref 63, .int p1, .int p2, .int p3] S) r := by
  unfold f_X10_held at hf
  refine ev_sts 3 (c2 := (5, [.ref 63, .int p1, .int p2, .int p3], [], (upS S 63 0 ((0 : Int32))), 0)) rfl ?_
  refine ev_let (P := fun S1 => Ev (d + 4) Mx226 (5, [.ref 63, .int p1, .int p2, .int p3], [], S1, 0) r) (fun S1 hf => ?_) hf
  refine ev_sts 4 (c2 := (9, [.ref 63, .int p1, .int p2, .int p3], [.int p2, .int p1, .ref 63, .ref 63], S1, 0)) rfl ?_
  refine ev_bI0 (d := d + 3) (M' := Mx224) (ct := (12, [.ref 63, .int p1, .int p2, .int p3], [.ref 63], S1, 0)) hf rfl rfl rfl rfl (fun r9 h9 => f_X10_noBoth_ok (d := d + 1) h9) (fun r3 S2 hf => ?_)
  show Ev (d + 4) Mx226 (12, [.ref 63, .int p1, .int p2, .int p3], [.int r3, .ref 63], S2, 0) r
  refine ev_sts 1 (c2 := (13, [.ref 63, .int p1, .int p2, .int p3], [.int ((1 : Int32)), .int r3, .ref 63], S2, 0)) rfl ?_
  refine ev_bI0 (d := d + 3) (M' := Mx155) (ct := (16, [.ref 63, .int p1, .int p2, .int p3], [], S2, 0)) hf rfl rfl rfl rfl (fun r9 h9 => f_X10_throwsIf_ok (d := d + 3) h9) (fun r5 S4 hf => ?_)
  show Ev (d + 4) Mx226 (16, [.ref 63, .int p1, .int p2, .int p3], [.int r5], S4, 0) r
  refine ev_if (c1 := (38, [mK, mK, mK, mK], [], S4, 0)) (c2 := (19, [.ref 63, .int p1, .int p2, .int p3], [], S4, 0)) hf rfl rfl (fun _ hf => ?_) (fun _ hf => ?_)
  · exact f_X10_held_b38_ok hf
  · refine ev_sts 5 (c2 := (24, [.ref 63, .int p1, .int p2, .int p3], [.ref 63, .int p3, .int p2, .int p1, .ref 63], S4, 0)) rfl ?_
    refine ev_bI0 (d := d + 3) (M' := Mx221) (ct := (27, [.ref 63, .int p1, .int p2, .int p3], [.int p3, .int p2, .int p1, .ref 63], S4, 0)) hf rfl rfl rfl rfl (fun r9 h9 => f_X10_allHolders_ok (d := d + 2) h9) (fun r7 S6 hf => ?_)
    show Ev (d + 4) Mx226 (27, [.ref 63, .int p1, .int p2, .int p3], [.int r7, .int p3, .int p2, .int p1, .ref 63], S6, 0) r
    refine ev_sts 1 (c2 := (28, [.ref 63, .int p1, .int p2, .int p3], [.int (p3 &&& r7), .int p2, .int p1, .ref 63], S6, 0)) rfl ?_
    refine ev_bI0 (d := d + 3) (M' := Mx223) (ct := (31, [.ref 63, .int p1, .int p2, .int p3], [], S6, 0)) hf rfl rfl rfl rfl (fun r9 h9 => f_X10_isHeld_ok (d := d) h9) (fun r9 S8 hf => ?_)
    show Ev (d + 4) Mx226 (31, [.ref 63, .int p1, .int p2, .int p3], [.int r9], S8, 0) r
    refine ev_if (c1 := (38, [mK, mK, mK, mK], [], S8, 0)) (c2 := (34, [.ref 63, .int p1, .int p2, .int p3], [], S8, 0)) hf rfl rfl (fun _ hf => ?_) (fun _ hf => ?_)
    · exact f_X10_held_b38_ok hf
    · exact ev_sts 2 (c2 := (39, [mK, mK, mK, mK], [.int ((1 : Int32))], S8, 0)) rfl (f_X10_held_b39_ok hf)
def f_X10_noHolder_b19 (t0 : Int32) (S : mS) : Option mR := some (.inl (some (.int (t0 &&& 1))), S)
def f_X10_noHolder (p1 : Int32) (S : mS) : Option mR := bI0 (f_X10_holders S) (fun r2 S1 => bI0 (f_X10_in p1 ((0 : Int32)) (r2 - ((1 : Int32))) S1) (fun r4 S3 => (if ¬ r4 = 0 then f_X10_noHolder_b19 ((0 : Int32)) S3 else f_X10_noHolder_b19 ((1 : Int32)) S3)))
theorem f_X10_noHolder_b19_ok {d : Nat} {t0 : Int32} {S : mS} {r : mR} (hf : f_X10_noHolder_b19 t0 S = some r) : Ev (d + 1) Mx170 (19, [mK, mK], [.int t0], S, 0) r := by
  unfold f_X10_noHolder_b19 at hf
  exact ev_ret hf rfl rfl
theorem f_X10_noHolder_ok {d : Nat} {p1 : Int32} {S : mS} {r : mR} (hf : f_X10_noHolder p1 S = some r) : Ev (d + 1) Mx170 (entry Mx170 [.ref 63, .int p1] S) r := by
  unfold f_X10_noHolder at hf
  refine ev_sts 3 (c2 := (3, [.ref 63, .int p1], [.ref 63, .int ((0 : Int32)), .int p1], S, 0)) rfl ?_
  refine ev_bI0 (d := d) (M' := Mx163) (ct := (6, [.ref 63, .int p1], [.int ((0 : Int32)), .int p1], S, 0)) hf rfl rfl rfl rfl (fun r9 h9 => f_X10_holders_ok (d := d) h9) (fun r2 S1 hf => ?_)
  show Ev (d + 1) Mx170 (6, [.ref 63, .int p1], [.int r2, .int ((0 : Int32)), .int p1], S1, 0) r
  refine ev_sts 2 (c2 := (8, [.ref 63, .int p1], [.int (r2 - ((1 : Int32))), .int ((0 : Int32)), .int p1], S1, 0)) rfl ?_
  refine ev_bI0 (d := d) (M' := Mx156) (ct := (11, [.ref 63, .int p1], [], S1, 0)) hf rfl rfl rfl rfl (fun r9 h9 => f_X10_in_ok (d := d) h9) (fun r4 S3 hf => ?_)
  show Ev (d + 1) Mx170 (11, [.ref 63, .int p1], [.int r4], S3, 0) r
  refine ev_if (c1 := (18, [.ref 63, .int p1], [], S3, 0)) (c2 := (14, [.ref 63, .int p1], [], S3, 0)) hf rfl rfl (fun _ hf => ?_) (fun _ hf => ?_)
  · exact ev_sts 1 (c2 := (19, [mK, mK], [.int ((0 : Int32))], S3, 0)) rfl (f_X10_noHolder_b19_ok hf)
  · exact ev_sts 2 (c2 := (19, [mK, mK], [.int ((1 : Int32))], S3, 0)) rfl (f_X10_noHolder_b19_ok hf)
def f_X10_holder_b36 (t0 : Int32) (S : mS) : Option mR := some (.inl (some (.int t0)), S)
def f_X10_holder_b33 (t2 : Int32) (t1 : Int32) (S : mS) : Option mR := bI0 (f_X10_ofHolder t1 t2 S) (fun r7 S6 => f_X10_holder_b36 r7 S6)
def f_X10_holder (p1 : Int32) (p2 : Int32) (S : mS) : Option mR := bnd (upS S 63 0 ((0 : Int32))) (fun S1 => bI0 (f_X10_noHolder p1 S1) (fun r3 S2 => bI0 (f_X10_throwsIf r3 ((1 : Int32)) S2) (fun r5 S4 => (if r5 = 0 then (if p2 = 0 then f_X10_holder_b33 ((0 : Int32)) p1 S4 else f_X10_holder_b33 ((1 : Int32)) p1 S4) else f_X10_holder_b36 ((0 : Int32)) S4))))
theorem f_X10_holder_b36_ok {d : Nat} {t0 : Int32} {S : mS} {r : mR} (hf : f_X10_holder_b36 t0 S = some r) : Ev (d + 2) Mx215 (36, [mK, mK, mK], [.int t0], S, 0) r := by
  unfold f_X10_holder_b36 at hf
  exact ev_ret hf rfl rfl
theorem f_X10_holder_b33_ok {d : Nat} {t2 : Int32} {t1 : Int32} {S : mS} {r : mR} (hf : f_X10_holder_b33 t2 t1 S = some r) : Ev (d + 2) Mx215 (33, [mK, mK, mK], [.int t2, .int t1, .ref 63], S, 0) r := by
  unfold f_X10_holder_b33 at hf
  refine ev_bI0 (d := d + 1) (M' := Mx167) (ct := (36, [mK, mK, mK], [], S, 0)) hf rfl rfl rfl rfl (fun r9 h9 => f_X10_ofHolder_ok (d := d + 1) h9) (fun r7 S6 hf => ?_)
  show Ev (d + 2) Mx215 (36, [mK, mK, mK], [.int r7], S6, 0) r
  exact f_X10_holder_b36_ok hf
theorem f_X10_holder_ok {d : Nat} {p1 : Int32} {p2 : Int32} {S : mS} {r : mR} (hf : f_X10_holder p1 p2 S = some r) : Ev (d + 2) Mx215 (entry Mx215 [.ref 63, .int p1, .int p2] S) r := by
  unfold f_X10_holder at hf
  refine ev_sts 3 (c2 := (5, [.ref 63, .int p1, .int p2], [], (upS S 63 0 ((0 : Int32))), 0)) rfl ?_
  refine ev_let (P := fun S1 => Ev (d + 2) Mx215 (5, [.ref 63, .int p1, .int p2], [], S1, 0) r) (fun S1 hf => ?_) hf
  refine ev_sts 3 (c2 := (8, [.ref 63, .int p1, .int p2], [.int p1, .ref 63, .ref 63], S1, 0)) rfl ?_
  refine ev_bI0 (d := d + 1) (M' := Mx170) (ct := (11, [.ref 63, .int p1, .int p2], [.ref 63], S1, 0)) hf rfl rfl rfl rfl (fun r9 h9 => f_X10_noHolder_ok (d := d) h9) (fun r3 S2 hf => ?_)
  show Ev (d + 2) Mx215 (11, [.ref 63, .int p1, .int p2], [.int r3, .ref 63], S2, 0) r
  refine ev_sts 1 (c2 := (12, [.ref 63, .int p1, .int p2], [.int ((1 : Int32)), .int r3, .ref 63], S2, 0)) rfl ?_
  refine ev_bI0 (d := d + 1) (M' := Mx155) (ct := (15, [.ref 63, .int p1, .int p2], [], S2, 0)) hf rfl rfl rfl rfl (fun r9 h9 => f_X10_throwsIf_ok (d := d + 1) h9) (fun r5 S4 hf => ?_)
  show Ev (d + 2) Mx215 (15, [.ref 63, .int p1, .int p2], [.int r5], S4, 0) r
  refine ev_if (c1 := (22, [.ref 63, .int p1, .int p2], [], S4, 0)) (c2 := (18, [.ref 63, .int p1, .int p2], [], S4, 0)) hf rfl rfl (fun _ hf => ?_) (fun _ hf => ?_)
  · refine ev_sts 3 (c2 := (25, [.ref 63, .int p1, .int p2], [.int p2, .int p1, .ref 63], S4, 0)) rfl ?_
    refine ev_if (c1 := (32, [.ref 63, .int p1, .int p2], [.int p1, .ref 63], S4, 0)) (c2 := (28, [.ref 63, .int p1, .int p2], [.int p1, .ref 63], S4, 0)) hf rfl rfl (fun _ hf => ?_) (fun _ hf => ?_)
    · exact ev_sts 1 (c2 := (33, [mK, mK, mK], [.int ((0 : Int32)), .int p1, .ref 63], S4, 0)) rfl (f_X10_holder_b33_ok hf)
    · exact ev_sts 2 (c2 := (33, [mK, mK, mK], [.int ((1 : Int32)), .int p1, .ref 63], S4, 0)) rfl (f_X10_holder_b33_ok hf)
  · exact ev_sts 2 (c2 := (36, [mK, mK, mK], [.int ((0 : Int32))], S4, 0)) rfl (f_X10_holder_b36_ok hf)
def f_X10_how_b73 (F : Nat) (t0 : Int32) (S : mS) : Option mR := some (.inl (some (.int t0)), S)
def f_X10_how_b49 (K16 : Int32 → Int32 → Int32 → Int32 → Int32 → mS → Option mR) (F : Nat) (x1 : Int32) (x2 : Int32) (x3 : Int32) (x4 : Int32) (x5 : Int32) (S : mS) : Option mR := K16 x1 x2 x3 x4 (x5 + (1 : Int32)) S
def f_X10_how_b16 (F : Nat) : Nat → Int32 → Int32 → Int32 → Int32 → Int32 → mS → Option mR
  | 0, _, _, _, _, _, _ => none
  | n + 1, x1, x2, x3, x4, x5, S => bI0 (f_X10_allLedges S) (fun r5 S4 => (if r5 < x5 then (if ¬ x2 = 0 then (if ¬ x3 = 0 then f_X10_how_b73 F x4 S4 else f_X10_how_b73 F ((0 : Int32)) S4) else f_X10_how_b73 F x3 S4) else bI0 (f_X10_sumIn F x5 ((2 : Int32)) S4) (fun r7 S6 => (if r7 = x1 then bnd (x4 &&& x5 : Int32) (fun y8 => f_X10_how_b49 (fun x1 x2 x3 x4 x5 S => f_X10_how_b16 F n x1 x2 x3 x4 x5 S) F x1 x2 (x3 + (1 : Int32)) y8 x5 S6) else f_X10_how_b49 (fun x1 x2 x3 x4 x5 S => f_X10_how_b16 F n x1 x2 x3 x4 x5 S) F x1 x2 x3 x4 x5 S6))))
def f_X10_how (F : Nat) (p1 : Int32) (p2 : Int32) (S : mS) : Option mR := bnd (upS S 63 0 ((0 : Int32))) (fun S1 => bI0 (f_X10_allLedges S1) (fun r3 S2 => f_X10_how_b16 F F p1 p2 ((0 : Int32)) r3 ((0 : Int32)) S2))
theorem f_X10_how_b73_ok {d F : Nat} {t0 : Int32} {S : mS} {r : mR} (hf : f_X10_how_b73 F t0 S = some r) : Ev (d + 3) Mx272 (73, [mK, mK, mK, mK, mK, mK], [.int t0], S, 0) r := by
  unfold f_X10_how_b73 at hf
  exact ev_ret hf rfl rfl
theorem f_X10_how_b49_ok {d F : Nat} {K16 : Int32 → Int32 → Int32 → Int32 → Int32 → mS → Option mR} (hK16 : ∀ {x1 : Int32} {x2 : Int32} {x3 : Int32} {x4 : Int32} {x5 : Int32} {S : mS} {r : mR}, K16 x1 x2 x3 x4 x5 S = some r → Ev (d + 3) Mx272 (16, [.ref 63, .int x1, .int x2, .int x3, .int x4, .int x5], [], S, 0) r) {x1 : Int32} {x2 : Int32} {x3 : Int32} {x4 : Int32} {x5 : Int32} {S : mS} {r : mR} (hf : f_X10_how_b49 K16 F x1 x2 x3 x4 x5 S = some r) : Ev (d + 3) Mx272 (49, [.ref 63, .int x1, .int x2, .int x3, .int x4, .int x5], [], S, 0) r := by
  unfold f_X10_how_b49 at hf
  exact ev_sts 2 (c2 := (16, [.ref 63, .int x1, .int x2, .int x3, .int x4, .int (x5 + (1 : Int32))], [], S, 0)) rfl (hK16 hf)
theorem f_X10_how_b16_ok {d F : Nat} : ∀ (n : Nat) {x1 : Int32} {x2 : Int32} {x3 : Int32} {x4 : Int32} {x5 : Int32} {S : mS} {r : mR}, f_X10_how_b16 F n x1 x2 x3 x4 x5 S = some r → Ev (d + 3) Mx272 (16, [.ref 63, .int x1, .int x2, .int x3, .int x4, .int x5], [], S, 0) r := by
  intro n
  induction n with
  | zero => intro x1 x2 x3 x4 x5 S r hf; cases hf
  | succ n ih =>
    intro x1 x2 x3 x4 x5 S r hf
    rw [f_X10_how_b16] at hf
    refine ev_sts 2 (c2 := (19, [.ref 63, .int x1, .int x2, .int x3, .int x4, .int x5], [.ref 63, .int x5], S, 0)) rfl ?_
    refine ev_bI0 (d := d + 2) (M' := Mx261) (ct := (22, [.ref 63, .int x1, .int x2, .int x3, .int x4, .int x5], [.int x5], S, 0)) hf rfl rfl rfl rfl (fun r9 h9 => f_X10_allLedges_ok (d := d + 1) h9) (fun r5 S4 hf => ?_)
    show Ev (d + 3) Mx272 (22, [.ref 63, .int x1, .int x2, .int x3, .int x4, .int x5], [.int r5, .int x5], S4, 0) r
    refine ev_if (c1 := (55, [.ref 63, .int x1, .int x2, .int x3, .int x4, .int x5], [], S4, 0)) (c2 := (25, [.ref 63, .int x1, .int x2, .int x3, .int x4, .int x5], [], S4, 0)) hf rfl rfl (fun _ hf => ?_) (fun _ hf => ?_)
    · refine ev_sts 1 (c2 := (56, [.ref 63, .int x1, .int x2, .int x3, .int x4, .int x5], [.int x2], S4, 0)) rfl ?_
      refine ev_if (c1 := (63, [.ref 63, .int x1, .int x2, .int x3, .int x4, .int x5], [], S4, 0)) (c2 := (59, [.ref 63, .int x1, .int x2, .int x3, .int x4, .int x5], [], S4, 0)) hf rfl rfl (fun _ hf => ?_) (fun _ hf => ?_)
      · refine ev_sts 1 (c2 := (64, [.ref 63, .int x1, .int x2, .int x3, .int x4, .int x5], [.int x3], S4, 0)) rfl ?_
        refine ev_if (c1 := (71, [.ref 63, .int x1, .int x2, .int x3, .int x4, .int x5], [], S4, 0)) (c2 := (67, [.ref 63, .int x1, .int x2, .int x3, .int x4, .int x5], [], S4, 0)) hf rfl rfl (fun _ hf => ?_) (fun _ hf => ?_)
        · exact ev_sts 1 (c2 := (73, [mK, mK, mK, mK, mK, mK], [.int x4], S4, 0)) rfl (f_X10_how_b73_ok hf)
        · exact ev_sts 2 (c2 := (73, [mK, mK, mK, mK, mK, mK], [.int ((0 : Int32))], S4, 0)) rfl (f_X10_how_b73_ok hf)
      · exact ev_sts 2 (c2 := (73, [mK, mK, mK, mK, mK, mK], [.int x3], S4, 0)) rfl (f_X10_how_b73_ok hf)
    · refine ev_sts 3 (c2 := (29, [.ref 63, .int x1, .int x2, .int x3, .int x4, .int x5], [.int ((2 : Int32)), .int x5, .ref 63], S4, 0)) rfl ?_
      refine ev_bI0 (d := d + 2) (M' := Mx260) (ct := (32, [.ref 63, .int x1, .int x2, .int x3, .int x4, .int x5], [], S4, 0)) hf rfl rfl rfl rfl (fun r9 h9 => f_X10_sumIn_ok (d := d) h9) (fun r7 S6 hf => ?_)
      show Ev (d + 3) Mx272 (32, [.ref 63, .int x1, .int x2, .int x3, .int x4, .int x5], [.int r7], S6, 0) r
      refine ev_sts 1 (c2 := (33, [.ref 63, .int x1, .int x2, .int x3, .int x4, .int x5], [.int x1, .int r7], S6, 0)) rfl ?_
      refine ev_if (c1 := (39, [.ref 63, .int x1, .int x2, .int x3, .int x4, .int x5], [], S6, 0)) (c2 := (36, [.ref 63, .int x1, .int x2, .int x3, .int x4, .int x5], [], S6, 0)) hf rfl rfl (fun _ hf => ?_) (fun _ hf => ?_)
      · refine ev_sts 5 (c2 := (49, [.ref 63, .int x1, .int x2, .int (x3 + (1 : Int32)), .int (x4 &&& x5), .int x5], [], S6, 0)) rfl ?_
        refine ev_let (P := fun y8 => Ev (d + 3) Mx272 (49, [.ref 63, .int x1, .int x2, .int (x3 + (1 : Int32)), .int y8, .int x5], [], S6, 0) r) (fun y8 hf => ?_) hf
        exact f_X10_how_b49_ok (fun h9 => ih h9) hf
      · exact ev_sts 1 (c2 := (49, [.ref 63, .int x1, .int x2, .int x3, .int x4, .int x5], [], S6, 0)) rfl (f_X10_how_b49_ok (fun h9 => ih h9) hf)
theorem f_X10_how_ok {d F : Nat} {p1 : Int32} {p2 : Int32} {S : mS} {r : mR} (hf : f_X10_how F p1 p2 S = some r) : Ev (d + 3) Mx272 (entry Mx272 [.ref 63, .int p1, .int p2] S) r := by
  unfold f_X10_how at hf
  refine ev_sts 3 (c2 := (5, [.ref 63, .int p1, .int p2, mK, mK, mK], [], (upS S 63 0 ((0 : Int32))), 0)) rfl ?_
  refine ev_let (P := fun S1 => Ev (d + 3) Mx272 (5, [.ref 63, .int p1, .int p2, mK, mK, mK], [], S1, 0) r) (fun S1 hf => ?_) hf
  refine ev_sts 3 (c2 := (8, [.ref 63, .int p1, .int p2, .int ((0 : Int32)), mK, mK], [.ref 63], S1, 0)) rfl ?_
  refine ev_bI0 (d := d + 2) (M' := Mx261) (ct := (11, [.ref 63, .int p1, .int p2, .int ((0 : Int32)), mK, mK], [], S1, 0)) hf rfl rfl rfl rfl (fun r9 h9 => f_X10_allLedges_ok (d := d + 1) h9) (fun r3 S2 hf => ?_)
  show Ev (d + 3) Mx272 (11, [.ref 63, .int p1, .int p2, .int ((0 : Int32)), mK, mK], [.int r3], S2, 0) r
  exact ev_sts 3 (c2 := (16, [.ref 63, .int p1, .int p2, .int ((0 : Int32)), .int r3, .int ((0 : Int32))], [], S2, 0)) rfl (f_X10_how_b16_ok _ hf)
def f_X10_image_b7 (F : Nat) : Nat → Int32 → mS → Option mR
  | 0, _, _ => none
  | n + 1, x1, S => (if ((1296 : Int32)) ≤ x1 then bnd (upS S 63 6 ((1 : Int32))) (fun S2 => some (.inl none, S2)) else gd (inb x1 2145) (gd (inb x1 1296) (bnd (upS S 65 x1.toNatClampNeg (S 64 x1.toNatClampNeg)) (fun S3 => f_X10_image_b7 F n (x1 + (1 : Int32)) S3))))
def f_X10_image (F : Nat) (S : mS) : Option mR := bnd (upS S 63 0 ((0 : Int32))) (fun S1 => f_X10_image_b7 F F ((0 : Int32)) S1)
theorem f_X10_image_b7_ok {d F : Nat} : ∀ (n : Nat) {x1 : Int32} {S : mS} {r : mR}, f_X10_image_b7 F n x1 S = some r → Ev (d) Mx158 (7, [.ref 63, .int x1], [], S, 0) r := by
  intro n
  induction n with
  | zero => intro x1 S r hf; cases hf
  | succ n ih =>
    intro x1 S r hf
    rw [f_X10_image_b7] at hf
    refine ev_sts 2 (c2 := (11, [.ref 63, .int x1], [.int ((1296 : Int32)), .int x1], S, 0)) rfl ?_
    refine ev_if (c1 := (32, [.ref 63, .int x1], [], S, 0)) (c2 := (14, [.ref 63, .int x1], [], S, 0)) hf rfl rfl (fun _ hf => ?_) (fun _ hf => ?_)
    · refine ev_sts 3 (c2 := (37, [.ref 63, .int x1], [], (upS S 63 6 ((1 : Int32))), 0)) rfl ?_
      refine ev_let (P := fun S2 => Ev (d) Mx158 (37, [.ref 63, .int x1], [], S2, 0) r) (fun S2 hf => ?_) hf
      exact ev_ret hf rfl rfl
    · refine ev_sts 6 (c2 := (24, [.ref 63, .int x1], [.int x1, .ref 64, .int x1, .ref 65], S, 0)) rfl ?_
      refine ev_gd (c1 := (25, [.ref 63, .int x1], [.int (S 64 x1.toNatClampNeg), .int x1, .ref 65], S, 0)) hf rfl rfl (fun hf => ?_)
      refine ev_gd (c1 := (26, [.ref 63, .int x1], [], (upS S 65 x1.toNatClampNeg (S 64 x1.toNatClampNeg)), 0)) hf rfl rfl (fun hf => ?_)
      refine ev_let (P := fun S3 => Ev (d) Mx158 (26, [.ref 63, .int x1], [], S3, 0) r) (fun S3 hf => ?_) hf
      exact ev_sts 2 (c2 := (7, [.ref 63, .int (x1 + (1 : Int32))], [], S3, 0)) rfl (ih hf)
theorem f_X10_image_ok {d F : Nat} {S : mS} {r : mR} (hf : f_X10_image F S = some r) : Ev (d) Mx158 (entry Mx158 [.ref 63] S) r := by
  unfold f_X10_image at hf
  refine ev_sts 3 (c2 := (5, [.ref 63, mK], [], (upS S 63 0 ((0 : Int32))), 0)) rfl ?_
  refine ev_let (P := fun S1 => Ev (d) Mx158 (5, [.ref 63, mK], [], S1, 0) r) (fun S1 hf => ?_) hf
  exact ev_sts 2 (c2 := (7, [.ref 63, .int ((0 : Int32))], [], S1, 0)) rfl (f_X10_image_b7_ok _ hf)
def f_X10_readClimber (F : Nat) (S : mS) : Option mR := bI0 (f_X10_climbers S) (fun r2 S1 => (if ¬ r2 = ((4 : Int32)) then bI0 (f_X10_number F ((1 : Int32)) ((20 : Int32)) S1) (fun r4 S3 => (if 0 ≤ r4 then bI0 (f_X10_climbers S3) (fun r6 S5 => gd (inb ((((79 : Int32)) + (((2 : Int32)) * r6)) + ((0 : Int32))) 2145) (bnd (upS S5 64 ((((79 : Int32)) + (((2 : Int32)) * r6)) + ((0 : Int32))).toNatClampNeg r4) (fun S7 => bI0 (f_X10_climbers S7) (fun r9 S8 => gd (inb ((((79 : Int32)) + (((2 : Int32)) * r9)) + ((1 : Int32))) 2145) (bnd (upS S8 64 ((((79 : Int32)) + (((2 : Int32)) * r9)) + ((1 : Int32))).toNatClampNeg ((0 : Int32))) (fun S10 => gd (inb ((2 : Int32)) 2145) (gd (inb ((2 : Int32)) 2145) (bnd (upS S10 64 ((2 : Int32)).toNatClampNeg ((S10 64 ((2 : Int32)).toNatClampNeg) + ((1 : Int32)))) (fun S11 => some (.inl (some (.int (((1 : Int32)) &&& 1))), S11)))))))))) else some (.inl (some (.int (((0 : Int32)) &&& 1))), S3))) else some (.inl (some (.int (((0 : Int32)) &&& 1))), S1)))
theorem f_X10_readClimber_ok {d F : Nat} {S : mS} {r : mR} (hf : f_X10_readClimber F S = some r) : Ev (d + 3) Mx189 (entry Mx189 [.ref 63] S) r := by
  unfold f_X10_readClimber at hf
  refine ev_sts 1 (c2 := (1, [.ref 63, mK], [.ref 63], S, 0)) rfl ?_
  refine ev_bI0 (d := d + 2) (M' := Mx164) (ct := (4, [.ref 63, mK], [], S, 0)) hf rfl rfl rfl rfl (fun r9 h9 => f_X10_climbers_ok (d := d + 2) h9) (fun r2 S1 hf => ?_)
  show Ev (d + 3) Mx189 (4, [.ref 63, mK], [.int r2], S1, 0) r
  refine ev_sts 1 (c2 := (5, [.ref 63, mK], [.int ((4 : Int32)), .int r2], S1, 0)) rfl ?_
  refine ev_if (c1 := (10, [.ref 63, mK], [], S1, 0)) (c2 := (8, [.ref 63, mK], [], S1, 0)) hf rfl rfl (fun _ hf => ?_) (fun _ hf => ?_)
  · refine ev_sts 3 (c2 := (14, [.ref 63, mK], [.int ((20 : Int32)), .int ((1 : Int32)), .ref 63], S1, 0)) rfl ?_
    refine ev_bI0 (d := d + 2) (M' := Mx182) (ct := (17, [.ref 63, mK], [], S1, 0)) hf rfl rfl rfl rfl (fun r9 h9 => f_X10_number_ok (d := d) h9) (fun r4 S3 hf => ?_)
    show Ev (d + 3) Mx189 (17, [.ref 63, mK], [.int r4], S3, 0) r
    refine ev_sts 2 (c2 := (19, [.ref 63, .int r4], [.int r4], S3, 0)) rfl ?_
    refine ev_if (c1 := (24, [.ref 63, .int r4], [], S3, 0)) (c2 := (22, [.ref 63, .int r4], [], S3, 0)) hf rfl rfl (fun _ hf => ?_) (fun _ hf => ?_)
    · refine ev_sts 5 (c2 := (32, [.ref 63, .int r4], [.ref 63, .int ((2 : Int32)), .int ((79 : Int32)), .ref 64], S3, 0)) rfl ?_
      refine ev_bI0 (d := d + 2) (M' := Mx164) (ct := (35, [.ref 63, .int r4], [.int ((2 : Int32)), .int ((79 : Int32)), .ref 64], S3, 0)) hf rfl rfl rfl rfl (fun r9 h9 => f_X10_climbers_ok (d := d + 2) h9) (fun r6 S5 hf => ?_)
      show Ev (d + 3) Mx189 (35, [.ref 63, .int r4], [.int r6, .int ((2 : Int32)), .int ((79 : Int32)), .ref 64], S5, 0) r
      refine ev_sts 5 (c2 := (40, [.ref 63, .int r4], [.int r4, .int ((((79 : Int32)) + (((2 : Int32)) * r6)) + ((0 : Int32))), .ref 64], S5, 0)) rfl ?_
      refine ev_gd (c1 := (41, [.ref 63, .int r4], [], (upS S5 64 ((((79 : Int32)) + (((2 : Int32)) * r6)) + ((0 : Int32))).toNatClampNeg r4), 0)) hf rfl rfl (fun hf => ?_)
      refine ev_let (P := fun S7 => Ev (d + 3) Mx189 (41, [.ref 63, .int r4], [], S7, 0) r) (fun S7 hf => ?_) hf
      refine ev_sts 5 (c2 := (49, [.ref 63, .int r4], [.ref 63, .int ((2 : Int32)), .int ((79 : Int32)), .ref 64], S7, 0)) rfl ?_
      refine ev_bI0 (d := d + 2) (M' := Mx164) (ct := (52, [.ref 63, .int r4], [.int ((2 : Int32)), .int ((79 : Int32)), .ref 64], S7, 0)) hf rfl rfl rfl rfl (fun r9 h9 => f_X10_climbers_ok (d := d + 2) h9) (fun r9 S8 hf => ?_)
      show Ev (d + 3) Mx189 (52, [.ref 63, .int r4], [.int r9, .int ((2 : Int32)), .int ((79 : Int32)), .ref 64], S8, 0) r
      refine ev_sts 5 (c2 := (57, [.ref 63, .int r4], [.int ((0 : Int32)), .int ((((79 : Int32)) + (((2 : Int32)) * r9)) + ((1 : Int32))), .ref 64], S8, 0)) rfl ?_
      refine ev_gd (c1 := (58, [.ref 63, .int r4], [], (upS S8 64 ((((79 : Int32)) + (((2 : Int32)) * r9)) + ((1 : Int32))).toNatClampNeg ((0 : Int32))), 0)) hf rfl rfl (fun hf => ?_)
      refine ev_let (P := fun S10 => Ev (d + 3) Mx189 (58, [.ref 63, .int r4], [], S10, 0) r) (fun S10 hf => ?_) hf
      refine ev_sts 4 (c2 := (64, [.ref 63, .int r4], [.int ((2 : Int32)), .ref 64, .int ((2 : Int32)), .ref 64], S10, 0)) rfl ?_
      refine ev_gd (c1 := (65, [.ref 63, .int r4], [.int (S10 64 ((2 : Int32)).toNatClampNeg), .int ((2 : Int32)), .ref 64], S10, 0)) hf rfl rfl (fun hf => ?_)
      refine ev_sts 2 (c2 := (67, [.ref 63, .int r4], [.int ((S10 64 ((2 : Int32)).toNatClampNeg) + ((1 : Int32))), .int ((2 : Int32)), .ref 64], S10, 0)) rfl ?_
      refine ev_gd (c1 := (68, [.ref 63, .int r4], [], (upS S10 64 ((2 : Int32)).toNatClampNeg ((S10 64 ((2 : Int32)).toNatClampNeg) + ((1 : Int32)))), 0)) hf rfl rfl (fun hf => ?_)
      refine ev_let (P := fun S11 => Ev (d + 3) Mx189 (68, [.ref 63, .int r4], [], S11, 0) r) (fun S11 hf => ?_) hf
      refine ev_sts 1 (c2 := (69, [.ref 63, .int r4], [.int ((1 : Int32))], S11, 0)) rfl ?_
      exact ev_ret hf rfl rfl
    · refine ev_sts 1 (c2 := (23, [.ref 63, .int r4], [.int ((0 : Int32))], S3, 0)) rfl ?_
      exact ev_ret hf rfl rfl
  · refine ev_sts 1 (c2 := (9, [.ref 63, mK], [.int ((0 : Int32))], S1, 0)) rfl ?_
    exact ev_ret hf rfl rfl
def f_X10_readHolder (F : Nat) (S : mS) : Option mR := bI0 (f_X10_holders S) (fun r2 S1 => (if ¬ r2 = ((6 : Int32)) then bI0 (f_X10_number F ((1 : Int32)) ((9 : Int32)) S1) (fun r4 S3 => (if 0 ≤ r4 then bI0 (f_X10_holders S3) (fun r6 S5 => gd (inb ((((67 : Int32)) + (((2 : Int32)) * r6)) + ((0 : Int32))) 2145) (bnd (upS S5 64 ((((67 : Int32)) + (((2 : Int32)) * r6)) + ((0 : Int32))).toNatClampNeg r4) (fun S7 => bI0 (f_X10_holders S7) (fun r9 S8 => gd (inb ((((67 : Int32)) + (((2 : Int32)) * r9)) + ((1 : Int32))) 2145) (bnd (upS S8 64 ((((67 : Int32)) + (((2 : Int32)) * r9)) + ((1 : Int32))).toNatClampNeg ((0 : Int32))) (fun S10 => gd (inb ((1 : Int32)) 2145) (gd (inb ((1 : Int32)) 2145) (bnd (upS S10 64 ((1 : Int32)).toNatClampNeg ((S10 64 ((1 : Int32)).toNatClampNeg) + ((1 : Int32)))) (fun S11 => some (.inl (some (.int (((1 : Int32)) &&& 1))), S11)))))))))) else some (.inl (some (.int (((0 : Int32)) &&& 1))), S3))) else some (.inl (some (.int (((0 : Int32)) &&& 1))), S1)))
theorem f_X10_readHolder_ok {d F : Nat} {S : mS} {r : mR} (hf : f_X10_readHolder F S = some r) : Ev (d + 3) Mx188 (entry Mx188 [.ref 63] S) r := by
  unfold f_X10_readHolder at hf
  refine ev_sts 1 (c2 := (1, [.ref 63, mK], [.ref 63], S, 0)) rfl ?_
  refine ev_bI0 (d := d + 2) (M' := Mx163) (ct := (4, [.ref 63, mK], [], S, 0)) hf rfl rfl rfl rfl (fun r9 h9 => f_X10_holders_ok (d := d + 2) h9) (fun r2 S1 hf => ?_)
  show Ev (d + 3) Mx188 (4, [.ref 63, mK], [.int r2], S1, 0) r
  refine ev_sts 1 (c2 := (6, [.ref 63, mK], [.int ((6 : Int32)), .int r2], S1, 0)) rfl ?_
  refine ev_if (c1 := (11, [.ref 63, mK], [], S1, 0)) (c2 := (9, [.ref 63, mK], [], S1, 0)) hf rfl rfl (fun _ hf => ?_) (fun _ hf => ?_)
  · refine ev_sts 3 (c2 := (15, [.ref 63, mK], [.int ((9 : Int32)), .int ((1 : Int32)), .ref 63], S1, 0)) rfl ?_
    refine ev_bI0 (d := d + 2) (M' := Mx182) (ct := (18, [.ref 63, mK], [], S1, 0)) hf rfl rfl rfl rfl (fun r9 h9 => f_X10_number_ok (d := d) h9) (fun r4 S3 hf => ?_)
    show Ev (d + 3) Mx188 (18, [.ref 63, mK], [.int r4], S3, 0) r
    refine ev_sts 2 (c2 := (20, [.ref 63, .int r4], [.int r4], S3, 0)) rfl ?_
    refine ev_if (c1 := (25, [.ref 63, .int r4], [], S3, 0)) (c2 := (23, [.ref 63, .int r4], [], S3, 0)) hf rfl rfl (fun _ hf => ?_) (fun _ hf => ?_)
    · refine ev_sts 5 (c2 := (33, [.ref 63, .int r4], [.ref 63, .int ((2 : Int32)), .int ((67 : Int32)), .ref 64], S3, 0)) rfl ?_
      refine ev_bI0 (d := d + 2) (M' := Mx163) (ct := (36, [.ref 63, .int r4], [.int ((2 : Int32)), .int ((67 : Int32)), .ref 64], S3, 0)) hf rfl rfl rfl rfl (fun r9 h9 => f_X10_holders_ok (d := d + 2) h9) (fun r6 S5 hf => ?_)
      show Ev (d + 3) Mx188 (36, [.ref 63, .int r4], [.int r6, .int ((2 : Int32)), .int ((67 : Int32)), .ref 64], S5, 0) r
      refine ev_sts 5 (c2 := (41, [.ref 63, .int r4], [.int r4, .int ((((67 : Int32)) + (((2 : Int32)) * r6)) + ((0 : Int32))), .ref 64], S5, 0)) rfl ?_
      refine ev_gd (c1 := (42, [.ref 63, .int r4], [], (upS S5 64 ((((67 : Int32)) + (((2 : Int32)) * r6)) + ((0 : Int32))).toNatClampNeg r4), 0)) hf rfl rfl (fun hf => ?_)
      refine ev_let (P := fun S7 => Ev (d + 3) Mx188 (42, [.ref 63, .int r4], [], S7, 0) r) (fun S7 hf => ?_) hf
      refine ev_sts 5 (c2 := (50, [.ref 63, .int r4], [.ref 63, .int ((2 : Int32)), .int ((67 : Int32)), .ref 64], S7, 0)) rfl ?_
      refine ev_bI0 (d := d + 2) (M' := Mx163) (ct := (53, [.ref 63, .int r4], [.int ((2 : Int32)), .int ((67 : Int32)), .ref 64], S7, 0)) hf rfl rfl rfl rfl (fun r9 h9 => f_X10_holders_ok (d := d + 2) h9) (fun r9 S8 hf => ?_)
      show Ev (d + 3) Mx188 (53, [.ref 63, .int r4], [.int r9, .int ((2 : Int32)), .int ((67 : Int32)), .ref 64], S8, 0) r
      refine ev_sts 5 (c2 := (58, [.ref 63, .int r4], [.int ((0 : Int32)), .int ((((67 : Int32)) + (((2 : Int32)) * r9)) + ((1 : Int32))), .ref 64], S8, 0)) rfl ?_
      refine ev_gd (c1 := (59, [.ref 63, .int r4], [], (upS S8 64 ((((67 : Int32)) + (((2 : Int32)) * r9)) + ((1 : Int32))).toNatClampNeg ((0 : Int32))), 0)) hf rfl rfl (fun hf => ?_)
      refine ev_let (P := fun S10 => Ev (d + 3) Mx188 (59, [.ref 63, .int r4], [], S10, 0) r) (fun S10 hf => ?_) hf
      refine ev_sts 4 (c2 := (65, [.ref 63, .int r4], [.int ((1 : Int32)), .ref 64, .int ((1 : Int32)), .ref 64], S10, 0)) rfl ?_
      refine ev_gd (c1 := (66, [.ref 63, .int r4], [.int (S10 64 ((1 : Int32)).toNatClampNeg), .int ((1 : Int32)), .ref 64], S10, 0)) hf rfl rfl (fun hf => ?_)
      refine ev_sts 2 (c2 := (68, [.ref 63, .int r4], [.int ((S10 64 ((1 : Int32)).toNatClampNeg) + ((1 : Int32))), .int ((1 : Int32)), .ref 64], S10, 0)) rfl ?_
      refine ev_gd (c1 := (69, [.ref 63, .int r4], [], (upS S10 64 ((1 : Int32)).toNatClampNeg ((S10 64 ((1 : Int32)).toNatClampNeg) + ((1 : Int32)))), 0)) hf rfl rfl (fun hf => ?_)
      refine ev_let (P := fun S11 => Ev (d + 3) Mx188 (69, [.ref 63, .int r4], [], S11, 0) r) (fun S11 hf => ?_) hf
      refine ev_sts 1 (c2 := (70, [.ref 63, .int r4], [.int ((1 : Int32))], S11, 0)) rfl ?_
      exact ev_ret hf rfl rfl
    · refine ev_sts 1 (c2 := (24, [.ref 63, .int r4], [.int ((0 : Int32))], S3, 0)) rfl ?_
      exact ev_ret hf rfl rfl
  · refine ev_sts 1 (c2 := (10, [.ref 63, mK], [.int ((0 : Int32))], S1, 0)) rfl ?_
    exact ev_ret hf rfl rfl
def f_X10_readLedge_b159 (F : Nat) (x1 : Int32) (x6 : Int32) (t2 : Int32) (t1 : Int32) (S : mS) : Option mR := gd (inb t1 2145) (bnd (upS S 64 t1.toNatClampNeg t2) (fun S24 => bI0 (f_X10_at x1 ((4 : Int32)) S24) (fun r26 S25 => gd (inb r26 2145) (bnd (upS S25 64 r26.toNatClampNeg x6) (fun S27 => gd (inb ((0 : Int32)) 2145) (gd (inb ((0 : Int32)) 2145) (bnd (upS S27 64 ((0 : Int32)).toNatClampNeg ((S27 64 ((0 : Int32)).toNatClampNeg) + ((1 : Int32)))) (fun S28 => some (.inl (some (.int (((1 : Int32)) &&& 1))), S28)))))))))
def f_X10_readLedge_b96 (F : Nat) (x1 : Int32) (x2 : Int32) (x3 : Int32) (x4 : Int32) (x5 : Int32) (t0 : Int32) (S : mS) : Option mR := (if 0 ≤ t0 then bI0 (f_X10_at x1 ((0 : Int32)) S) (fun r14 S13 => gd (inb r14 2145) (bnd (upS S13 64 r14.toNatClampNeg x2) (fun S15 => bI0 (f_X10_at x1 ((1 : Int32)) S15) (fun r17 S16 => gd (inb r17 2145) (bnd (upS S16 64 r17.toNatClampNeg x3) (fun S18 => bI0 (f_X10_at x1 ((2 : Int32)) S18) (fun r20 S19 => gd (inb r20 2145) (bnd (upS S19 64 r20.toNatClampNeg x4) (fun S21 => bI0 (f_X10_at x1 ((3 : Int32)) S21) (fun r23 S22 => (if ¬ x4 = 0 then f_X10_readLedge_b159 F x1 t0 x5 r23 S22 else f_X10_readLedge_b159 F x1 t0 ((0 : Int32)) r23 S22))))))))))) else some (.inl (some (.int (((0 : Int32)) &&& 1))), S))
def f_X10_readLedge_b76 (F : Nat) (x1 : Int32) (x2 : Int32) (x3 : Int32) (x4 : Int32) (t0 : Int32) (S : mS) : Option mR := (if 0 ≤ t0 then bI0 (f_X10_after F 4 ((0 : Int32)) ((9 : Int32)) S) (fun r12 S11 => f_X10_readLedge_b96 F x1 x2 x3 x4 t0 r12 S11) else f_X10_readLedge_b96 F x1 x2 x3 x4 t0 ((-1 : Int32)) S)
def f_X10_readLedge_b56 (F : Nat) (x1 : Int32) (x2 : Int32) (x3 : Int32) (t0 : Int32) (S : mS) : Option mR := (if 0 ≤ t0 then bI0 (f_X10_after F 3 ((0 : Int32)) ((99 : Int32)) S) (fun r10 S9 => f_X10_readLedge_b76 F x1 x2 x3 t0 r10 S9) else f_X10_readLedge_b76 F x1 x2 x3 t0 ((-1 : Int32)) S)
def f_X10_readLedge_b38 (F : Nat) (x1 : Int32) (x2 : Int32) (t0 : Int32) (S : mS) : Option mR := (if 0 ≤ t0 then bI0 (f_X10_after F 2 ((0 : Int32)) ((20 : Int32)) S) (fun r8 S7 => f_X10_readLedge_b56 F x1 x2 t0 r8 S7) else f_X10_readLedge_b56 F x1 x2 t0 ((-1 : Int32)) S)
def f_X10_readLedge (F : Nat) (S : mS) : Option mR := bI0 (f_X10_ledges S) (fun r2 S1 => (if ¬ r2 = ((10 : Int32)) then bI0 (f_X10_number F ((1 : Int32)) ((40 : Int32)) S1) (fun r4 S3 => (if 0 ≤ r4 then bI0 (f_X10_after F 1 ((0 : Int32)) ((30 : Int32)) S3) (fun r6 S5 => f_X10_readLedge_b38 F r2 r4 r6 S5) else f_X10_readLedge_b38 F r2 r4 ((-1 : Int32)) S3)) else some (.inl (some (.int (((0 : Int32)) &&& 1))), S1)))
theorem f_X10_readLedge_b159_ok {d F : Nat} {x1 : Int32} {x6 : Int32} {t2 : Int32} {t1 : Int32} {S : mS} {r : mR} (hf : f_X10_readLedge_b159 F x1 x6 t2 t1 S = some r) : Ev (d + 4) Mx186 (159, [.ref 63, .int x1, mK, mK, mK, mK, .int x6], [.int t2, .int t1, .ref 64], S, 0) r := by
  unfold f_X10_readLedge_b159 at hf
  refine ev_gd (c1 := (160, [.ref 63, .int x1, mK, mK, mK, mK, .int x6], [], (upS S 64 t1.toNatClampNeg t2), 0)) hf rfl rfl (fun hf => ?_)
  refine ev_let (P := fun S24 => Ev (d + 4) Mx186 (160, [.ref 63, .int x1, mK, mK, mK, mK, .int x6], [], S24, 0) r) (fun S24 hf => ?_) hf
  refine ev_sts 4 (c2 := (166, [.ref 63, .int x1, mK, mK, mK, mK, .int x6], [.int ((4 : Int32)), .int x1, .ref 64], S24, 0)) rfl ?_
  refine ev_bI0 (d := d + 3) (M' := Mx165) (ct := (169, [.ref 63, .int x1, mK, mK, mK, mK, .int x6], [.ref 64], S24, 0)) hf rfl rfl rfl rfl (fun r9 h9 => f_X10_at_ok (d := d + 3) h9) (fun r26 S25 hf => ?_)
  show Ev (d + 4) Mx186 (169, [.ref 63, .int x1, mK, mK, mK, mK, .int x6], [.int r26, .ref 64], S25, 0) r
  refine ev_sts 1 (c2 := (171, [.ref 63, .int x1, mK, mK, mK, mK, .int x6], [.int x6, .int r26, .ref 64], S25, 0)) rfl ?_
  refine ev_gd (c1 := (172, [.ref 63, .int x1, mK, mK, mK, mK, .int x6], [], (upS S25 64 r26.toNatClampNeg x6), 0)) hf rfl rfl (fun hf => ?_)
  refine ev_let (P := fun S27 => Ev (d + 4) Mx186 (172, [.ref 63, .int x1, mK, mK, mK, mK, .int x6], [], S27, 0) r) (fun S27 hf => ?_) hf
  refine ev_sts 4 (c2 := (178, [.ref 63, .int x1, mK, mK, mK, mK, .int x6], [.int ((0 : Int32)), .ref 64, .int ((0 : Int32)), .ref 64], S27, 0)) rfl ?_
  refine ev_gd (c1 := (179, [.ref 63, .int x1, mK, mK, mK, mK, .int x6], [.int (S27 64 ((0 : Int32)).toNatClampNeg), .int ((0 : Int32)), .ref 64], S27, 0)) hf rfl rfl (fun hf => ?_)
  refine ev_sts 2 (c2 := (181, [.ref 63, .int x1, mK, mK, mK, mK, .int x6], [.int ((S27 64 ((0 : Int32)).toNatClampNeg) + ((1 : Int32))), .int ((0 : Int32)), .ref 64], S27, 0)) rfl ?_
  refine ev_gd (c1 := (182, [.ref 63, .int x1, mK, mK, mK, mK, .int x6], [], (upS S27 64 ((0 : Int32)).toNatClampNeg ((S27 64 ((0 : Int32)).toNatClampNeg) + ((1 : Int32)))), 0)) hf rfl rfl (fun hf => ?_)
  refine ev_let (P := fun S28 => Ev (d + 4) Mx186 (182, [.ref 63, .int x1, mK, mK, mK, mK, .int x6], [], S28, 0) r) (fun S28 hf => ?_) hf
  refine ev_sts 1 (c2 := (183, [.ref 63, .int x1, mK, mK, mK, mK, .int x6], [.int ((1 : Int32))], S28, 0)) rfl ?_
  exact ev_ret hf rfl rfl
theorem f_X10_readLedge_b96_ok {d F : Nat} {x1 : Int32} {x2 : Int32} {x3 : Int32} {x4 : Int32} {x5 : Int32} {t0 : Int32} {S : mS} {r : mR} (hf : f_X10_readLedge_b96 F x1 x2 x3 x4 x5 t0 S = some r) : Ev (d + 4) Mx186 (96, [.ref 63, .int x1, .int x2, .int x3, .int x4, .int x5, mK], [.int t0], S, 0) r := by
  unfold f_X10_readLedge_b96 at hf
  refine ev_sts 2 (c2 := (100, [.ref 63, .int x1, .int x2, .int x3, .int x4, .int x5, .int t0], [.int t0], S, 0)) rfl ?_
  refine ev_if (c1 := (105, [.ref 63, .int x1, .int x2, .int x3, .int x4, .int x5, .int t0], [], S, 0)) (c2 := (103, [.ref 63, .int x1, .int x2, .int x3, .int x4, .int x5, .int t0], [], S, 0)) hf rfl rfl (fun _ hf => ?_) (fun _ hf => ?_)
  · refine ev_sts 4 (c2 := (111, [.ref 63, .int x1, .int x2, .int x3, .int x4, .int x5, .int t0], [.int ((0 : Int32)), .int x1, .ref 64], S, 0)) rfl ?_
    refine ev_bI0 (d := d + 3) (M' := Mx165) (ct := (114, [.ref 63, .int x1, .int x2, .int x3, .int x4, .int x5, .int t0], [.ref 64], S, 0)) hf rfl rfl rfl rfl (fun r9 h9 => f_X10_at_ok (d := d + 3) h9) (fun r14 S13 hf => ?_)
    show Ev (d + 4) Mx186 (114, [.ref 63, .int x1, .int x2, .int x3, .int x4, .int x5, .int t0], [.int r14, .ref 64], S13, 0) r
    refine ev_sts 1 (c2 := (115, [.ref 63, .int x1, .int x2, .int x3, .int x4, .int x5, .int t0], [.int x2, .int r14, .ref 64], S13, 0)) rfl ?_
    refine ev_gd (c1 := (116, [.ref 63, .int x1, .int x2, .int x3, .int x4, .int x5, .int t0], [], (upS S13 64 r14.toNatClampNeg x2), 0)) hf rfl rfl (fun hf => ?_)
    refine ev_let (P := fun S15 => Ev (d + 4) Mx186 (116, [.ref 63, .int x1, .int x2, .int x3, .int x4, .int x5, .int t0], [], S15, 0) r) (fun S15 hf => ?_) hf
    refine ev_sts 4 (c2 := (122, [.ref 63, .int x1, .int x2, .int x3, .int x4, .int x5, .int t0], [.int ((1 : Int32)), .int x1, .ref 64], S15, 0)) rfl ?_
    refine ev_bI0 (d := d + 3) (M' := Mx165) (ct := (125, [.ref 63, .int x1, .int x2, .int x3, .int x4, .int x5, .int t0], [.ref 64], S15, 0)) hf rfl rfl rfl rfl (fun r9 h9 => f_X10_at_ok (d := d + 3) h9) (fun r17 S16 hf => ?_)
    show Ev (d + 4) Mx186 (125, [.ref 63, .int x1, .int x2, .int x3, .int x4, .int x5, .int t0], [.int r17, .ref 64], S16, 0) r
    refine ev_sts 1 (c2 := (126, [.ref 63, .int x1, .int x2, .int x3, .int x4, .int x5, .int t0], [.int x3, .int r17, .ref 64], S16, 0)) rfl ?_
    refine ev_gd (c1 := (127, [.ref 63, .int x1, .int x2, .int x3, .int x4, .int x5, .int t0], [], (upS S16 64 r17.toNatClampNeg x3), 0)) hf rfl rfl (fun hf => ?_)
    refine ev_let (P := fun S18 => Ev (d + 4) Mx186 (127, [.ref 63, .int x1, .int x2, .int x3, .int x4, .int x5, .int t0], [], S18, 0) r) (fun S18 hf => ?_) hf
    refine ev_sts 4 (c2 := (133, [.ref 63, .int x1, .int x2, .int x3, .int x4, .int x5, .int t0], [.int ((2 : Int32)), .int x1, .ref 64], S18, 0)) rfl ?_
    refine ev_bI0 (d := d + 3) (M' := Mx165) (ct := (136, [.ref 63, .int x1, .int x2, .int x3, .int x4, .int x5, .int t0], [.ref 64], S18, 0)) hf rfl rfl rfl rfl (fun r9 h9 => f_X10_at_ok (d := d + 3) h9) (fun r20 S19 hf => ?_)
    show Ev (d + 4) Mx186 (136, [.ref 63, .int x1, .int x2, .int x3, .int x4, .int x5, .int t0], [.int r20, .ref 64], S19, 0) r
    refine ev_sts 1 (c2 := (138, [.ref 63, .int x1, .int x2, .int x3, .int x4, .int x5, .int t0], [.int x4, .int r20, .ref 64], S19, 0)) rfl ?_
    refine ev_gd (c1 := (139, [.ref 63, .int x1, .int x2, .int x3, .int x4, .int x5, .int t0], [], (upS S19 64 r20.toNatClampNeg x4), 0)) hf rfl rfl (fun hf => ?_)
    refine ev_let (P := fun S21 => Ev (d + 4) Mx186 (139, [.ref 63, .int x1, .int x2, .int x3, .int x4, .int x5, .int t0], [], S21, 0) r) (fun S21 hf => ?_) hf
    refine ev_sts 4 (c2 := (145, [.ref 63, .int x1, .int x2, .int x3, .int x4, .int x5, .int t0], [.int ((3 : Int32)), .int x1, .ref 64], S21, 0)) rfl ?_
    refine ev_bI0 (d := d + 3) (M' := Mx165) (ct := (148, [.ref 63, .int x1, .int x2, .int x3, .int x4, .int x5, .int t0], [.ref 64], S21, 0)) hf rfl rfl rfl rfl (fun r9 h9 => f_X10_at_ok (d := d + 3) h9) (fun r23 S22 hf => ?_)
    show Ev (d + 4) Mx186 (148, [.ref 63, .int x1, .int x2, .int x3, .int x4, .int x5, .int t0], [.int r23, .ref 64], S22, 0) r
    refine ev_sts 1 (c2 := (150, [.ref 63, .int x1, .int x2, .int x3, .int x4, .int x5, .int t0], [.int x4, .int r23, .ref 64], S22, 0)) rfl ?_
    refine ev_if (c1 := (157, [.ref 63, .int x1, .int x2, .int x3, .int x4, .int x5, .int t0], [.int r23, .ref 64], S22, 0)) (c2 := (153, [.ref 63, .int x1, .int x2, .int x3, .int x4, .int x5, .int t0], [.int r23, .ref 64], S22, 0)) hf rfl rfl (fun _ hf => ?_) (fun _ hf => ?_)
    · exact ev_sts 1 (c2 := (159, [.ref 63, .int x1, mK, mK, mK, mK, .int t0], [.int x5, .int r23, .ref 64], S22, 0)) rfl (f_X10_readLedge_b159_ok hf)
    · exact ev_sts 2 (c2 := (159, [.ref 63, .int x1, mK, mK, mK, mK, .int t0], [.int ((0 : Int32)), .int r23, .ref 64], S22, 0)) rfl (f_X10_readLedge_b159_ok hf)
  · refine ev_sts 1 (c2 := (104, [.ref 63, .int x1, .int x2, .int x3, .int x4, .int x5, .int t0], [.int ((0 : Int32))], S, 0)) rfl ?_
    exact ev_ret hf rfl rfl
theorem f_X10_readLedge_b76_ok {d F : Nat} {x1 : Int32} {x2 : Int32} {x3 : Int32} {x4 : Int32} {t0 : Int32} {S : mS} {r : mR} (hf : f_X10_readLedge_b76 F x1 x2 x3 x4 t0 S = some r) : Ev (d + 4) Mx186 (76, [.ref 63, .int x1, .int x2, .int x3, .int x4, mK, mK], [.int t0], S, 0) r := by
  unfold f_X10_readLedge_b76 at hf
  refine ev_sts 2 (c2 := (80, [.ref 63, .int x1, .int x2, .int x3, .int x4, .int t0, mK], [.int t0], S, 0)) rfl ?_
  refine ev_if (c1 := (87, [.ref 63, .int x1, .int x2, .int x3, .int x4, .int t0, mK], [], S, 0)) (c2 := (83, [.ref 63, .int x1, .int x2, .int x3, .int x4, .int t0, mK], [], S, 0)) hf rfl rfl (fun _ hf => ?_) (fun _ hf => ?_)
  · refine ev_sts 4 (c2 := (93, [.ref 63, .int x1, .int x2, .int x3, .int x4, .int t0, mK], [.int ((9 : Int32)), .int ((0 : Int32)), .ref 1004, .ref 63], S, 0)) rfl ?_
    refine ev_bI0 (d := d + 3) (M' := Mx183) (ct := (96, [.ref 63, .int x1, .int x2, .int x3, .int x4, .int t0, mK], [], S, 0)) hf rfl rfl rfl rfl (fun r9 h9 => f_X10_after_ok_1004 (d := d) h9) (fun r12 S11 hf => ?_)
    show Ev (d + 4) Mx186 (96, [.ref 63, .int x1, .int x2, .int x3, .int x4, .int t0, mK], [.int r12], S11, 0) r
    exact f_X10_readLedge_b96_ok hf
  · exact ev_sts 2 (c2 := (96, [.ref 63, .int x1, .int x2, .int x3, .int x4, .int t0, mK], [.int ((-1 : Int32))], S, 0)) rfl (f_X10_readLedge_b96_ok hf)
theorem f_X10_readLedge_b56_ok {d F : Nat} {x1 : Int32} {x2 : Int32} {x3 : Int32} {t0 : Int32} {S : mS} {r : mR} (hf : f_X10_readLedge_b56 F x1 x2 x3 t0 S = some r) : Ev (d + 4) Mx186 (56, [.ref 63, .int x1, .int x2, .int x3, mK, mK, mK], [.int t0], S, 0) r := by
  unfold f_X10_readLedge_b56 at hf
  refine ev_sts 2 (c2 := (60, [.ref 63, .int x1, .int x2, .int x3, .int t0, mK, mK], [.int t0], S, 0)) rfl ?_
  refine ev_if (c1 := (67, [.ref 63, .int x1, .int x2, .int x3, .int t0, mK, mK], [], S, 0)) (c2 := (63, [.ref 63, .int x1, .int x2, .int x3, .int t0, mK, mK], [], S, 0)) hf rfl rfl (fun _ hf => ?_) (fun _ hf => ?_)
  · refine ev_sts 4 (c2 := (73, [.ref 63, .int x1, .int x2, .int x3, .int t0, mK, mK], [.int ((99 : Int32)), .int ((0 : Int32)), .ref 1003, .ref 63], S, 0)) rfl ?_
    refine ev_bI0 (d := d + 3) (M' := Mx183) (ct := (76, [.ref 63, .int x1, .int x2, .int x3, .int t0, mK, mK], [], S, 0)) hf rfl rfl rfl rfl (fun r9 h9 => f_X10_after_ok_1003 (d := d) h9) (fun r10 S9 hf => ?_)
    show Ev (d + 4) Mx186 (76, [.ref 63, .int x1, .int x2, .int x3, .int t0, mK, mK], [.int r10], S9, 0) r
    exact f_X10_readLedge_b76_ok hf
  · exact ev_sts 2 (c2 := (76, [.ref 63, .int x1, .int x2, .int x3, .int t0, mK, mK], [.int ((-1 : Int32))], S, 0)) rfl (f_X10_readLedge_b76_ok hf)
theorem f_X10_readLedge_b38_ok {d F : Nat} {x1 : Int32} {x2 : Int32} {t0 : Int32} {S : mS} {r : mR} (hf : f_X10_readLedge_b38 F x1 x2 t0 S = some r) : Ev (d + 4) Mx186 (38, [.ref 63, .int x1, .int x2, mK, mK, mK, mK], [.int t0], S, 0) r := by
  unfold f_X10_readLedge_b38 at hf
  refine ev_sts 2 (c2 := (40, [.ref 63, .int x1, .int x2, .int t0, mK, mK, mK], [.int t0], S, 0)) rfl ?_
  refine ev_if (c1 := (47, [.ref 63, .int x1, .int x2, .int t0, mK, mK, mK], [], S, 0)) (c2 := (43, [.ref 63, .int x1, .int x2, .int t0, mK, mK, mK], [], S, 0)) hf rfl rfl (fun _ hf => ?_) (fun _ hf => ?_)
  · refine ev_sts 4 (c2 := (53, [.ref 63, .int x1, .int x2, .int t0, mK, mK, mK], [.int ((20 : Int32)), .int ((0 : Int32)), .ref 1002, .ref 63], S, 0)) rfl ?_
    refine ev_bI0 (d := d + 3) (M' := Mx183) (ct := (56, [.ref 63, .int x1, .int x2, .int t0, mK, mK, mK], [], S, 0)) hf rfl rfl rfl rfl (fun r9 h9 => f_X10_after_ok_1002 (d := d) h9) (fun r8 S7 hf => ?_)
    show Ev (d + 4) Mx186 (56, [.ref 63, .int x1, .int x2, .int t0, mK, mK, mK], [.int r8], S7, 0) r
    exact f_X10_readLedge_b56_ok hf
  · exact ev_sts 2 (c2 := (56, [.ref 63, .int x1, .int x2, .int t0, mK, mK, mK], [.int ((-1 : Int32))], S, 0)) rfl (f_X10_readLedge_b56_ok hf)
theorem f_X10_readLedge_ok {d F : Nat} {S : mS} {r : mR} (hf : f_X10_readLedge F S = some r) : Ev (d + 4) Mx186 (entry Mx186 [.ref 63] S) r := by
  unfold f_X10_readLedge at hf
  refine ev_sts 1 (c2 := (1, [.ref 63, mK, mK, mK, mK, mK, mK], [.ref 63], S, 0)) rfl ?_
  refine ev_bI0 (d := d + 3) (M' := Mx162) (ct := (4, [.ref 63, mK, mK, mK, mK, mK, mK], [], S, 0)) hf rfl rfl rfl rfl (fun r9 h9 => f_X10_ledges_ok (d := d + 3) h9) (fun r2 S1 hf => ?_)
  show Ev (d + 4) Mx186 (4, [.ref 63, mK, mK, mK, mK, mK, mK], [.int r2], S1, 0) r
  refine ev_sts 3 (c2 := (8, [.ref 63, .int r2, mK, mK, mK, mK, mK], [.int ((10 : Int32)), .int r2], S1, 0)) rfl ?_
  refine ev_if (c1 := (13, [.ref 63, .int r2, mK, mK, mK, mK, mK], [], S1, 0)) (c2 := (11, [.ref 63, .int r2, mK, mK, mK, mK, mK], [], S1, 0)) hf rfl rfl (fun _ hf => ?_) (fun _ hf => ?_)
  · refine ev_sts 3 (c2 := (17, [.ref 63, .int r2, mK, mK, mK, mK, mK], [.int ((40 : Int32)), .int ((1 : Int32)), .ref 63], S1, 0)) rfl ?_
    refine ev_bI0 (d := d + 3) (M' := Mx182) (ct := (20, [.ref 63, .int r2, mK, mK, mK, mK, mK], [], S1, 0)) hf rfl rfl rfl rfl (fun r9 h9 => f_X10_number_ok (d := d + 1) h9) (fun r4 S3 hf => ?_)
    show Ev (d + 4) Mx186 (20, [.ref 63, .int r2, mK, mK, mK, mK, mK], [.int r4], S3, 0) r
    refine ev_sts 2 (c2 := (22, [.ref 63, .int r2, .int r4, mK, mK, mK, mK], [.int r4], S3, 0)) rfl ?_
    refine ev_if (c1 := (29, [.ref 63, .int r2, .int r4, mK, mK, mK, mK], [], S3, 0)) (c2 := (25, [.ref 63, .int r2, .int r4, mK, mK, mK, mK], [], S3, 0)) hf rfl rfl (fun _ hf => ?_) (fun _ hf => ?_)
    · refine ev_sts 4 (c2 := (35, [.ref 63, .int r2, .int r4, mK, mK, mK, mK], [.int ((30 : Int32)), .int ((0 : Int32)), .ref 1001, .ref 63], S3, 0)) rfl ?_
      refine ev_bI0 (d := d + 3) (M' := Mx183) (ct := (38, [.ref 63, .int r2, .int r4, mK, mK, mK, mK], [], S3, 0)) hf rfl rfl rfl rfl (fun r9 h9 => f_X10_after_ok_1001 (d := d) h9) (fun r6 S5 hf => ?_)
      show Ev (d + 4) Mx186 (38, [.ref 63, .int r2, .int r4, mK, mK, mK, mK], [.int r6], S5, 0) r
      exact f_X10_readLedge_b38_ok hf
    · exact ev_sts 2 (c2 := (38, [.ref 63, .int r2, .int r4, mK, mK, mK, mK], [.int ((-1 : Int32))], S3, 0)) rfl (f_X10_readLedge_b38_ok hf)
  · refine ev_sts 1 (c2 := (12, [.ref 63, .int r2, mK, mK, mK, mK, mK], [.int ((0 : Int32))], S1, 0)) rfl ?_
    exact ev_ret hf rfl rfl
def f_X10_readNumber_b37 (F : Nat) (t0 : Int32) (S : mS) : Option mR := some (.inl (some (.int (t0 &&& 1))), S)
def f_X10_readNumber_b27 (F : Nat) (x2 : Int32) (t2 : Int32) (t1 : Int32) (S : mS) : Option mR := gd (inb t1 2145) (bnd (upS S 64 t1.toNatClampNeg t2) (fun S3 => (if x2 < 0 then f_X10_readNumber_b37 F ((0 : Int32)) S3 else f_X10_readNumber_b37 F ((1 : Int32)) S3)))
def f_X10_readNumber (F : Nat) (p1 : Int32) (S : mS) : Option mR := bI0 (f_X10_number F ((0 : Int32)) ((100 : Int32)) S) (fun r2 S1 => (if 0 ≤ r2 then f_X10_readNumber_b27 F r2 r2 p1 S1 else gd (inb p1 2145) (f_X10_readNumber_b27 F r2 (S1 64 p1.toNatClampNeg) p1 S1)))
theorem f_X10_readNumber_b37_ok {d F : Nat} {t0 : Int32} {S : mS} {r : mR} (hf : f_X10_readNumber_b37 F t0 S = some r) : Ev (d + 3) Mx190 (37, [mK, mK, mK], [.int t0], S, 0) r := by
  unfold f_X10_readNumber_b37 at hf
  exact ev_ret hf rfl rfl
theorem f_X10_readNumber_b27_ok {d F : Nat} {x2 : Int32} {t2 : Int32} {t1 : Int32} {S : mS} {r : mR} (hf : f_X10_readNumber_b27 F x2 t2 t1 S = some r) : Ev (d + 3) Mx190 (27, [mK, mK, .int x2], [.int t2, .int t1, .ref 64], S, 0) r := by
  unfold f_X10_readNumber_b27 at hf
  refine ev_gd (c1 := (28, [mK, mK, .int x2], [], (upS S 64 t1.toNatClampNeg t2), 0)) hf rfl rfl (fun hf => ?_)
  refine ev_let (P := fun S3 => Ev (d + 3) Mx190 (28, [mK, mK, .int x2], [], S3, 0) r) (fun S3 hf => ?_) hf
  refine ev_sts 1 (c2 := (29, [mK, mK, .int x2], [.int x2], S3, 0)) rfl ?_
  refine ev_if (c1 := (36, [mK, mK, .int x2], [], S3, 0)) (c2 := (32, [mK, mK, .int x2], [], S3, 0)) hf rfl rfl (fun _ hf => ?_) (fun _ hf => ?_)
  · exact ev_sts 1 (c2 := (37, [mK, mK, mK], [.int ((0 : Int32))], S3, 0)) rfl (f_X10_readNumber_b37_ok hf)
  · exact ev_sts 2 (c2 := (37, [mK, mK, mK], [.int ((1 : Int32))], S3, 0)) rfl (f_X10_readNumber_b37_ok hf)
theorem f_X10_readNumber_ok {d F : Nat} {p1 : Int32} {S : mS} {r : mR} (hf : f_X10_readNumber F p1 S = some r) : Ev (d + 3) Mx190 (entry Mx190 [.ref 63, .int p1] S) r := by
  unfold f_X10_readNumber at hf
  refine ev_sts 3 (c2 := (4, [.ref 63, .int p1, mK], [.int ((100 : Int32)), .int ((0 : Int32)), .ref 63], S, 0)) rfl ?_
  refine ev_bI0 (d := d + 2) (M' := Mx182) (ct := (7, [.ref 63, .int p1, mK], [], S, 0)) hf rfl rfl rfl rfl (fun r9 h9 => f_X10_number_ok (d := d) h9) (fun r2 S1 hf => ?_)
  show Ev (d + 3) Mx190 (7, [.ref 63, .int p1, mK], [.int r2], S1, 0) r
  refine ev_sts 5 (c2 := (14, [.ref 63, .int p1, .int r2], [.int r2, .int p1, .ref 64], S1, 0)) rfl ?_
  refine ev_if (c1 := (26, [.ref 63, .int p1, .int r2], [.int p1, .ref 64], S1, 0)) (c2 := (17, [.ref 63, .int p1, .int r2], [.int p1, .ref 64], S1, 0)) hf rfl rfl (fun _ hf => ?_) (fun _ hf => ?_)
  · exact ev_sts 1 (c2 := (27, [mK, mK, .int r2], [.int r2, .int p1, .ref 64], S1, 0)) rfl (f_X10_readNumber_b27_ok hf)
  · refine ev_sts 3 (c2 := (22, [.ref 63, .int p1, .int r2], [.int p1, .ref 64, .int p1, .ref 64], S1, 0)) rfl ?_
    refine ev_gd (c1 := (23, [.ref 63, .int p1, .int r2], [.int (S1 64 p1.toNatClampNeg), .int p1, .ref 64], S1, 0)) hf rfl rfl (fun hf => ?_)
    exact ev_sts 1 (c2 := (27, [mK, mK, .int r2], [.int (S1 64 p1.toNatClampNeg), .int p1, .ref 64], S1, 0)) rfl (f_X10_readNumber_b27_ok hf)
def f_X10_readRope_b26 (F : Nat) (x1 : Int32) (t0 : Int32) (S : mS) : Option mR := (if 0 ≤ t0 then gd (inb ((7 : Int32)) 2145) (bnd (upS S 64 ((7 : Int32)).toNatClampNeg x1) (fun S5 => gd (inb ((9 : Int32)) 2145) (bnd (upS S5 64 ((9 : Int32)).toNatClampNeg t0) (fun S6 => gd (inb ((8 : Int32)) 2145) (bnd (upS S6 64 ((8 : Int32)).toNatClampNeg ((0 : Int32))) (fun S7 => some (.inl (some (.int (((1 : Int32)) &&& 1))), S7))))))) else some (.inl (some (.int (((0 : Int32)) &&& 1))), S))
def f_X10_readRope (F : Nat) (S : mS) : Option mR := bI0 (f_X10_number F ((1 : Int32)) ((40 : Int32)) S) (fun r2 S1 => (if 0 ≤ r2 then bI0 (f_X10_after F 6 ((1 : Int32)) ((999 : Int32)) S1) (fun r4 S3 => f_X10_readRope_b26 F r2 r4 S3) else f_X10_readRope_b26 F r2 ((-1 : Int32)) S1))
theorem f_X10_readRope_b26_ok {d F : Nat} {x1 : Int32} {t0 : Int32} {S : mS} {r : mR} (hf : f_X10_readRope_b26 F x1 t0 S = some r) : Ev (d + 4) Mx187 (26, [.ref 63, .int x1, mK], [.int t0], S, 0) r := by
  unfold f_X10_readRope_b26 at hf
  refine ev_sts 2 (c2 := (28, [.ref 63, .int x1, .int t0], [.int t0], S, 0)) rfl ?_
  refine ev_if (c1 := (33, [.ref 63, .int x1, .int t0], [], S, 0)) (c2 := (31, [.ref 63, .int x1, .int t0], [], S, 0)) hf rfl rfl (fun _ hf => ?_) (fun _ hf => ?_)
  · refine ev_sts 4 (c2 := (40, [.ref 63, .int x1, .int t0], [.int x1, .int ((7 : Int32)), .ref 64], S, 0)) rfl ?_
    refine ev_gd (c1 := (41, [.ref 63, .int x1, .int t0], [], (upS S 64 ((7 : Int32)).toNatClampNeg x1), 0)) hf rfl rfl (fun hf => ?_)
    refine ev_let (P := fun S5 => Ev (d + 4) Mx187 (41, [.ref 63, .int x1, .int t0], [], S5, 0) r) (fun S5 hf => ?_) hf
    refine ev_sts 4 (c2 := (48, [.ref 63, .int x1, .int t0], [.int t0, .int ((9 : Int32)), .ref 64], S5, 0)) rfl ?_
    refine ev_gd (c1 := (49, [.ref 63, .int x1, .int t0], [], (upS S5 64 ((9 : Int32)).toNatClampNeg t0), 0)) hf rfl rfl (fun hf => ?_)
    refine ev_let (P := fun S6 => Ev (d + 4) Mx187 (49, [.ref 63, .int x1, .int t0], [], S6, 0) r) (fun S6 hf => ?_) hf
    refine ev_sts 4 (c2 := (56, [.ref 63, .int x1, .int t0], [.int ((0 : Int32)), .int ((8 : Int32)), .ref 64], S6, 0)) rfl ?_
    refine ev_gd (c1 := (57, [.ref 63, .int x1, .int t0], [], (upS S6 64 ((8 : Int32)).toNatClampNeg ((0 : Int32))), 0)) hf rfl rfl (fun hf => ?_)
    refine ev_let (P := fun S7 => Ev (d + 4) Mx187 (57, [.ref 63, .int x1, .int t0], [], S7, 0) r) (fun S7 hf => ?_) hf
    refine ev_sts 1 (c2 := (58, [.ref 63, .int x1, .int t0], [.int ((1 : Int32))], S7, 0)) rfl ?_
    exact ev_ret hf rfl rfl
  · refine ev_sts 1 (c2 := (32, [.ref 63, .int x1, .int t0], [.int ((0 : Int32))], S, 0)) rfl ?_
    exact ev_ret hf rfl rfl
theorem f_X10_readRope_ok {d F : Nat} {S : mS} {r : mR} (hf : f_X10_readRope F S = some r) : Ev (d + 4) Mx187 (entry Mx187 [.ref 63] S) r := by
  unfold f_X10_readRope at hf
  refine ev_sts 3 (c2 := (4, [.ref 63, mK, mK], [.int ((40 : Int32)), .int ((1 : Int32)), .ref 63], S, 0)) rfl ?_
  refine ev_bI0 (d := d + 3) (M' := Mx182) (ct := (7, [.ref 63, mK, mK], [], S, 0)) hf rfl rfl rfl rfl (fun r9 h9 => f_X10_number_ok (d := d + 1) h9) (fun r2 S1 hf => ?_)
  show Ev (d + 4) Mx187 (7, [.ref 63, mK, mK], [.int r2], S1, 0) r
  refine ev_sts 2 (c2 := (9, [.ref 63, .int r2, mK], [.int r2], S1, 0)) rfl ?_
  refine ev_if (c1 := (16, [.ref 63, .int r2, mK], [], S1, 0)) (c2 := (12, [.ref 63, .int r2, mK], [], S1, 0)) hf rfl rfl (fun _ hf => ?_) (fun _ hf => ?_)
  · refine ev_sts 4 (c2 := (23, [.ref 63, .int r2, mK], [.int ((999 : Int32)), .int ((1 : Int32)), .ref 1006, .ref 63], S1, 0)) rfl ?_
    refine ev_bI0 (d := d + 3) (M' := Mx183) (ct := (26, [.ref 63, .int r2, mK], [], S1, 0)) hf rfl rfl rfl rfl (fun r9 h9 => f_X10_after_ok_1006 (d := d) h9) (fun r4 S3 hf => ?_)
    show Ev (d + 4) Mx187 (26, [.ref 63, .int r2, mK], [.int r4], S3, 0) r
    exact f_X10_readRope_b26_ok hf
  · exact ev_sts 2 (c2 := (26, [.ref 63, .int r2, mK], [.int ((-1 : Int32))], S1, 0)) rfl (f_X10_readRope_b26_ok hf)
