def f_X9_ledgeSets (S : mS) : Option mR := bI0 (f_X0_at 24 ((12 : Int32)) S) (fun r2 S1 => some (.inl (some (.int (((1 : Int32)) <<< (r2 &&& 31)))), S1))
theorem f_X9_ledgeSets_ok {d : Nat} {S : mS} {r : mR} (hf : f_X9_ledgeSets S = some r) : Ev (d + 1) Mx144 (entry Mx144 [.ref 0] S) r := by
  unfold f_X9_ledgeSets at hf
  refine ev_sts 4 (c2 := (7, [.ref 0], [.int ((12 : Int32)), .ref 24, .int ((1 : Int32))], S, 0)) rfl ?_
  refine ev_bI0 (d := d) (M' := Mx1) (ct := (10, [.ref 0], [.int ((1 : Int32))], S, 0)) hf rfl rfl rfl rfl (fun r9 h9 => f_X0_at_ok_24 (d := d) h9) (fun r2 S1 hf => ?_)
  show Ev (d + 1) Mx144 (10, [.ref 0], [.int r2, .int ((1 : Int32))], S1, 0) r
  refine ev_sts 1 (c2 := (11, [.ref 0], [.int (((1 : Int32)) <<< (r2 &&& 31))], S1, 0)) rfl ?_
  exact ev_ret hf rfl rfl
def f_X9_sumOf_b41 (K5 : Int32 → Int32 → Int32 → Int32 → mS → Option mR) (F : Nat) (x1 : Int32) (x2 : Int32) (x3 : Int32) (x4 : Int32) (S : mS) : Option mR := K5 x1 x2 x3 (x4 + (1 : Int32)) S
def f_X9_sumOf_b5 (F : Nat) : Nat → Int32 → Int32 → Int32 → Int32 → mS → Option mR
  | 0, _, _, _, _, _ => none
  | n + 1, x1, x2, x3, x4, S => bI0 (f_X0_at 24 ((12 : Int32)) S) (fun r2 S1 => (if r2 ≤ x4 then some (.inl (some (.int x3)), S1) else bI0 (f_X9_hasBit x1 x4 S1) (fun r4 S3 => (if r4 = 0 then f_X9_sumOf_b41 (fun x1 x2 x3 x4 S => f_X9_sumOf_b5 F n x1 x2 x3 x4 S) F x1 x2 x3 x4 S3 else bI0 (f_X0_ofLedge 24 x4 x2 S3) (fun r6 S5 => bnd (x3 + r6 : Int32) (fun y7 => f_X9_sumOf_b41 (fun x1 x2 x3 x4 S => f_X9_sumOf_b5 F n x1 x2 x3 x4 S) F x1 x2 y7 x4 S5))))))
def f_X9_sumOf (F : Nat) (p1 : Int32) (p2 : Int32) (S : mS) : Option mR := f_X9_sumOf_b5 F F p1 p2 ((0 : Int32)) ((0 : Int32)) S
theorem f_X9_sumOf_b41_ok {d F : Nat} {K5 : Int32 → Int32 → Int32 → Int32 → mS → Option mR} (hK5 : ∀ {x1 : Int32} {x2 : Int32} {x3 : Int32} {x4 : Int32} {S : mS} {r : mR}, K5 x1 x2 x3 x4 S = some r → Ev (d + 2) Mx146 (5, [.ref 0, .int x1, .int x2, .int x3, .int x4], [], S, 0) r) {x1 : Int32} {x2 : Int32} {x3 : Int32} {x4 : Int32} {S : mS} {r : mR} (hf : f_X9_sumOf_b41 K5 F x1 x2 x3 x4 S = some r) : Ev (d + 2) Mx146 (41, [.ref 0, .int x1, .int x2, .int x3, .int x4], [], S, 0) r := by
  unfold f_X9_sumOf_b41 at hf
  exact ev_sts 2 (c2 := (5, [.ref 0, .int x1, .int x2, .int x3, .int (x4 + (1 : Int32))], [], S, 0)) rfl (hK5 hf)
theorem f_X9_sumOf_b5_ok {d F : Nat} : ∀ (n : Nat) {x1 : Int32} {x2 : Int32} {x3 : Int32} {x4 : Int32} {S : mS} {r : mR}, f_X9_sumOf_b5 F n x1 x2 x3 x4 S = some r → Ev (d + 2) Mx146 (5, [.ref 0, .int x1, .int x2, .int x3, .int x4], [], S, 0) r := by
  intro n
  induction n with
  | zero => intro x1 x2 x3 x4 S r hf; cases hf
  | succ n ih =>
    intro x1 x2 x3 x4 S r hf
    rw [f_X9_sumOf_b5] at hf
    refine ev_sts 4 (c2 := (13, [.ref 0, .int x1, .int x2, .int x3, .int x4], [.int ((12 : Int32)), .ref 24, .int x4], S, 0)) rfl ?_
    refine ev_bI0 (d := d + 1) (M' := Mx1) (ct := (16, [.ref 0, .int x1, .int x2, .int x3, .int x4], [.int x4], S, 0)) hf rfl rfl rfl rfl (fun r9 h9 => f_X0_at_ok_24 (d := d + 1) h9) (fun r2 S1 hf => ?_)
    show Ev (d + 2) Mx146 (16, [.ref 0, .int x1, .int x2, .int x3, .int x4], [.int r2, .int x4], S1, 0) r
    refine ev_if (c1 := (47, [.ref 0, .int x1, .int x2, .int x3, .int x4], [], S1, 0)) (c2 := (19, [.ref 0, .int x1, .int x2, .int x3, .int x4], [], S1, 0)) hf rfl rfl (fun _ hf => ?_) (fun _ hf => ?_)
    · refine ev_sts 1 (c2 := (48, [.ref 0, .int x1, .int x2, .int x3, .int x4], [.int x3], S1, 0)) rfl ?_
      exact ev_ret hf rfl rfl
    · refine ev_sts 2 (c2 := (22, [.ref 0, .int x1, .int x2, .int x3, .int x4], [.int x4, .int x1], S1, 0)) rfl ?_
      refine ev_bI0 (d := d + 1) (M' := Mx143) (ct := (25, [.ref 0, .int x1, .int x2, .int x3, .int x4], [], S1, 0)) hf rfl rfl rfl rfl (fun r9 h9 => f_X9_hasBit_ok (d := d + 1) h9) (fun r4 S3 hf => ?_)
      show Ev (d + 2) Mx146 (25, [.ref 0, .int x1, .int x2, .int x3, .int x4], [.int r4], S3, 0) r
      refine ev_if (c1 := (41, [.ref 0, .int x1, .int x2, .int x3, .int x4], [], S3, 0)) (c2 := (28, [.ref 0, .int x1, .int x2, .int x3, .int x4], [], S3, 0)) hf rfl rfl (fun _ hf => ?_) (fun _ hf => ?_)
      · exact f_X9_sumOf_b41_ok (fun h9 => ih h9) hf
      · refine ev_sts 5 (c2 := (36, [.ref 0, .int x1, .int x2, .int x3, .int x4], [.int x2, .int x4, .ref 24, .int x3], S3, 0)) rfl ?_
        refine ev_bI0 (d := d + 1) (M' := Mx4) (ct := (39, [.ref 0, .int x1, .int x2, .int x3, .int x4], [.int x3], S3, 0)) hf rfl rfl rfl rfl (fun r9 h9 => f_X0_ofLedge_ok_24 (d := d) h9) (fun r6 S5 hf => ?_)
        show Ev (d + 2) Mx146 (39, [.ref 0, .int x1, .int x2, .int x3, .int x4], [.int r6, .int x3], S5, 0) r
        refine ev_sts 2 (c2 := (41, [.ref 0, .int x1, .int x2, .int (x3 + r6), .int x4], [], S5, 0)) rfl ?_
        refine ev_let (P := fun y7 => Ev (d + 2) Mx146 (41, [.ref 0, .int x1, .int x2, .int y7, .int x4], [], S5, 0) r) (fun y7 hf => ?_) hf
        exact f_X9_sumOf_b41_ok (fun h9 => ih h9) hf
theorem f_X9_sumOf_ok {d F : Nat} {p1 : Int32} {p2 : Int32} {S : mS} {r : mR} (hf : f_X9_sumOf F p1 p2 S = some r) : Ev (d + 2) Mx146 (entry Mx146 [.ref 0, .int p1, .int p2] S) r := by
  unfold f_X9_sumOf at hf
  exact ev_sts 4 (c2 := (5, [.ref 0, .int p1, .int p2, .int ((0 : Int32)), .int ((0 : Int32))], [], S, 0)) rfl (f_X9_sumOf_b5_ok _ hf)
def f_X9_how_b65 (F : Nat) (t0 : Int32) (S : mS) : Option mR := some (.inl (some (.int t0)), S)
def f_X9_how_b43 (K13 : Int32 → Int32 → Int32 → Int32 → Int32 → mS → Option mR) (F : Nat) (x1 : Int32) (x2 : Int32) (x3 : Int32) (x4 : Int32) (x5 : Int32) (S : mS) : Option mR := K13 x1 x2 x3 x4 (x5 + (1 : Int32)) S
def f_X9_how_b13 (F : Nat) : Nat → Int32 → Int32 → Int32 → Int32 → Int32 → mS → Option mR
  | 0, _, _, _, _, _, _ => none
  | n + 1, x1, x2, x3, x4, x5, S => bI0 (f_X9_ledgeSets S) (fun r5 S4 => (if r5 ≤ x5 then (if ¬ x2 = 0 then (if ¬ x3 = 0 then f_X9_how_b65 F x4 S4 else f_X9_how_b65 F ((0 : Int32)) S4) else some (.inl (some (.int x3)), S4)) else bI0 (f_X9_sumOf F x5 ((2 : Int32)) S4) (fun r7 S6 => (if ¬ r7 = x1 then f_X9_how_b43 (fun x1 x2 x3 x4 x5 S => f_X9_how_b13 F n x1 x2 x3 x4 x5 S) F x1 x2 x3 x4 x5 S6 else bnd (x4 &&& x5 : Int32) (fun y8 => f_X9_how_b43 (fun x1 x2 x3 x4 x5 S => f_X9_how_b13 F n x1 x2 x3 x4 x5 S) F x1 x2 (x3 + (1 : Int32)) y8 x5 S6)))))
def f_X9_how (F : Nat) (p1 : Int32) (p2 : Int32) (S : mS) : Option mR := bI0 (f_X9_ledgeSets S) (fun r2 S1 => bnd (r2 - ((1 : Int32)) : Int32) (fun y3 => f_X9_how_b13 F F p1 p2 ((0 : Int32)) y3 ((0 : Int32)) S1))
theorem f_X9_how_b65_ok {d F : Nat} {t0 : Int32} {S : mS} {r : mR} (hf : f_X9_how_b65 F t0 S = some r) : Ev (d + 3) Mx130 (65, [mK, mK, mK, mK, mK, mK], [.int t0], S, 0) r := by
  unfold f_X9_how_b65 at hf
  exact ev_ret hf rfl rfl
theorem f_X9_how_b43_ok {d F : Nat} {K13 : Int32 → Int32 → Int32 → Int32 → Int32 → mS → Option mR} (hK13 : ∀ {x1 : Int32} {x2 : Int32} {x3 : Int32} {x4 : Int32} {x5 : Int32} {S : mS} {r : mR}, K13 x1 x2 x3 x4 x5 S = some r → Ev (d + 3) Mx130 (13, [.ref 0, .int x1, .int x2, .int x3, .int x4, .int x5], [], S, 0) r) {x1 : Int32} {x2 : Int32} {x3 : Int32} {x4 : Int32} {x5 : Int32} {S : mS} {r : mR} (hf : f_X9_how_b43 K13 F x1 x2 x3 x4 x5 S = some r) : Ev (d + 3) Mx130 (43, [.ref 0, .int x1, .int x2, .int x3, .int x4, .int x5], [], S, 0) r := by
  unfold f_X9_how_b43 at hf
  exact ev_sts 2 (c2 := (13, [.ref 0, .int x1, .int x2, .int x3, .int x4, .int (x5 + (1 : Int32))], [], S, 0)) rfl (hK13 hf)
theorem f_X9_how_b13_ok {d F : Nat} : ∀ (n : Nat) {x1 : Int32} {x2 : Int32} {x3 : Int32} {x4 : Int32} {x5 : Int32} {S : mS} {r : mR}, f_X9_how_b13 F n x1 x2 x3 x4 x5 S = some r → Ev (d + 3) Mx130 (13, [.ref 0, .int x1, .int x2, .int x3, .int x4, .int x5], [], S, 0) r := by
  intro n
  induction n with
  | zero => intro x1 x2 x3 x4 x5 S r hf; cases hf
  | succ n ih =>
    intro x1 x2 x3 x4 x5 S r hf
    rw [f_X9_how_b13] at hf
    refine ev_sts 2 (c2 := (16, [.ref 0, .int x1, .int x2, .int x3, .int x4, .int x5], [.ref 0, .int x5], S, 0)) rfl ?_
    refine ev_bI0 (d := d + 2) (M' := Mx144) (ct := (19, [.ref 0, .int x1, .int x2, .int x3, .int x4, .int x5], [.int x5], S, 0)) hf rfl rfl rfl rfl (fun r9 h9 => f_X9_ledgeSets_ok (d := d + 1) h9) (fun r5 S4 hf => ?_)
    show Ev (d + 3) Mx130 (19, [.ref 0, .int x1, .int x2, .int x3, .int x4, .int x5], [.int r5, .int x5], S4, 0) r
    refine ev_if (c1 := (49, [.ref 0, .int x1, .int x2, .int x3, .int x4, .int x5], [], S4, 0)) (c2 := (22, [.ref 0, .int x1, .int x2, .int x3, .int x4, .int x5], [], S4, 0)) hf rfl rfl (fun _ hf => ?_) (fun _ hf => ?_)
    · refine ev_sts 1 (c2 := (50, [.ref 0, .int x1, .int x2, .int x3, .int x4, .int x5], [.int x2], S4, 0)) rfl ?_
      refine ev_if (c1 := (55, [.ref 0, .int x1, .int x2, .int x3, .int x4, .int x5], [], S4, 0)) (c2 := (53, [.ref 0, .int x1, .int x2, .int x3, .int x4, .int x5], [], S4, 0)) hf rfl rfl (fun _ hf => ?_) (fun _ hf => ?_)
      · refine ev_sts 1 (c2 := (56, [.ref 0, .int x1, .int x2, .int x3, .int x4, .int x5], [.int x3], S4, 0)) rfl ?_
        refine ev_if (c1 := (63, [.ref 0, .int x1, .int x2, .int x3, .int x4, .int x5], [], S4, 0)) (c2 := (59, [.ref 0, .int x1, .int x2, .int x3, .int x4, .int x5], [], S4, 0)) hf rfl rfl (fun _ hf => ?_) (fun _ hf => ?_)
        · exact ev_sts 1 (c2 := (65, [mK, mK, mK, mK, mK, mK], [.int x4], S4, 0)) rfl (f_X9_how_b65_ok hf)
        · exact ev_sts 2 (c2 := (65, [mK, mK, mK, mK, mK, mK], [.int ((0 : Int32))], S4, 0)) rfl (f_X9_how_b65_ok hf)
      · refine ev_sts 1 (c2 := (54, [.ref 0, .int x1, .int x2, .int x3, .int x4, .int x5], [.int x3], S4, 0)) rfl ?_
        exact ev_ret hf rfl rfl
    · refine ev_sts 3 (c2 := (26, [.ref 0, .int x1, .int x2, .int x3, .int x4, .int x5], [.int ((2 : Int32)), .int x5, .ref 0], S4, 0)) rfl ?_
      refine ev_bI0 (d := d + 2) (M' := Mx146) (ct := (29, [.ref 0, .int x1, .int x2, .int x3, .int x4, .int x5], [], S4, 0)) hf rfl rfl rfl rfl (fun r9 h9 => f_X9_sumOf_ok (d := d) h9) (fun r7 S6 hf => ?_)
      show Ev (d + 3) Mx130 (29, [.ref 0, .int x1, .int x2, .int x3, .int x4, .int x5], [.int r7], S6, 0) r
      refine ev_sts 1 (c2 := (30, [.ref 0, .int x1, .int x2, .int x3, .int x4, .int x5], [.int x1, .int r7], S6, 0)) rfl ?_
      refine ev_if (c1 := (43, [.ref 0, .int x1, .int x2, .int x3, .int x4, .int x5], [], S6, 0)) (c2 := (33, [.ref 0, .int x1, .int x2, .int x3, .int x4, .int x5], [], S6, 0)) hf rfl rfl (fun _ hf => ?_) (fun _ hf => ?_)
      · exact f_X9_how_b43_ok (fun h9 => ih h9) hf
      · refine ev_sts 5 (c2 := (43, [.ref 0, .int x1, .int x2, .int (x3 + (1 : Int32)), .int (x4 &&& x5), .int x5], [], S6, 0)) rfl ?_
        refine ev_let (P := fun y8 => Ev (d + 3) Mx130 (43, [.ref 0, .int x1, .int x2, .int (x3 + (1 : Int32)), .int y8, .int x5], [], S6, 0) r) (fun y8 hf => ?_) hf
        exact f_X9_how_b43_ok (fun h9 => ih h9) hf
theorem f_X9_how_ok {d F : Nat} {p1 : Int32} {p2 : Int32} {S : mS} {r : mR} (hf : f_X9_how F p1 p2 S = some r) : Ev (d + 3) Mx130 (entry Mx130 [.ref 0, .int p1, .int p2] S) r := by
  unfold f_X9_how at hf
  refine ev_sts 3 (c2 := (3, [.ref 0, .int p1, .int p2, .int ((0 : Int32)), mK, mK], [.ref 0], S, 0)) rfl ?_
  refine ev_bI0 (d := d + 2) (M' := Mx144) (ct := (6, [.ref 0, .int p1, .int p2, .int ((0 : Int32)), mK, mK], [], S, 0)) hf rfl rfl rfl rfl (fun r9 h9 => f_X9_ledgeSets_ok (d := d + 1) h9) (fun r2 S1 hf => ?_)
  show Ev (d + 3) Mx130 (6, [.ref 0, .int p1, .int p2, .int ((0 : Int32)), mK, mK], [.int r2], S1, 0) r
  refine ev_sts 3 (c2 := (10, [.ref 0, .int p1, .int p2, .int ((0 : Int32)), .int (r2 - ((1 : Int32))), mK], [], S1, 0)) rfl ?_
  refine ev_let (P := fun y3 => Ev (d + 3) Mx130 (10, [.ref 0, .int p1, .int p2, .int ((0 : Int32)), .int y3, mK], [], S1, 0) r) (fun y3 hf => ?_) hf
  exact ev_sts 2 (c2 := (13, [.ref 0, .int p1, .int p2, .int ((0 : Int32)), .int y3, .int ((0 : Int32))], [], S1, 0)) rfl (f_X9_how_b13_ok _ hf)
def f_X9_image (S : mS) : Option mR := bV0 (f_X0_copy 28 24 S) (fun S1 => bV0 (f_X2_copy 17 3 S1) (fun S2 => bnd (upS S2 0 13 ((1 : Int32))) (fun S3 => some (.inl none, S3))))
theorem f_X9_image_ok {d : Nat} {S : mS} {r : mR} (hf : f_X9_image S = some r) : Ev (d + 1) Mx136 (entry Mx136 [.ref 0] S) r := by
  unfold f_X9_image at hf
  refine ev_sts 4 (c2 := (8, [.ref 0], [.ref 24, .ref 28], S, 0)) rfl ?_
  refine ev_bV0 (d := d) (M' := Mx0) (ct := (11, [.ref 0], [], S, 0)) hf rfl rfl rfl rfl (fun r9 h9 => f_X0_copy_ok_28_24 (d := d) h9) (fun S1 hf => ?_)
  show Ev (d + 1) Mx136 (11, [.ref 0], [], S1, 0) r
  refine ev_sts 4 (c2 := (19, [.ref 0], [.ref 3, .ref 17], S1, 0)) rfl ?_
  refine ev_bV0 (d := d) (M' := Mx31) (ct := (22, [.ref 0], [], S1, 0)) hf rfl rfl rfl rfl (fun r9 h9 => f_X2_copy_ok_17_3 (d := d) h9) (fun S2 hf => ?_)
  show Ev (d + 1) Mx136 (22, [.ref 0], [], S2, 0) r
  refine ev_sts 3 (c2 := (27, [.ref 0], [], (upS S2 0 13 ((1 : Int32))), 0)) rfl ?_
  refine ev_let (P := fun S3 => Ev (d + 1) Mx136 (27, [.ref 0], [], S3, 0) r) (fun S3 hf => ?_) hf
  exact ev_ret hf rfl rfl
def f_X9_isLighter_b26 (t0 : Int32) (S : mS) : Option mR := some (.inl (some (.int (t0 &&& 1))), S)
def f_X9_isLighter (p1 : Int32) (p2 : Int32) (S : mS) : Option mR := bI0 (f_X0_ofClimber 24 p1 ((0 : Int32)) S) (fun r2 S1 => bI0 (f_X0_ofClimber 24 p2 ((0 : Int32)) S1) (fun r4 S3 => (if r4 ≤ r2 then f_X9_isLighter_b26 ((0 : Int32)) S3 else f_X9_isLighter_b26 ((1 : Int32)) S3)))
theorem f_X9_isLighter_b26_ok {d : Nat} {t0 : Int32} {S : mS} {r : mR} (hf : f_X9_isLighter_b26 t0 S = some r) : Ev (d + 2) Mx151 (26, [mK, mK, mK], [.int t0], S, 0) r := by
  unfold f_X9_isLighter_b26 at hf
  exact ev_ret hf rfl rfl
theorem f_X9_isLighter_ok {d : Nat} {p1 : Int32} {p2 : Int32} {S : mS} {r : mR} (hf : f_X9_isLighter p1 p2 S = some r) : Ev (d + 2) Mx151 (entry Mx151 [.ref 0, .int p1, .int p2] S) r := by
  unfold f_X9_isLighter at hf
  refine ev_sts 4 (c2 := (6, [.ref 0, .int p1, .int p2], [.int ((0 : Int32)), .int p1, .ref 24], S, 0)) rfl ?_
  refine ev_bI0 (d := d + 1) (M' := Mx8) (ct := (9, [.ref 0, .int p1, .int p2], [], S, 0)) hf rfl rfl rfl rfl (fun r9 h9 => f_X0_ofClimber_ok_24 (d := d) h9) (fun r2 S1 hf => ?_)
  show Ev (d + 2) Mx151 (9, [.ref 0, .int p1, .int p2], [.int r2], S1, 0) r
  refine ev_sts 4 (c2 := (15, [.ref 0, .int p1, .int p2], [.int ((0 : Int32)), .int p2, .ref 24, .int r2], S1, 0)) rfl ?_
  refine ev_bI0 (d := d + 1) (M' := Mx8) (ct := (18, [.ref 0, .int p1, .int p2], [.int r2], S1, 0)) hf rfl rfl rfl rfl (fun r9 h9 => f_X0_ofClimber_ok_24 (d := d) h9) (fun r4 S3 hf => ?_)
  show Ev (d + 2) Mx151 (18, [.ref 0, .int p1, .int p2], [.int r4, .int r2], S3, 0) r
  refine ev_if (c1 := (25, [.ref 0, .int p1, .int p2], [], S3, 0)) (c2 := (21, [.ref 0, .int p1, .int p2], [], S3, 0)) hf rfl rfl (fun _ hf => ?_) (fun _ hf => ?_)
  · exact ev_sts 1 (c2 := (26, [mK, mK, mK], [.int ((0 : Int32))], S3, 0)) rfl (f_X9_isLighter_b26_ok hf)
  · exact ev_sts 2 (c2 := (26, [mK, mK, mK], [.int ((1 : Int32))], S3, 0)) rfl (f_X9_isLighter_b26_ok hf)
def f_X0_add (u0 : Nat) (p1 : Int32) (p2 : Int32) (S : mS) : Option mR := bI0 (f_X0_at u0 p1 S) (fun r2 S1 => bV0 (f_X0_put u0 p1 (r2 + p2) S1) (fun S3 => some (.inl none, S3)))
theorem f_X0_add_ok_26 {d : Nat} {p1 : Int32} {p2 : Int32} {S : mS} {r : mR} (hf : f_X0_add 26 p1 p2 S = some r) : Ev (d + 1) Mx3 (entry Mx3 [.ref 26, .int p1, .int p2] S) r := by
  unfold f_X0_add at hf
  refine ev_sts 4 (c2 := (4, [.ref 26, .int p1, .int p2], [.int p1, .ref 26, .int p1, .ref 26], S, 0)) rfl ?_
  refine ev_bI0 (d := d) (M' := Mx1) (ct := (7, [.ref 26, .int p1, .int p2], [.int p1, .ref 26], S, 0)) hf rfl rfl rfl rfl (fun r9 h9 => f_X0_at_ok_26 (d := d) h9) (fun r2 S1 hf => ?_)
  show Ev (d + 1) Mx3 (7, [.ref 26, .int p1, .int p2], [.int r2, .int p1, .ref 26], S1, 0) r
  refine ev_sts 2 (c2 := (9, [.ref 26, .int p1, .int p2], [.int (r2 + p2), .int p1, .ref 26], S1, 0)) rfl ?_
  refine ev_bV0 (d := d) (M' := Mx2) (ct := (12, [.ref 26, .int p1, .int p2], [], S1, 0)) hf rfl rfl rfl rfl (fun r9 h9 => f_X0_put_ok_26 (d := d) h9) (fun S3 hf => ?_)
  show Ev (d + 1) Mx3 (12, [.ref 26, .int p1, .int p2], [], S3, 0) r
  exact ev_ret hf rfl rfl
theorem f_X0_add_ok_24 {d : Nat} {p1 : Int32} {p2 : Int32} {S : mS} {r : mR} (hf : f_X0_add 24 p1 p2 S = some r) : Ev (d + 1) Mx3 (entry Mx3 [.ref 24, .int p1, .int p2] S) r := by
  unfold f_X0_add at hf
  refine ev_sts 4 (c2 := (4, [.ref 24, .int p1, .int p2], [.int p1, .ref 24, .int p1, .ref 24], S, 0)) rfl ?_
  refine ev_bI0 (d := d) (M' := Mx1) (ct := (7, [.ref 24, .int p1, .int p2], [.int p1, .ref 24], S, 0)) hf rfl rfl rfl rfl (fun r9 h9 => f_X0_at_ok_24 (d := d) h9) (fun r2 S1 hf => ?_)
  show Ev (d + 1) Mx3 (7, [.ref 24, .int p1, .int p2], [.int r2, .int p1, .ref 24], S1, 0) r
  refine ev_sts 2 (c2 := (9, [.ref 24, .int p1, .int p2], [.int (r2 + p2), .int p1, .ref 24], S1, 0)) rfl ?_
  refine ev_bV0 (d := d) (M' := Mx2) (ct := (12, [.ref 24, .int p1, .int p2], [], S1, 0)) hf rfl rfl rfl rfl (fun r9 h9 => f_X0_put_ok_24 (d := d) h9) (fun S3 hf => ?_)
  show Ev (d + 1) Mx3 (12, [.ref 24, .int p1, .int p2], [], S3, 0) r
  exact ev_ret hf rfl rfl
def f_X8_byteAt_b31 (t0 : Int32) (S : mS) : Option mR := some (.inl (some (.int t0)), S)
def f_X8_byteAt_b30 (S : mS) : Option mR := f_X8_byteAt_b31 ((-1 : Int32)) S
def f_X8_byteAt (p1 : Int32) (S : mS) : Option mR := (if p1 < 0 then f_X8_byteAt_b30 S else (if (S 1 1) ≤ p1 then f_X8_byteAt_b30 S else (if (Int32.ofNat 400) ≤ p1 then f_X8_byteAt_b30 S else gd (inb p1 400) (f_X8_byteAt_b31 (S 2 p1.toNatClampNeg) S))))
theorem f_X8_byteAt_b31_ok {d : Nat} {t0 : Int32} {S : mS} {r : mR} (hf : f_X8_byteAt_b31 t0 S = some r) : Ev (d) Mx84 (31, [mK, mK], [.int t0], S, 0) r := by
  unfold f_X8_byteAt_b31 at hf
  exact ev_ret hf rfl rfl
theorem f_X8_byteAt_b30_ok {d : Nat} {S : mS} {r : mR} (hf : f_X8_byteAt_b30  S = some r) : Ev (d) Mx84 (30, [mK, mK], [], S, 0) r := by
  unfold f_X8_byteAt_b30 at hf
  exact ev_sts 1 (c2 := (31, [mK, mK], [.int ((-1 : Int32))], S, 0)) rfl (f_X8_byteAt_b31_ok hf)
theorem f_X8_byteAt_ok {d : Nat} {p1 : Int32} {S : mS} {r : mR} (hf : f_X8_byteAt p1 S = some r) : Ev (d) Mx84 (entry Mx84 [.ref 1, .int p1] S) r := by
  unfold f_X8_byteAt at hf
  refine ev_sts 1 (c2 := (1, [.ref 1, .int p1], [.int p1], S, 0)) rfl ?_
  refine ev_if (c1 := (30, [mK, mK], [], S, 0)) (c2 := (4, [.ref 1, .int p1], [], S, 0)) hf rfl rfl (fun _ hf => ?_) (fun _ hf => ?_)
  · exact f_X8_byteAt_b30_ok hf
  · refine ev_sts 3 (c2 := (9, [.ref 1, .int p1], [.int (S 1 1), .int p1], S, 0)) rfl ?_
    refine ev_if (c1 := (30, [mK, mK], [], S, 0)) (c2 := (12, [.ref 1, .int p1], [], S, 0)) hf rfl rfl (fun _ hf => ?_) (fun _ hf => ?_)
    · exact f_X8_byteAt_b30_ok hf
    · refine ev_sts 4 (c2 := (18, [.ref 1, .int p1], [.int (Int32.ofNat 400), .int p1], S, 0)) rfl ?_
      refine ev_if (c1 := (30, [mK, mK], [], S, 0)) (c2 := (21, [.ref 1, .int p1], [], S, 0)) hf rfl rfl (fun _ hf => ?_) (fun _ hf => ?_)
      · exact f_X8_byteAt_b30_ok hf
      · refine ev_sts 3 (c2 := (26, [.ref 1, .int p1], [.int p1, .ref 2], S, 0)) rfl ?_
        refine ev_gd (c1 := (27, [.ref 1, .int p1], [.int (S 2 p1.toNatClampNeg)], S, 0)) hf rfl rfl (fun hf => ?_)
        exact ev_sts 1 (c2 := (31, [mK, mK], [.int (S 2 p1.toNatClampNeg)], S, 0)) rfl (f_X8_byteAt_b31_ok hf)
def f_X8_isDigit_b17 (t0 : Int32) (S : mS) : Option mR := some (.inl (some (.int (t0 &&& 1))), S)
def f_X8_isDigit_b16 (S : mS) : Option mR := f_X8_isDigit_b17 ((0 : Int32)) S
def f_X8_isDigit (p0 : Int32) (S : mS) : Option mR := (if p0 < ((48 : Int32)) then f_X8_isDigit_b16 S else (if ((57 : Int32)) < p0 then f_X8_isDigit_b16 S else f_X8_isDigit_b17 ((1 : Int32)) S))
theorem f_X8_isDigit_b17_ok {d : Nat} {t0 : Int32} {S : mS} {r : mR} (hf : f_X8_isDigit_b17 t0 S = some r) : Ev (d) Mx86 (17, [mK], [.int t0], S, 0) r := by
  unfold f_X8_isDigit_b17 at hf
  exact ev_ret hf rfl rfl
theorem f_X8_isDigit_b16_ok {d : Nat} {S : mS} {r : mR} (hf : f_X8_isDigit_b16  S = some r) : Ev (d) Mx86 (16, [mK], [], S, 0) r := by
  unfold f_X8_isDigit_b16 at hf
  exact ev_sts 1 (c2 := (17, [mK], [.int ((0 : Int32))], S, 0)) rfl (f_X8_isDigit_b17_ok hf)
theorem f_X8_isDigit_ok {d : Nat} {p0 : Int32} {S : mS} {r : mR} (hf : f_X8_isDigit p0 S = some r) : Ev (d) Mx86 (entry Mx86 [.int p0] S) r := by
  unfold f_X8_isDigit at hf
  refine ev_sts 2 (c2 := (3, [.int p0], [.int ((48 : Int32)), .int p0], S, 0)) rfl ?_
  refine ev_if (c1 := (16, [mK], [], S, 0)) (c2 := (6, [.int p0], [], S, 0)) hf rfl rfl (fun _ hf => ?_) (fun _ hf => ?_)
  · exact f_X8_isDigit_b16_ok hf
  · refine ev_sts 2 (c2 := (9, [.int p0], [.int ((57 : Int32)), .int p0], S, 0)) rfl ?_
    refine ev_if (c1 := (16, [mK], [], S, 0)) (c2 := (12, [.int p0], [], S, 0)) hf rfl rfl (fun _ hf => ?_) (fun _ hf => ?_)
    · exact f_X8_isDigit_b16_ok hf
    · exact ev_sts 2 (c2 := (17, [mK], [.int ((1 : Int32))], S, 0)) rfl (f_X8_isDigit_b17_ok hf)
def f_X8_moveTo_b62 (F : Nat) (S : mS) : Option mR := some (.inl none, S)
def f_X8_moveTo_b5 (F : Nat) : Nat → mS → Option mR
  | 0, _ => none
  | n + 1, S => (if (S 1 2) < 0 then f_X8_moveTo_b62 F S else (if (S 1 1) ≤ (S 1 2) then f_X8_moveTo_b62 F S else (if (Int32.ofNat 400) ≤ (S 1 2) then f_X8_moveTo_b62 F S else gd (inb (S 1 2) 400) ((if ¬ (S 2 (S 1 2).toNatClampNeg) = ((32 : Int32)) then f_X8_moveTo_b62 F S else bnd (upS S 1 2 ((S 1 2) + ((1 : Int32)))) (fun S2 => f_X8_moveTo_b5 F n S2))))))
def f_X8_moveTo (F : Nat) (p1 : Int32) (S : mS) : Option mR := bnd (upS S 1 2 p1) (fun S1 => f_X8_moveTo_b5 F F S1)
theorem f_X8_moveTo_b62_ok {d F : Nat} {S : mS} {r : mR} (hf : f_X8_moveTo_b62 F  S = some r) : Ev (d) Mx83 (62, [mK, mK], [], S, 0) r := by
  unfold f_X8_moveTo_b62 at hf
  exact ev_ret hf rfl rfl
theorem f_X8_moveTo_b5_ok {d F : Nat} : ∀ (n : Nat) {S : mS} {r : mR}, f_X8_moveTo_b5 F n  S = some r → Ev (d) Mx83 (5, [.ref 1, mK], [], S, 0) r := by
  intro n
  induction n with
  | zero => intro  S r hf; cases hf
  | succ n ih =>
    intro  S r hf
    rw [f_X8_moveTo_b5] at hf
    refine ev_sts 2 (c2 := (9, [.ref 1, mK], [.int (S 1 2)], S, 0)) rfl ?_
    refine ev_if (c1 := (62, [mK, mK], [], S, 0)) (c2 := (12, [.ref 1, mK], [], S, 0)) hf rfl rfl (fun _ hf => ?_) (fun _ hf => ?_)
    · exact f_X8_moveTo_b62_ok hf
    · refine ev_sts 4 (c2 := (20, [.ref 1, mK], [.int (S 1 1), .int (S 1 2)], S, 0)) rfl ?_
      refine ev_if (c1 := (62, [mK, mK], [], S, 0)) (c2 := (23, [.ref 1, mK], [], S, 0)) hf rfl rfl (fun _ hf => ?_) (fun _ hf => ?_)
      · exact f_X8_moveTo_b62_ok hf
      · refine ev_sts 5 (c2 := (32, [.ref 1, mK], [.int (Int32.ofNat 400), .int (S 1 2)], S, 0)) rfl ?_
        refine ev_if (c1 := (62, [mK, mK], [], S, 0)) (c2 := (35, [.ref 1, mK], [], S, 0)) hf rfl rfl (fun _ hf => ?_) (fun _ hf => ?_)
        · exact f_X8_moveTo_b62_ok hf
        · refine ev_sts 4 (c2 := (43, [.ref 1, mK], [.int (S 1 2), .ref 2], S, 0)) rfl ?_
          refine ev_gd (c1 := (44, [.ref 1, mK], [.int (S 2 (S 1 2).toNatClampNeg)], S, 0)) hf rfl rfl (fun hf => ?_)
          refine ev_sts 1 (c2 := (46, [.ref 1, mK], [.int ((32 : Int32)), .int (S 2 (S 1 2).toNatClampNeg)], S, 0)) rfl ?_
          refine ev_if (c1 := (62, [mK, mK], [], S, 0)) (c2 := (49, [.ref 1, mK], [], S, 0)) hf rfl rfl (fun _ hf => ?_) (fun _ hf => ?_)
          · exact f_X8_moveTo_b62_ok hf
          · refine ev_sts 6 (c2 := (59, [.ref 1, mK], [], (upS S 1 2 ((S 1 2) + ((1 : Int32)))), 0)) rfl ?_
            refine ev_let (P := fun S2 => Ev (d) Mx83 (59, [.ref 1, mK], [], S2, 0) r) (fun S2 hf => ?_) hf
            exact ev_sts 1 (c2 := (5, [.ref 1, mK], [], S2, 0)) rfl (ih hf)
theorem f_X8_moveTo_ok {d F : Nat} {p1 : Int32} {S : mS} {r : mR} (hf : f_X8_moveTo F p1 S = some r) : Ev (d) Mx83 (entry Mx83 [.ref 1, .int p1] S) r := by
  unfold f_X8_moveTo at hf
  refine ev_sts 3 (c2 := (5, [.ref 1, mK], [], (upS S 1 2 p1), 0)) rfl ?_
  refine ev_let (P := fun S1 => Ev (d) Mx83 (5, [.ref 1, mK], [], S1, 0) r) (fun S1 hf => ?_) hf
  exact f_X8_moveTo_b5_ok _ hf
def f_X8_refuse_b16 (S : mS) : Option mR := some (.inl (some (.int (((0 : Int32)) &&& 1))), S)
def f_X8_refuse (S : mS) : Option mR := (if ¬ (S 1 3) = ((-1 : Int32)) then f_X8_refuse_b16 S else bnd (upS S 1 3 (S 1 2)) (fun S1 => f_X8_refuse_b16 S1))
theorem f_X8_refuse_b16_ok {d : Nat} {S : mS} {r : mR} (hf : f_X8_refuse_b16  S = some r) : Ev (d) Mx78 (16, [mK], [], S, 0) r := by
  unfold f_X8_refuse_b16 at hf
  refine ev_sts 1 (c2 := (17, [mK], [.int ((0 : Int32))], S, 0)) rfl ?_
  exact ev_ret hf rfl rfl
theorem f_X8_refuse_ok {d : Nat} {S : mS} {r : mR} (hf : f_X8_refuse S = some r) : Ev (d) Mx78 (entry Mx78 [.ref 1] S) r := by
  unfold f_X8_refuse at hf
  refine ev_sts 3 (c2 := (5, [.ref 1], [.int ((-1 : Int32)), .int (S 1 3)], S, 0)) rfl ?_
  refine ev_if (c1 := (16, [mK], [], S, 0)) (c2 := (8, [.ref 1], [], S, 0)) hf rfl rfl (fun _ hf => ?_) (fun _ hf => ?_)
  · exact f_X8_refuse_b16_ok hf
  · refine ev_sts 4 (c2 := (16, [mK], [], (upS S 1 3 (S 1 2)), 0)) rfl ?_
    refine ev_let (P := fun S1 => Ev (d) Mx78 (16, [mK], [], S1, 0) r) (fun S1 hf => ?_) hf
    exact f_X8_refuse_b16_ok hf
def f_X8_takeNumber_b91 (F : Nat) (S : mS) : Option mR := bI0 (f_X8_refuse S) (fun r4 S3 => some (.inl (some (.int ((-1 : Int32)))), S3))
def f_X8_takeNumber_b59 (F : Nat) (x1 : Int32) (x2 : Int32) (x3 : Int32) (x4 : Int32) (S : mS) : Option mR := bnd (x3 - (S 1 2) : Int32) (fun y2 => (if y2 < ((1 : Int32)) then f_X8_takeNumber_b91 F S else (if ((3 : Int32)) < y2 then f_X8_takeNumber_b91 F S else (if x4 < x1 then f_X8_takeNumber_b91 F S else (if x4 ≤ x2 then bV0 (f_X8_moveTo F x3 S) (fun S5 => some (.inl (some (.int x4)), S5)) else f_X8_takeNumber_b91 F S)))))
def f_X8_takeNumber_b53 (K8 : Int32 → Int32 → Int32 → Int32 → mS → Option mR) (F : Nat) (x1 : Int32) (x2 : Int32) (x3 : Int32) (x4 : Int32) (S : mS) : Option mR := K8 x1 x2 (x3 + (1 : Int32)) x4 S
def f_X8_takeNumber_b8 (F : Nat) : Nat → Int32 → Int32 → Int32 → Int32 → mS → Option mR
  | 0, _, _, _, _, _ => none
  | n + 1, x1, x2, x3, x4, S => (if (S 1 1) ≤ x3 then f_X8_takeNumber_b59 F x1 x2 x3 x4 S else bI0 (f_X8_byteAt x3 S) (fun r7 S6 => bI0 (f_X8_isDigit r7 S6) (fun r9 S8 => (if r9 = 0 then f_X8_takeNumber_b59 F x1 x2 x3 x4 S8 else (if ((3 : Int32)) ≤ (x3 - (S8 1 2)) then f_X8_takeNumber_b53 (fun x1 x2 x3 x4 S => f_X8_takeNumber_b8 F n x1 x2 x3 x4 S) F x1 x2 x3 x4 S8 else bI0 (f_X8_byteAt x3 S8) (fun r11 S10 => bnd (((x4 * ((10 : Int32))) + r11) - ((48 : Int32)) : Int32) (fun y12 => f_X8_takeNumber_b53 (fun x1 x2 x3 x4 S => f_X8_takeNumber_b8 F n x1 x2 x3 x4 S) F x1 x2 x3 y12 S10)))))))
def f_X8_takeNumber (F : Nat) (p1 : Int32) (p2 : Int32) (S : mS) : Option mR := bnd (S 1 2 : Int32) (fun y1 => f_X8_takeNumber_b8 F F p1 p2 y1 ((0 : Int32)) S)
theorem f_X8_takeNumber_b91_ok {d F : Nat} {S : mS} {r : mR} (hf : f_X8_takeNumber_b91 F  S = some r) : Ev (d + 1) Mx82 (91, [.ref 1, mK, mK, mK, mK, mK], [], S, 0) r := by
  unfold f_X8_takeNumber_b91 at hf
  refine ev_sts 1 (c2 := (92, [.ref 1, mK, mK, mK, mK, mK], [.ref 1], S, 0)) rfl ?_
  refine ev_bI0 (d := d) (M' := Mx78) (ct := (95, [.ref 1, mK, mK, mK, mK, mK], [], S, 0)) hf rfl rfl rfl rfl (fun r9 h9 => f_X8_refuse_ok (d := d) h9) (fun r4 S3 hf => ?_)
  show Ev (d + 1) Mx82 (95, [.ref 1, mK, mK, mK, mK, mK], [.int r4], S3, 0) r
  refine ev_sts 2 (c2 := (97, [.ref 1, mK, mK, mK, mK, mK], [.int ((-1 : Int32))], S3, 0)) rfl ?_
  exact ev_ret hf rfl rfl
theorem f_X8_takeNumber_b59_ok {d F : Nat} {x1 : Int32} {x2 : Int32} {x3 : Int32} {x4 : Int32} {S : mS} {r : mR} (hf : f_X8_takeNumber_b59 F x1 x2 x3 x4 S = some r) : Ev (d + 1) Mx82 (59, [.ref 1, .int x1, .int x2, .int x3, .int x4, mK], [], S, 0) r := by
  unfold f_X8_takeNumber_b59 at hf
  refine ev_sts 5 (c2 := (67, [.ref 1, .int x1, .int x2, .int x3, .int x4, .int (x3 - (S 1 2))], [], S, 0)) rfl ?_
  refine ev_let (P := fun y2 => Ev (d + 1) Mx82 (67, [.ref 1, .int x1, .int x2, .int x3, .int x4, .int y2], [], S, 0) r) (fun y2 hf => ?_) hf
  refine ev_sts 2 (c2 := (70, [.ref 1, .int x1, .int x2, .int x3, .int x4, .int y2], [.int ((1 : Int32)), .int y2], S, 0)) rfl ?_
  refine ev_if (c1 := (91, [.ref 1, mK, mK, mK, mK, mK], [], S, 0)) (c2 := (73, [.ref 1, .int x1, .int x2, .int x3, .int x4, .int y2], [], S, 0)) hf rfl rfl (fun _ hf => ?_) (fun _ hf => ?_)
  · exact f_X8_takeNumber_b91_ok hf
  · refine ev_sts 2 (c2 := (76, [.ref 1, .int x1, .int x2, .int x3, .int x4, .int y2], [.int ((3 : Int32)), .int y2], S, 0)) rfl ?_
    refine ev_if (c1 := (91, [.ref 1, mK, mK, mK, mK, mK], [], S, 0)) (c2 := (79, [.ref 1, .int x1, .int x2, .int x3, .int x4, .int y2], [], S, 0)) hf rfl rfl (fun _ hf => ?_) (fun _ hf => ?_)
    · exact f_X8_takeNumber_b91_ok hf
    · refine ev_sts 2 (c2 := (82, [.ref 1, .int x1, .int x2, .int x3, .int x4, .int y2], [.int x1, .int x4], S, 0)) rfl ?_
      refine ev_if (c1 := (91, [.ref 1, mK, mK, mK, mK, mK], [], S, 0)) (c2 := (85, [.ref 1, .int x1, .int x2, .int x3, .int x4, .int y2], [], S, 0)) hf rfl rfl (fun _ hf => ?_) (fun _ hf => ?_)
      · exact f_X8_takeNumber_b91_ok hf
      · refine ev_sts 2 (c2 := (88, [.ref 1, .int x1, .int x2, .int x3, .int x4, .int y2], [.int x2, .int x4], S, 0)) rfl ?_
        refine ev_if (c1 := (98, [.ref 1, .int x1, .int x2, .int x3, .int x4, .int y2], [], S, 0)) (c2 := (91, [.ref 1, mK, mK, mK, mK, mK], [], S, 0)) hf rfl rfl (fun _ hf => ?_) (fun _ hf => ?_)
        · refine ev_sts 2 (c2 := (100, [.ref 1, .int x1, .int x2, .int x3, .int x4, .int y2], [.int x3, .ref 1], S, 0)) rfl ?_
          refine ev_bV0 (d := d) (M' := Mx83) (ct := (103, [.ref 1, .int x1, .int x2, .int x3, .int x4, .int y2], [], S, 0)) hf rfl rfl rfl rfl (fun r9 h9 => f_X8_moveTo_ok (d := d) h9) (fun S5 hf => ?_)
          show Ev (d + 1) Mx82 (103, [.ref 1, .int x1, .int x2, .int x3, .int x4, .int y2], [], S5, 0) r
          refine ev_sts 1 (c2 := (105, [.ref 1, .int x1, .int x2, .int x3, .int x4, .int y2], [.int x4], S5, 0)) rfl ?_
          exact ev_ret hf rfl rfl
        · exact f_X8_takeNumber_b91_ok hf
theorem f_X8_takeNumber_b53_ok {d F : Nat} {K8 : Int32 → Int32 → Int32 → Int32 → mS → Option mR} (hK8 : ∀ {x1 : Int32} {x2 : Int32} {x3 : Int32} {x4 : Int32} {S : mS} {r : mR}, K8 x1 x2 x3 x4 S = some r → Ev (d + 1) Mx82 (8, [.ref 1, .int x1, .int x2, .int x3, .int x4, mK], [], S, 0) r) {x1 : Int32} {x2 : Int32} {x3 : Int32} {x4 : Int32} {S : mS} {r : mR} (hf : f_X8_takeNumber_b53 K8 F x1 x2 x3 x4 S = some r) : Ev (d + 1) Mx82 (53, [.ref 1, .int x1, .int x2, .int x3, .int x4, mK], [], S, 0) r := by
  unfold f_X8_takeNumber_b53 at hf
  exact ev_sts 2 (c2 := (8, [.ref 1, .int x1, .int x2, .int (x3 + (1 : Int32)), .int x4, mK], [], S, 0)) rfl (hK8 hf)
theorem f_X8_takeNumber_b8_ok {d F : Nat} : ∀ (n : Nat) {x1 : Int32} {x2 : Int32} {x3 : Int32} {x4 : Int32} {S : mS} {r : mR}, f_X8_takeNumber_b8 F n x1 x2 x3 x4 S = some r → Ev (d + 1) Mx82 (8, [.ref 1, .int x1, .int x2, .int x3, .int x4, mK], [], S, 0) r := by
  intro n
  induction n with
  | zero => intro x1 x2 x3 x4 S r hf; cases hf
  | succ n ih =>
    intro x1 x2 x3 x4 S r hf
    rw [f_X8_takeNumber_b8] at hf
    refine ev_sts 3 (c2 := (13, [.ref 1, .int x1, .int x2, .int x3, .int x4, mK], [.int (S 1 1), .int x3], S, 0)) rfl ?_
    refine ev_if (c1 := (59, [.ref 1, .int x1, .int x2, .int x3, .int x4, mK], [], S, 0)) (c2 := (16, [.ref 1, .int x1, .int x2, .int x3, .int x4, mK], [], S, 0)) hf rfl rfl (fun _ hf => ?_) (fun _ hf => ?_)
    · exact f_X8_takeNumber_b59_ok hf
    · refine ev_sts 2 (c2 := (18, [.ref 1, .int x1, .int x2, .int x3, .int x4, mK], [.int x3, .ref 1], S, 0)) rfl ?_
      refine ev_bI0 (d := d) (M' := Mx84) (ct := (21, [.ref 1, .int x1, .int x2, .int x3, .int x4, mK], [], S, 0)) hf rfl rfl rfl rfl (fun r9 h9 => f_X8_byteAt_ok (d := d) h9) (fun r7 S6 hf => ?_)
      show Ev (d + 1) Mx82 (21, [.ref 1, .int x1, .int x2, .int x3, .int x4, mK], [.int r7], S6, 0) r
      refine ev_bI0 (d := d) (M' := Mx86) (ct := (24, [.ref 1, .int x1, .int x2, .int x3, .int x4, mK], [], S6, 0)) hf rfl rfl rfl rfl (fun r9 h9 => f_X8_isDigit_ok (d := d) h9) (fun r9 S8 hf => ?_)
      show Ev (d + 1) Mx82 (24, [.ref 1, .int x1, .int x2, .int x3, .int x4, mK], [.int r9], S8, 0) r
      refine ev_if (c1 := (59, [.ref 1, .int x1, .int x2, .int x3, .int x4, mK], [], S8, 0)) (c2 := (27, [.ref 1, .int x1, .int x2, .int x3, .int x4, mK], [], S8, 0)) hf rfl rfl (fun _ hf => ?_) (fun _ hf => ?_)
      · exact f_X8_takeNumber_b59_ok hf
      · refine ev_sts 5 (c2 := (34, [.ref 1, .int x1, .int x2, .int x3, .int x4, mK], [.int ((3 : Int32)), .int (x3 - (S8 1 2))], S8, 0)) rfl ?_
        refine ev_if (c1 := (53, [.ref 1, .int x1, .int x2, .int x3, .int x4, mK], [], S8, 0)) (c2 := (37, [.ref 1, .int x1, .int x2, .int x3, .int x4, mK], [], S8, 0)) hf rfl rfl (fun _ hf => ?_) (fun _ hf => ?_)
        · exact f_X8_takeNumber_b53_ok (fun h9 => ih h9) hf
        · refine ev_sts 5 (c2 := (44, [.ref 1, .int x1, .int x2, .int x3, .int x4, mK], [.int x3, .ref 1, .int (x4 * ((10 : Int32)))], S8, 0)) rfl ?_
          refine ev_bI0 (d := d) (M' := Mx84) (ct := (47, [.ref 1, .int x1, .int x2, .int x3, .int x4, mK], [.int (x4 * ((10 : Int32)))], S8, 0)) hf rfl rfl rfl rfl (fun r9 h9 => f_X8_byteAt_ok (d := d) h9) (fun r11 S10 hf => ?_)
          show Ev (d + 1) Mx82 (47, [.ref 1, .int x1, .int x2, .int x3, .int x4, mK], [.int r11, .int (x4 * ((10 : Int32)))], S10, 0) r
          refine ev_sts 4 (c2 := (53, [.ref 1, .int x1, .int x2, .int x3, .int (((x4 * ((10 : Int32))) + r11) - ((48 : Int32))), mK], [], S10, 0)) rfl ?_
          refine ev_let (P := fun y12 => Ev (d + 1) Mx82 (53, [.ref 1, .int x1, .int x2, .int x3, .int y12, mK], [], S10, 0) r) (fun y12 hf => ?_) hf
          exact f_X8_takeNumber_b53_ok (fun h9 => ih h9) hf
theorem f_X8_takeNumber_ok {d F : Nat} {p1 : Int32} {p2 : Int32} {S : mS} {r : mR} (hf : f_X8_takeNumber F p1 p2 S = some r) : Ev (d + 1) Mx82 (entry Mx82 [.ref 1, .int p1, .int p2] S) r := by
  unfold f_X8_takeNumber at hf
  refine ev_sts 3 (c2 := (5, [.ref 1, .int p1, .int p2, .int (S 1 2), mK, mK], [], S, 0)) rfl ?_
  refine ev_let (P := fun y1 => Ev (d + 1) Mx82 (5, [.ref 1, .int p1, .int p2, .int y1, mK, mK], [], S, 0) r) (fun y1 hf => ?_) hf
  exact ev_sts 2 (c2 := (8, [.ref 1, .int p1, .int p2, .int y1, .int ((0 : Int32)), mK], [], S, 0)) rfl (f_X8_takeNumber_b8_ok _ hf)
def f_X1_readChance (F : Nat) (p1 : Int32) (S : mS) : Option mR := bI0 (f_X8_takeNumber F ((0 : Int32)) ((100 : Int32)) S) (fun r2 S1 => (if ¬ r2 = ((-1 : Int32)) then bV0 (f_X0_put 26 p1 r2 S1) (fun S3 => some (.inl (some (.int (((1 : Int32)) &&& 1))), S3)) else some (.inl (some (.int (((0 : Int32)) &&& 1))), S1)))
theorem f_X1_readChance_ok {d F : Nat} {p1 : Int32} {S : mS} {r : mR} (hf : f_X1_readChance F p1 S = some r) : Ev (d + 2) Mx26 (entry Mx26 [.ref 30, .int p1] S) r := by
  unfold f_X1_readChance at hf
  refine ev_sts 4 (c2 := (7, [.ref 30, .int p1, mK], [.int ((100 : Int32)), .int ((0 : Int32)), .ref 1], S, 0)) rfl ?_
  refine ev_bI0 (d := d + 1) (M' := Mx82) (ct := (10, [.ref 30, .int p1, mK], [], S, 0)) hf rfl rfl rfl rfl (fun r9 h9 => f_X8_takeNumber_ok (d := d) h9) (fun r2 S1 hf => ?_)
  show Ev (d + 2) Mx26 (10, [.ref 30, .int p1, mK], [.int r2], S1, 0) r
  refine ev_sts 3 (c2 := (13, [.ref 30, .int p1, .int r2], [.int ((-1 : Int32)), .int r2], S1, 0)) rfl ?_
  refine ev_if (c1 := (18, [.ref 30, .int p1, .int r2], [], S1, 0)) (c2 := (16, [.ref 30, .int p1, .int r2], [], S1, 0)) hf rfl rfl (fun _ hf => ?_) (fun _ hf => ?_)
  · refine ev_sts 4 (c2 := (24, [.ref 30, .int p1, .int r2], [.int r2, .int p1, .ref 26], S1, 0)) rfl ?_
    refine ev_bV0 (d := d + 1) (M' := Mx2) (ct := (27, [.ref 30, .int p1, .int r2], [], S1, 0)) hf rfl rfl rfl rfl (fun r9 h9 => f_X0_put_ok_26 (d := d + 1) h9) (fun S3 hf => ?_)
    show Ev (d + 2) Mx26 (27, [.ref 30, .int p1, .int r2], [], S3, 0) r
    refine ev_sts 1 (c2 := (28, [.ref 30, .int p1, .int r2], [.int ((1 : Int32))], S3, 0)) rfl ?_
    exact ev_ret hf rfl rfl
  · refine ev_sts 1 (c2 := (17, [.ref 30, .int p1, .int r2], [.int ((0 : Int32))], S1, 0)) rfl ?_
    exact ev_ret hf rfl rfl
def f_X0_putClimber (u0 : Nat) (p1 : Int32) (p2 : Int32) (p3 : Int32) (S : mS) : Option mR := bV0 (f_X0_put u0 ((((78 : Int32)) + (p1 * ((2 : Int32)))) + p2) p3 S) (fun S1 => some (.inl none, S1))
theorem f_X0_putClimber_ok_26 {d : Nat} {p1 : Int32} {p2 : Int32} {p3 : Int32} {S : mS} {r : mR} (hf : f_X0_putClimber 26 p1 p2 p3 S = some r) : Ev (d + 1) Mx9 (entry Mx9 [.ref 26, .int p1, .int p2, .int p3] S) r := by
  unfold f_X0_putClimber at hf
  refine ev_sts 9 (c2 := (10, [.ref 26, .int p1, .int p2, .int p3], [.int p3, .int ((((78 : Int32)) + (p1 * ((2 : Int32)))) + p2), .ref 26], S, 0)) rfl ?_
  refine ev_bV0 (d := d) (M' := Mx2) (ct := (13, [.ref 26, .int p1, .int p2, .int p3], [], S, 0)) hf rfl rfl rfl rfl (fun r9 h9 => f_X0_put_ok_26 (d := d) h9) (fun S1 hf => ?_)
  show Ev (d + 1) Mx9 (13, [.ref 26, .int p1, .int p2, .int p3], [], S1, 0) r
  exact ev_ret hf rfl rfl
theorem f_X0_putClimber_ok_24 {d : Nat} {p1 : Int32} {p2 : Int32} {p3 : Int32} {S : mS} {r : mR} (hf : f_X0_putClimber 24 p1 p2 p3 S = some r) : Ev (d + 1) Mx9 (entry Mx9 [.ref 24, .int p1, .int p2, .int p3] S) r := by
  unfold f_X0_putClimber at hf
  refine ev_sts 9 (c2 := (10, [.ref 24, .int p1, .int p2, .int p3], [.int p3, .int ((((78 : Int32)) + (p1 * ((2 : Int32)))) + p2), .ref 24], S, 0)) rfl ?_
  refine ev_bV0 (d := d) (M' := Mx2) (ct := (13, [.ref 24, .int p1, .int p2, .int p3], [], S, 0)) hf rfl rfl rfl rfl (fun r9 h9 => f_X0_put_ok_24 (d := d) h9) (fun S1 hf => ?_)
  show Ev (d + 1) Mx9 (13, [.ref 24, .int p1, .int p2, .int p3], [], S1, 0) r
  exact ev_ret hf rfl rfl
def f_X1_readClimber (F : Nat) (S : mS) : Option mR := bI0 (f_X8_takeNumber F ((1 : Int32)) ((20 : Int32)) S) (fun r2 S1 => (if ¬ r2 = ((-1 : Int32)) then bI0 (f_X0_at 26 ((14 : Int32)) S1) (fun r4 S3 => bV0 (f_X0_putClimber 26 r4 ((0 : Int32)) r2 S3) (fun S5 => bV0 (f_X0_putClimber 26 r4 ((1 : Int32)) ((0 : Int32)) S5) (fun S6 => bV0 (f_X0_add 26 ((14 : Int32)) ((1 : Int32)) S6) (fun S7 => some (.inl (some (.int (((1 : Int32)) &&& 1))), S7))))) else some (.inl (some (.int (((0 : Int32)) &&& 1))), S1)))
theorem f_X1_readClimber_ok {d F : Nat} {S : mS} {r : mR} (hf : f_X1_readClimber F S = some r) : Ev (d + 2) Mx25 (entry Mx25 [.ref 30] S) r := by
  unfold f_X1_readClimber at hf
  refine ev_sts 4 (c2 := (7, [.ref 30, mK, mK], [.int ((20 : Int32)), .int ((1 : Int32)), .ref 1], S, 0)) rfl ?_
  refine ev_bI0 (d := d + 1) (M' := Mx82) (ct := (10, [.ref 30, mK, mK], [], S, 0)) hf rfl rfl rfl rfl (fun r9 h9 => f_X8_takeNumber_ok (d := d) h9) (fun r2 S1 hf => ?_)
  show Ev (d + 2) Mx25 (10, [.ref 30, mK, mK], [.int r2], S1, 0) r
  refine ev_sts 3 (c2 := (13, [.ref 30, .int r2, mK], [.int ((-1 : Int32)), .int r2], S1, 0)) rfl ?_
  refine ev_if (c1 := (18, [.ref 30, .int r2, mK], [], S1, 0)) (c2 := (16, [.ref 30, .int r2, mK], [], S1, 0)) hf rfl rfl (fun _ hf => ?_) (fun _ hf => ?_)
  · refine ev_sts 3 (c2 := (24, [.ref 30, .int r2, mK], [.int ((14 : Int32)), .ref 26], S1, 0)) rfl ?_
    refine ev_bI0 (d := d + 1) (M' := Mx1) (ct := (27, [.ref 30, .int r2, mK], [], S1, 0)) hf rfl rfl rfl rfl (fun r9 h9 => f_X0_at_ok_26 (d := d + 1) h9) (fun r4 S3 hf => ?_)
    show Ev (d + 2) Mx25 (27, [.ref 30, .int r2, mK], [.int r4], S3, 0) r
    refine ev_sts 6 (c2 := (35, [.ref 30, .int r2, .int r4], [.int r2, .int ((0 : Int32)), .int r4, .ref 26], S3, 0)) rfl ?_
    refine ev_bV0 (d := d + 1) (M' := Mx9) (ct := (38, [.ref 30, .int r2, .int r4], [], S3, 0)) hf rfl rfl rfl rfl (fun r9 h9 => f_X0_putClimber_ok_26 (d := d) h9) (fun S5 hf => ?_)
    show Ev (d + 2) Mx25 (38, [.ref 30, .int r2, .int r4], [], S5, 0) r
    refine ev_sts 5 (c2 := (45, [.ref 30, .int r2, .int r4], [.int ((0 : Int32)), .int ((1 : Int32)), .int r4, .ref 26], S5, 0)) rfl ?_
    refine ev_bV0 (d := d + 1) (M' := Mx9) (ct := (48, [.ref 30, .int r2, .int r4], [], S5, 0)) hf rfl rfl rfl rfl (fun r9 h9 => f_X0_putClimber_ok_26 (d := d) h9) (fun S6 hf => ?_)
    show Ev (d + 2) Mx25 (48, [.ref 30, .int r2, .int r4], [], S6, 0) r
    refine ev_sts 4 (c2 := (55, [.ref 30, .int r2, .int r4], [.int ((1 : Int32)), .int ((14 : Int32)), .ref 26], S6, 0)) rfl ?_
    refine ev_bV0 (d := d + 1) (M' := Mx3) (ct := (58, [.ref 30, .int r2, .int r4], [], S6, 0)) hf rfl rfl rfl rfl (fun r9 h9 => f_X0_add_ok_26 (d := d) h9) (fun S7 hf => ?_)
    show Ev (d + 2) Mx25 (58, [.ref 30, .int r2, .int r4], [], S7, 0) r
    refine ev_sts 1 (c2 := (59, [.ref 30, .int r2, .int r4], [.int ((1 : Int32))], S7, 0)) rfl ?_
    exact ev_ret hf rfl rfl
  · refine ev_sts 1 (c2 := (17, [.ref 30, .int r2, mK], [.int ((0 : Int32))], S1, 0)) rfl ?_
    exact ev_ret hf rfl rfl
def f_X1_readHolder (F : Nat) (S : mS) : Option mR := bI0 (f_X8_takeNumber F ((1 : Int32)) ((9 : Int32)) S) (fun r2 S1 => (if ¬ r2 = ((-1 : Int32)) then bI0 (f_X0_at 26 ((13 : Int32)) S1) (fun r4 S3 => bV0 (f_X0_putHolder 26 r4 ((0 : Int32)) r2 S3) (fun S5 => bV0 (f_X0_putHolder 26 r4 ((1 : Int32)) ((0 : Int32)) S5) (fun S6 => bV0 (f_X0_add 26 ((13 : Int32)) ((1 : Int32)) S6) (fun S7 => some (.inl (some (.int (((1 : Int32)) &&& 1))), S7))))) else some (.inl (some (.int (((0 : Int32)) &&& 1))), S1)))
theorem f_X1_readHolder_ok {d F : Nat} {S : mS} {r : mR} (hf : f_X1_readHolder F S = some r) : Ev (d + 2) Mx24 (entry Mx24 [.ref 30] S) r := by
  unfold f_X1_readHolder at hf
  refine ev_sts 4 (c2 := (7, [.ref 30, mK, mK], [.int ((9 : Int32)), .int ((1 : Int32)), .ref 1], S, 0)) rfl ?_
  refine ev_bI0 (d := d + 1) (M' := Mx82) (ct := (10, [.ref 30, mK, mK], [], S, 0)) hf rfl rfl rfl rfl (fun r9 h9 => f_X8_takeNumber_ok (d := d) h9) (fun r2 S1 hf => ?_)
  show Ev (d + 2) Mx24 (10, [.ref 30, mK, mK], [.int r2], S1, 0) r
  refine ev_sts 3 (c2 := (13, [.ref 30, .int r2, mK], [.int ((-1 : Int32)), .int r2], S1, 0)) rfl ?_
  refine ev_if (c1 := (18, [.ref 30, .int r2, mK], [], S1, 0)) (c2 := (16, [.ref 30, .int r2, mK], [], S1, 0)) hf rfl rfl (fun _ hf => ?_) (fun _ hf => ?_)
  · refine ev_sts 3 (c2 := (24, [.ref 30, .int r2, mK], [.int ((13 : Int32)), .ref 26], S1, 0)) rfl ?_
    refine ev_bI0 (d := d + 1) (M' := Mx1) (ct := (27, [.ref 30, .int r2, mK], [], S1, 0)) hf rfl rfl rfl rfl (fun r9 h9 => f_X0_at_ok_26 (d := d + 1) h9) (fun r4 S3 hf => ?_)
    show Ev (d + 2) Mx24 (27, [.ref 30, .int r2, mK], [.int r4], S3, 0) r
    refine ev_sts 6 (c2 := (35, [.ref 30, .int r2, .int r4], [.int r2, .int ((0 : Int32)), .int r4, .ref 26], S3, 0)) rfl ?_
    refine ev_bV0 (d := d + 1) (M' := Mx7) (ct := (38, [.ref 30, .int r2, .int r4], [], S3, 0)) hf rfl rfl rfl rfl (fun r9 h9 => f_X0_putHolder_ok_26 (d := d) h9) (fun S5 hf => ?_)
    show Ev (d + 2) Mx24 (38, [.ref 30, .int r2, .int r4], [], S5, 0) r
    refine ev_sts 5 (c2 := (45, [.ref 30, .int r2, .int r4], [.int ((0 : Int32)), .int ((1 : Int32)), .int r4, .ref 26], S5, 0)) rfl ?_
    refine ev_bV0 (d := d + 1) (M' := Mx7) (ct := (48, [.ref 30, .int r2, .int r4], [], S5, 0)) hf rfl rfl rfl rfl (fun r9 h9 => f_X0_putHolder_ok_26 (d := d) h9) (fun S6 hf => ?_)
    show Ev (d + 2) Mx24 (48, [.ref 30, .int r2, .int r4], [], S6, 0) r
    refine ev_sts 4 (c2 := (55, [.ref 30, .int r2, .int r4], [.int ((1 : Int32)), .int ((13 : Int32)), .ref 26], S6, 0)) rfl ?_
    refine ev_bV0 (d := d + 1) (M' := Mx3) (ct := (58, [.ref 30, .int r2, .int r4], [], S6, 0)) hf rfl rfl rfl rfl (fun r9 h9 => f_X0_add_ok_26 (d := d) h9) (fun S7 hf => ?_)
    show Ev (d + 2) Mx24 (58, [.ref 30, .int r2, .int r4], [], S7, 0) r
    refine ev_sts 1 (c2 := (59, [.ref 30, .int r2, .int r4], [.int ((1 : Int32))], S7, 0)) rfl ?_
    exact ev_ret hf rfl rfl
  · refine ev_sts 1 (c2 := (17, [.ref 30, .int r2, mK], [.int ((0 : Int32))], S1, 0)) rfl ?_
    exact ev_ret hf rfl rfl
def f_X8_isLetter_b17 (t0 : Int32) (S : mS) : Option mR := some (.inl (some (.int (t0 &&& 1))), S)
def f_X8_isLetter_b16 (S : mS) : Option mR := f_X8_isLetter_b17 ((0 : Int32)) S
def f_X8_isLetter (p0 : Int32) (S : mS) : Option mR := (if p0 < ((97 : Int32)) then f_X8_isLetter_b16 S else (if ((122 : Int32)) < p0 then f_X8_isLetter_b16 S else f_X8_isLetter_b17 ((1 : Int32)) S))
theorem f_X8_isLetter_b17_ok {d : Nat} {t0 : Int32} {S : mS} {r : mR} (hf : f_X8_isLetter_b17 t0 S = some r) : Ev (d) Mx85 (17, [mK], [.int t0], S, 0) r := by
  unfold f_X8_isLetter_b17 at hf
  exact ev_ret hf rfl rfl
theorem f_X8_isLetter_b16_ok {d : Nat} {S : mS} {r : mR} (hf : f_X8_isLetter_b16  S = some r) : Ev (d) Mx85 (16, [mK], [], S, 0) r := by
  unfold f_X8_isLetter_b16 at hf
  exact ev_sts 1 (c2 := (17, [mK], [.int ((0 : Int32))], S, 0)) rfl (f_X8_isLetter_b17_ok hf)
theorem f_X8_isLetter_ok {d : Nat} {p0 : Int32} {S : mS} {r : mR} (hf : f_X8_isLetter p0 S = some r) : Ev (d) Mx85 (entry Mx85 [.int p0] S) r := by
  unfold f_X8_isLetter at hf
  refine ev_sts 2 (c2 := (3, [.int p0], [.int ((97 : Int32)), .int p0], S, 0)) rfl ?_
  refine ev_if (c1 := (16, [mK], [], S, 0)) (c2 := (6, [.int p0], [], S, 0)) hf rfl rfl (fun _ hf => ?_) (fun _ hf => ?_)
  · exact f_X8_isLetter_b16_ok hf
  · refine ev_sts 2 (c2 := (9, [.int p0], [.int ((122 : Int32)), .int p0], S, 0)) rfl ?_
    refine ev_if (c1 := (16, [mK], [], S, 0)) (c2 := (12, [.int p0], [], S, 0)) hf rfl rfl (fun _ hf => ?_) (fun _ hf => ?_)
    · exact f_X8_isLetter_b16_ok hf
    · exact ev_sts 2 (c2 := (17, [mK], [.int ((1 : Int32))], S, 0)) rfl (f_X8_isLetter_b17_ok hf)
def f_X8_takesWord_b47 (F : Nat) (w1 : Nat) : Nat → Int32 → Int32 → mS → Option mR
  | 0, _, _, _ => none
  | n + 1, x2, x3, S => (if (Int32.ofNat (mStr.getD w1 []).length) ≤ x3 then bV0 (f_X8_moveTo F x2 S) (fun S2 => some (.inl (some (.int (((1 : Int32)) &&& 1))), S2)) else bI0 (f_X8_byteAt ((S 1 2) + x3) S) (fun r4 S3 => gd (inb x3 (mStr.getD w1 []).length) ((if r4 = ((mStr.getD w1 []).getD x3.toNatClampNeg 0) then f_X8_takesWord_b47 F w1 n x2 (x3 + (1 : Int32)) S3 else some (.inl (some (.int (((0 : Int32)) &&& 1))), S3)))))
def f_X8_takesWord_b30 (F : Nat) (w1 : Nat) (x2 : Int32) (S : mS) : Option mR := (if (x2 - (S 1 2)) = (Int32.ofNat (mStr.getD w1 []).length) then f_X8_takesWord_b47 F w1 F x2 ((0 : Int32)) S else some (.inl (some (.int (((0 : Int32)) &&& 1))), S))
def f_X8_takesWord_b5 (F : Nat) (w1 : Nat) : Nat → Int32 → mS → Option mR
  | 0, _, _ => none
  | n + 1, x2, S => (if (S 1 1) ≤ x2 then f_X8_takesWord_b30 F w1 x2 S else bI0 (f_X8_byteAt x2 S) (fun r6 S5 => bI0 (f_X8_isLetter r6 S5) (fun r8 S7 => (if r8 = 0 then f_X8_takesWord_b30 F w1 x2 S7 else f_X8_takesWord_b5 F w1 n (x2 + (1 : Int32)) S7))))
def f_X8_takesWord (F : Nat) (w1 : Nat) (S : mS) : Option mR := bnd (S 1 2 : Int32) (fun y1 => f_X8_takesWord_b5 F w1 F y1 S)
theorem f_X8_takesWord_b47_ok_1015 {d F : Nat} : ∀ (n : Nat) {x2 : Int32} {x3 : Int32} {S : mS} {r : mR}, f_X8_takesWord_b47 F 15 n x2 x3 S = some r → Ev (d + 1) Mx79 (47, [.ref 1, .ref 1015, .int x2, .int x3], [], S, 0) r := by
  intro n
  induction n with
  | zero => intro x2 x3 S r hf; cases hf
  | succ n ih =>
    intro x2 x3 S r hf
    rw [f_X8_takesWord_b47] at hf
    refine ev_sts 3 (c2 := (52, [.ref 1, .ref 1015, .int x2, .int x3], [.int (Int32.ofNat (mStr.getD 15 []).length), .int x3], S, 0)) rfl ?_
    refine ev_if (c1 := (81, [.ref 1, .ref 1015, .int x2, .int x3], [], S, 0)) (c2 := (55, [.ref 1, .ref 1015, .int x2, .int x3], [], S, 0)) hf rfl rfl (fun _ hf => ?_) (fun _ hf => ?_)
    · refine ev_sts 2 (c2 := (83, [.ref 1, .ref 1015, .int x2, .int x3], [.int x2, .ref 1], S, 0)) rfl ?_
      refine ev_bV0 (d := d) (M' := Mx83) (ct := (86, [.ref 1, .ref 1015, .int x2, .int x3], [], S, 0)) hf rfl rfl rfl rfl (fun r9 h9 => f_X8_moveTo_ok (d := d) h9) (fun S2 hf => ?_)
      show Ev (d + 1) Mx79 (86, [.ref 1, .ref 1015, .int x2, .int x3], [], S2, 0) r
      refine ev_sts 1 (c2 := (87, [.ref 1, .ref 1015, .int x2, .int x3], [.int ((1 : Int32))], S2, 0)) rfl ?_
      exact ev_ret hf rfl rfl
    · refine ev_sts 5 (c2 := (62, [.ref 1, .ref 1015, .int x2, .int x3], [.int ((S 1 2) + x3), .ref 1], S, 0)) rfl ?_
      refine ev_bI0 (d := d) (M' := Mx84) (ct := (65, [.ref 1, .ref 1015, .int x2, .int x3], [], S, 0)) hf rfl rfl rfl rfl (fun r9 h9 => f_X8_byteAt_ok (d := d) h9) (fun r4 S3 hf => ?_)
      show Ev (d + 1) Mx79 (65, [.ref 1, .ref 1015, .int x2, .int x3], [.int r4], S3, 0) r
      refine ev_sts 2 (c2 := (67, [.ref 1, .ref 1015, .int x2, .int x3], [.int x3, .ref 1015, .int r4], S3, 0)) rfl ?_
      refine ev_gd (c1 := (70, [.ref 1, .ref 1015, .int x2, .int x3], [.int ((mStr.getD 15 []).getD x3.toNatClampNeg 0), .int r4], S3, 0)) hf rfl rfl (fun hf => ?_)
      refine ev_if (c1 := (75, [.ref 1, .ref 1015, .int x2, .int x3], [], S3, 0)) (c2 := (73, [.ref 1, .ref 1015, .int x2, .int x3], [], S3, 0)) hf rfl rfl (fun _ hf => ?_) (fun _ hf => ?_)
      · exact ev_sts 2 (c2 := (47, [.ref 1, .ref 1015, .int x2, .int (x3 + (1 : Int32))], [], S3, 0)) rfl (ih hf)
      · refine ev_sts 1 (c2 := (74, [.ref 1, .ref 1015, .int x2, .int x3], [.int ((0 : Int32))], S3, 0)) rfl ?_
        exact ev_ret hf rfl rfl
theorem f_X8_takesWord_b30_ok_1015 {d F : Nat} {x2 : Int32} {S : mS} {r : mR} (hf : f_X8_takesWord_b30 F 15 x2 S = some r) : Ev (d + 1) Mx79 (30, [.ref 1, .ref 1015, .int x2, mK], [], S, 0) r := by
  unfold f_X8_takesWord_b30 at hf
  refine ev_sts 6 (c2 := (40, [.ref 1, .ref 1015, .int x2, mK], [.int (Int32.ofNat (mStr.getD 15 []).length), .int (x2 - (S 1 2))], S, 0)) rfl ?_
  refine ev_if (c1 := (45, [.ref 1, .ref 1015, .int x2, mK], [], S, 0)) (c2 := (43, [.ref 1, .ref 1015, .int x2, mK], [], S, 0)) hf rfl rfl (fun _ hf => ?_) (fun _ hf => ?_)
  · exact ev_sts 2 (c2 := (47, [.ref 1, .ref 1015, .int x2, .int ((0 : Int32))], [], S, 0)) rfl (f_X8_takesWord_b47_ok_1015 _ hf)
  · refine ev_sts 1 (c2 := (44, [.ref 1, .ref 1015, .int x2, mK], [.int ((0 : Int32))], S, 0)) rfl ?_
    exact ev_ret hf rfl rfl
theorem f_X8_takesWord_b5_ok_1015 {d F : Nat} : ∀ (n : Nat) {x2 : Int32} {S : mS} {r : mR}, f_X8_takesWord_b5 F 15 n x2 S = some r → Ev (d + 1) Mx79 (5, [.ref 1, .ref 1015, .int x2, mK], [], S, 0) r := by
  intro n
  induction n with
  | zero => intro x2 S r hf; cases hf
  | succ n ih =>
    intro x2 S r hf
    rw [f_X8_takesWord_b5] at hf
    refine ev_sts 3 (c2 := (10, [.ref 1, .ref 1015, .int x2, mK], [.int (S 1 1), .int x2], S, 0)) rfl ?_
    refine ev_if (c1 := (30, [.ref 1, .ref 1015, .int x2, mK], [], S, 0)) (c2 := (13, [.ref 1, .ref 1015, .int x2, mK], [], S, 0)) hf rfl rfl (fun _ hf => ?_) (fun _ hf => ?_)
    · exact f_X8_takesWord_b30_ok_1015 hf
    · refine ev_sts 2 (c2 := (15, [.ref 1, .ref 1015, .int x2, mK], [.int x2, .ref 1], S, 0)) rfl ?_
      refine ev_bI0 (d := d) (M' := Mx84) (ct := (18, [.ref 1, .ref 1015, .int x2, mK], [], S, 0)) hf rfl rfl rfl rfl (fun r9 h9 => f_X8_byteAt_ok (d := d) h9) (fun r6 S5 hf => ?_)
      show Ev (d + 1) Mx79 (18, [.ref 1, .ref 1015, .int x2, mK], [.int r6], S5, 0) r
      refine ev_bI0 (d := d) (M' := Mx85) (ct := (21, [.ref 1, .ref 1015, .int x2, mK], [], S5, 0)) hf rfl rfl rfl rfl (fun r9 h9 => f_X8_isLetter_ok (d := d) h9) (fun r8 S7 hf => ?_)
      show Ev (d + 1) Mx79 (21, [.ref 1, .ref 1015, .int x2, mK], [.int r8], S7, 0) r
      refine ev_if (c1 := (30, [.ref 1, .ref 1015, .int x2, mK], [], S7, 0)) (c2 := (24, [.ref 1, .ref 1015, .int x2, mK], [], S7, 0)) hf rfl rfl (fun _ hf => ?_) (fun _ hf => ?_)
      · exact f_X8_takesWord_b30_ok_1015 hf
      · exact ev_sts 2 (c2 := (5, [.ref 1, .ref 1015, .int (x2 + (1 : Int32)), mK], [], S7, 0)) rfl (ih hf)
theorem f_X8_takesWord_ok_1015 {d F : Nat} {S : mS} {r : mR} (hf : f_X8_takesWord F 15 S = some r) : Ev (d + 1) Mx79 (entry Mx79 [.ref 1, .ref 1015] S) r := by
  unfold f_X8_takesWord at hf
  refine ev_sts 3 (c2 := (5, [.ref 1, .ref 1015, .int (S 1 2), mK], [], S, 0)) rfl ?_
  refine ev_let (P := fun y1 => Ev (d + 1) Mx79 (5, [.ref 1, .ref 1015, .int y1, mK], [], S, 0) r) (fun y1 hf => ?_) hf
  exact f_X8_takesWord_b5_ok_1015 _ hf
theorem f_X8_takesWord_b47_ok_1020 {d F : Nat} : ∀ (n : Nat) {x2 : Int32} {x3 : Int32} {S : mS} {r : mR}, f_X8_takesWord_b47 F 20 n x2 x3 S = some r → Ev (d + 1) Mx79 (47, [.ref 1, .ref 1020, .int x2, .int x3], [], S, 0) r := by
  intro n
  induction n with
  | zero => intro x2 x3 S r hf; cases hf
  | succ n ih =>
    intro x2 x3 S r hf
    rw [f_X8_takesWord_b47] at hf
    refine ev_sts 3 (c2 := (52, [.ref 1, .ref 1020, .int x2, .int x3], [.int (Int32.ofNat (mStr.getD 20 []).length), .int x3], S, 0)) rfl ?_
    refine ev_if (c1 := (81, [.ref 1, .ref 1020, .int x2, .int x3], [], S, 0)) (c2 := (55, [.ref 1, .ref 1020, .int x2, .int x3], [], S, 0)) hf rfl rfl (fun _ hf => ?_) (fun _ hf => ?_)
    · refine ev_sts 2 (c2 := (83, [.ref 1, .ref 1020, .int x2, .int x3], [.int x2, .ref 1], S, 0)) rfl ?_
      refine ev_bV0 (d := d) (M' := Mx83) (ct := (86, [.ref 1, .ref 1020, .int x2, .int x3], [], S, 0)) hf rfl rfl rfl rfl (fun r9 h9 => f_X8_moveTo_ok (d := d) h9) (fun S2 hf => ?_)
      show Ev (d + 1) Mx79 (86, [.ref 1, .ref 1020, .int x2, .int x3], [], S2, 0) r
      refine ev_sts 1 (c2 := (87, [.ref 1, .ref 1020, .int x2, .int x3], [.int ((1 : Int32))], S2, 0)) rfl ?_
      exact ev_ret hf rfl rfl
    · refine ev_sts 5 (c2 := (62, [.ref 1, .ref 1020, .int x2, .int x3], [.int ((S 1 2) + x3), .ref 1], S, 0)) rfl ?_
      refine ev_bI0 (d := d) (M' := Mx84) (ct := (65, [.ref 1, .ref 1020, .int x2, .int x3], [], S, 0)) hf rfl rfl rfl rfl (fun r9 h9 => f_X8_byteAt_ok (d := d) h9) (fun r4 S3 hf => ?_)
      show Ev (d + 1) Mx79 (65, [.ref 1, .ref 1020, .int x2, .int x3], [.int r4], S3, 0) r
      refine ev_sts 2 (c2 := (67, [.ref 1, .ref 1020, .int x2, .int x3], [.int x3, .ref 1020, .int r4], S3, 0)) rfl ?_
      refine ev_gd (c1 := (70, [.ref 1, .ref 1020, .int x2, .int x3], [.int ((mStr.getD 20 []).getD x3.toNatClampNeg 0), .int r4], S3, 0)) hf rfl rfl (fun hf => ?_)
      refine ev_if (c1 := (75, [.ref 1, .ref 1020, .int x2, .int x3], [], S3, 0)) (c2 := (73, [.ref 1, .ref 1020, .int x2, .int x3], [], S3, 0)) hf rfl rfl (fun _ hf => ?_) (fun _ hf => ?_)
      · exact ev_sts 2 (c2 := (47, [.ref 1, .ref 1020, .int x2, .int (x3 + (1 : Int32))], [], S3, 0)) rfl (ih hf)
      · refine ev_sts 1 (c2 := (74, [.ref 1, .ref 1020, .int x2, .int x3], [.int ((0 : Int32))], S3, 0)) rfl ?_
        exact ev_ret hf rfl rfl
theorem f_X8_takesWord_b30_ok_1020 {d F : Nat} {x2 : Int32} {S : mS} {r : mR} (hf : f_X8_takesWord_b30 F 20 x2 S = some r) : Ev (d + 1) Mx79 (30, [.ref 1, .ref 1020, .int x2, mK], [], S, 0) r := by
  unfold f_X8_takesWord_b30 at hf
  refine ev_sts 6 (c2 := (40, [.ref 1, .ref 1020, .int x2, mK], [.int (Int32.ofNat (mStr.getD 20 []).length), .int (x2 - (S 1 2))], S, 0)) rfl ?_
  refine ev_if (c1 := (45, [.ref 1, .ref 1020, .int x2, mK], [], S, 0)) (c2 := (43, [.ref 1, .ref 1020, .int x2, mK], [], S, 0)) hf rfl rfl (fun _ hf => ?_) (fun _ hf => ?_)
  · exact ev_sts 2 (c2 := (47, [.ref 1, .ref 1020, .int x2, .int ((0 : Int32))], [], S, 0)) rfl (f_X8_takesWord_b47_ok_1020 _ hf)
  · refine ev_sts 1 (c2 := (44, [.ref 1, .ref 1020, .int x2, mK], [.int ((0 : Int32))], S, 0)) rfl ?_
    exact ev_ret hf rfl rfl
theorem f_X8_takesWord_b5_ok_1020 {d F : Nat} : ∀ (n : Nat) {x2 : Int32} {S : mS} {r : mR}, f_X8_takesWord_b5 F 20 n x2 S = some r → Ev (d + 1) Mx79 (5, [.ref 1, .ref 1020, .int x2, mK], [], S, 0) r := by
  intro n
  induction n with
  | zero => intro x2 S r hf; cases hf
  | succ n ih =>
    intro x2 S r hf
    rw [f_X8_takesWord_b5] at hf
    refine ev_sts 3 (c2 := (10, [.ref 1, .ref 1020, .int x2, mK], [.int (S 1 1), .int x2], S, 0)) rfl ?_
    refine ev_if (c1 := (30, [.ref 1, .ref 1020, .int x2, mK], [], S, 0)) (c2 := (13, [.ref 1, .ref 1020, .int x2, mK], [], S, 0)) hf rfl rfl (fun _ hf => ?_) (fun _ hf => ?_)
    · exact f_X8_takesWord_b30_ok_1020 hf
    · refine ev_sts 2 (c2 := (15, [.ref 1, .ref 1020, .int x2, mK], [.int x2, .ref 1], S, 0)) rfl ?_
      refine ev_bI0 (d := d) (M' := Mx84) (ct := (18, [.ref 1, .ref 1020, .int x2, mK], [], S, 0)) hf rfl rfl rfl rfl (fun r9 h9 => f_X8_byteAt_ok (d := d) h9) (fun r6 S5 hf => ?_)
      show Ev (d + 1) Mx79 (18, [.ref 1, .ref 1020, .int x2, mK], [.int r6], S5, 0) r
      refine ev_bI0 (d := d) (M' := Mx85) (ct := (21, [.ref 1, .ref 1020, .int x2, mK], [], S5, 0)) hf rfl rfl rfl rfl (fun r9 h9 => f_X8_isLetter_ok (d := d) h9) (fun r8 S7 hf => ?_)
      show Ev (d + 1) Mx79 (21, [.ref 1, .ref 1020, .int x2, mK], [.int r8], S7, 0) r
      refine ev_if (c1 := (30, [.ref 1, .ref 1020, .int x2, mK], [], S7, 0)) (c2 := (24, [.ref 1, .ref 1020, .int x2, mK], [], S7, 0)) hf rfl rfl (fun _ hf => ?_) (fun _ hf => ?_)
      · exact f_X8_takesWord_b30_ok_1020 hf
      · exact ev_sts 2 (c2 := (5, [.ref 1, .ref 1020, .int (x2 + (1 : Int32)), mK], [], S7, 0)) rfl (ih hf)
theorem f_X8_takesWord_ok_1020 {d F : Nat} {S : mS} {r : mR} (hf : f_X8_takesWord F 20 S = some r) : Ev (d + 1) Mx79 (entry Mx79 [.ref 1, .ref 1020] S) r := by
  unfold f_X8_takesWord at hf
  refine ev_sts 3 (c2 := (5, [.ref 1, .ref 1020, .int (S 1 2), mK], [], S, 0)) rfl ?_
  refine ev_let (P := fun y1 => Ev (d + 1) Mx79 (5, [.ref 1, .ref 1020, .int y1, mK], [], S, 0) r) (fun y1 hf => ?_) hf
  exact f_X8_takesWord_b5_ok_1020 _ hf
theorem f_X8_takesWord_b47_ok_1019 {d F : Nat} : ∀ (n : Nat) {x2 : Int32} {x3 : Int32} {S : mS} {r : mR}, f_X8_takesWord_b47 F 19 n x2 x3 S = some r → Ev (d + 1) Mx79 (47, [.ref 1, .ref 1019, .int x2, .int x3], [], S, 0) r := by
  intro n
  induction n with
  | zero => intro x2 x3 S r hf; cases hf
  | succ n ih =>
    intro x2 x3 S r hf
    rw [f_X8_takesWord_b47] at hf
    refine ev_sts 3 (c2 := (52, [.ref 1, .ref 1019, .int x2, .int x3], [.int (Int32.ofNat (mStr.getD 19 []).length), .int x3], S, 0)) rfl ?_
    refine ev_if (c1 := (81, [.ref 1, .ref 1019, .int x2, .int x3], [], S, 0)) (c2 := (55, [.ref 1, .ref 1019, .int x2, .int x3], [], S, 0)) hf rfl rfl (fun _ hf => ?_) (fun _ hf => ?_)
    · refine ev_sts 2 (c2 := (83, [.ref 1, .ref 1019, .int x2, .int x3], [.int x2, .ref 1], S, 0)) rfl ?_
      refine ev_bV0 (d := d) (M' := Mx83) (ct := (86, [.ref 1, .ref 1019, .int x2, .int x3], [], S, 0)) hf rfl rfl rfl rfl (fun r9 h9 => f_X8_moveTo_ok (d := d) h9) (fun S2 hf => ?_)
      show Ev (d + 1) Mx79 (86, [.ref 1, .ref 1019, .int x2, .int x3], [], S2, 0) r
      refine ev_sts 1 (c2 := (87, [.ref 1, .ref 1019, .int x2, .int x3], [.int ((1 : Int32))], S2, 0)) rfl ?_
      exact ev_ret hf rfl rfl
    · refine ev_sts 5 (c2 := (62, [.ref 1, .ref 1019, .int x2, .int x3], [.int ((S 1 2) + x3), .ref 1], S, 0)) rfl ?_
      refine ev_bI0 (d := d) (M' := Mx84) (ct := (65, [.ref 1, .ref 1019, .int x2, .int x3], [], S, 0)) hf rfl rfl rfl rfl (fun r9 h9 => f_X8_byteAt_ok (d := d) h9) (fun r4 S3 hf => ?_)
      show Ev (d + 1) Mx79 (65, [.ref 1, .ref 1019, .int x2, .int x3], [.int r4], S3, 0) r
      refine ev_sts 2 (c2 := (67, [.ref 1, .ref 1019, .int x2, .int x3], [.int x3, .ref 1019, .int r4], S3, 0)) rfl ?_
      refine ev_gd (c1 := (70, [.ref 1, .ref 1019, .int x2, .int x3], [.int ((mStr.getD 19 []).getD x3.toNatClampNeg 0), .int r4], S3, 0)) hf rfl rfl (fun hf => ?_)
      refine ev_if (c1 := (75, [.ref 1, .ref 1019, .int x2, .int x3], [], S3, 0)) (c2 := (73, [.ref 1, .ref 1019, .int x2, .int x3], [], S3, 0)) hf rfl rfl (fun _ hf => ?_) (fun _ hf => ?_)
      · exact ev_sts 2 (c2 := (47, [.ref 1, .ref 1019, .int x2, .int (x3 + (1 : Int32))], [], S3, 0)) rfl (ih hf)
      · refine ev_sts 1 (c2 := (74, [.ref 1, .ref 1019, .int x2, .int x3], [.int ((0 : Int32))], S3, 0)) rfl ?_
        exact ev_ret hf rfl rfl
theorem f_X8_takesWord_b30_ok_1019 {d F : Nat} {x2 : Int32} {S : mS} {r : mR} (hf : f_X8_takesWord_b30 F 19 x2 S = some r) : Ev (d + 1) Mx79 (30, [.ref 1, .ref 1019, .int x2, mK], [], S, 0) r := by
  unfold f_X8_takesWord_b30 at hf
  refine ev_sts 6 (c2 := (40, [.ref 1, .ref 1019, .int x2, mK], [.int (Int32.ofNat (mStr.getD 19 []).length), .int (x2 - (S 1 2))], S, 0)) rfl ?_
  refine ev_if (c1 := (45, [.ref 1, .ref 1019, .int x2, mK], [], S, 0)) (c2 := (43, [.ref 1, .ref 1019, .int x2, mK], [], S, 0)) hf rfl rfl (fun _ hf => ?_) (fun _ hf => ?_)
  · exact ev_sts 2 (c2 := (47, [.ref 1, .ref 1019, .int x2, .int ((0 : Int32))], [], S, 0)) rfl (f_X8_takesWord_b47_ok_1019 _ hf)
  · refine ev_sts 1 (c2 := (44, [.ref 1, .ref 1019, .int x2, mK], [.int ((0 : Int32))], S, 0)) rfl ?_
    exact ev_ret hf rfl rfl
theorem f_X8_takesWord_b5_ok_1019 {d F : Nat} : ∀ (n : Nat) {x2 : Int32} {S : mS} {r : mR}, f_X8_takesWord_b5 F 19 n x2 S = some r → Ev (d + 1) Mx79 (5, [.ref 1, .ref 1019, .int x2, mK], [], S, 0) r := by
  intro n
  induction n with
  | zero => intro x2 S r hf; cases hf
  | succ n ih =>
    intro x2 S r hf
    rw [f_X8_takesWord_b5] at hf
    refine ev_sts 3 (c2 := (10, [.ref 1, .ref 1019, .int x2, mK], [.int (S 1 1), .int x2], S, 0)) rfl ?_
    refine ev_if (c1 := (30, [.ref 1, .ref 1019, .int x2, mK], [], S, 0)) (c2 := (13, [.ref 1, .ref 1019, .int x2, mK], [], S, 0)) hf rfl rfl (fun _ hf => ?_) (fun _ hf => ?_)
    · exact f_X8_takesWord_b30_ok_1019 hf
    · refine ev_sts 2 (c2 := (15, [.ref 1, .ref 1019, .int x2, mK], [.int x2, .ref 1], S, 0)) rfl ?_
      refine ev_bI0 (d := d) (M' := Mx84) (ct := (18, [.ref 1, .ref 1019, .int x2, mK], [], S, 0)) hf rfl rfl rfl rfl (fun r9 h9 => f_X8_byteAt_ok (d := d) h9) (fun r6 S5 hf => ?_)
      show Ev (d + 1) Mx79 (18, [.ref 1, .ref 1019, .int x2, mK], [.int r6], S5, 0) r
      refine ev_bI0 (d := d) (M' := Mx85) (ct := (21, [.ref 1, .ref 1019, .int x2, mK], [], S5, 0)) hf rfl rfl rfl rfl (fun r9 h9 => f_X8_isLetter_ok (d := d) h9) (fun r8 S7 hf => ?_)
      show Ev (d + 1) Mx79 (21, [.ref 1, .ref 1019, .int x2, mK], [.int r8], S7, 0) r
      refine ev_if (c1 := (30, [.ref 1, .ref 1019, .int x2, mK], [], S7, 0)) (c2 := (24, [.ref 1, .ref 1019, .int x2, mK], [], S7, 0)) hf rfl rfl (fun _ hf => ?_) (fun _ hf => ?_)
      · exact f_X8_takesWord_b30_ok_1019 hf
      · exact ev_sts 2 (c2 := (5, [.ref 1, .ref 1019, .int (x2 + (1 : Int32)), mK], [], S7, 0)) rfl (ih hf)
theorem f_X8_takesWord_ok_1019 {d F : Nat} {S : mS} {r : mR} (hf : f_X8_takesWord F 19 S = some r) : Ev (d + 1) Mx79 (entry Mx79 [.ref 1, .ref 1019] S) r := by
  unfold f_X8_takesWord at hf
  refine ev_sts 3 (c2 := (5, [.ref 1, .ref 1019, .int (S 1 2), mK], [], S, 0)) rfl ?_
  refine ev_let (P := fun y1 => Ev (d + 1) Mx79 (5, [.ref 1, .ref 1019, .int y1, mK], [], S, 0) r) (fun y1 hf => ?_) hf
  exact f_X8_takesWord_b5_ok_1019 _ hf
theorem f_X8_takesWord_b47_ok_1018 {d F : Nat} : ∀ (n : Nat) {x2 : Int32} {x3 : Int32} {S : mS} {r : mR}, f_X8_takesWord_b47 F 18 n x2 x3 S = some r → Ev (d + 1) Mx79 (47, [.ref 1, .ref 1018, .int x2, .int x3], [], S, 0) r := by
  intro n
  induction n with
  | zero => intro x2 x3 S r hf; cases hf
  | succ n ih =>
    intro x2 x3 S r hf
    rw [f_X8_takesWord_b47] at hf
    refine ev_sts 3 (c2 := (52, [.ref 1, .ref 1018, .int x2, .int x3], [.int (Int32.ofNat (mStr.getD 18 []).length), .int x3], S, 0)) rfl ?_
    refine ev_if (c1 := (81, [.ref 1, .ref 1018, .int x2, .int x3], [], S, 0)) (c2 := (55, [.ref 1, .ref 1018, .int x2, .int x3], [], S, 0)) hf rfl rfl (fun _ hf => ?_) (fun _ hf => ?_)
    · refine ev_sts 2 (c2 := (83, [.ref 1, .ref 1018, .int x2, .int x3], [.int x2, .ref 1], S, 0)) rfl ?_
      refine ev_bV0 (d := d) (M' := Mx83) (ct := (86, [.ref 1, .ref 1018, .int x2, .int x3], [], S, 0)) hf rfl rfl rfl rfl (fun r9 h9 => f_X8_moveTo_ok (d := d) h9) (fun S2 hf => ?_)
      show Ev (d + 1) Mx79 (86, [.ref 1, .ref 1018, .int x2, .int x3], [], S2, 0) r
      refine ev_sts 1 (c2 := (87, [.ref 1, .ref 1018, .int x2, .int x3], [.int ((1 : Int32))], S2, 0)) rfl ?_
      exact ev_ret hf rfl rfl
    · refine ev_sts 5 (c2 := (62, [.ref 1, .ref 1018, .int x2, .int x3], [.int ((S 1 2) + x3), .ref 1], S, 0)) rfl ?_
      refine ev_bI0 (d := d) (M' := Mx84) (ct := (65, [.ref 1, .ref 1018, .int x2, .int x3], [], S, 0)) hf rfl rfl rfl rfl (fun r9 h9 => f_X8_byteAt_ok (d := d) h9) (fun r4 S3 hf => ?_)
      show Ev (d + 1) Mx79 (65, [.ref 1, .ref 1018, .int x2, .int x3], [.int r4], S3, 0) r
      refine ev_sts 2 (c2 := (67, [.ref 1, .ref 1018, .int x2, .int x3], [.int x3, .ref 1018, .int r4], S3, 0)) rfl ?_
      refine ev_gd (c1 := (70, [.ref 1, .ref 1018, .int x2, .int x3], [.int ((mStr.getD 18 []).getD x3.toNatClampNeg 0), .int r4], S3, 0)) hf rfl rfl (fun hf => ?_)
      refine ev_if (c1 := (75, [.ref 1, .ref 1018, .int x2, .int x3], [], S3, 0)) (c2 := (73, [.ref 1, .ref 1018, .int x2, .int x3], [], S3, 0)) hf rfl rfl (fun _ hf => ?_) (fun _ hf => ?_)
      · exact ev_sts 2 (c2 := (47, [.ref 1, .ref 1018, .int x2, .int (x3 + (1 : Int32))], [], S3, 0)) rfl (ih hf)
      · refine ev_sts 1 (c2 := (74, [.ref 1, .ref 1018, .int x2, .int x3], [.int ((0 : Int32))], S3, 0)) rfl ?_
        exact ev_ret hf rfl rfl
theorem f_X8_takesWord_b30_ok_1018 {d F : Nat} {x2 : Int32} {S : mS} {r : mR} (hf : f_X8_takesWord_b30 F 18 x2 S = some r) : Ev (d + 1) Mx79 (30, [.ref 1, .ref 1018, .int x2, mK], [], S, 0) r := by
  unfold f_X8_takesWord_b30 at hf
  refine ev_sts 6 (c2 := (40, [.ref 1, .ref 1018, .int x2, mK], [.int (Int32.ofNat (mStr.getD 18 []).length), .int (x2 - (S 1 2))], S, 0)) rfl ?_
  refine ev_if (c1 := (45, [.ref 1, .ref 1018, .int x2, mK], [], S, 0)) (c2 := (43, [.ref 1, .ref 1018, .int x2, mK], [], S, 0)) hf rfl rfl (fun _ hf => ?_) (fun _ hf => ?_)
  · exact ev_sts 2 (c2 := (47, [.ref 1, .ref 1018, .int x2, .int ((0 : Int32))], [], S, 0)) rfl (f_X8_takesWord_b47_ok_1018 _ hf)
  · refine ev_sts 1 (c2 := (44, [.ref 1, .ref 1018, .int x2, mK], [.int ((0 : Int32))], S, 0)) rfl ?_
    exact ev_ret hf rfl rfl
theorem f_X8_takesWord_b5_ok_1018 {d F : Nat} : ∀ (n : Nat) {x2 : Int32} {S : mS} {r : mR}, f_X8_takesWord_b5 F 18 n x2 S = some r → Ev (d + 1) Mx79 (5, [.ref 1, .ref 1018, .int x2, mK], [], S, 0) r := by
  intro n
  induction n with
  | zero => intro x2 S r hf; cases hf
  | succ n ih =>
    intro x2 S r hf
    rw [f_X8_takesWord_b5] at hf
    refine ev_sts 3 (c2 := (10, [.ref 1, .ref 1018, .int x2, mK], [.int (S 1 1), .int x2], S, 0)) rfl ?_
    refine ev_if (c1 := (30, [.ref 1, .ref 1018, .int x2, mK], [], S, 0)) (c2 := (13, [.ref 1, .ref 1018, .int x2, mK], [], S, 0)) hf rfl rfl (fun _ hf => ?_) (fun _ hf => ?_)
    · exact f_X8_takesWord_b30_ok_1018 hf
    · refine ev_sts 2 (c2 := (15, [.ref 1, .ref 1018, .int x2, mK], [.int x2, .ref 1], S, 0)) rfl ?_
      refine ev_bI0 (d := d) (M' := Mx84) (ct := (18, [.ref 1, .ref 1018, .int x2, mK], [], S, 0)) hf rfl rfl rfl rfl (fun r9 h9 => f_X8_byteAt_ok (d := d) h9) (fun r6 S5 hf => ?_)
      show Ev (d + 1) Mx79 (18, [.ref 1, .ref 1018, .int x2, mK], [.int r6], S5, 0) r
      refine ev_bI0 (d := d) (M' := Mx85) (ct := (21, [.ref 1, .ref 1018, .int x2, mK], [], S5, 0)) hf rfl rfl rfl rfl (fun r9 h9 => f_X8_isLetter_ok (d := d) h9) (fun r8 S7 hf => ?_)
      show Ev (d + 1) Mx79 (21, [.ref 1, .ref 1018, .int x2, mK], [.int r8], S7, 0) r
      refine ev_if (c1 := (30, [.ref 1, .ref 1018, .int x2, mK], [], S7, 0)) (c2 := (24, [.ref 1, .ref 1018, .int x2, mK], [], S7, 0)) hf rfl rfl (fun _ hf => ?_) (fun _ hf => ?_)
      · exact f_X8_takesWord_b30_ok_1018 hf
      · exact ev_sts 2 (c2 := (5, [.ref 1, .ref 1018, .int (x2 + (1 : Int32)), mK], [], S7, 0)) rfl (ih hf)
theorem f_X8_takesWord_ok_1018 {d F : Nat} {S : mS} {r : mR} (hf : f_X8_takesWord F 18 S = some r) : Ev (d + 1) Mx79 (entry Mx79 [.ref 1, .ref 1018] S) r := by
  unfold f_X8_takesWord at hf
  refine ev_sts 3 (c2 := (5, [.ref 1, .ref 1018, .int (S 1 2), mK], [], S, 0)) rfl ?_
  refine ev_let (P := fun y1 => Ev (d + 1) Mx79 (5, [.ref 1, .ref 1018, .int y1, mK], [], S, 0) r) (fun y1 hf => ?_) hf
  exact f_X8_takesWord_b5_ok_1018 _ hf
theorem f_X8_takesWord_b47_ok_1004 {d F : Nat} : ∀ (n : Nat) {x2 : Int32} {x3 : Int32} {S : mS} {r : mR}, f_X8_takesWord_b47 F 4 n x2 x3 S = some r → Ev (d + 1) Mx79 (47, [.ref 1, .ref 1004, .int x2, .int x3], [], S, 0) r := by
  intro n
  induction n with
  | zero => intro x2 x3 S r hf; cases hf
  | succ n ih =>
    intro x2 x3 S r hf
    rw [f_X8_takesWord_b47] at hf
    refine ev_sts 3 (c2 := (52, [.ref 1, .ref 1004, .int x2, .int x3], [.int (Int32.ofNat (mStr.getD 4 []).length), .int x3], S, 0)) rfl ?_
    refine ev_if (c1 := (81, [.ref 1, .ref 1004, .int x2, .int x3], [], S, 0)) (c2 := (55, [.ref 1, .ref 1004, .int x2, .int x3], [], S, 0)) hf rfl rfl (fun _ hf => ?_) (fun _ hf => ?_)
    · refine ev_sts 2 (c2 := (83, [.ref 1, .ref 1004, .int x2, .int x3], [.int x2, .ref 1], S, 0)) rfl ?_
      refine ev_bV0 (d := d) (M' := Mx83) (ct := (86, [.ref 1, .ref 1004, .int x2, .int x3], [], S, 0)) hf rfl rfl rfl rfl (fun r9 h9 => f_X8_moveTo_ok (d := d) h9) (fun S2 hf => ?_)
      show Ev (d + 1) Mx79 (86, [.ref 1, .ref 1004, .int x2, .int x3], [], S2, 0) r
      refine ev_sts 1 (c2 := (87, [.ref 1, .ref 1004, .int x2, .int x3], [.int ((1 : Int32))], S2, 0)) rfl ?_
      exact ev_ret hf rfl rfl
    · refine ev_sts 5 (c2 := (62, [.ref 1, .ref 1004, .int x2, .int x3], [.int ((S 1 2) + x3), .ref 1], S, 0)) rfl ?_
      refine ev_bI0 (d := d) (M' := Mx84) (ct := (65, [.ref 1, .ref 1004, .int x2, .int x3], [], S, 0)) hf rfl rfl rfl rfl (fun r9 h9 => f_X8_byteAt_ok (d := d) h9) (fun r4 S3 hf => ?_)
      show Ev (d + 1) Mx79 (65, [.ref 1, .ref 1004, .int x2, .int x3], [.int r4], S3, 0) r
      refine ev_sts 2 (c2 := (67, [.ref 1, .ref 1004, .int x2, .int x3], [.int x3, .ref 1004, .int r4], S3, 0)) rfl ?_
      refine ev_gd (c1 := (70, [.ref 1, .ref 1004, .int x2, .int x3], [.int ((mStr.getD 4 []).getD x3.toNatClampNeg 0), .int r4], S3, 0)) hf rfl rfl (fun hf => ?_)
      refine ev_if (c1 := (75, [.ref 1, .ref 1004, .int x2, .int x3], [], S3, 0)) (c2 := (73, [.ref 1, .ref 1004, .int x2, .int x3], [], S3, 0)) hf rfl rfl (fun _ hf => ?_) (fun _ hf => ?_)
      · exact ev_sts 2 (c2 := (47, [.ref 1, .ref 1004, .int x2, .int (x3 + (1 : Int32))], [], S3, 0)) rfl (ih hf)
      · refine ev_sts 1 (c2 := (74, [.ref 1, .ref 1004, .int x2, .int x3], [.int ((0 : Int32))], S3, 0)) rfl ?_
        exact ev_ret hf rfl rfl
theorem f_X8_takesWord_b30_ok_1004 {d F : Nat} {x2 : Int32} {S : mS} {r : mR} (hf : f_X8_takesWord_b30 F 4 x2 S = some r) : Ev (d + 1) Mx79 (30, [.ref 1, .ref 1004, .int x2, mK], [], S, 0) r := by
  unfold f_X8_takesWord_b30 at hf
  refine ev_sts 6 (c2 := (40, [.ref 1, .ref 1004, .int x2, mK], [.int (Int32.ofNat (mStr.getD 4 []).length), .int (x2 - (S 1 2))], S, 0)) rfl ?_
  refine ev_if (c1 := (45, [.ref 1, .ref 1004, .int x2, mK], [], S, 0)) (c2 := (43, [.ref 1, .ref 1004, .int x2, mK], [], S, 0)) hf rfl rfl (fun _ hf => ?_) (fun _ hf => ?_)
  · exact ev_sts 2 (c2 := (47, [.ref 1, .ref 1004, .int x2, .int ((0 : Int32))], [], S, 0)) rfl (f_X8_takesWord_b47_ok_1004 _ hf)
  · refine ev_sts 1 (c2 := (44, [.ref 1, .ref 1004, .int x2, mK], [.int ((0 : Int32))], S, 0)) rfl ?_
    exact ev_ret hf rfl rfl
theorem f_X8_takesWord_b5_ok_1004 {d F : Nat} : ∀ (n : Nat) {x2 : Int32} {S : mS} {r : mR}, f_X8_takesWord_b5 F 4 n x2 S = some r → Ev (d + 1) Mx79 (5, [.ref 1, .ref 1004, .int x2, mK], [], S, 0) r := by
  intro n
  induction n with
  | zero => intro x2 S r hf; cases hf
  | succ n ih =>
    intro x2 S r hf
    rw [f_X8_takesWord_b5] at hf
    refine ev_sts 3 (c2 := (10, [.ref 1, .ref 1004, .int x2, mK], [.int (S 1 1), .int x2], S, 0)) rfl ?_
    refine ev_if (c1 := (30, [.ref 1, .ref 1004, .int x2, mK], [], S, 0)) (c2 := (13, [.ref 1, .ref 1004, .int x2, mK], [], S, 0)) hf rfl rfl (fun _ hf => ?_) (fun _ hf => ?_)
    · exact f_X8_takesWord_b30_ok_1004 hf
    · refine ev_sts 2 (c2 := (15, [.ref 1, .ref 1004, .int x2, mK], [.int x2, .ref 1], S, 0)) rfl ?_
      refine ev_bI0 (d := d) (M' := Mx84) (ct := (18, [.ref 1, .ref 1004, .int x2, mK], [], S, 0)) hf rfl rfl rfl rfl (fun r9 h9 => f_X8_byteAt_ok (d := d) h9) (fun r6 S5 hf => ?_)
      show Ev (d + 1) Mx79 (18, [.ref 1, .ref 1004, .int x2, mK], [.int r6], S5, 0) r
      refine ev_bI0 (d := d) (M' := Mx85) (ct := (21, [.ref 1, .ref 1004, .int x2, mK], [], S5, 0)) hf rfl rfl rfl rfl (fun r9 h9 => f_X8_isLetter_ok (d := d) h9) (fun r8 S7 hf => ?_)
      show Ev (d + 1) Mx79 (21, [.ref 1, .ref 1004, .int x2, mK], [.int r8], S7, 0) r
      refine ev_if (c1 := (30, [.ref 1, .ref 1004, .int x2, mK], [], S7, 0)) (c2 := (24, [.ref 1, .ref 1004, .int x2, mK], [], S7, 0)) hf rfl rfl (fun _ hf => ?_) (fun _ hf => ?_)
      · exact f_X8_takesWord_b30_ok_1004 hf
      · exact ev_sts 2 (c2 := (5, [.ref 1, .ref 1004, .int (x2 + (1 : Int32)), mK], [], S7, 0)) rfl (ih hf)
theorem f_X8_takesWord_ok_1004 {d F : Nat} {S : mS} {r : mR} (hf : f_X8_takesWord F 4 S = some r) : Ev (d + 1) Mx79 (entry Mx79 [.ref 1, .ref 1004] S) r := by
  unfold f_X8_takesWord at hf
  refine ev_sts 3 (c2 := (5, [.ref 1, .ref 1004, .int (S 1 2), mK], [], S, 0)) rfl ?_
  refine ev_let (P := fun y1 => Ev (d + 1) Mx79 (5, [.ref 1, .ref 1004, .int y1, mK], [], S, 0) r) (fun y1 hf => ?_) hf
  exact f_X8_takesWord_b5_ok_1004 _ hf
theorem f_X8_takesWord_b47_ok_1003 {d F : Nat} : ∀ (n : Nat) {x2 : Int32} {x3 : Int32} {S : mS} {r : mR}, f_X8_takesWord_b47 F 3 n x2 x3 S = some r → Ev (d + 1) Mx79 (47, [.ref 1, .ref 1003, .int x2, .int x3], [], S, 0) r := by
  intro n
  induction n with
  | zero => intro x2 x3 S r hf; cases hf
  | succ n ih =>
    intro x2 x3 S r hf
    rw [f_X8_takesWord_b47] at hf
    refine ev_sts 3 (c2 := (52, [.ref 1, .ref 1003, .int x2, .int x3], [.int (Int32.ofNat (mStr.getD 3 []).length), .int x3], S, 0)) rfl ?_
    refine ev_if (c1 := (81, [.ref 1, .ref 1003, .int x2, .int x3], [], S, 0)) (c2 := (55, [.ref 1, .ref 1003, .int x2, .int x3], [], S, 0)) hf rfl rfl (fun _ hf => ?_) (fun _ hf => ?_)
    · refine ev_sts 2 (c2 := (83, [.ref 1, .ref 1003, .int x2, .int x3], [.int x2, .ref 1], S, 0)) rfl ?_
      refine ev_bV0 (d := d) (M' := Mx83) (ct := (86, [.ref 1, .ref 1003, .int x2, .int x3], [], S, 0)) hf rfl rfl rfl rfl (fun r9 h9 => f_X8_moveTo_ok (d := d) h9) (fun S2 hf => ?_)
      show Ev (d + 1) Mx79 (86, [.ref 1, .ref 1003, .int x2, .int x3], [], S2, 0) r
      refine ev_sts 1 (c2 := (87, [.ref 1, .ref 1003, .int x2, .int x3], [.int ((1 : Int32))], S2, 0)) rfl ?_
      exact ev_ret hf rfl rfl
    · refine ev_sts 5 (c2 := (62, [.ref 1, .ref 1003, .int x2, .int x3], [.int ((S 1 2) + x3), .ref 1], S, 0)) rfl ?_
      refine ev_bI0 (d := d) (M' := Mx84) (ct := (65, [.ref 1, .ref 1003, .int x2, .int x3], [], S, 0)) hf rfl rfl rfl rfl (fun r9 h9 => f_X8_byteAt_ok (d := d) h9) (fun r4 S3 hf => ?_)
      show Ev (d + 1) Mx79 (65, [.ref 1, .ref 1003, .int x2, .int x3], [.int r4], S3, 0) r
      refine ev_sts 2 (c2 := (67, [.ref 1, .ref 1003, .int x2, .int x3], [.int x3, .ref 1003, .int r4], S3, 0)) rfl ?_
      refine ev_gd (c1 := (70, [.ref 1, .ref 1003, .int x2, .int x3], [.int ((mStr.getD 3 []).getD x3.toNatClampNeg 0), .int r4], S3, 0)) hf rfl rfl (fun hf => ?_)
      refine ev_if (c1 := (75, [.ref 1, .ref 1003, .int x2, .int x3], [], S3, 0)) (c2 := (73, [.ref 1, .ref 1003, .int x2, .int x3], [], S3, 0)) hf rfl rfl (fun _ hf => ?_) (fun _ hf => ?_)
      · exact ev_sts 2 (c2 := (47, [.ref 1, .ref 1003, .int x2, .int (x3 + (1 : Int32))], [], S3, 0)) rfl (ih hf)
      · refine ev_sts 1 (c2 := (74, [.ref 1, .ref 1003, .int x2, .int x3], [.int ((0 : Int32))], S3, 0)) rfl ?_
        exact ev_ret hf rfl rfl
theorem f_X8_takesWord_b30_ok_1003 {d F : Nat} {x2 : Int32} {S : mS} {r : mR} (hf : f_X8_takesWord_b30 F 3 x2 S = some r) : Ev (d + 1) Mx79 (30, [.ref 1, .ref 1003, .int x2, mK], [], S, 0) r := by
  unfold f_X8_takesWord_b30 at hf
  refine ev_sts 6 (c2 := (40, [.ref 1, .ref 1003, .int x2, mK], [.int (Int32.ofNat (mStr.getD 3 []).length), .int (x2 - (S 1 2))], S, 0)) rfl ?_
  refine ev_if (c1 := (45, [.ref 1, .ref 1003, .int x2, mK], [], S, 0)) (c2 := (43, [.ref 1, .ref 1003, .int x2, mK], [], S, 0)) hf rfl rfl (fun _ hf => ?_) (fun _ hf => ?_)
  · exact ev_sts 2 (c2 := (47, [.ref 1, .ref 1003, .int x2, .int ((0 : Int32))], [], S, 0)) rfl (f_X8_takesWord_b47_ok_1003 _ hf)
  · refine ev_sts 1 (c2 := (44, [.ref 1, .ref 1003, .int x2, mK], [.int ((0 : Int32))], S, 0)) rfl ?_
    exact ev_ret hf rfl rfl
theorem f_X8_takesWord_b5_ok_1003 {d F : Nat} : ∀ (n : Nat) {x2 : Int32} {S : mS} {r : mR}, f_X8_takesWord_b5 F 3 n x2 S = some r → Ev (d + 1) Mx79 (5, [.ref 1, .ref 1003, .int x2, mK], [], S, 0) r := by
  intro n
  induction n with
  | zero => intro x2 S r hf; cases hf
  | succ n ih =>
    intro x2 S r hf
    rw [f_X8_takesWord_b5] at hf
    refine ev_sts 3 (c2 := (10, [.ref 1, .ref 1003, .int x2, mK], [.int (S 1 1), .int x2], S, 0)) rfl ?_
    refine ev_if (c1 := (30, [.ref 1, .ref 1003, .int x2, mK], [], S, 0)) (c2 := (13, [.ref 1, .ref 1003, .int x2, mK], [], S, 0)) hf rfl rfl (fun _ hf => ?_) (fun _ hf => ?_)
    · exact f_X8_takesWord_b30_ok_1003 hf
    · refine ev_sts 2 (c2 := (15, [.ref 1, .ref 1003, .int x2, mK], [.int x2, .ref 1], S, 0)) rfl ?_
      refine ev_bI0 (d := d) (M' := Mx84) (ct := (18, [.ref 1, .ref 1003, .int x2, mK], [], S, 0)) hf rfl rfl rfl rfl (fun r9 h9 => f_X8_byteAt_ok (d := d) h9) (fun r6 S5 hf => ?_)
      show Ev (d + 1) Mx79 (18, [.ref 1, .ref 1003, .int x2, mK], [.int r6], S5, 0) r
      refine ev_bI0 (d := d) (M' := Mx85) (ct := (21, [.ref 1, .ref 1003, .int x2, mK], [], S5, 0)) hf rfl rfl rfl rfl (fun r9 h9 => f_X8_isLetter_ok (d := d) h9) (fun r8 S7 hf => ?_)
      show Ev (d + 1) Mx79 (21, [.ref 1, .ref 1003, .int x2, mK], [.int r8], S7, 0) r
      refine ev_if (c1 := (30, [.ref 1, .ref 1003, .int x2, mK], [], S7, 0)) (c2 := (24, [.ref 1, .ref 1003, .int x2, mK], [], S7, 0)) hf rfl rfl (fun _ hf => ?_) (fun _ hf => ?_)
      · exact f_X8_takesWord_b30_ok_1003 hf
      · exact ev_sts 2 (c2 := (5, [.ref 1, .ref 1003, .int (x2 + (1 : Int32)), mK], [], S7, 0)) rfl (ih hf)
theorem f_X8_takesWord_ok_1003 {d F : Nat} {S : mS} {r : mR} (hf : f_X8_takesWord F 3 S = some r) : Ev (d + 1) Mx79 (entry Mx79 [.ref 1, .ref 1003] S) r := by
  unfold f_X8_takesWord at hf
  refine ev_sts 3 (c2 := (5, [.ref 1, .ref 1003, .int (S 1 2), mK], [], S, 0)) rfl ?_
  refine ev_let (P := fun y1 => Ev (d + 1) Mx79 (5, [.ref 1, .ref 1003, .int y1, mK], [], S, 0) r) (fun y1 hf => ?_) hf
  exact f_X8_takesWord_b5_ok_1003 _ hf
theorem f_X8_takesWord_b47_ok_1002 {d F : Nat} : ∀ (n : Nat) {x2 : Int32} {x3 : Int32} {S : mS} {r : mR}, f_X8_takesWord_b47 F 2 n x2 x3 S = some r → Ev (d + 1) Mx79 (47, [.ref 1, .ref 1002, .int x2, .int x3], [], S, 0) r := by
  intro n
  induction n with
  | zero => intro x2 x3 S r hf; cases hf
  | succ n ih =>
    intro x2 x3 S r hf
    rw [f_X8_takesWord_b47] at hf
    refine ev_sts 3 (c2 := (52, [.ref 1, .ref 1002, .int x2, .int x3], [.int (Int32.ofNat (mStr.getD 2 []).length), .int x3], S, 0)) rfl ?_
    refine ev_if (c1 := (81, [.ref 1, .ref 1002, .int x2, .int x3], [], S, 0)) (c2 := (55, [.ref 1, .ref 1002, .int x2, .int x3], [], S, 0)) hf rfl rfl (fun _ hf => ?_) (fun _ hf => ?_)
    · refine ev_sts 2 (c2 := (83, [.ref 1, .ref 1002, .int x2, .int x3], [.int x2, .ref 1], S, 0)) rfl ?_
      refine ev_bV0 (d := d) (M' := Mx83) (ct := (86, [.ref 1, .ref 1002, .int x2, .int x3], [], S, 0)) hf rfl rfl rfl rfl (fun r9 h9 => f_X8_moveTo_ok (d := d) h9) (fun S2 hf => ?_)
      show Ev (d + 1) Mx79 (86, [.ref 1, .ref 1002, .int x2, .int x3], [], S2, 0) r
      refine ev_sts 1 (c2 := (87, [.ref 1, .ref 1002, .int x2, .int x3], [.int ((1 : Int32))], S2, 0)) rfl ?_
      exact ev_ret hf rfl rfl
    · refine ev_sts 5 (c2 := (62, [.ref 1, .ref 1002, .int x2, .int x3], [.int ((S 1 2) + x3), .ref 1], S, 0)) rfl ?_
      refine ev_bI0 (d := d) (M' := Mx84) (ct := (65, [.ref 1, .ref 1002, .int x2, .int x3], [], S, 0)) hf rfl rfl rfl rfl (fun r9 h9 => f_X8_byteAt_ok (d := d) h9) (fun r4 S3 hf => ?_)
      show Ev (d + 1) Mx79 (65, [.ref 1, .ref 1002, .int x2, .int x3], [.int r4], S3, 0) r
      refine ev_sts 2 (c2 := (67, [.ref 1, .ref 1002, .int x2, .int x3], [.int x3, .ref 1002, .int r4], S3, 0)) rfl ?_
      refine ev_gd (c1 := (70, [.ref 1, .ref 1002, .int x2, .int x3], [.int ((mStr.getD 2 []).getD x3.toNatClampNeg 0), .int r4], S3, 0)) hf rfl rfl (fun hf => ?_)
      refine ev_if (c1 := (75, [.ref 1, .ref 1002, .int x2, .int x3], [], S3, 0)) (c2 := (73, [.ref 1, .ref 1002, .int x2, .int x3], [], S3, 0)) hf rfl rfl (fun _ hf => ?_) (fun _ hf => ?_)
      · exact ev_sts 2 (c2 := (47, [.ref 1, .ref 1002, .int x2, .int (x3 + (1 : Int32))], [], S3, 0)) rfl (ih hf)
      · refine ev_sts 1 (c2 := (74, [.ref 1, .ref 1002, .int x2, .int x3], [.int ((0 : Int32))], S3, 0)) rfl ?_
        exact ev_ret hf rfl rfl
theorem f_X8_takesWord_b30_ok_1002 {d F : Nat} {x2 : Int32} {S : mS} {r : mR} (hf : f_X8_takesWord_b30 F 2 x2 S = some r) : Ev (d + 1) Mx79 (30, [.ref 1, .ref 1002, .int x2, mK], [], S, 0) r := by
  unfold f_X8_takesWord_b30 at hf
  refine ev_sts 6 (c2 := (40, [.ref 1, .ref 1002, .int x2, mK], [.int (Int32.ofNat (mStr.getD 2 []).length), .int (x2 - (S 1 2))], S, 0)) rfl ?_
  refine ev_if (c1 := (45, [.ref 1, .ref 1002, .int x2, mK], [], S, 0)) (c2 := (43, [.ref 1, .ref 1002, .int x2, mK], [], S, 0)) hf rfl rfl (fun _ hf => ?_) (fun _ hf => ?_)
  · exact ev_sts 2 (c2 := (47, [.ref 1, .ref 1002, .int x2, .int ((0 : Int32))], [], S, 0)) rfl (f_X8_takesWord_b47_ok_1002 _ hf)
  · refine ev_sts 1 (c2 := (44, [.ref 1, .ref 1002, .int x2, mK], [.int ((0 : Int32))], S, 0)) rfl ?_
    exact ev_ret hf rfl rfl
theorem f_X8_takesWord_b5_ok_1002 {d F : Nat} : ∀ (n : Nat) {x2 : Int32} {S : mS} {r : mR}, f_X8_takesWord_b5 F 2 n x2 S = some r → Ev (d + 1) Mx79 (5, [.ref 1, .ref 1002, .int x2, mK], [], S, 0) r := by
  intro n
  induction n with
  | zero => intro x2 S r hf; cases hf
  | succ n ih =>
    intro x2 S r hf
    rw [f_X8_takesWord_b5] at hf
    refine ev_sts 3 (c2 := (10, [.ref 1, .ref 1002, .int x2, mK], [.int (S 1 1), .int x2], S, 0)) rfl ?_
    refine ev_if (c1 := (30, [.ref 1, .ref 1002, .int x2, mK], [], S, 0)) (c2 := (13, [.ref 1, .ref 1002, .int x2, mK], [], S, 0)) hf rfl rfl (fun _ hf => ?_) (fun _ hf => ?_)
    · exact f_X8_takesWord_b30_ok_1002 hf
    · refine ev_sts 2 (c2 := (15, [.ref 1, .ref 1002, .int x2, mK], [.int x2, .ref 1], S, 0)) rfl ?_
      refine ev_bI0 (d := d) (M' := Mx84) (ct := (18, [.ref 1, .ref 1002, .int x2, mK], [], S, 0)) hf rfl rfl rfl rfl (fun r9 h9 => f_X8_byteAt_ok (d := d) h9) (fun r6 S5 hf => ?_)
      show Ev (d + 1) Mx79 (18, [.ref 1, .ref 1002, .int x2, mK], [.int r6], S5, 0) r
      refine ev_bI0 (d := d) (M' := Mx85) (ct := (21, [.ref 1, .ref 1002, .int x2, mK], [], S5, 0)) hf rfl rfl rfl rfl (fun r9 h9 => f_X8_isLetter_ok (d := d) h9) (fun r8 S7 hf => ?_)
      show Ev (d + 1) Mx79 (21, [.ref 1, .ref 1002, .int x2, mK], [.int r8], S7, 0) r
      refine ev_if (c1 := (30, [.ref 1, .ref 1002, .int x2, mK], [], S7, 0)) (c2 := (24, [.ref 1, .ref 1002, .int x2, mK], [], S7, 0)) hf rfl rfl (fun _ hf => ?_) (fun _ hf => ?_)
      · exact f_X8_takesWord_b30_ok_1002 hf
      · exact ev_sts 2 (c2 := (5, [.ref 1, .ref 1002, .int (x2 + (1 : Int32)), mK], [], S7, 0)) rfl (ih hf)
theorem f_X8_takesWord_ok_1002 {d F : Nat} {S : mS} {r : mR} (hf : f_X8_takesWord F 2 S = some r) : Ev (d + 1) Mx79 (entry Mx79 [.ref 1, .ref 1002] S) r := by
  unfold f_X8_takesWord at hf
  refine ev_sts 3 (c2 := (5, [.ref 1, .ref 1002, .int (S 1 2), mK], [], S, 0)) rfl ?_
  refine ev_let (P := fun y1 => Ev (d + 1) Mx79 (5, [.ref 1, .ref 1002, .int y1, mK], [], S, 0) r) (fun y1 hf => ?_) hf
  exact f_X8_takesWord_b5_ok_1002 _ hf
theorem f_X8_takesWord_b47_ok_1001 {d F : Nat} : ∀ (n : Nat) {x2 : Int32} {x3 : Int32} {S : mS} {r : mR}, f_X8_takesWord_b47 F 1 n x2 x3 S = some r → Ev (d + 1) Mx79 (47, [.ref 1, .ref 1001, .int x2, .int x3], [], S, 0) r := by
  intro n
  induction n with
  | zero => intro x2 x3 S r hf; cases hf
  | succ n ih =>
    intro x2 x3 S r hf
    rw [f_X8_takesWord_b47] at hf
    refine ev_sts 3 (c2 := (52, [.ref 1, .ref 1001, .int x2, .int x3], [.int (Int32.ofNat (mStr.getD 1 []).length), .int x3], S, 0)) rfl ?_
    refine ev_if (c1 := (81, [.ref 1, .ref 1001, .int x2, .int x3], [], S, 0)) (c2 := (55, [.ref 1, .ref 1001, .int x2, .int x3], [], S, 0)) hf rfl rfl (fun _ hf => ?_) (fun _ hf => ?_)
    · refine ev_sts 2 (c2 := (83, [.ref 1, .ref 1001, .int x2, .int x3], [.int x2, .ref 1], S, 0)) rfl ?_
      refine ev_bV0 (d := d) (M' := Mx83) (ct := (86, [.ref 1, .ref 1001, .int x2, .int x3], [], S, 0)) hf rfl rfl rfl rfl (fun r9 h9 => f_X8_moveTo_ok (d := d) h9) (fun S2 hf => ?_)
      show Ev (d + 1) Mx79 (86, [.ref 1, .ref 1001, .int x2, .int x3], [], S2, 0) r
      refine ev_sts 1 (c2 := (87, [.ref 1, .ref 1001, .int x2, .int x3], [.int ((1 : Int32))], S2, 0)) rfl ?_
      exact ev_ret hf rfl rfl
    · refine ev_sts 5 (c2 := (62, [.ref 1, .ref 1001, .int x2, .int x3], [.int ((S 1 2) + x3), .ref 1], S, 0)) rfl ?_
      refine ev_bI0 (d := d) (M' := Mx84) (ct := (65, [.ref 1, .ref 1001, .int x2, .int x3], [], S, 0)) hf rfl rfl rfl rfl (fun r9 h9 => f_X8_byteAt_ok (d := d) h9) (fun r4 S3 hf => ?_)
      show Ev (d + 1) Mx79 (65, [.ref 1, .ref 1001, .int x2, .int x3], [.int r4], S3, 0) r
      refine ev_sts 2 (c2 := (67, [.ref 1, .ref 1001, .int x2, .int x3], [.int x3, .ref 1001, .int r4], S3, 0)) rfl ?_
      refine ev_gd (c1 := (70, [.ref 1, .ref 1001, .int x2, .int x3], [.int ((mStr.getD 1 []).getD x3.toNatClampNeg 0), .int r4], S3, 0)) hf rfl rfl (fun hf => ?_)
      refine ev_if (c1 := (75, [.ref 1, .ref 1001, .int x2, .int x3], [], S3, 0)) (c2 := (73, [.ref 1, .ref 1001, .int x2, .int x3], [], S3, 0)) hf rfl rfl (fun _ hf => ?_) (fun _ hf => ?_)
      · exact ev_sts 2 (c2 := (47, [.ref 1, .ref 1001, .int x2, .int (x3 + (1 : Int32))], [], S3, 0)) rfl (ih hf)
      · refine ev_sts 1 (c2 := (74, [.ref 1, .ref 1001, .int x2, .int x3], [.int ((0 : Int32))], S3, 0)) rfl ?_
        exact ev_ret hf rfl rfl
theorem f_X8_takesWord_b30_ok_1001 {d F : Nat} {x2 : Int32} {S : mS} {r : mR} (hf : f_X8_takesWord_b30 F 1 x2 S = some r) : Ev (d + 1) Mx79 (30, [.ref 1, .ref 1001, .int x2, mK], [], S, 0) r := by
  unfold f_X8_takesWord_b30 at hf
  refine ev_sts 6 (c2 := (40, [.ref 1, .ref 1001, .int x2, mK], [.int (Int32.ofNat (mStr.getD 1 []).length), .int (x2 - (S 1 2))], S, 0)) rfl ?_
  refine ev_if (c1 := (45, [.ref 1, .ref 1001, .int x2, mK], [], S, 0)) (c2 := (43, [.ref 1, .ref 1001, .int x2, mK], [], S, 0)) hf rfl rfl (fun _ hf => ?_) (fun _ hf => ?_)
  · exact ev_sts 2 (c2 := (47, [.ref 1, .ref 1001, .int x2, .int ((0 : Int32))], [], S, 0)) rfl (f_X8_takesWord_b47_ok_1001 _ hf)
  · refine ev_sts 1 (c2 := (44, [.ref 1, .ref 1001, .int x2, mK], [.int ((0 : Int32))], S, 0)) rfl ?_
    exact ev_ret hf rfl rfl
theorem f_X8_takesWord_b5_ok_1001 {d F : Nat} : ∀ (n : Nat) {x2 : Int32} {S : mS} {r : mR}, f_X8_takesWord_b5 F 1 n x2 S = some r → Ev (d + 1) Mx79 (5, [.ref 1, .ref 1001, .int x2, mK], [], S, 0) r := by
  intro n
  induction n with
  | zero => intro x2 S r hf; cases hf
  | succ n ih =>
    intro x2 S r hf
    rw [f_X8_takesWord_b5] at hf
    refine ev_sts 3 (c2 := (10, [.ref 1, .ref 1001, .int x2, mK], [.int (S 1 1), .int x2], S, 0)) rfl ?_
    refine ev_if (c1 := (30, [.ref 1, .ref 1001, .int x2, mK], [], S, 0)) (c2 := (13, [.ref 1, .ref 1001, .int x2, mK], [], S, 0)) hf rfl rfl (fun _ hf => ?_) (fun _ hf => ?_)
    · exact f_X8_takesWord_b30_ok_1001 hf
    · refine ev_sts 2 (c2 := (15, [.ref 1, .ref 1001, .int x2, mK], [.int x2, .ref 1], S, 0)) rfl ?_
      refine ev_bI0 (d := d) (M' := Mx84) (ct := (18, [.ref 1, .ref 1001, .int x2, mK], [], S, 0)) hf rfl rfl rfl rfl (fun r9 h9 => f_X8_byteAt_ok (d := d) h9) (fun r6 S5 hf => ?_)
      show Ev (d + 1) Mx79 (18, [.ref 1, .ref 1001, .int x2, mK], [.int r6], S5, 0) r
      refine ev_bI0 (d := d) (M' := Mx85) (ct := (21, [.ref 1, .ref 1001, .int x2, mK], [], S5, 0)) hf rfl rfl rfl rfl (fun r9 h9 => f_X8_isLetter_ok (d := d) h9) (fun r8 S7 hf => ?_)
      show Ev (d + 1) Mx79 (21, [.ref 1, .ref 1001, .int x2, mK], [.int r8], S7, 0) r
      refine ev_if (c1 := (30, [.ref 1, .ref 1001, .int x2, mK], [], S7, 0)) (c2 := (24, [.ref 1, .ref 1001, .int x2, mK], [], S7, 0)) hf rfl rfl (fun _ hf => ?_) (fun _ hf => ?_)
      · exact f_X8_takesWord_b30_ok_1001 hf
      · exact ev_sts 2 (c2 := (5, [.ref 1, .ref 1001, .int (x2 + (1 : Int32)), mK], [], S7, 0)) rfl (ih hf)
theorem f_X8_takesWord_ok_1001 {d F : Nat} {S : mS} {r : mR} (hf : f_X8_takesWord F 1 S = some r) : Ev (d + 1) Mx79 (entry Mx79 [.ref 1, .ref 1001] S) r := by
  unfold f_X8_takesWord at hf
  refine ev_sts 3 (c2 := (5, [.ref 1, .ref 1001, .int (S 1 2), mK], [], S, 0)) rfl ?_
  refine ev_let (P := fun y1 => Ev (d + 1) Mx79 (5, [.ref 1, .ref 1001, .int y1, mK], [], S, 0) r) (fun y1 hf => ?_) hf
  exact f_X8_takesWord_b5_ok_1001 _ hf
theorem f_X8_takesWord_b47_ok_1017 {d F : Nat} : ∀ (n : Nat) {x2 : Int32} {x3 : Int32} {S : mS} {r : mR}, f_X8_takesWord_b47 F 17 n x2 x3 S = some r → Ev (d + 1) Mx79 (47, [.ref 1, .ref 1017, .int x2, .int x3], [], S, 0) r := by
  intro n
  induction n with
  | zero => intro x2 x3 S r hf; cases hf
  | succ n ih =>
    intro x2 x3 S r hf
    rw [f_X8_takesWord_b47] at hf
    refine ev_sts 3 (c2 := (52, [.ref 1, .ref 1017, .int x2, .int x3], [.int (Int32.ofNat (mStr.getD 17 []).length), .int x3], S, 0)) rfl ?_
    refine ev_if (c1 := (81, [.ref 1, .ref 1017, .int x2, .int x3], [], S, 0)) (c2 := (55, [.ref 1, .ref 1017, .int x2, .int x3], [], S, 0)) hf rfl rfl (fun _ hf => ?_) (fun _ hf => ?_)
    · refine ev_sts 2 (c2 := (83, [.ref 1, .ref 1017, .int x2, .int x3], [.int x2, .ref 1], S, 0)) rfl ?_
      refine ev_bV0 (d := d) (M' := Mx83) (ct := (86, [.ref 1, .ref 1017, .int x2, .int x3], [], S, 0)) hf rfl rfl rfl rfl (fun r9 h9 => f_X8_moveTo_ok (d := d) h9) (fun S2 hf => ?_)
      show Ev (d + 1) Mx79 (86, [.ref 1, .ref 1017, .int x2, .int x3], [], S2, 0) r
      refine ev_sts 1 (c2 := (87, [.ref 1, .ref 1017, .int x2, .int x3], [.int ((1 : Int32))], S2, 0)) rfl ?_
      exact ev_ret hf rfl rfl
    · refine ev_sts 5 (c2 := (62, [.ref 1, .ref 1017, .int x2, .int x3], [.int ((S 1 2) + x3), .ref 1], S, 0)) rfl ?_
      refine ev_bI0 (d := d) (M' := Mx84) (ct := (65, [.ref 1, .ref 1017, .int x2, .int x3], [], S, 0)) hf rfl rfl rfl rfl (fun r9 h9 => f_X8_byteAt_ok (d := d) h9) (fun r4 S3 hf => ?_)
      show Ev (d + 1) Mx79 (65, [.ref 1, .ref 1017, .int x2, .int x3], [.int r4], S3, 0) r
      refine ev_sts 2 (c2 := (67, [.ref 1, .ref 1017, .int x2, .int x3], [.int x3, .ref 1017, .int r4], S3, 0)) rfl ?_
      refine ev_gd (c1 := (70, [.ref 1, .ref 1017, .int x2, .int x3], [.int ((mStr.getD 17 []).getD x3.toNatClampNeg 0), .int r4], S3, 0)) hf rfl rfl (fun hf => ?_)
      refine ev_if (c1 := (75, [.ref 1, .ref 1017, .int x2, .int x3], [], S3, 0)) (c2 := (73, [.ref 1, .ref 1017, .int x2, .int x3], [], S3, 0)) hf rfl rfl (fun _ hf => ?_) (fun _ hf => ?_)
      · exact ev_sts 2 (c2 := (47, [.ref 1, .ref 1017, .int x2, .int (x3 + (1 : Int32))], [], S3, 0)) rfl (ih hf)
      · refine ev_sts 1 (c2 := (74, [.ref 1, .ref 1017, .int x2, .int x3], [.int ((0 : Int32))], S3, 0)) rfl ?_
        exact ev_ret hf rfl rfl
theorem f_X8_takesWord_b30_ok_1017 {d F : Nat} {x2 : Int32} {S : mS} {r : mR} (hf : f_X8_takesWord_b30 F 17 x2 S = some r) : Ev (d + 1) Mx79 (30, [.ref 1, .ref 1017, .int x2, mK], [], S, 0) r := by
  unfold f_X8_takesWord_b30 at hf
  refine ev_sts 6 (c2 := (40, [.ref 1, .ref 1017, .int x2, mK], [.int (Int32.ofNat (mStr.getD 17 []).length), .int (x2 - (S 1 2))], S, 0)) rfl ?_
  refine ev_if (c1 := (45, [.ref 1, .ref 1017, .int x2, mK], [], S, 0)) (c2 := (43, [.ref 1, .ref 1017, .int x2, mK], [], S, 0)) hf rfl rfl (fun _ hf => ?_) (fun _ hf => ?_)
  · exact ev_sts 2 (c2 := (47, [.ref 1, .ref 1017, .int x2, .int ((0 : Int32))], [], S, 0)) rfl (f_X8_takesWord_b47_ok_1017 _ hf)
  · refine ev_sts 1 (c2 := (44, [.ref 1, .ref 1017, .int x2, mK], [.int ((0 : Int32))], S, 0)) rfl ?_
    exact ev_ret hf rfl rfl
theorem f_X8_takesWord_b5_ok_1017 {d F : Nat} : ∀ (n : Nat) {x2 : Int32} {S : mS} {r : mR}, f_X8_takesWord_b5 F 17 n x2 S = some r → Ev (d + 1) Mx79 (5, [.ref 1, .ref 1017, .int x2, mK], [], S, 0) r := by
  intro n
  induction n with
  | zero => intro x2 S r hf; cases hf
  | succ n ih =>
    intro x2 S r hf
    rw [f_X8_takesWord_b5] at hf
    refine ev_sts 3 (c2 := (10, [.ref 1, .ref 1017, .int x2, mK], [.int (S 1 1), .int x2], S, 0)) rfl ?_
    refine ev_if (c1 := (30, [.ref 1, .ref 1017, .int x2, mK], [], S, 0)) (c2 := (13, [.ref 1, .ref 1017, .int x2, mK], [], S, 0)) hf rfl rfl (fun _ hf => ?_) (fun _ hf => ?_)
    · exact f_X8_takesWord_b30_ok_1017 hf
    · refine ev_sts 2 (c2 := (15, [.ref 1, .ref 1017, .int x2, mK], [.int x2, .ref 1], S, 0)) rfl ?_
      refine ev_bI0 (d := d) (M' := Mx84) (ct := (18, [.ref 1, .ref 1017, .int x2, mK], [], S, 0)) hf rfl rfl rfl rfl (fun r9 h9 => f_X8_byteAt_ok (d := d) h9) (fun r6 S5 hf => ?_)
      show Ev (d + 1) Mx79 (18, [.ref 1, .ref 1017, .int x2, mK], [.int r6], S5, 0) r
      refine ev_bI0 (d := d) (M' := Mx85) (ct := (21, [.ref 1, .ref 1017, .int x2, mK], [], S5, 0)) hf rfl rfl rfl rfl (fun r9 h9 => f_X8_isLetter_ok (d := d) h9) (fun r8 S7 hf => ?_)
      show Ev (d + 1) Mx79 (21, [.ref 1, .ref 1017, .int x2, mK], [.int r8], S7, 0) r
      refine ev_if (c1 := (30, [.ref 1, .ref 1017, .int x2, mK], [], S7, 0)) (c2 := (24, [.ref 1, .ref 1017, .int x2, mK], [], S7, 0)) hf rfl rfl (fun _ hf => ?_) (fun _ hf => ?_)
      · exact f_X8_takesWord_b30_ok_1017 hf
      · exact ev_sts 2 (c2 := (5, [.ref 1, .ref 1017, .int (x2 + (1 : Int32)), mK], [], S7, 0)) rfl (ih hf)
theorem f_X8_takesWord_ok_1017 {d F : Nat} {S : mS} {r : mR} (hf : f_X8_takesWord F 17 S = some r) : Ev (d + 1) Mx79 (entry Mx79 [.ref 1, .ref 1017] S) r := by
  unfold f_X8_takesWord at hf
  refine ev_sts 3 (c2 := (5, [.ref 1, .ref 1017, .int (S 1 2), mK], [], S, 0)) rfl ?_
  refine ev_let (P := fun y1 => Ev (d + 1) Mx79 (5, [.ref 1, .ref 1017, .int y1, mK], [], S, 0) r) (fun y1 hf => ?_) hf
  exact f_X8_takesWord_b5_ok_1017 _ hf
theorem f_X8_takesWord_b47_ok_1016 {d F : Nat} : ∀ (n : Nat) {x2 : Int32} {x3 : Int32} {S : mS} {r : mR}, f_X8_takesWord_b47 F 16 n x2 x3 S = some r → Ev (d + 1) Mx79 (47, [.ref 1, .ref 1016, .int x2, .int x3], [], S, 0) r := by
  intro n
  induction n with
  | zero => intro x2 x3 S r hf; cases hf
  | succ n ih =>
    intro x2 x3 S r hf
    rw [f_X8_takesWord_b47] at hf
    refine ev_sts 3 (c2 := (52, [.ref 1, .ref 1016, .int x2, .int x3], [.int (Int32.ofNat (mStr.getD 16 []).length), .int x3], S, 0)) rfl ?_
    refine ev_if (c1 := (81, [.ref 1, .ref 1016, .int x2, .int x3], [], S, 0)) (c2 := (55, [.ref 1, .ref 1016, .int x2, .int x3], [], S, 0)) hf rfl rfl (fun _ hf => ?_) (fun _ hf => ?_)
    · refine ev_sts 2 (c2 := (83, [.ref 1, .ref 1016, .int x2, .int x3], [.int x2, .ref 1], S, 0)) rfl ?_
      refine ev_bV0 (d := d) (M' := Mx83) (ct := (86, [.ref 1, .ref 1016, .int x2, .int x3], [], S, 0)) hf rfl rfl rfl rfl (fun r9 h9 => f_X8_moveTo_ok (d := d) h9) (fun S2 hf => ?_)
      show Ev (d + 1) Mx79 (86, [.ref 1, .ref 1016, .int x2, .int x3], [], S2, 0) r
      refine ev_sts 1 (c2 := (87, [.ref 1, .ref 1016, .int x2, .int x3], [.int ((1 : Int32))], S2, 0)) rfl ?_
      exact ev_ret hf rfl rfl
    · refine ev_sts 5 (c2 := (62, [.ref 1, .ref 1016, .int x2, .int x3], [.int ((S 1 2) + x3), .ref 1], S, 0)) rfl ?_
      refine ev_bI0 (d := d) (M' := Mx84) (ct := (65, [.ref 1, .ref 1016, .int x2, .int x3], [], S, 0)) hf rfl rfl rfl rfl (fun r9 h9 => f_X8_byteAt_ok (d := d) h9) (fun r4 S3 hf => ?_)
      show Ev (d + 1) Mx79 (65, [.ref 1, .ref 1016, .int x2, .int x3], [.int r4], S3, 0) r
      refine ev_sts 2 (c2 := (67, [.ref 1, .ref 1016, .int x2, .int x3], [.int x3, .ref 1016, .int r4], S3, 0)) rfl ?_
      refine ev_gd (c1 := (70, [.ref 1, .ref 1016, .int x2, .int x3], [.int ((mStr.getD 16 []).getD x3.toNatClampNeg 0), .int r4], S3, 0)) hf rfl rfl (fun hf => ?_)
      refine ev_if (c1 := (75, [.ref 1, .ref 1016, .int x2, .int x3], [], S3, 0)) (c2 := (73, [.ref 1, .ref 1016, .int x2, .int x3], [], S3, 0)) hf rfl rfl (fun _ hf => ?_) (fun _ hf => ?_)
      · exact ev_sts 2 (c2 := (47, [.ref 1, .ref 1016, .int x2, .int (x3 + (1 : Int32))], [], S3, 0)) rfl (ih hf)
      · refine ev_sts 1 (c2 := (74, [.ref 1, .ref 1016, .int x2, .int x3], [.int ((0 : Int32))], S3, 0)) rfl ?_
        exact ev_ret hf rfl rfl
theorem f_X8_takesWord_b30_ok_1016 {d F : Nat} {x2 : Int32} {S : mS} {r : mR} (hf : f_X8_takesWord_b30 F 16 x2 S = some r) : Ev (d + 1) Mx79 (30, [.ref 1, .ref 1016, .int x2, mK], [], S, 0) r := by
  unfold f_X8_takesWord_b30 at hf
  refine ev_sts 6 (c2 := (40, [.ref 1, .ref 1016, .int x2, mK], [.int (Int32.ofNat (mStr.getD 16 []).length), .int (x2 - (S 1 2))], S, 0)) rfl ?_
  refine ev_if (c1 := (45, [.ref 1, .ref 1016, .int x2, mK], [], S, 0)) (c2 := (43, [.ref 1, .ref 1016, .int x2, mK], [], S, 0)) hf rfl rfl (fun _ hf => ?_) (fun _ hf => ?_)
  · exact ev_sts 2 (c2 := (47, [.ref 1, .ref 1016, .int x2, .int ((0 : Int32))], [], S, 0)) rfl (f_X8_takesWord_b47_ok_1016 _ hf)
  · refine ev_sts 1 (c2 := (44, [.ref 1, .ref 1016, .int x2, mK], [.int ((0 : Int32))], S, 0)) rfl ?_
    exact ev_ret hf rfl rfl
theorem f_X8_takesWord_b5_ok_1016 {d F : Nat} : ∀ (n : Nat) {x2 : Int32} {S : mS} {r : mR}, f_X8_takesWord_b5 F 16 n x2 S = some r → Ev (d + 1) Mx79 (5, [.ref 1, .ref 1016, .int x2, mK], [], S, 0) r := by
  intro n
  induction n with
  | zero => intro x2 S r hf; cases hf
  | succ n ih =>
    intro x2 S r hf
    rw [f_X8_takesWord_b5] at hf
    refine ev_sts 3 (c2 := (10, [.ref 1, .ref 1016, .int x2, mK], [.int (S 1 1), .int x2], S, 0)) rfl ?_
    refine ev_if (c1 := (30, [.ref 1, .ref 1016, .int x2, mK], [], S, 0)) (c2 := (13, [.ref 1, .ref 1016, .int x2, mK], [], S, 0)) hf rfl rfl (fun _ hf => ?_) (fun _ hf => ?_)
    · exact f_X8_takesWord_b30_ok_1016 hf
    · refine ev_sts 2 (c2 := (15, [.ref 1, .ref 1016, .int x2, mK], [.int x2, .ref 1], S, 0)) rfl ?_
      refine ev_bI0 (d := d) (M' := Mx84) (ct := (18, [.ref 1, .ref 1016, .int x2, mK], [], S, 0)) hf rfl rfl rfl rfl (fun r9 h9 => f_X8_byteAt_ok (d := d) h9) (fun r6 S5 hf => ?_)
      show Ev (d + 1) Mx79 (18, [.ref 1, .ref 1016, .int x2, mK], [.int r6], S5, 0) r
      refine ev_bI0 (d := d) (M' := Mx85) (ct := (21, [.ref 1, .ref 1016, .int x2, mK], [], S5, 0)) hf rfl rfl rfl rfl (fun r9 h9 => f_X8_isLetter_ok (d := d) h9) (fun r8 S7 hf => ?_)
      show Ev (d + 1) Mx79 (21, [.ref 1, .ref 1016, .int x2, mK], [.int r8], S7, 0) r
      refine ev_if (c1 := (30, [.ref 1, .ref 1016, .int x2, mK], [], S7, 0)) (c2 := (24, [.ref 1, .ref 1016, .int x2, mK], [], S7, 0)) hf rfl rfl (fun _ hf => ?_) (fun _ hf => ?_)
      · exact f_X8_takesWord_b30_ok_1016 hf
      · exact ev_sts 2 (c2 := (5, [.ref 1, .ref 1016, .int (x2 + (1 : Int32)), mK], [], S7, 0)) rfl (ih hf)
theorem f_X8_takesWord_ok_1016 {d F : Nat} {S : mS} {r : mR} (hf : f_X8_takesWord F 16 S = some r) : Ev (d + 1) Mx79 (entry Mx79 [.ref 1, .ref 1016] S) r := by
  unfold f_X8_takesWord at hf
  refine ev_sts 3 (c2 := (5, [.ref 1, .ref 1016, .int (S 1 2), mK], [], S, 0)) rfl ?_
  refine ev_let (P := fun y1 => Ev (d + 1) Mx79 (5, [.ref 1, .ref 1016, .int y1, mK], [], S, 0) r) (fun y1 hf => ?_) hf
  exact f_X8_takesWord_b5_ok_1016 _ hf
theorem f_X8_takesWord_b47_ok_1021 {d F : Nat} : ∀ (n : Nat) {x2 : Int32} {x3 : Int32} {S : mS} {r : mR}, f_X8_takesWord_b47 F 21 n x2 x3 S = some r → Ev (d + 1) Mx79 (47, [.ref 1, .ref 1021, .int x2, .int x3], [], S, 0) r := by
  intro n
  induction n with
  | zero => intro x2 x3 S r hf; cases hf
  | succ n ih =>
    intro x2 x3 S r hf
    rw [f_X8_takesWord_b47] at hf
    refine ev_sts 3 (c2 := (52, [.ref 1, .ref 1021, .int x2, .int x3], [.int (Int32.ofNat (mStr.getD 21 []).length), .int x3], S, 0)) rfl ?_
    refine ev_if (c1 := (81, [.ref 1, .ref 1021, .int x2, .int x3], [], S, 0)) (c2 := (55, [.ref 1, .ref 1021, .int x2, .int x3], [], S, 0)) hf rfl rfl (fun _ hf => ?_) (fun _ hf => ?_)
    · refine ev_sts 2 (c2 := (83, [.ref 1, .ref 1021, .int x2, .int x3], [.int x2, .ref 1], S, 0)) rfl ?_
      refine ev_bV0 (d := d) (M' := Mx83) (ct := (86, [.ref 1, .ref 1021, .int x2, .int x3], [], S, 0)) hf rfl rfl rfl rfl (fun r9 h9 => f_X8_moveTo_ok (d := d) h9) (fun S2 hf => ?_)
      show Ev (d + 1) Mx79 (86, [.ref 1, .ref 1021, .int x2, .int x3], [], S2, 0) r
      refine ev_sts 1 (c2 := (87, [.ref 1, .ref 1021, .int x2, .int x3], [.int ((1 : Int32))], S2, 0)) rfl ?_
      exact ev_ret hf rfl rfl
    · refine ev_sts 5 (c2 := (62, [.ref 1, .ref 1021, .int x2, .int x3], [.int ((S 1 2) + x3), .ref 1], S, 0)) rfl ?_
      refine ev_bI0 (d := d) (M' := Mx84) (ct := (65, [.ref 1, .ref 1021, .int x2, .int x3], [], S, 0)) hf rfl rfl rfl rfl (fun r9 h9 => f_X8_byteAt_ok (d := d) h9) (fun r4 S3 hf => ?_)
      show Ev (d + 1) Mx79 (65, [.ref 1, .ref 1021, .int x2, .int x3], [.int r4], S3, 0) r
      refine ev_sts 2 (c2 := (67, [.ref 1, .ref 1021, .int x2, .int x3], [.int x3, .ref 1021, .int r4], S3, 0)) rfl ?_
      refine ev_gd (c1 := (70, [.ref 1, .ref 1021, .int x2, .int x3], [.int ((mStr.getD 21 []).getD x3.toNatClampNeg 0), .int r4], S3, 0)) hf rfl rfl (fun hf => ?_)
      refine ev_if (c1 := (75, [.ref 1, .ref 1021, .int x2, .int x3], [], S3, 0)) (c2 := (73, [.ref 1, .ref 1021, .int x2, .int x3], [], S3, 0)) hf rfl rfl (fun _ hf => ?_) (fun _ hf => ?_)
      · exact ev_sts 2 (c2 := (47, [.ref 1, .ref 1021, .int x2, .int (x3 + (1 : Int32))], [], S3, 0)) rfl (ih hf)
      · refine ev_sts 1 (c2 := (74, [.ref 1, .ref 1021, .int x2, .int x3], [.int ((0 : Int32))], S3, 0)) rfl ?_
        exact ev_ret hf rfl rfl
theorem f_X8_takesWord_b30_ok_1021 {d F : Nat} {x2 : Int32} {S : mS} {r : mR} (hf : f_X8_takesWord_b30 F 21 x2 S = some r) : Ev (d + 1) Mx79 (30, [.ref 1, .ref 1021, .int x2, mK], [], S, 0) r := by
  unfold f_X8_takesWord_b30 at hf
  refine ev_sts 6 (c2 := (40, [.ref 1, .ref 1021, .int x2, mK], [.int (Int32.ofNat (mStr.getD 21 []).length), .int (x2 - (S 1 2))], S, 0)) rfl ?_
  refine ev_if (c1 := (45, [.ref 1, .ref 1021, .int x2, mK], [], S, 0)) (c2 := (43, [.ref 1, .ref 1021, .int x2, mK], [], S, 0)) hf rfl rfl (fun _ hf => ?_) (fun _ hf => ?_)
  · exact ev_sts 2 (c2 := (47, [.ref 1, .ref 1021, .int x2, .int ((0 : Int32))], [], S, 0)) rfl (f_X8_takesWord_b47_ok_1021 _ hf)
  · refine ev_sts 1 (c2 := (44, [.ref 1, .ref 1021, .int x2, mK], [.int ((0 : Int32))], S, 0)) rfl ?_
    exact ev_ret hf rfl rfl
theorem f_X8_takesWord_b5_ok_1021 {d F : Nat} : ∀ (n : Nat) {x2 : Int32} {S : mS} {r : mR}, f_X8_takesWord_b5 F 21 n x2 S = some r → Ev (d + 1) Mx79 (5, [.ref 1, .ref 1021, .int x2, mK], [], S, 0) r := by
  intro n
  induction n with
  | zero => intro x2 S r hf; cases hf
  | succ n ih =>
    intro x2 S r hf
    rw [f_X8_takesWord_b5] at hf
    refine ev_sts 3 (c2 := (10, [.ref 1, .ref 1021, .int x2, mK], [.int (S 1 1), .int x2], S, 0)) rfl ?_
    refine ev_if (c1 := (30, [.ref 1, .ref 1021, .int x2, mK], [], S, 0)) (c2 := (13, [.ref 1, .ref 1021, .int x2, mK], [], S, 0)) hf rfl rfl (fun _ hf => ?_) (fun _ hf => ?_)
    · exact f_X8_takesWord_b30_ok_1021 hf
    · refine ev_sts 2 (c2 := (15, [.ref 1, .ref 1021, .int x2, mK], [.int x2, .ref 1], S, 0)) rfl ?_
      refine ev_bI0 (d := d) (M' := Mx84) (ct := (18, [.ref 1, .ref 1021, .int x2, mK], [], S, 0)) hf rfl rfl rfl rfl (fun r9 h9 => f_X8_byteAt_ok (d := d) h9) (fun r6 S5 hf => ?_)
      show Ev (d + 1) Mx79 (18, [.ref 1, .ref 1021, .int x2, mK], [.int r6], S5, 0) r
      refine ev_bI0 (d := d) (M' := Mx85) (ct := (21, [.ref 1, .ref 1021, .int x2, mK], [], S5, 0)) hf rfl rfl rfl rfl (fun r9 h9 => f_X8_isLetter_ok (d := d) h9) (fun r8 S7 hf => ?_)
      show Ev (d + 1) Mx79 (21, [.ref 1, .ref 1021, .int x2, mK], [.int r8], S7, 0) r
      refine ev_if (c1 := (30, [.ref 1, .ref 1021, .int x2, mK], [], S7, 0)) (c2 := (24, [.ref 1, .ref 1021, .int x2, mK], [], S7, 0)) hf rfl rfl (fun _ hf => ?_) (fun _ hf => ?_)
      · exact f_X8_takesWord_b30_ok_1021 hf
      · exact ev_sts 2 (c2 := (5, [.ref 1, .ref 1021, .int (x2 + (1 : Int32)), mK], [], S7, 0)) rfl (ih hf)
theorem f_X8_takesWord_ok_1021 {d F : Nat} {S : mS} {r : mR} (hf : f_X8_takesWord F 21 S = some r) : Ev (d + 1) Mx79 (entry Mx79 [.ref 1, .ref 1021] S) r := by
  unfold f_X8_takesWord at hf
  refine ev_sts 3 (c2 := (5, [.ref 1, .ref 1021, .int (S 1 2), mK], [], S, 0)) rfl ?_
  refine ev_let (P := fun y1 => Ev (d + 1) Mx79 (5, [.ref 1, .ref 1021, .int y1, mK], [], S, 0) r) (fun y1 hf => ?_) hf
  exact f_X8_takesWord_b5_ok_1021 _ hf
theorem f_X8_takesWord_b47_ok_1022 {d F : Nat} : ∀ (n : Nat) {x2 : Int32} {x3 : Int32} {S : mS} {r : mR}, f_X8_takesWord_b47 F 22 n x2 x3 S = some r → Ev (d + 1) Mx79 (47, [.ref 1, .ref 1022, .int x2, .int x3], [], S, 0) r := by
  intro n
  induction n with
  | zero => intro x2 x3 S r hf; cases hf
  | succ n ih =>
    intro x2 x3 S r hf
    rw [f_X8_takesWord_b47] at hf
    refine ev_sts 3 (c2 := (52, [.ref 1, .ref 1022, .int x2, .int x3], [.int (Int32.ofNat (mStr.getD 22 []).length), .int x3], S, 0)) rfl ?_
    refine ev_if (c1 := (81, [.ref 1, .ref 1022, .int x2, .int x3], [], S, 0)) (c2 := (55, [.ref 1, .ref 1022, .int x2, .int x3], [], S, 0)) hf rfl rfl (fun _ hf => ?_) (fun _ hf => ?_)
    · refine ev_sts 2 (c2 := (83, [.ref 1, .ref 1022, .int x2, .int x3], [.int x2, .ref 1], S, 0)) rfl ?_
      refine ev_bV0 (d := d) (M' := Mx83) (ct := (86, [.ref 1, .ref 1022, .int x2, .int x3], [], S, 0)) hf rfl rfl rfl rfl (fun r9 h9 => f_X8_moveTo_ok (d := d) h9) (fun S2 hf => ?_)
      show Ev (d + 1) Mx79 (86, [.ref 1, .ref 1022, .int x2, .int x3], [], S2, 0) r
      refine ev_sts 1 (c2 := (87, [.ref 1, .ref 1022, .int x2, .int x3], [.int ((1 : Int32))], S2, 0)) rfl ?_
      exact ev_ret hf rfl rfl
    · refine ev_sts 5 (c2 := (62, [.ref 1, .ref 1022, .int x2, .int x3], [.int ((S 1 2) + x3), .ref 1], S, 0)) rfl ?_
      refine ev_bI0 (d := d) (M' := Mx84) (ct := (65, [.ref 1, .ref 1022, .int x2, .int x3], [], S, 0)) hf rfl rfl rfl rfl (fun r9 h9 => f_X8_byteAt_ok (d := d) h9) (fun r4 S3 hf => ?_)
      show Ev (d + 1) Mx79 (65, [.ref 1, .ref 1022, .int x2, .int x3], [.int r4], S3, 0) r
      refine ev_sts 2 (c2 := (67, [.ref 1, .ref 1022, .int x2, .int x3], [.int x3, .ref 1022, .int r4], S3, 0)) rfl ?_
      refine ev_gd (c1 := (70, [.ref 1, .ref 1022, .int x2, .int x3], [.int ((mStr.getD 22 []).getD x3.toNatClampNeg 0), .int r4], S3, 0)) hf rfl rfl (fun hf => ?_)
      refine ev_if (c1 := (75, [.ref 1, .ref 1022, .int x2, .int x3], [], S3, 0)) (c2 := (73, [.ref 1, .ref 1022, .int x2, .int x3], [], S3, 0)) hf rfl rfl (fun _ hf => ?_) (fun _ hf => ?_)
      · exact ev_sts 2 (c2 := (47, [.ref 1, .ref 1022, .int x2, .int (x3 + (1 : Int32))], [], S3, 0)) rfl (ih hf)
      · refine ev_sts 1 (c2 := (74, [.ref 1, .ref 1022, .int x2, .int x3], [.int ((0 : Int32))], S3, 0)) rfl ?_
        exact ev_ret hf rfl rfl
theorem f_X8_takesWord_b30_ok_1022 {d F : Nat} {x2 : Int32} {S : mS} {r : mR} (hf : f_X8_takesWord_b30 F 22 x2 S = some r) : Ev (d + 1) Mx79 (30, [.ref 1, .ref 1022, .int x2, mK], [], S, 0) r := by
  unfold f_X8_takesWord_b30 at hf
  refine ev_sts 6 (c2 := (40, [.ref 1, .ref 1022, .int x2, mK], [.int (Int32.ofNat (mStr.getD 22 []).length), .int (x2 - (S 1 2))], S, 0)) rfl ?_
  refine ev_if (c1 := (45, [.ref 1, .ref 1022, .int x2, mK], [], S, 0)) (c2 := (43, [.ref 1, .ref 1022, .int x2, mK], [], S, 0)) hf rfl rfl (fun _ hf => ?_) (fun _ hf => ?_)
  · exact ev_sts 2 (c2 := (47, [.ref 1, .ref 1022, .int x2, .int ((0 : Int32))], [], S, 0)) rfl (f_X8_takesWord_b47_ok_1022 _ hf)
  · refine ev_sts 1 (c2 := (44, [.ref 1, .ref 1022, .int x2, mK], [.int ((0 : Int32))], S, 0)) rfl ?_
    exact ev_ret hf rfl rfl
theorem f_X8_takesWord_b5_ok_1022 {d F : Nat} : ∀ (n : Nat) {x2 : Int32} {S : mS} {r : mR}, f_X8_takesWord_b5 F 22 n x2 S = some r → Ev (d + 1) Mx79 (5, [.ref 1, .ref 1022, .int x2, mK], [], S, 0) r := by
  intro n
  induction n with
  | zero => intro x2 S r hf; cases hf
  | succ n ih =>
    intro x2 S r hf
    rw [f_X8_takesWord_b5] at hf
    refine ev_sts 3 (c2 := (10, [.ref 1, .ref 1022, .int x2, mK], [.int (S 1 1), .int x2], S, 0)) rfl ?_
    refine ev_if (c1 := (30, [.ref 1, .ref 1022, .int x2, mK], [], S, 0)) (c2 := (13, [.ref 1, .ref 1022, .int x2, mK], [], S, 0)) hf rfl rfl (fun _ hf => ?_) (fun _ hf => ?_)
    · exact f_X8_takesWord_b30_ok_1022 hf
    · refine ev_sts 2 (c2 := (15, [.ref 1, .ref 1022, .int x2, mK], [.int x2, .ref 1], S, 0)) rfl ?_
      refine ev_bI0 (d := d) (M' := Mx84) (ct := (18, [.ref 1, .ref 1022, .int x2, mK], [], S, 0)) hf rfl rfl rfl rfl (fun r9 h9 => f_X8_byteAt_ok (d := d) h9) (fun r6 S5 hf => ?_)
      show Ev (d + 1) Mx79 (18, [.ref 1, .ref 1022, .int x2, mK], [.int r6], S5, 0) r
      refine ev_bI0 (d := d) (M' := Mx85) (ct := (21, [.ref 1, .ref 1022, .int x2, mK], [], S5, 0)) hf rfl rfl rfl rfl (fun r9 h9 => f_X8_isLetter_ok (d := d) h9) (fun r8 S7 hf => ?_)
      show Ev (d + 1) Mx79 (21, [.ref 1, .ref 1022, .int x2, mK], [.int r8], S7, 0) r
      refine ev_if (c1 := (30, [.ref 1, .ref 1022, .int x2, mK], [], S7, 0)) (c2 := (24, [.ref 1, .ref 1022, .int x2, mK], [], S7, 0)) hf rfl rfl (fun _ hf => ?_) (fun _ hf => ?_)
      · exact f_X8_takesWord_b30_ok_1022 hf
      · exact ev_sts 2 (c2 := (5, [.ref 1, .ref 1022, .int (x2 + (1 : Int32)), mK], [], S7, 0)) rfl (ih hf)
theorem f_X8_takesWord_ok_1022 {d F : Nat} {S : mS} {r : mR} (hf : f_X8_takesWord F 22 S = some r) : Ev (d + 1) Mx79 (entry Mx79 [.ref 1, .ref 1022] S) r := by
  unfold f_X8_takesWord at hf
  refine ev_sts 3 (c2 := (5, [.ref 1, .ref 1022, .int (S 1 2), mK], [], S, 0)) rfl ?_
  refine ev_let (P := fun y1 => Ev (d + 1) Mx79 (5, [.ref 1, .ref 1022, .int y1, mK], [], S, 0) r) (fun y1 hf => ?_) hf
  exact f_X8_takesWord_b5_ok_1022 _ hf
theorem f_X8_takesWord_b47_ok_1014 {d F : Nat} : ∀ (n : Nat) {x2 : Int32} {x3 : Int32} {S : mS} {r : mR}, f_X8_takesWord_b47 F 14 n x2 x3 S = some r → Ev (d + 1) Mx79 (47, [.ref 1, .ref 1014, .int x2, .int x3], [], S, 0) r := by
  intro n
  induction n with
  | zero => intro x2 x3 S r hf; cases hf
  | succ n ih =>
    intro x2 x3 S r hf
    rw [f_X8_takesWord_b47] at hf
    refine ev_sts 3 (c2 := (52, [.ref 1, .ref 1014, .int x2, .int x3], [.int (Int32.ofNat (mStr.getD 14 []).length), .int x3], S, 0)) rfl ?_
    refine ev_if (c1 := (81, [.ref 1, .ref 1014, .int x2, .int x3], [], S, 0)) (c2 := (55, [.ref 1, .ref 1014, .int x2, .int x3], [], S, 0)) hf rfl rfl (fun _ hf => ?_) (fun _ hf => ?_)
    · refine ev_sts 2 (c2 := (83, [.ref 1, .ref 1014, .int x2, .int x3], [.int x2, .ref 1], S, 0)) rfl ?_
      refine ev_bV0 (d := d) (M' := Mx83) (ct := (86, [.ref 1, .ref 1014, .int x2, .int x3], [], S, 0)) hf rfl rfl rfl rfl (fun r9 h9 => f_X8_moveTo_ok (d := d) h9) (fun S2 hf => ?_)
      show Ev (d + 1) Mx79 (86, [.ref 1, .ref 1014, .int x2, .int x3], [], S2, 0) r
      refine ev_sts 1 (c2 := (87, [.ref 1, .ref 1014, .int x2, .int x3], [.int ((1 : Int32))], S2, 0)) rfl ?_
      exact ev_ret hf rfl rfl
    · refine ev_sts 5 (c2 := (62, [.ref 1, .ref 1014, .int x2, .int x3], [.int ((S 1 2) + x3), .ref 1], S, 0)) rfl ?_
      refine ev_bI0 (d := d) (M' := Mx84) (ct := (65, [.ref 1, .ref 1014, .int x2, .int x3], [], S, 0)) hf rfl rfl rfl rfl (fun r9 h9 => f_X8_byteAt_ok (d := d) h9) (fun r4 S3 hf => ?_)
      show Ev (d + 1) Mx79 (65, [.ref 1, .ref 1014, .int x2, .int x3], [.int r4], S3, 0) r
      refine ev_sts 2 (c2 := (67, [.ref 1, .ref 1014, .int x2, .int x3], [.int x3, .ref 1014, .int r4], S3, 0)) rfl ?_
      refine ev_gd (c1 := (70, [.ref 1, .ref 1014, .int x2, .int x3], [.int ((mStr.getD 14 []).getD x3.toNatClampNeg 0), .int r4], S3, 0)) hf rfl rfl (fun hf => ?_)
      refine ev_if (c1 := (75, [.ref 1, .ref 1014, .int x2, .int x3], [], S3, 0)) (c2 := (73, [.ref 1, .ref 1014, .int x2, .int x3], [], S3, 0)) hf rfl rfl (fun _ hf => ?_) (fun _ hf => ?_)
      · exact ev_sts 2 (c2 := (47, [.ref 1, .ref 1014, .int x2, .int (x3 + (1 : Int32))], [], S3, 0)) rfl (ih hf)
      · refine ev_sts 1 (c2 := (74, [.ref 1, .ref 1014, .int x2, .int x3], [.int ((0 : Int32))], S3, 0)) rfl ?_
        exact ev_ret hf rfl rfl
theorem f_X8_takesWord_b30_ok_1014 {d F : Nat} {x2 : Int32} {S : mS} {r : mR} (hf : f_X8_takesWord_b30 F 14 x2 S = some r) : Ev (d + 1) Mx79 (30, [.ref 1, .ref 1014, .int x2, mK], [], S, 0) r := by
  unfold f_X8_takesWord_b30 at hf
  refine ev_sts 6 (c2 := (40, [.ref 1, .ref 1014, .int x2, mK], [.int (Int32.ofNat (mStr.getD 14 []).length), .int (x2 - (S 1 2))], S, 0)) rfl ?_
  refine ev_if (c1 := (45, [.ref 1, .ref 1014, .int x2, mK], [], S, 0)) (c2 := (43, [.ref 1, .ref 1014, .int x2, mK], [], S, 0)) hf rfl rfl (fun _ hf => ?_) (fun _ hf => ?_)
  · exact ev_sts 2 (c2 := (47, [.ref 1, .ref 1014, .int x2, .int ((0 : Int32))], [], S, 0)) rfl (f_X8_takesWord_b47_ok_1014 _ hf)
  · refine ev_sts 1 (c2 := (44, [.ref 1, .ref 1014, .int x2, mK], [.int ((0 : Int32))], S, 0)) rfl ?_
    exact ev_ret hf rfl rfl
theorem f_X8_takesWord_b5_ok_1014 {d F : Nat} : ∀ (n : Nat) {x2 : Int32} {S : mS} {r : mR}, f_X8_takesWord_b5 F 14 n x2 S = some r → Ev (d + 1) Mx79 (5, [.ref 1, .ref 1014, .int x2, mK], [], S, 0) r := by
  intro n
  induction n with
  | zero => intro x2 S r hf; cases hf
  | succ n ih =>
    intro x2 S r hf
    rw [f_X8_takesWord_b5] at hf
    refine ev_sts 3 (c2 := (10, [.ref 1, .ref 1014, .int x2, mK], [.int (S 1 1), .int x2], S, 0)) rfl ?_
    refine ev_if (c1 := (30, [.ref 1, .ref 1014, .int x2, mK], [], S, 0)) (c2 := (13, [.ref 1, .ref 1014, .int x2, mK], [], S, 0)) hf rfl rfl (fun _ hf => ?_) (fun _ hf => ?_)
    · exact f_X8_takesWord_b30_ok_1014 hf
    · refine ev_sts 2 (c2 := (15, [.ref 1, .ref 1014, .int x2, mK], [.int x2, .ref 1], S, 0)) rfl ?_
      refine ev_bI0 (d := d) (M' := Mx84) (ct := (18, [.ref 1, .ref 1014, .int x2, mK], [], S, 0)) hf rfl rfl rfl rfl (fun r9 h9 => f_X8_byteAt_ok (d := d) h9) (fun r6 S5 hf => ?_)
      show Ev (d + 1) Mx79 (18, [.ref 1, .ref 1014, .int x2, mK], [.int r6], S5, 0) r
      refine ev_bI0 (d := d) (M' := Mx85) (ct := (21, [.ref 1, .ref 1014, .int x2, mK], [], S5, 0)) hf rfl rfl rfl rfl (fun r9 h9 => f_X8_isLetter_ok (d := d) h9) (fun r8 S7 hf => ?_)
      show Ev (d + 1) Mx79 (21, [.ref 1, .ref 1014, .int x2, mK], [.int r8], S7, 0) r
      refine ev_if (c1 := (30, [.ref 1, .ref 1014, .int x2, mK], [], S7, 0)) (c2 := (24, [.ref 1, .ref 1014, .int x2, mK], [], S7, 0)) hf rfl rfl (fun _ hf => ?_) (fun _ hf => ?_)
      · exact f_X8_takesWord_b30_ok_1014 hf
      · exact ev_sts 2 (c2 := (5, [.ref 1, .ref 1014, .int (x2 + (1 : Int32)), mK], [], S7, 0)) rfl (ih hf)
theorem f_X8_takesWord_ok_1014 {d F : Nat} {S : mS} {r : mR} (hf : f_X8_takesWord F 14 S = some r) : Ev (d + 1) Mx79 (entry Mx79 [.ref 1, .ref 1014] S) r := by
  unfold f_X8_takesWord at hf
  refine ev_sts 3 (c2 := (5, [.ref 1, .ref 1014, .int (S 1 2), mK], [], S, 0)) rfl ?_
  refine ev_let (P := fun y1 => Ev (d + 1) Mx79 (5, [.ref 1, .ref 1014, .int y1, mK], [], S, 0) r) (fun y1 hf => ?_) hf
  exact f_X8_takesWord_b5_ok_1014 _ hf
theorem f_X8_takesWord_b47_ok_1013 {d F : Nat} : ∀ (n : Nat) {x2 : Int32} {x3 : Int32} {S : mS} {r : mR}, f_X8_takesWord_b47 F 13 n x2 x3 S = some r → Ev (d + 1) Mx79 (47, [.ref 1, .ref 1013, .int x2, .int x3], [], S, 0) r := by
  intro n
  induction n with
  | zero => intro x2 x3 S r hf; cases hf
  | succ n ih =>
    intro x2 x3 S r hf
    rw [f_X8_takesWord_b47] at hf
    refine ev_sts 3 (c2 := (52, [.ref 1, .ref 1013, .int x2, .int x3], [.int (Int32.ofNat (mStr.getD 13 []).length), .int x3], S, 0)) rfl ?_
    refine ev_if (c1 := (81, [.ref 1, .ref 1013, .int x2, .int x3], [], S, 0)) (c2 := (55, [.ref 1, .ref 1013, .int x2, .int x3], [], S, 0)) hf rfl rfl (fun _ hf => ?_) (fun _ hf => ?_)
    · refine ev_sts 2 (c2 := (83, [.ref 1, .ref 1013, .int x2, .int x3], [.int x2, .ref 1], S, 0)) rfl ?_
      refine ev_bV0 (d := d) (M' := Mx83) (ct := (86, [.ref 1, .ref 1013, .int x2, .int x3], [], S, 0)) hf rfl rfl rfl rfl (fun r9 h9 => f_X8_moveTo_ok (d := d) h9) (fun S2 hf => ?_)
      show Ev (d + 1) Mx79 (86, [.ref 1, .ref 1013, .int x2, .int x3], [], S2, 0) r
      refine ev_sts 1 (c2 := (87, [.ref 1, .ref 1013, .int x2, .int x3], [.int ((1 : Int32))], S2, 0)) rfl ?_
      exact ev_ret hf rfl rfl
    · refine ev_sts 5 (c2 := (62, [.ref 1, .ref 1013, .int x2, .int x3], [.int ((S 1 2) + x3), .ref 1], S, 0)) rfl ?_
      refine ev_bI0 (d := d) (M' := Mx84) (ct := (65, [.ref 1, .ref 1013, .int x2, .int x3], [], S, 0)) hf rfl rfl rfl rfl (fun r9 h9 => f_X8_byteAt_ok (d := d) h9) (fun r4 S3 hf => ?_)
      show Ev (d + 1) Mx79 (65, [.ref 1, .ref 1013, .int x2, .int x3], [.int r4], S3, 0) r
      refine ev_sts 2 (c2 := (67, [.ref 1, .ref 1013, .int x2, .int x3], [.int x3, .ref 1013, .int r4], S3, 0)) rfl ?_
      refine ev_gd (c1 := (70, [.ref 1, .ref 1013, .int x2, .int x3], [.int ((mStr.getD 13 []).getD x3.toNatClampNeg 0), .int r4], S3, 0)) hf rfl rfl (fun hf => ?_)
      refine ev_if (c1 := (75, [.ref 1, .ref 1013, .int x2, .int x3], [], S3, 0)) (c2 := (73, [.ref 1, .ref 1013, .int x2, .int x3], [], S3, 0)) hf rfl rfl (fun _ hf => ?_) (fun _ hf => ?_)
      · exact ev_sts 2 (c2 := (47, [.ref 1, .ref 1013, .int x2, .int (x3 + (1 : Int32))], [], S3, 0)) rfl (ih hf)
      · refine ev_sts 1 (c2 := (74, [.ref 1, .ref 1013, .int x2, .int x3], [.int ((0 : Int32))], S3, 0)) rfl ?_
        exact ev_ret hf rfl rfl
theorem f_X8_takesWord_b30_ok_1013 {d F : Nat} {x2 : Int32} {S : mS} {r : mR} (hf : f_X8_takesWord_b30 F 13 x2 S = some r) : Ev (d + 1) Mx79 (30, [.ref 1, .ref 1013, .int x2, mK], [], S, 0) r := by
  unfold f_X8_takesWord_b30 at hf
  refine ev_sts 6 (c2 := (40, [.ref 1, .ref 1013, .int x2, mK], [.int (Int32.ofNat (mStr.getD 13 []).length), .int (x2 - (S 1 2))], S, 0)) rfl ?_
  refine ev_if (c1 := (45, [.ref 1, .ref 1013, .int x2, mK], [], S, 0)) (c2 := (43, [.ref 1, .ref 1013, .int x2, mK], [], S, 0)) hf rfl rfl (fun _ hf => ?_) (fun _ hf => ?_)
  · exact ev_sts 2 (c2 := (47, [.ref 1, .ref 1013, .int x2, .int ((0 : Int32))], [], S, 0)) rfl (f_X8_takesWord_b47_ok_1013 _ hf)
  · refine ev_sts 1 (c2 := (44, [.ref 1, .ref 1013, .int x2, mK], [.int ((0 : Int32))], S, 0)) rfl ?_
    exact ev_ret hf rfl rfl
theorem f_X8_takesWord_b5_ok_1013 {d F : Nat} : ∀ (n : Nat) {x2 : Int32} {S : mS} {r : mR}, f_X8_takesWord_b5 F 13 n x2 S = some r → Ev (d + 1) Mx79 (5, [.ref 1, .ref 1013, .int x2, mK], [], S, 0) r := by
  intro n
  induction n with
  | zero => intro x2 S r hf; cases hf
  | succ n ih =>
    intro x2 S r hf
    rw [f_X8_takesWord_b5] at hf
    refine ev_sts 3 (c2 := (10, [.ref 1, .ref 1013, .int x2, mK], [.int (S 1 1), .int x2], S, 0)) rfl ?_
    refine ev_if (c1 := (30, [.ref 1, .ref 1013, .int x2, mK], [], S, 0)) (c2 := (13, [.ref 1, .ref 1013, .int x2, mK], [], S, 0)) hf rfl rfl (fun _ hf => ?_) (fun _ hf => ?_)
    · exact f_X8_takesWord_b30_ok_1013 hf
    · refine ev_sts 2 (c2 := (15, [.ref 1, .ref 1013, .int x2, mK], [.int x2, .ref 1], S, 0)) rfl ?_
      refine ev_bI0 (d := d) (M' := Mx84) (ct := (18, [.ref 1, .ref 1013, .int x2, mK], [], S, 0)) hf rfl rfl rfl rfl (fun r9 h9 => f_X8_byteAt_ok (d := d) h9) (fun r6 S5 hf => ?_)
      show Ev (d + 1) Mx79 (18, [.ref 1, .ref 1013, .int x2, mK], [.int r6], S5, 0) r
      refine ev_bI0 (d := d) (M' := Mx85) (ct := (21, [.ref 1, .ref 1013, .int x2, mK], [], S5, 0)) hf rfl rfl rfl rfl (fun r9 h9 => f_X8_isLetter_ok (d := d) h9) (fun r8 S7 hf => ?_)
      show Ev (d + 1) Mx79 (21, [.ref 1, .ref 1013, .int x2, mK], [.int r8], S7, 0) r
      refine ev_if (c1 := (30, [.ref 1, .ref 1013, .int x2, mK], [], S7, 0)) (c2 := (24, [.ref 1, .ref 1013, .int x2, mK], [], S7, 0)) hf rfl rfl (fun _ hf => ?_) (fun _ hf => ?_)
      · exact f_X8_takesWord_b30_ok_1013 hf
      · exact ev_sts 2 (c2 := (5, [.ref 1, .ref 1013, .int (x2 + (1 : Int32)), mK], [], S7, 0)) rfl (ih hf)
theorem f_X8_takesWord_ok_1013 {d F : Nat} {S : mS} {r : mR} (hf : f_X8_takesWord F 13 S = some r) : Ev (d + 1) Mx79 (entry Mx79 [.ref 1, .ref 1013] S) r := by
  unfold f_X8_takesWord at hf
  refine ev_sts 3 (c2 := (5, [.ref 1, .ref 1013, .int (S 1 2), mK], [], S, 0)) rfl ?_
  refine ev_let (P := fun y1 => Ev (d + 1) Mx79 (5, [.ref 1, .ref 1013, .int y1, mK], [], S, 0) r) (fun y1 hf => ?_) hf
  exact f_X8_takesWord_b5_ok_1013 _ hf
theorem f_X8_takesWord_b47_ok_1012 {d F : Nat} : ∀ (n : Nat) {x2 : Int32} {x3 : Int32} {S : mS} {r : mR}, f_X8_takesWord_b47 F 12 n x2 x3 S = some r → Ev (d + 1) Mx79 (47, [.ref 1, .ref 1012, .int x2, .int x3], [], S, 0) r := by
  intro n
  induction n with
  | zero => intro x2 x3 S r hf; cases hf
  | succ n ih =>
    intro x2 x3 S r hf
    rw [f_X8_takesWord_b47] at hf
    refine ev_sts 3 (c2 := (52, [.ref 1, .ref 1012, .int x2, .int x3], [.int (Int32.ofNat (mStr.getD 12 []).length), .int x3], S, 0)) rfl ?_
    refine ev_if (c1 := (81, [.ref 1, .ref 1012, .int x2, .int x3], [], S, 0)) (c2 := (55, [.ref 1, .ref 1012, .int x2, .int x3], [], S, 0)) hf rfl rfl (fun _ hf => ?_) (fun _ hf => ?_)
    · refine ev_sts 2 (c2 := (83, [.ref 1, .ref 1012, .int x2, .int x3], [.int x2, .ref 1], S, 0)) rfl ?_
      refine ev_bV0 (d := d) (M' := Mx83) (ct := (86, [.ref 1, .ref 1012, .int x2, .int x3], [], S, 0)) hf rfl rfl rfl rfl (fun r9 h9 => f_X8_moveTo_ok (d := d) h9) (fun S2 hf => ?_)
      show Ev (d + 1) Mx79 (86, [.ref 1, .ref 1012, .int x2, .int x3], [], S2, 0) r
      refine ev_sts 1 (c2 := (87, [.ref 1, .ref 1012, .int x2, .int x3], [.int ((1 : Int32))], S2, 0)) rfl ?_
      exact ev_ret hf rfl rfl
    · refine ev_sts 5 (c2 := (62, [.ref 1, .ref 1012, .int x2, .int x3], [.int ((S 1 2) + x3), .ref 1], S, 0)) rfl ?_
      refine ev_bI0 (d := d) (M' := Mx84) (ct := (65, [.ref 1, .ref 1012, .int x2, .int x3], [], S, 0)) hf rfl rfl rfl rfl (fun r9 h9 => f_X8_byteAt_ok (d := d) h9) (fun r4 S3 hf => ?_)
      show Ev (d + 1) Mx79 (65, [.ref 1, .ref 1012, .int x2, .int x3], [.int r4], S3, 0) r
      refine ev_sts 2 (c2 := (67, [.ref 1, .ref 1012, .int x2, .int x3], [.int x3, .ref 1012, .int r4], S3, 0)) rfl ?_
      refine ev_gd (c1 := (70, [.ref 1, .ref 1012, .int x2, .int x3], [.int ((mStr.getD 12 []).getD x3.toNatClampNeg 0), .int r4], S3, 0)) hf rfl rfl (fun hf => ?_)
      refine ev_if (c1 := (75, [.ref 1, .ref 1012, .int x2, .int x3], [], S3, 0)) (c2 := (73, [.ref 1, .ref 1012, .int x2, .int x3], [], S3, 0)) hf rfl rfl (fun _ hf => ?_) (fun _ hf => ?_)
      · exact ev_sts 2 (c2 := (47, [.ref 1, .ref 1012, .int x2, .int (x3 + (1 : Int32))], [], S3, 0)) rfl (ih hf)
      · refine ev_sts 1 (c2 := (74, [.ref 1, .ref 1012, .int x2, .int x3], [.int ((0 : Int32))], S3, 0)) rfl ?_
        exact ev_ret hf rfl rfl
theorem f_X8_takesWord_b30_ok_1012 {d F : Nat} {x2 : Int32} {S : mS} {r : mR} (hf : f_X8_takesWord_b30 F 12 x2 S = some r) : Ev (d + 1) Mx79 (30, [.ref 1, .ref 1012, .int x2, mK], [], S, 0) r := by
  unfold f_X8_takesWord_b30 at hf
  refine ev_sts 6 (c2 := (40, [.ref 1, .ref 1012, .int x2, mK], [.int (Int32.ofNat (mStr.getD 12 []).length), .int (x2 - (S 1 2))], S, 0)) rfl ?_
  refine ev_if (c1 := (45, [.ref 1, .ref 1012, .int x2, mK], [], S, 0)) (c2 := (43, [.ref 1, .ref 1012, .int x2, mK], [], S, 0)) hf rfl rfl (fun _ hf => ?_) (fun _ hf => ?_)
  · exact ev_sts 2 (c2 := (47, [.ref 1, .ref 1012, .int x2, .int ((0 : Int32))], [], S, 0)) rfl (f_X8_takesWord_b47_ok_1012 _ hf)
  · refine ev_sts 1 (c2 := (44, [.ref 1, .ref 1012, .int x2, mK], [.int ((0 : Int32))], S, 0)) rfl ?_
    exact ev_ret hf rfl rfl
theorem f_X8_takesWord_b5_ok_1012 {d F : Nat} : ∀ (n : Nat) {x2 : Int32} {S : mS} {r : mR}, f_X8_takesWord_b5 F 12 n x2 S = some r → Ev (d + 1) Mx79 (5, [.ref 1, .ref 1012, .int x2, mK], [], S, 0) r := by
  intro n
  induction n with
  | zero => intro x2 S r hf; cases hf
  | succ n ih =>
    intro x2 S r hf
    rw [f_X8_takesWord_b5] at hf
    refine ev_sts 3 (c2 := (10, [.ref 1, .ref 1012, .int x2, mK], [.int (S 1 1), .int x2], S, 0)) rfl ?_
    refine ev_if (c1 := (30, [.ref 1, .ref 1012, .int x2, mK], [], S, 0)) (c2 := (13, [.ref 1, .ref 1012, .int x2, mK], [], S, 0)) hf rfl rfl (fun _ hf => ?_) (fun _ hf => ?_)
    · exact f_X8_takesWord_b30_ok_1012 hf
    · refine ev_sts 2 (c2 := (15, [.ref 1, .ref 1012, .int x2, mK], [.int x2, .ref 1], S, 0)) rfl ?_
      refine ev_bI0 (d := d) (M' := Mx84) (ct := (18, [.ref 1, .ref 1012, .int x2, mK], [], S, 0)) hf rfl rfl rfl rfl (fun r9 h9 => f_X8_byteAt_ok (d := d) h9) (fun r6 S5 hf => ?_)
      show Ev (d + 1) Mx79 (18, [.ref 1, .ref 1012, .int x2, mK], [.int r6], S5, 0) r
      refine ev_bI0 (d := d) (M' := Mx85) (ct := (21, [.ref 1, .ref 1012, .int x2, mK], [], S5, 0)) hf rfl rfl rfl rfl (fun r9 h9 => f_X8_isLetter_ok (d := d) h9) (fun r8 S7 hf => ?_)
      show Ev (d + 1) Mx79 (21, [.ref 1, .ref 1012, .int x2, mK], [.int r8], S7, 0) r
      refine ev_if (c1 := (30, [.ref 1, .ref 1012, .int x2, mK], [], S7, 0)) (c2 := (24, [.ref 1, .ref 1012, .int x2, mK], [], S7, 0)) hf rfl rfl (fun _ hf => ?_) (fun _ hf => ?_)
      · exact f_X8_takesWord_b30_ok_1012 hf
      · exact ev_sts 2 (c2 := (5, [.ref 1, .ref 1012, .int (x2 + (1 : Int32)), mK], [], S7, 0)) rfl (ih hf)
theorem f_X8_takesWord_ok_1012 {d F : Nat} {S : mS} {r : mR} (hf : f_X8_takesWord F 12 S = some r) : Ev (d + 1) Mx79 (entry Mx79 [.ref 1, .ref 1012] S) r := by
  unfold f_X8_takesWord at hf
  refine ev_sts 3 (c2 := (5, [.ref 1, .ref 1012, .int (S 1 2), mK], [], S, 0)) rfl ?_
  refine ev_let (P := fun y1 => Ev (d + 1) Mx79 (5, [.ref 1, .ref 1012, .int y1, mK], [], S, 0) r) (fun y1 hf => ?_) hf
  exact f_X8_takesWord_b5_ok_1012 _ hf
theorem f_X8_takesWord_b47_ok_1011 {d F : Nat} : ∀ (n : Nat) {x2 : Int32} {x3 : Int32} {S : mS} {r : mR}, f_X8_takesWord_b47 F 11 n x2 x3 S = some r → Ev (d + 1) Mx79 (47, [.ref 1, .ref 1011, .int x2, .int x3], [], S, 0) r := by
  intro n
  induction n with
  | zero => intro x2 x3 S r hf; cases hf
  | succ n ih =>
    intro x2 x3 S r hf
    rw [f_X8_takesWord_b47] at hf
    refine ev_sts 3 (c2 := (52, [.ref 1, .ref 1011, .int x2, .int x3], [.int (Int32.ofNat (mStr.getD 11 []).length), .int x3], S, 0)) rfl ?_
    refine ev_if (c1 := (81, [.ref 1, .ref 1011, .int x2, .int x3], [], S, 0)) (c2 := (55, [.ref 1, .ref 1011, .int x2, .int x3], [], S, 0)) hf rfl rfl (fun _ hf => ?_) (fun _ hf => ?_)
    · refine ev_sts 2 (c2 := (83, [.ref 1, .ref 1011, .int x2, .int x3], [.int x2, .ref 1], S, 0)) rfl ?_
      refine ev_bV0 (d := d) (M' := Mx83) (ct := (86, [.ref 1, .ref 1011, .int x2, .int x3], [], S, 0)) hf rfl rfl rfl rfl (fun r9 h9 => f_X8_moveTo_ok (d := d) h9) (fun S2 hf => ?_)
      show Ev (d + 1) Mx79 (86, [.ref 1, .ref 1011, .int x2, .int x3], [], S2, 0) r
      refine ev_sts 1 (c2 := (87, [.ref 1, .ref 1011, .int x2, .int x3], [.int ((1 : Int32))], S2, 0)) rfl ?_
      exact ev_ret hf rfl rfl
    · refine ev_sts 5 (c2 := (62, [.ref 1, .ref 1011, .int x2, .int x3], [.int ((S 1 2) + x3), .ref 1], S, 0)) rfl ?_
      refine ev_bI0 (d := d) (M' := Mx84) (ct := (65, [.ref 1, .ref 1011, .int x2, .int x3], [], S, 0)) hf rfl rfl rfl rfl (fun r9 h9 => f_X8_byteAt_ok (d := d) h9) (fun r4 S3 hf => ?_)
      show Ev (d + 1) Mx79 (65, [.ref 1, .ref 1011, .int x2, .int x3], [.int r4], S3, 0) r
      refine ev_sts 2 (c2 := (67, [.ref 1, .ref 1011, .int x2, .int x3], [.int x3, .ref 1011, .int r4], S3, 0)) rfl ?_
      refine ev_gd (c1 := (70, [.ref 1, .ref 1011, .int x2, .int x3], [.int ((mStr.getD 11 []).getD x3.toNatClampNeg 0), .int r4], S3, 0)) hf rfl rfl (fun hf => ?_)
      refine ev_if (c1 := (75, [.ref 1, .ref 1011, .int x2, .int x3], [], S3, 0)) (c2 := (73, [.ref 1, .ref 1011, .int x2, .int x3], [], S3, 0)) hf rfl rfl (fun _ hf => ?_) (fun _ hf => ?_)
      · exact ev_sts 2 (c2 := (47, [.ref 1, .ref 1011, .int x2, .int (x3 + (1 : Int32))], [], S3, 0)) rfl (ih hf)
      · refine ev_sts 1 (c2 := (74, [.ref 1, .ref 1011, .int x2, .int x3], [.int ((0 : Int32))], S3, 0)) rfl ?_
        exact ev_ret hf rfl rfl
theorem f_X8_takesWord_b30_ok_1011 {d F : Nat} {x2 : Int32} {S : mS} {r : mR} (hf : f_X8_takesWord_b30 F 11 x2 S = some r) : Ev (d + 1) Mx79 (30, [.ref 1, .ref 1011, .int x2, mK], [], S, 0) r := by
  unfold f_X8_takesWord_b30 at hf
  refine ev_sts 6 (c2 := (40, [.ref 1, .ref 1011, .int x2, mK], [.int (Int32.ofNat (mStr.getD 11 []).length), .int (x2 - (S 1 2))], S, 0)) rfl ?_
  refine ev_if (c1 := (45, [.ref 1, .ref 1011, .int x2, mK], [], S, 0)) (c2 := (43, [.ref 1, .ref 1011, .int x2, mK], [], S, 0)) hf rfl rfl (fun _ hf => ?_) (fun _ hf => ?_)
  · exact ev_sts 2 (c2 := (47, [.ref 1, .ref 1011, .int x2, .int ((0 : Int32))], [], S, 0)) rfl (f_X8_takesWord_b47_ok_1011 _ hf)
  · refine ev_sts 1 (c2 := (44, [.ref 1, .ref 1011, .int x2, mK], [.int ((0 : Int32))], S, 0)) rfl ?_
    exact ev_ret hf rfl rfl
theorem f_X8_takesWord_b5_ok_1011 {d F : Nat} : ∀ (n : Nat) {x2 : Int32} {S : mS} {r : mR}, f_X8_takesWord_b5 F 11 n x2 S = some r → Ev (d + 1) Mx79 (5, [.ref 1, .ref 1011, .int x2, mK], [], S, 0) r := by
  intro n
  induction n with
  | zero => intro x2 S r hf; cases hf
  | succ n ih =>
    intro x2 S r hf
    rw [f_X8_takesWord_b5] at hf
    refine ev_sts 3 (c2 := (10, [.ref 1, .ref 1011, .int x2, mK], [.int (S 1 1), .int x2], S, 0)) rfl ?_
    refine ev_if (c1 := (30, [.ref 1, .ref 1011, .int x2, mK], [], S, 0)) (c2 := (13, [.ref 1, .ref 1011, .int x2, mK], [], S, 0)) hf rfl rfl (fun _ hf => ?_) (fun _ hf => ?_)
    · exact f_X8_takesWord_b30_ok_1011 hf
    · refine ev_sts 2 (c2 := (15, [.ref 1, .ref 1011, .int x2, mK], [.int x2, .ref 1], S, 0)) rfl ?_
      refine ev_bI0 (d := d) (M' := Mx84) (ct := (18, [.ref 1, .ref 1011, .int x2, mK], [], S, 0)) hf rfl rfl rfl rfl (fun r9 h9 => f_X8_byteAt_ok (d := d) h9) (fun r6 S5 hf => ?_)
      show Ev (d + 1) Mx79 (18, [.ref 1, .ref 1011, .int x2, mK], [.int r6], S5, 0) r
      refine ev_bI0 (d := d) (M' := Mx85) (ct := (21, [.ref 1, .ref 1011, .int x2, mK], [], S5, 0)) hf rfl rfl rfl rfl (fun r9 h9 => f_X8_isLetter_ok (d := d) h9) (fun r8 S7 hf => ?_)
      show Ev (d + 1) Mx79 (21, [.ref 1, .ref 1011, .int x2, mK], [.int r8], S7, 0) r
      refine ev_if (c1 := (30, [.ref 1, .ref 1011, .int x2, mK], [], S7, 0)) (c2 := (24, [.ref 1, .ref 1011, .int x2, mK], [], S7, 0)) hf rfl rfl (fun _ hf => ?_) (fun _ hf => ?_)
      · exact f_X8_takesWord_b30_ok_1011 hf
      · exact ev_sts 2 (c2 := (5, [.ref 1, .ref 1011, .int (x2 + (1 : Int32)), mK], [], S7, 0)) rfl (ih hf)
theorem f_X8_takesWord_ok_1011 {d F : Nat} {S : mS} {r : mR} (hf : f_X8_takesWord F 11 S = some r) : Ev (d + 1) Mx79 (entry Mx79 [.ref 1, .ref 1011] S) r := by
  unfold f_X8_takesWord at hf
  refine ev_sts 3 (c2 := (5, [.ref 1, .ref 1011, .int (S 1 2), mK], [], S, 0)) rfl ?_
  refine ev_let (P := fun y1 => Ev (d + 1) Mx79 (5, [.ref 1, .ref 1011, .int y1, mK], [], S, 0) r) (fun y1 hf => ?_) hf
  exact f_X8_takesWord_b5_ok_1011 _ hf
theorem f_X8_takesWord_b47_ok_1000 {d F : Nat} : ∀ (n : Nat) {x2 : Int32} {x3 : Int32} {S : mS} {r : mR}, f_X8_takesWord_b47 F 0 n x2 x3 S = some r → Ev (d + 1) Mx79 (47, [.ref 1, .ref 1000, .int x2, .int x3], [], S, 0) r := by
  intro n
  induction n with
  | zero => intro x2 x3 S r hf; cases hf
  | succ n ih =>
    intro x2 x3 S r hf
    rw [f_X8_takesWord_b47] at hf
    refine ev_sts 3 (c2 := (52, [.ref 1, .ref 1000, .int x2, .int x3], [.int (Int32.ofNat (mStr.getD 0 []).length), .int x3], S, 0)) rfl ?_
    refine ev_if (c1 := (81, [.ref 1, .ref 1000, .int x2, .int x3], [], S, 0)) (c2 := (55, [.ref 1, .ref 1000, .int x2, .int x3], [], S, 0)) hf rfl rfl (fun _ hf => ?_) (fun _ hf => ?_)
    · refine ev_sts 2 (c2 := (83, [.ref 1, .ref 1000, .int x2, .int x3], [.int x2, .ref 1], S, 0)) rfl ?_
      refine ev_bV0 (d := d) (M' := Mx83) (ct := (86, [.ref 1, .ref 1000, .int x2, .int x3], [], S, 0)) hf rfl rfl rfl rfl (fun r9 h9 => f_X8_moveTo_ok (d := d) h9) (fun S2 hf => ?_)
      show Ev (d + 1) Mx79 (86, [.ref 1, .ref 1000, .int x2, .int x3], [], S2, 0) r
      refine ev_sts 1 (c2 := (87, [.ref 1, .ref 1000, .int x2, .int x3], [.int ((1 : Int32))], S2, 0)) rfl ?_
      exact ev_ret hf rfl rfl
    · refine ev_sts 5 (c2 := (62, [.ref 1, .ref 1000, .int x2, .int x3], [.int ((S 1 2) + x3), .ref 1], S, 0)) rfl ?_
      refine ev_bI0 (d := d) (M' := Mx84) (ct := (65, [.ref 1, .ref 1000, .int x2, .int x3], [], S, 0)) hf rfl rfl rfl rfl (fun r9 h9 => f_X8_byteAt_ok (d := d) h9) (fun r4 S3 hf => ?_)
      show Ev (d + 1) Mx79 (65, [.ref 1, .ref 1000, .int x2, .int x3], [.int r4], S3, 0) r
      refine ev_sts 2 (c2 := (67, [.ref 1, .ref 1000, .int x2, .int x3], [.int x3, .ref 1000, .int r4], S3, 0)) rfl ?_
      refine ev_gd (c1 := (70, [.ref 1, .ref 1000, .int x2, .int x3], [.int ((mStr.getD 0 []).getD x3.toNatClampNeg 0), .int r4], S3, 0)) hf rfl rfl (fun hf => ?_)
      refine ev_if (c1 := (75, [.ref 1, .ref 1000, .int x2, .int x3], [], S3, 0)) (c2 := (73, [.ref 1, .ref 1000, .int x2, .int x3], [], S3, 0)) hf rfl rfl (fun _ hf => ?_) (fun _ hf => ?_)
      · exact ev_sts 2 (c2 := (47, [.ref 1, .ref 1000, .int x2, .int (x3 + (1 : Int32))], [], S3, 0)) rfl (ih hf)
      · refine ev_sts 1 (c2 := (74, [.ref 1, .ref 1000, .int x2, .int x3], [.int ((0 : Int32))], S3, 0)) rfl ?_
        exact ev_ret hf rfl rfl
theorem f_X8_takesWord_b30_ok_1000 {d F : Nat} {x2 : Int32} {S : mS} {r : mR} (hf : f_X8_takesWord_b30 F 0 x2 S = some r) : Ev (d + 1) Mx79 (30, [.ref 1, .ref 1000, .int x2, mK], [], S, 0) r := by
  unfold f_X8_takesWord_b30 at hf
  refine ev_sts 6 (c2 := (40, [.ref 1, .ref 1000, .int x2, mK], [.int (Int32.ofNat (mStr.getD 0 []).length), .int (x2 - (S 1 2))], S, 0)) rfl ?_
  refine ev_if (c1 := (45, [.ref 1, .ref 1000, .int x2, mK], [], S, 0)) (c2 := (43, [.ref 1, .ref 1000, .int x2, mK], [], S, 0)) hf rfl rfl (fun _ hf => ?_) (fun _ hf => ?_)
  · exact ev_sts 2 (c2 := (47, [.ref 1, .ref 1000, .int x2, .int ((0 : Int32))], [], S, 0)) rfl (f_X8_takesWord_b47_ok_1000 _ hf)
  · refine ev_sts 1 (c2 := (44, [.ref 1, .ref 1000, .int x2, mK], [.int ((0 : Int32))], S, 0)) rfl ?_
    exact ev_ret hf rfl rfl
theorem f_X8_takesWord_b5_ok_1000 {d F : Nat} : ∀ (n : Nat) {x2 : Int32} {S : mS} {r : mR}, f_X8_takesWord_b5 F 0 n x2 S = some r → Ev (d + 1) Mx79 (5, [.ref 1, .ref 1000, .int x2, mK], [], S, 0) r := by
  intro n
  induction n with
  | zero => intro x2 S r hf; cases hf
  | succ n ih =>
    intro x2 S r hf
    rw [f_X8_takesWord_b5] at hf
    refine ev_sts 3 (c2 := (10, [.ref 1, .ref 1000, .int x2, mK], [.int (S 1 1), .int x2], S, 0)) rfl ?_
    refine ev_if (c1 := (30, [.ref 1, .ref 1000, .int x2, mK], [], S, 0)) (c2 := (13, [.ref 1, .ref 1000, .int x2, mK], [], S, 0)) hf rfl rfl (fun _ hf => ?_) (fun _ hf => ?_)
    · exact f_X8_takesWord_b30_ok_1000 hf
    · refine ev_sts 2 (c2 := (15, [.ref 1, .ref 1000, .int x2, mK], [.int x2, .ref 1], S, 0)) rfl ?_
      refine ev_bI0 (d := d) (M' := Mx84) (ct := (18, [.ref 1, .ref 1000, .int x2, mK], [], S, 0)) hf rfl rfl rfl rfl (fun r9 h9 => f_X8_byteAt_ok (d := d) h9) (fun r6 S5 hf => ?_)
      show Ev (d + 1) Mx79 (18, [.ref 1, .ref 1000, .int x2, mK], [.int r6], S5, 0) r
      refine ev_bI0 (d := d) (M' := Mx85) (ct := (21, [.ref 1, .ref 1000, .int x2, mK], [], S5, 0)) hf rfl rfl rfl rfl (fun r9 h9 => f_X8_isLetter_ok (d := d) h9) (fun r8 S7 hf => ?_)
      show Ev (d + 1) Mx79 (21, [.ref 1, .ref 1000, .int x2, mK], [.int r8], S7, 0) r
      refine ev_if (c1 := (30, [.ref 1, .ref 1000, .int x2, mK], [], S7, 0)) (c2 := (24, [.ref 1, .ref 1000, .int x2, mK], [], S7, 0)) hf rfl rfl (fun _ hf => ?_) (fun _ hf => ?_)
      · exact f_X8_takesWord_b30_ok_1000 hf
      · exact ev_sts 2 (c2 := (5, [.ref 1, .ref 1000, .int (x2 + (1 : Int32)), mK], [], S7, 0)) rfl (ih hf)
theorem f_X8_takesWord_ok_1000 {d F : Nat} {S : mS} {r : mR} (hf : f_X8_takesWord F 0 S = some r) : Ev (d + 1) Mx79 (entry Mx79 [.ref 1, .ref 1000] S) r := by
  unfold f_X8_takesWord at hf
  refine ev_sts 3 (c2 := (5, [.ref 1, .ref 1000, .int (S 1 2), mK], [], S, 0)) rfl ?_
  refine ev_let (P := fun y1 => Ev (d + 1) Mx79 (5, [.ref 1, .ref 1000, .int y1, mK], [], S, 0) r) (fun y1 hf => ?_) hf
  exact f_X8_takesWord_b5_ok_1000 _ hf
theorem f_X8_takesWord_b47_ok_1006 {d F : Nat} : ∀ (n : Nat) {x2 : Int32} {x3 : Int32} {S : mS} {r : mR}, f_X8_takesWord_b47 F 6 n x2 x3 S = some r → Ev (d + 1) Mx79 (47, [.ref 1, .ref 1006, .int x2, .int x3], [], S, 0) r := by
  intro n
  induction n with
  | zero => intro x2 x3 S r hf; cases hf
  | succ n ih =>
    intro x2 x3 S r hf
    rw [f_X8_takesWord_b47] at hf
    refine ev_sts 3 (c2 := (52, [.ref 1, .ref 1006, .int x2, .int x3], [.int (Int32.ofNat (mStr.getD 6 []).length), .int x3], S, 0)) rfl ?_
    refine ev_if (c1 := (81, [.ref 1, .ref 1006, .int x2, .int x3], [], S, 0)) (c2 := (55, [.ref 1, .ref 1006, .int x2, .int x3], [], S, 0)) hf rfl rfl (fun _ hf => ?_) (fun _ hf => ?_)
    · refine ev_sts 2 (c2 := (83, [.ref 1, .ref 1006, .int x2, .int x3], [.int x2, .ref 1], S, 0)) rfl ?_
      refine ev_bV0 (d := d) (M' := Mx83) (ct := (86, [.ref 1, .ref 1006, .int x2, .int x3], [], S, 0)) hf rfl rfl rfl rfl (fun r9 h9 => f_X8_moveTo_ok (d := d) h9) (fun S2 hf => ?_)
      show Ev (d + 1) Mx79 (86, [.ref 1, .ref 1006, .int x2, .int x3], [], S2, 0) r
      refine ev_sts 1 (c2 := (87, [.ref 1, .ref 1006, .int x2, .int x3], [.int ((1 : Int32))], S2, 0)) rfl ?_
      exact ev_ret hf rfl rfl
    · refine ev_sts 5 (c2 := (62, [.ref 1, .ref 1006, .int x2, .int x3], [.int ((S 1 2) + x3), .ref 1], S, 0)) rfl ?_
      refine ev_bI0 (d := d) (M' := Mx84) (ct := (65, [.ref 1, .ref 1006, .int x2, .int x3], [], S, 0)) hf rfl rfl rfl rfl (fun r9 h9 => f_X8_byteAt_ok (d := d) h9) (fun r4 S3 hf => ?_)
      show Ev (d + 1) Mx79 (65, [.ref 1, .ref 1006, .int x2, .int x3], [.int r4], S3, 0) r
      refine ev_sts 2 (c2 := (67, [.ref 1, .ref 1006, .int x2, .int x3], [.int x3, .ref 1006, .int r4], S3, 0)) rfl ?_
      refine ev_gd (c1 := (70, [.ref 1, .ref 1006, .int x2, .int x3], [.int ((mStr.getD 6 []).getD x3.toNatClampNeg 0), .int r4], S3, 0)) hf rfl rfl (fun hf => ?_)
      refine ev_if (c1 := (75, [.ref 1, .ref 1006, .int x2, .int x3], [], S3, 0)) (c2 := (73, [.ref 1, .ref 1006, .int x2, .int x3], [], S3, 0)) hf rfl rfl (fun _ hf => ?_) (fun _ hf => ?_)
      · exact ev_sts 2 (c2 := (47, [.ref 1, .ref 1006, .int x2, .int (x3 + (1 : Int32))], [], S3, 0)) rfl (ih hf)
      · refine ev_sts 1 (c2 := (74, [.ref 1, .ref 1006, .int x2, .int x3], [.int ((0 : Int32))], S3, 0)) rfl ?_
        exact ev_ret hf rfl rfl
theorem f_X8_takesWord_b30_ok_1006 {d F : Nat} {x2 : Int32} {S : mS} {r : mR} (hf : f_X8_takesWord_b30 F 6 x2 S = some r) : Ev (d + 1) Mx79 (30, [.ref 1, .ref 1006, .int x2, mK], [], S, 0) r := by
  unfold f_X8_takesWord_b30 at hf
  refine ev_sts 6 (c2 := (40, [.ref 1, .ref 1006, .int x2, mK], [.int (Int32.ofNat (mStr.getD 6 []).length), .int (x2 - (S 1 2))], S, 0)) rfl ?_
  refine ev_if (c1 := (45, [.ref 1, .ref 1006, .int x2, mK], [], S, 0)) (c2 := (43, [.ref 1, .ref 1006, .int x2, mK], [], S, 0)) hf rfl rfl (fun _ hf => ?_) (fun _ hf => ?_)
  · exact ev_sts 2 (c2 := (47, [.ref 1, .ref 1006, .int x2, .int ((0 : Int32))], [], S, 0)) rfl (f_X8_takesWord_b47_ok_1006 _ hf)
  · refine ev_sts 1 (c2 := (44, [.ref 1, .ref 1006, .int x2, mK], [.int ((0 : Int32))], S, 0)) rfl ?_
    exact ev_ret hf rfl rfl
theorem f_X8_takesWord_b5_ok_1006 {d F : Nat} : ∀ (n : Nat) {x2 : Int32} {S : mS} {r : mR}, f_X8_takesWord_b5 F 6 n x2 S = some r → Ev (d + 1) Mx79 (5, [.ref 1, .ref 1006, .int x2, mK], [], S, 0) r := by
  intro n
  induction n with
  | zero => intro x2 S r hf; cases hf
  | succ n ih =>
    intro x2 S r hf
    rw [f_X8_takesWord_b5] at hf
    refine ev_sts 3 (c2 := (10, [.ref 1, .ref 1006, .int x2, mK], [.int (S 1 1), .int x2], S, 0)) rfl ?_
    refine ev_if (c1 := (30, [.ref 1, .ref 1006, .int x2, mK], [], S, 0)) (c2 := (13, [.ref 1, .ref 1006, .int x2, mK], [], S, 0)) hf rfl rfl (fun _ hf => ?_) (fun _ hf => ?_)
    · exact f_X8_takesWord_b30_ok_1006 hf
    · refine ev_sts 2 (c2 := (15, [.ref 1, .ref 1006, .int x2, mK], [.int x2, .ref 1], S, 0)) rfl ?_
      refine ev_bI0 (d := d) (M' := Mx84) (ct := (18, [.ref 1, .ref 1006, .int x2, mK], [], S, 0)) hf rfl rfl rfl rfl (fun r9 h9 => f_X8_byteAt_ok (d := d) h9) (fun r6 S5 hf => ?_)
      show Ev (d + 1) Mx79 (18, [.ref 1, .ref 1006, .int x2, mK], [.int r6], S5, 0) r
      refine ev_bI0 (d := d) (M' := Mx85) (ct := (21, [.ref 1, .ref 1006, .int x2, mK], [], S5, 0)) hf rfl rfl rfl rfl (fun r9 h9 => f_X8_isLetter_ok (d := d) h9) (fun r8 S7 hf => ?_)
      show Ev (d + 1) Mx79 (21, [.ref 1, .ref 1006, .int x2, mK], [.int r8], S7, 0) r
      refine ev_if (c1 := (30, [.ref 1, .ref 1006, .int x2, mK], [], S7, 0)) (c2 := (24, [.ref 1, .ref 1006, .int x2, mK], [], S7, 0)) hf rfl rfl (fun _ hf => ?_) (fun _ hf => ?_)
      · exact f_X8_takesWord_b30_ok_1006 hf
      · exact ev_sts 2 (c2 := (5, [.ref 1, .ref 1006, .int (x2 + (1 : Int32)), mK], [], S7, 0)) rfl (ih hf)
theorem f_X8_takesWord_ok_1006 {d F : Nat} {S : mS} {r : mR} (hf : f_X8_takesWord F 6 S = some r) : Ev (d + 1) Mx79 (entry Mx79 [.ref 1, .ref 1006] S) r := by
  unfold f_X8_takesWord at hf
  refine ev_sts 3 (c2 := (5, [.ref 1, .ref 1006, .int (S 1 2), mK], [], S, 0)) rfl ?_
  refine ev_let (P := fun y1 => Ev (d + 1) Mx79 (5, [.ref 1, .ref 1006, .int y1, mK], [], S, 0) r) (fun y1 hf => ?_) hf
  exact f_X8_takesWord_b5_ok_1006 _ hf
theorem f_X8_takesWord_b47_ok_1007 {d F : Nat} : ∀ (n : Nat) {x2 : Int32} {x3 : Int32} {S : mS} {r : mR}, f_X8_takesWord_b47 F 7 n x2 x3 S = some r → Ev (d + 1) Mx79 (47, [.ref 1, .ref 1007, .int x2, .int x3], [], S, 0) r := by
  intro n
  induction n with
  | zero => intro x2 x3 S r hf; cases hf
  | succ n ih =>
    intro x2 x3 S r hf
    rw [f_X8_takesWord_b47] at hf
    refine ev_sts 3 (c2 := (52, [.ref 1, .ref 1007, .int x2, .int x3], [.int (Int32.ofNat (mStr.getD 7 []).length), .int x3], S, 0)) rfl ?_
    refine ev_if (c1 := (81, [.ref 1, .ref 1007, .int x2, .int x3], [], S, 0)) (c2 := (55, [.ref 1, .ref 1007, .int x2, .int x3], [], S, 0)) hf rfl rfl (fun _ hf => ?_) (fun _ hf => ?_)
    · refine ev_sts 2 (c2 := (83, [.ref 1, .ref 1007, .int x2, .int x3], [.int x2, .ref 1], S, 0)) rfl ?_
      refine ev_bV0 (d := d) (M' := Mx83) (ct := (86, [.ref 1, .ref 1007, .int x2, .int x3], [], S, 0)) hf rfl rfl rfl rfl (fun r9 h9 => f_X8_moveTo_ok (d := d) h9) (fun S2 hf => ?_)
      show Ev (d + 1) Mx79 (86, [.ref 1, .ref 1007, .int x2, .int x3], [], S2, 0) r
      refine ev_sts 1 (c2 := (87, [.ref 1, .ref 1007, .int x2, .int x3], [.int ((1 : Int32))], S2, 0)) rfl ?_
      exact ev_ret hf rfl rfl
    · refine ev_sts 5 (c2 := (62, [.ref 1, .ref 1007, .int x2, .int x3], [.int ((S 1 2) + x3), .ref 1], S, 0)) rfl ?_
      refine ev_bI0 (d := d) (M' := Mx84) (ct := (65, [.ref 1, .ref 1007, .int x2, .int x3], [], S, 0)) hf rfl rfl rfl rfl (fun r9 h9 => f_X8_byteAt_ok (d := d) h9) (fun r4 S3 hf => ?_)
      show Ev (d + 1) Mx79 (65, [.ref 1, .ref 1007, .int x2, .int x3], [.int r4], S3, 0) r
      refine ev_sts 2 (c2 := (67, [.ref 1, .ref 1007, .int x2, .int x3], [.int x3, .ref 1007, .int r4], S3, 0)) rfl ?_
      refine ev_gd (c1 := (70, [.ref 1, .ref 1007, .int x2, .int x3], [.int ((mStr.getD 7 []).getD x3.toNatClampNeg 0), .int r4], S3, 0)) hf rfl rfl (fun hf => ?_)
      refine ev_if (c1 := (75, [.ref 1, .ref 1007, .int x2, .int x3], [], S3, 0)) (c2 := (73, [.ref 1, .ref 1007, .int x2, .int x3], [], S3, 0)) hf rfl rfl (fun _ hf => ?_) (fun _ hf => ?_)
      · exact ev_sts 2 (c2 := (47, [.ref 1, .ref 1007, .int x2, .int (x3 + (1 : Int32))], [], S3, 0)) rfl (ih hf)
      · refine ev_sts 1 (c2 := (74, [.ref 1, .ref 1007, .int x2, .int x3], [.int ((0 : Int32))], S3, 0)) rfl ?_
        exact ev_ret hf rfl rfl
theorem f_X8_takesWord_b30_ok_1007 {d F : Nat} {x2 : Int32} {S : mS} {r : mR} (hf : f_X8_takesWord_b30 F 7 x2 S = some r) : Ev (d + 1) Mx79 (30, [.ref 1, .ref 1007, .int x2, mK], [], S, 0) r := by
  unfold f_X8_takesWord_b30 at hf
  refine ev_sts 6 (c2 := (40, [.ref 1, .ref 1007, .int x2, mK], [.int (Int32.ofNat (mStr.getD 7 []).length), .int (x2 - (S 1 2))], S, 0)) rfl ?_
  refine ev_if (c1 := (45, [.ref 1, .ref 1007, .int x2, mK], [], S, 0)) (c2 := (43, [.ref 1, .ref 1007, .int x2, mK], [], S, 0)) hf rfl rfl (fun _ hf => ?_) (fun _ hf => ?_)
  · exact ev_sts 2 (c2 := (47, [.ref 1, .ref 1007, .int x2, .int ((0 : Int32))], [], S, 0)) rfl (f_X8_takesWord_b47_ok_1007 _ hf)
  · refine ev_sts 1 (c2 := (44, [.ref 1, .ref 1007, .int x2, mK], [.int ((0 : Int32))], S, 0)) rfl ?_
    exact ev_ret hf rfl rfl
theorem f_X8_takesWord_b5_ok_1007 {d F : Nat} : ∀ (n : Nat) {x2 : Int32} {S : mS} {r : mR}, f_X8_takesWord_b5 F 7 n x2 S = some r → Ev (d + 1) Mx79 (5, [.ref 1, .ref 1007, .int x2, mK], [], S, 0) r := by
  intro n
  induction n with
  | zero => intro x2 S r hf; cases hf
  | succ n ih =>
    intro x2 S r hf
    rw [f_X8_takesWord_b5] at hf
    refine ev_sts 3 (c2 := (10, [.ref 1, .ref 1007, .int x2, mK], [.int (S 1 1), .int x2], S, 0)) rfl ?_
    refine ev_if (c1 := (30, [.ref 1, .ref 1007, .int x2, mK], [], S, 0)) (c2 := (13, [.ref 1, .ref 1007, .int x2, mK], [], S, 0)) hf rfl rfl (fun _ hf => ?_) (fun _ hf => ?_)
    · exact f_X8_takesWord_b30_ok_1007 hf
    · refine ev_sts 2 (c2 := (15, [.ref 1, .ref 1007, .int x2, mK], [.int x2, .ref 1], S, 0)) rfl ?_
      refine ev_bI0 (d := d) (M' := Mx84) (ct := (18, [.ref 1, .ref 1007, .int x2, mK], [], S, 0)) hf rfl rfl rfl rfl (fun r9 h9 => f_X8_byteAt_ok (d := d) h9) (fun r6 S5 hf => ?_)
      show Ev (d + 1) Mx79 (18, [.ref 1, .ref 1007, .int x2, mK], [.int r6], S5, 0) r
      refine ev_bI0 (d := d) (M' := Mx85) (ct := (21, [.ref 1, .ref 1007, .int x2, mK], [], S5, 0)) hf rfl rfl rfl rfl (fun r9 h9 => f_X8_isLetter_ok (d := d) h9) (fun r8 S7 hf => ?_)
      show Ev (d + 1) Mx79 (21, [.ref 1, .ref 1007, .int x2, mK], [.int r8], S7, 0) r
      refine ev_if (c1 := (30, [.ref 1, .ref 1007, .int x2, mK], [], S7, 0)) (c2 := (24, [.ref 1, .ref 1007, .int x2, mK], [], S7, 0)) hf rfl rfl (fun _ hf => ?_) (fun _ hf => ?_)
      · exact f_X8_takesWord_b30_ok_1007 hf
      · exact ev_sts 2 (c2 := (5, [.ref 1, .ref 1007, .int (x2 + (1 : Int32)), mK], [], S7, 0)) rfl (ih hf)
theorem f_X8_takesWord_ok_1007 {d F : Nat} {S : mS} {r : mR} (hf : f_X8_takesWord F 7 S = some r) : Ev (d + 1) Mx79 (entry Mx79 [.ref 1, .ref 1007] S) r := by
  unfold f_X8_takesWord at hf
  refine ev_sts 3 (c2 := (5, [.ref 1, .ref 1007, .int (S 1 2), mK], [], S, 0)) rfl ?_
  refine ev_let (P := fun y1 => Ev (d + 1) Mx79 (5, [.ref 1, .ref 1007, .int y1, mK], [], S, 0) r) (fun y1 hf => ?_) hf
  exact f_X8_takesWord_b5_ok_1007 _ hf
theorem f_X8_takesWord_b47_ok_1008 {d F : Nat} : ∀ (n : Nat) {x2 : Int32} {x3 : Int32} {S : mS} {r : mR}, f_X8_takesWord_b47 F 8 n x2 x3 S = some r → Ev (d + 1) Mx79 (47, [.ref 1, .ref 1008, .int x2, .int x3], [], S, 0) r := by
  intro n
  induction n with
  | zero => intro x2 x3 S r hf; cases hf
  | succ n ih =>
    intro x2 x3 S r hf
    rw [f_X8_takesWord_b47] at hf
    refine ev_sts 3 (c2 := (52, [.ref 1, .ref 1008, .int x2, .int x3], [.int (Int32.ofNat (mStr.getD 8 []).length), .int x3], S, 0)) rfl ?_
    refine ev_if (c1 := (81, [.ref 1, .ref 1008, .int x2, .int x3], [], S, 0)) (c2 := (55, [.ref 1, .ref 1008, .int x2, .int x3], [], S, 0)) hf rfl rfl (fun _ hf => ?_) (fun _ hf => ?_)
    · refine ev_sts 2 (c2 := (83, [.ref 1, .ref 1008, .int x2, .int x3], [.int x2, .ref 1], S, 0)) rfl ?_
      refine ev_bV0 (d := d) (M' := Mx83) (ct := (86, [.ref 1, .ref 1008, .int x2, .int x3], [], S, 0)) hf rfl rfl rfl rfl (fun r9 h9 => f_X8_moveTo_ok (d := d) h9) (fun S2 hf => ?_)
      show Ev (d + 1) Mx79 (86, [.ref 1, .ref 1008, .int x2, .int x3], [], S2, 0) r
      refine ev_sts 1 (c2 := (87, [.ref 1, .ref 1008, .int x2, .int x3], [.int ((1 : Int32))], S2, 0)) rfl ?_
      exact ev_ret hf rfl rfl
    · refine ev_sts 5 (c2 := (62, [.ref 1, .ref 1008, .int x2, .int x3], [.int ((S 1 2) + x3), .ref 1], S, 0)) rfl ?_
      refine ev_bI0 (d := d) (M' := Mx84) (ct := (65, [.ref 1, .ref 1008, .int x2, .int x3], [], S, 0)) hf rfl rfl rfl rfl (fun r9 h9 => f_X8_byteAt_ok (d := d) h9) (fun r4 S3 hf => ?_)
      show Ev (d + 1) Mx79 (65, [.ref 1, .ref 1008, .int x2, .int x3], [.int r4], S3, 0) r
      refine ev_sts 2 (c2 := (67, [.ref 1, .ref 1008, .int x2, .int x3], [.int x3, .ref 1008, .int r4], S3, 0)) rfl ?_
      refine ev_gd (c1 := (70, [.ref 1, .ref 1008, .int x2, .int x3], [.int ((mStr.getD 8 []).getD x3.toNatClampNeg 0), .int r4], S3, 0)) hf rfl rfl (fun hf => ?_)
      refine ev_if (c1 := (75, [.ref 1, .ref 1008, .int x2, .int x3], [], S3, 0)) (c2 := (73, [.ref 1, .ref 1008, .int x2, .int x3], [], S3, 0)) hf rfl rfl (fun _ hf => ?_) (fun _ hf => ?_)
      · exact ev_sts 2 (c2 := (47, [.ref 1, .ref 1008, .int x2, .int (x3 + (1 : Int32))], [], S3, 0)) rfl (ih hf)
      · refine ev_sts 1 (c2 := (74, [.ref 1, .ref 1008, .int x2, .int x3], [.int ((0 : Int32))], S3, 0)) rfl ?_
        exact ev_ret hf rfl rfl
theorem f_X8_takesWord_b30_ok_1008 {d F : Nat} {x2 : Int32} {S : mS} {r : mR} (hf : f_X8_takesWord_b30 F 8 x2 S = some r) : Ev (d + 1) Mx79 (30, [.ref 1, .ref 1008, .int x2, mK], [], S, 0) r := by
  unfold f_X8_takesWord_b30 at hf
  refine ev_sts 6 (c2 := (40, [.ref 1, .ref 1008, .int x2, mK], [.int (Int32.ofNat (mStr.getD 8 []).length), .int (x2 - (S 1 2))], S, 0)) rfl ?_
  refine ev_if (c1 := (45, [.ref 1, .ref 1008, .int x2, mK], [], S, 0)) (c2 := (43, [.ref 1, .ref 1008, .int x2, mK], [], S, 0)) hf rfl rfl (fun _ hf => ?_) (fun _ hf => ?_)
  · exact ev_sts 2 (c2 := (47, [.ref 1, .ref 1008, .int x2, .int ((0 : Int32))], [], S, 0)) rfl (f_X8_takesWord_b47_ok_1008 _ hf)
  · refine ev_sts 1 (c2 := (44, [.ref 1, .ref 1008, .int x2, mK], [.int ((0 : Int32))], S, 0)) rfl ?_
    exact ev_ret hf rfl rfl
theorem f_X8_takesWord_b5_ok_1008 {d F : Nat} : ∀ (n : Nat) {x2 : Int32} {S : mS} {r : mR}, f_X8_takesWord_b5 F 8 n x2 S = some r → Ev (d + 1) Mx79 (5, [.ref 1, .ref 1008, .int x2, mK], [], S, 0) r := by
  intro n
  induction n with
  | zero => intro x2 S r hf; cases hf
  | succ n ih =>
    intro x2 S r hf
    rw [f_X8_takesWord_b5] at hf
    refine ev_sts 3 (c2 := (10, [.ref 1, .ref 1008, .int x2, mK], [.int (S 1 1), .int x2], S, 0)) rfl ?_
    refine ev_if (c1 := (30, [.ref 1, .ref 1008, .int x2, mK], [], S, 0)) (c2 := (13, [.ref 1, .ref 1008, .int x2, mK], [], S, 0)) hf rfl rfl (fun _ hf => ?_) (fun _ hf => ?_)
    · exact f_X8_takesWord_b30_ok_1008 hf
    · refine ev_sts 2 (c2 := (15, [.ref 1, .ref 1008, .int x2, mK], [.int x2, .ref 1], S, 0)) rfl ?_
      refine ev_bI0 (d := d) (M' := Mx84) (ct := (18, [.ref 1, .ref 1008, .int x2, mK], [], S, 0)) hf rfl rfl rfl rfl (fun r9 h9 => f_X8_byteAt_ok (d := d) h9) (fun r6 S5 hf => ?_)
      show Ev (d + 1) Mx79 (18, [.ref 1, .ref 1008, .int x2, mK], [.int r6], S5, 0) r
      refine ev_bI0 (d := d) (M' := Mx85) (ct := (21, [.ref 1, .ref 1008, .int x2, mK], [], S5, 0)) hf rfl rfl rfl rfl (fun r9 h9 => f_X8_isLetter_ok (d := d) h9) (fun r8 S7 hf => ?_)
      show Ev (d + 1) Mx79 (21, [.ref 1, .ref 1008, .int x2, mK], [.int r8], S7, 0) r
      refine ev_if (c1 := (30, [.ref 1, .ref 1008, .int x2, mK], [], S7, 0)) (c2 := (24, [.ref 1, .ref 1008, .int x2, mK], [], S7, 0)) hf rfl rfl (fun _ hf => ?_) (fun _ hf => ?_)
      · exact f_X8_takesWord_b30_ok_1008 hf
      · exact ev_sts 2 (c2 := (5, [.ref 1, .ref 1008, .int (x2 + (1 : Int32)), mK], [], S7, 0)) rfl (ih hf)
theorem f_X8_takesWord_ok_1008 {d F : Nat} {S : mS} {r : mR} (hf : f_X8_takesWord F 8 S = some r) : Ev (d + 1) Mx79 (entry Mx79 [.ref 1, .ref 1008] S) r := by
  unfold f_X8_takesWord at hf
  refine ev_sts 3 (c2 := (5, [.ref 1, .ref 1008, .int (S 1 2), mK], [], S, 0)) rfl ?_
  refine ev_let (P := fun y1 => Ev (d + 1) Mx79 (5, [.ref 1, .ref 1008, .int y1, mK], [], S, 0) r) (fun y1 hf => ?_) hf
  exact f_X8_takesWord_b5_ok_1008 _ hf
theorem f_X8_takesWord_b47_ok_1010 {d F : Nat} : ∀ (n : Nat) {x2 : Int32} {x3 : Int32} {S : mS} {r : mR}, f_X8_takesWord_b47 F 10 n x2 x3 S = some r → Ev (d + 1) Mx79 (47, [.ref 1, .ref 1010, .int x2, .int x3], [], S, 0) r := by
  intro n
  induction n with
  | zero => intro x2 x3 S r hf; cases hf
  | succ n ih =>
    intro x2 x3 S r hf
    rw [f_X8_takesWord_b47] at hf
    refine ev_sts 3 (c2 := (52, [.ref 1, .ref 1010, .int x2, .int x3], [.int (Int32.ofNat (mStr.getD 10 []).length), .int x3], S, 0)) rfl ?_
    refine ev_if (c1 := (81, [.ref 1, .ref 1010, .int x2, .int x3], [], S, 0)) (c2 := (55, [.ref 1, .ref 1010, .int x2, .int x3], [], S, 0)) hf rfl rfl (fun _ hf => ?_) (fun _ hf => ?_)
    · refine ev_sts 2 (c2 := (83, [.ref 1, .ref 1010, .int x2, .int x3], [.int x2, .ref 1], S, 0)) rfl ?_
      refine ev_bV0 (d := d) (M' := Mx83) (ct := (86, [.ref 1, .ref 1010, .int x2, .int x3], [], S, 0)) hf rfl rfl rfl rfl (fun r9 h9 => f_X8_moveTo_ok (d := d) h9) (fun S2 hf => ?_)
      show Ev (d + 1) Mx79 (86, [.ref 1, .ref 1010, .int x2, .int x3], [], S2, 0) r
      refine ev_sts 1 (c2 := (87, [.ref 1, .ref 1010, .int x2, .int x3], [.int ((1 : Int32))], S2, 0)) rfl ?_
      exact ev_ret hf rfl rfl
    · refine ev_sts 5 (c2 := (62, [.ref 1, .ref 1010, .int x2, .int x3], [.int ((S 1 2) + x3), .ref 1], S, 0)) rfl ?_
      refine ev_bI0 (d := d) (M' := Mx84) (ct := (65, [.ref 1, .ref 1010, .int x2, .int x3], [], S, 0)) hf rfl rfl rfl rfl (fun r9 h9 => f_X8_byteAt_ok (d := d) h9) (fun r4 S3 hf => ?_)
      show Ev (d + 1) Mx79 (65, [.ref 1, .ref 1010, .int x2, .int x3], [.int r4], S3, 0) r
      refine ev_sts 2 (c2 := (67, [.ref 1, .ref 1010, .int x2, .int x3], [.int x3, .ref 1010, .int r4], S3, 0)) rfl ?_
      refine ev_gd (c1 := (70, [.ref 1, .ref 1010, .int x2, .int x3], [.int ((mStr.getD 10 []).getD x3.toNatClampNeg 0), .int r4], S3, 0)) hf rfl rfl (fun hf => ?_)
      refine ev_if (c1 := (75, [.ref 1, .ref 1010, .int x2, .int x3], [], S3, 0)) (c2 := (73, [.ref 1, .ref 1010, .int x2, .int x3], [], S3, 0)) hf rfl rfl (fun _ hf => ?_) (fun _ hf => ?_)
      · exact ev_sts 2 (c2 := (47, [.ref 1, .ref 1010, .int x2, .int (x3 + (1 : Int32))], [], S3, 0)) rfl (ih hf)
      · refine ev_sts 1 (c2 := (74, [.ref 1, .ref 1010, .int x2, .int x3], [.int ((0 : Int32))], S3, 0)) rfl ?_
        exact ev_ret hf rfl rfl
theorem f_X8_takesWord_b30_ok_1010 {d F : Nat} {x2 : Int32} {S : mS} {r : mR} (hf : f_X8_takesWord_b30 F 10 x2 S = some r) : Ev (d + 1) Mx79 (30, [.ref 1, .ref 1010, .int x2, mK], [], S, 0) r := by
  unfold f_X8_takesWord_b30 at hf
  refine ev_sts 6 (c2 := (40, [.ref 1, .ref 1010, .int x2, mK], [.int (Int32.ofNat (mStr.getD 10 []).length), .int (x2 - (S 1 2))], S, 0)) rfl ?_
  refine ev_if (c1 := (45, [.ref 1, .ref 1010, .int x2, mK], [], S, 0)) (c2 := (43, [.ref 1, .ref 1010, .int x2, mK], [], S, 0)) hf rfl rfl (fun _ hf => ?_) (fun _ hf => ?_)
  · exact ev_sts 2 (c2 := (47, [.ref 1, .ref 1010, .int x2, .int ((0 : Int32))], [], S, 0)) rfl (f_X8_takesWord_b47_ok_1010 _ hf)
  · refine ev_sts 1 (c2 := (44, [.ref 1, .ref 1010, .int x2, mK], [.int ((0 : Int32))], S, 0)) rfl ?_
    exact ev_ret hf rfl rfl
theorem f_X8_takesWord_b5_ok_1010 {d F : Nat} : ∀ (n : Nat) {x2 : Int32} {S : mS} {r : mR}, f_X8_takesWord_b5 F 10 n x2 S = some r → Ev (d + 1) Mx79 (5, [.ref 1, .ref 1010, .int x2, mK], [], S, 0) r := by
  intro n
  induction n with
  | zero => intro x2 S r hf; cases hf
  | succ n ih =>
    intro x2 S r hf
    rw [f_X8_takesWord_b5] at hf
    refine ev_sts 3 (c2 := (10, [.ref 1, .ref 1010, .int x2, mK], [.int (S 1 1), .int x2], S, 0)) rfl ?_
    refine ev_if (c1 := (30, [.ref 1, .ref 1010, .int x2, mK], [], S, 0)) (c2 := (13, [.ref 1, .ref 1010, .int x2, mK], [], S, 0)) hf rfl rfl (fun _ hf => ?_) (fun _ hf => ?_)
    · exact f_X8_takesWord_b30_ok_1010 hf
    · refine ev_sts 2 (c2 := (15, [.ref 1, .ref 1010, .int x2, mK], [.int x2, .ref 1], S, 0)) rfl ?_
      refine ev_bI0 (d := d) (M' := Mx84) (ct := (18, [.ref 1, .ref 1010, .int x2, mK], [], S, 0)) hf rfl rfl rfl rfl (fun r9 h9 => f_X8_byteAt_ok (d := d) h9) (fun r6 S5 hf => ?_)
      show Ev (d + 1) Mx79 (18, [.ref 1, .ref 1010, .int x2, mK], [.int r6], S5, 0) r
      refine ev_bI0 (d := d) (M' := Mx85) (ct := (21, [.ref 1, .ref 1010, .int x2, mK], [], S5, 0)) hf rfl rfl rfl rfl (fun r9 h9 => f_X8_isLetter_ok (d := d) h9) (fun r8 S7 hf => ?_)
      show Ev (d + 1) Mx79 (21, [.ref 1, .ref 1010, .int x2, mK], [.int r8], S7, 0) r
      refine ev_if (c1 := (30, [.ref 1, .ref 1010, .int x2, mK], [], S7, 0)) (c2 := (24, [.ref 1, .ref 1010, .int x2, mK], [], S7, 0)) hf rfl rfl (fun _ hf => ?_) (fun _ hf => ?_)
      · exact f_X8_takesWord_b30_ok_1010 hf
      · exact ev_sts 2 (c2 := (5, [.ref 1, .ref 1010, .int (x2 + (1 : Int32)), mK], [], S7, 0)) rfl (ih hf)
theorem f_X8_takesWord_ok_1010 {d F : Nat} {S : mS} {r : mR} (hf : f_X8_takesWord F 10 S = some r) : Ev (d + 1) Mx79 (entry Mx79 [.ref 1, .ref 1010] S) r := by
  unfold f_X8_takesWord at hf
  refine ev_sts 3 (c2 := (5, [.ref 1, .ref 1010, .int (S 1 2), mK], [], S, 0)) rfl ?_
  refine ev_let (P := fun y1 => Ev (d + 1) Mx79 (5, [.ref 1, .ref 1010, .int y1, mK], [], S, 0) r) (fun y1 hf => ?_) hf
  exact f_X8_takesWord_b5_ok_1010 _ hf
theorem f_X8_takesWord_b47_ok_1009 {d F : Nat} : ∀ (n : Nat) {x2 : Int32} {x3 : Int32} {S : mS} {r : mR}, f_X8_takesWord_b47 F 9 n x2 x3 S = some r → Ev (d + 1) Mx79 (47, [.ref 1, .ref 1009, .int x2, .int x3], [], S, 0) r := by
  intro n
  induction n with
  | zero => intro x2 x3 S r hf; cases hf
  | succ n ih =>
    intro x2 x3 S r hf
    rw [f_X8_takesWord_b47] at hf
    refine ev_sts 3 (c2 := (52, [.ref 1, .ref 1009, .int x2, .int x3], [.int (Int32.ofNat (mStr.getD 9 []).length), .int x3], S, 0)) rfl ?_
    refine ev_if (c1 := (81, [.ref 1, .ref 1009, .int x2, .int x3], [], S, 0)) (c2 := (55, [.ref 1, .ref 1009, .int x2, .int x3], [], S, 0)) hf rfl rfl (fun _ hf => ?_) (fun _ hf => ?_)
    · refine ev_sts 2 (c2 := (83, [.ref 1, .ref 1009, .int x2, .int x3], [.int x2, .ref 1], S, 0)) rfl ?_
      refine ev_bV0 (d := d) (M' := Mx83) (ct := (86, [.ref 1, .ref 1009, .int x2, .int x3], [], S, 0)) hf rfl rfl rfl rfl (fun r9 h9 => f_X8_moveTo_ok (d := d) h9) (fun S2 hf => ?_)
      show Ev (d + 1) Mx79 (86, [.ref 1, .ref 1009, .int x2, .int x3], [], S2, 0) r
      refine ev_sts 1 (c2 := (87, [.ref 1, .ref 1009, .int x2, .int x3], [.int ((1 : Int32))], S2, 0)) rfl ?_
      exact ev_ret hf rfl rfl
    · refine ev_sts 5 (c2 := (62, [.ref 1, .ref 1009, .int x2, .int x3], [.int ((S 1 2) + x3), .ref 1], S, 0)) rfl ?_
      refine ev_bI0 (d := d) (M' := Mx84) (ct := (65, [.ref 1, .ref 1009, .int x2, .int x3], [], S, 0)) hf rfl rfl rfl rfl (fun r9 h9 => f_X8_byteAt_ok (d := d) h9) (fun r4 S3 hf => ?_)
      show Ev (d + 1) Mx79 (65, [.ref 1, .ref 1009, .int x2, .int x3], [.int r4], S3, 0) r
      refine ev_sts 2 (c2 := (67, [.ref 1, .ref 1009, .int x2, .int x3], [.int x3, .ref 1009, .int r4], S3, 0)) rfl ?_
      refine ev_gd (c1 := (70, [.ref 1, .ref 1009, .int x2, .int x3], [.int ((mStr.getD 9 []).getD x3.toNatClampNeg 0), .int r4], S3, 0)) hf rfl rfl (fun hf => ?_)
      refine ev_if (c1 := (75, [.ref 1, .ref 1009, .int x2, .int x3], [], S3, 0)) (c2 := (73, [.ref 1, .ref 1009, .int x2, .int x3], [], S3, 0)) hf rfl rfl (fun _ hf => ?_) (fun _ hf => ?_)
      · exact ev_sts 2 (c2 := (47, [.ref 1, .ref 1009, .int x2, .int (x3 + (1 : Int32))], [], S3, 0)) rfl (ih hf)
      · refine ev_sts 1 (c2 := (74, [.ref 1, .ref 1009, .int x2, .int x3], [.int ((0 : Int32))], S3, 0)) rfl ?_
        exact ev_ret hf rfl rfl
theorem f_X8_takesWord_b30_ok_1009 {d F : Nat} {x2 : Int32} {S : mS} {r : mR} (hf : f_X8_takesWord_b30 F 9 x2 S = some r) : Ev (d + 1) Mx79 (30, [.ref 1, .ref 1009, .int x2, mK], [], S, 0) r := by
  unfold f_X8_takesWord_b30 at hf
  refine ev_sts 6 (c2 := (40, [.ref 1, .ref 1009, .int x2, mK], [.int (Int32.ofNat (mStr.getD 9 []).length), .int (x2 - (S 1 2))], S, 0)) rfl ?_
  refine ev_if (c1 := (45, [.ref 1, .ref 1009, .int x2, mK], [], S, 0)) (c2 := (43, [.ref 1, .ref 1009, .int x2, mK], [], S, 0)) hf rfl rfl (fun _ hf => ?_) (fun _ hf => ?_)
  · exact ev_sts 2 (c2 := (47, [.ref 1, .ref 1009, .int x2, .int ((0 : Int32))], [], S, 0)) rfl (f_X8_takesWord_b47_ok_1009 _ hf)
  · refine ev_sts 1 (c2 := (44, [.ref 1, .ref 1009, .int x2, mK], [.int ((0 : Int32))], S, 0)) rfl ?_
    exact ev_ret hf rfl rfl
theorem f_X8_takesWord_b5_ok_1009 {d F : Nat} : ∀ (n : Nat) {x2 : Int32} {S : mS} {r : mR}, f_X8_takesWord_b5 F 9 n x2 S = some r → Ev (d + 1) Mx79 (5, [.ref 1, .ref 1009, .int x2, mK], [], S, 0) r := by
  intro n
  induction n with
  | zero => intro x2 S r hf; cases hf
  | succ n ih =>
    intro x2 S r hf
    rw [f_X8_takesWord_b5] at hf
    refine ev_sts 3 (c2 := (10, [.ref 1, .ref 1009, .int x2, mK], [.int (S 1 1), .int x2], S, 0)) rfl ?_
    refine ev_if (c1 := (30, [.ref 1, .ref 1009, .int x2, mK], [], S, 0)) (c2 := (13, [.ref 1, .ref 1009, .int x2, mK], [], S, 0)) hf rfl rfl (fun _ hf => ?_) (fun _ hf => ?_)
    · exact f_X8_takesWord_b30_ok_1009 hf
    · refine ev_sts 2 (c2 := (15, [.ref 1, .ref 1009, .int x2, mK], [.int x2, .ref 1], S, 0)) rfl ?_
      refine ev_bI0 (d := d) (M' := Mx84) (ct := (18, [.ref 1, .ref 1009, .int x2, mK], [], S, 0)) hf rfl rfl rfl rfl (fun r9 h9 => f_X8_byteAt_ok (d := d) h9) (fun r6 S5 hf => ?_)
      show Ev (d + 1) Mx79 (18, [.ref 1, .ref 1009, .int x2, mK], [.int r6], S5, 0) r
      refine ev_bI0 (d := d) (M' := Mx85) (ct := (21, [.ref 1, .ref 1009, .int x2, mK], [], S5, 0)) hf rfl rfl rfl rfl (fun r9 h9 => f_X8_isLetter_ok (d := d) h9) (fun r8 S7 hf => ?_)
      show Ev (d + 1) Mx79 (21, [.ref 1, .ref 1009, .int x2, mK], [.int r8], S7, 0) r
      refine ev_if (c1 := (30, [.ref 1, .ref 1009, .int x2, mK], [], S7, 0)) (c2 := (24, [.ref 1, .ref 1009, .int x2, mK], [], S7, 0)) hf rfl rfl (fun _ hf => ?_) (fun _ hf => ?_)
      · exact f_X8_takesWord_b30_ok_1009 hf
      · exact ev_sts 2 (c2 := (5, [.ref 1, .ref 1009, .int (x2 + (1 : Int32)), mK], [], S7, 0)) rfl (ih hf)
theorem f_X8_takesWord_ok_1009 {d F : Nat} {S : mS} {r : mR} (hf : f_X8_takesWord F 9 S = some r) : Ev (d + 1) Mx79 (entry Mx79 [.ref 1, .ref 1009] S) r := by
  unfold f_X8_takesWord at hf
  refine ev_sts 3 (c2 := (5, [.ref 1, .ref 1009, .int (S 1 2), mK], [], S, 0)) rfl ?_
  refine ev_let (P := fun y1 => Ev (d + 1) Mx79 (5, [.ref 1, .ref 1009, .int y1, mK], [], S, 0) r) (fun y1 hf => ?_) hf
  exact f_X8_takesWord_b5_ok_1009 _ hf
theorem f_X8_takesWord_b47_ok_1005 {d F : Nat} : ∀ (n : Nat) {x2 : Int32} {x3 : Int32} {S : mS} {r : mR}, f_X8_takesWord_b47 F 5 n x2 x3 S = some r → Ev (d + 1) Mx79 (47, [.ref 1, .ref 1005, .int x2, .int x3], [], S, 0) r := by
  intro n
  induction n with
  | zero => intro x2 x3 S r hf; cases hf
  | succ n ih =>
    intro x2 x3 S r hf
    rw [f_X8_takesWord_b47] at hf
    refine ev_sts 3 (c2 := (52, [.ref 1, .ref 1005, .int x2, .int x3], [.int (Int32.ofNat (mStr.getD 5 []).length), .int x3], S, 0)) rfl ?_
    refine ev_if (c1 := (81, [.ref 1, .ref 1005, .int x2, .int x3], [], S, 0)) (c2 := (55, [.ref 1, .ref 1005, .int x2, .int x3], [], S, 0)) hf rfl rfl (fun _ hf => ?_) (fun _ hf => ?_)
    · refine ev_sts 2 (c2 := (83, [.ref 1, .ref 1005, .int x2, .int x3], [.int x2, .ref 1], S, 0)) rfl ?_
      refine ev_bV0 (d := d) (M' := Mx83) (ct := (86, [.ref 1, .ref 1005, .int x2, .int x3], [], S, 0)) hf rfl rfl rfl rfl (fun r9 h9 => f_X8_moveTo_ok (d := d) h9) (fun S2 hf => ?_)
      show Ev (d + 1) Mx79 (86, [.ref 1, .ref 1005, .int x2, .int x3], [], S2, 0) r
      refine ev_sts 1 (c2 := (87, [.ref 1, .ref 1005, .int x2, .int x3], [.int ((1 : Int32))], S2, 0)) rfl ?_
      exact ev_ret hf rfl rfl
    · refine ev_sts 5 (c2 := (62, [.ref 1, .ref 1005, .int x2, .int x3], [.int ((S 1 2) + x3), .ref 1], S, 0)) rfl ?_
      refine ev_bI0 (d := d) (M' := Mx84) (ct := (65, [.ref 1, .ref 1005, .int x2, .int x3], [], S, 0)) hf rfl rfl rfl rfl (fun r9 h9 => f_X8_byteAt_ok (d := d) h9) (fun r4 S3 hf => ?_)
      show Ev (d + 1) Mx79 (65, [.ref 1, .ref 1005, .int x2, .int x3], [.int r4], S3, 0) r
      refine ev_sts 2 (c2 := (67, [.ref 1, .ref 1005, .int x2, .int x3], [.int x3, .ref 1005, .int r4], S3, 0)) rfl ?_
      refine ev_gd (c1 := (70, [.ref 1, .ref 1005, .int x2, .int x3], [.int ((mStr.getD 5 []).getD x3.toNatClampNeg 0), .int r4], S3, 0)) hf rfl rfl (fun hf => ?_)
      refine ev_if (c1 := (75, [.ref 1, .ref 1005, .int x2, .int x3], [], S3, 0)) (c2 := (73, [.ref 1, .ref 1005, .int x2, .int x3], [], S3, 0)) hf rfl rfl (fun _ hf => ?_) (fun _ hf => ?_)
      · exact ev_sts 2 (c2 := (47, [.ref 1, .ref 1005, .int x2, .int (x3 + (1 : Int32))], [], S3, 0)) rfl (ih hf)
      · refine ev_sts 1 (c2 := (74, [.ref 1, .ref 1005, .int x2, .int x3], [.int ((0 : Int32))], S3, 0)) rfl ?_
        exact ev_ret hf rfl rfl
theorem f_X8_takesWord_b30_ok_1005 {d F : Nat} {x2 : Int32} {S : mS} {r : mR} (hf : f_X8_takesWord_b30 F 5 x2 S = some r) : Ev (d + 1) Mx79 (30, [.ref 1, .ref 1005, .int x2, mK], [], S, 0) r := by
  unfold f_X8_takesWord_b30 at hf
  refine ev_sts 6 (c2 := (40, [.ref 1, .ref 1005, .int x2, mK], [.int (Int32.ofNat (mStr.getD 5 []).length), .int (x2 - (S 1 2))], S, 0)) rfl ?_
  refine ev_if (c1 := (45, [.ref 1, .ref 1005, .int x2, mK], [], S, 0)) (c2 := (43, [.ref 1, .ref 1005, .int x2, mK], [], S, 0)) hf rfl rfl (fun _ hf => ?_) (fun _ hf => ?_)
  · exact ev_sts 2 (c2 := (47, [.ref 1, .ref 1005, .int x2, .int ((0 : Int32))], [], S, 0)) rfl (f_X8_takesWord_b47_ok_1005 _ hf)
  · refine ev_sts 1 (c2 := (44, [.ref 1, .ref 1005, .int x2, mK], [.int ((0 : Int32))], S, 0)) rfl ?_
    exact ev_ret hf rfl rfl
theorem f_X8_takesWord_b5_ok_1005 {d F : Nat} : ∀ (n : Nat) {x2 : Int32} {S : mS} {r : mR}, f_X8_takesWord_b5 F 5 n x2 S = some r → Ev (d + 1) Mx79 (5, [.ref 1, .ref 1005, .int x2, mK], [], S, 0) r := by
  intro n
  induction n with
  | zero => intro x2 S r hf; cases hf
  | succ n ih =>
    intro x2 S r hf
    rw [f_X8_takesWord_b5] at hf
    refine ev_sts 3 (c2 := (10, [.ref 1, .ref 1005, .int x2, mK], [.int (S 1 1), .int x2], S, 0)) rfl ?_
    refine ev_if (c1 := (30, [.ref 1, .ref 1005, .int x2, mK], [], S, 0)) (c2 := (13, [.ref 1, .ref 1005, .int x2, mK], [], S, 0)) hf rfl rfl (fun _ hf => ?_) (fun _ hf => ?_)
    · exact f_X8_takesWord_b30_ok_1005 hf
    · refine ev_sts 2 (c2 := (15, [.ref 1, .ref 1005, .int x2, mK], [.int x2, .ref 1], S, 0)) rfl ?_
      refine ev_bI0 (d := d) (M' := Mx84) (ct := (18, [.ref 1, .ref 1005, .int x2, mK], [], S, 0)) hf rfl rfl rfl rfl (fun r9 h9 => f_X8_byteAt_ok (d := d) h9) (fun r6 S5 hf => ?_)
      show Ev (d + 1) Mx79 (18, [.ref 1, .ref 1005, .int x2, mK], [.int r6], S5, 0) r
      refine ev_bI0 (d := d) (M' := Mx85) (ct := (21, [.ref 1, .ref 1005, .int x2, mK], [], S5, 0)) hf rfl rfl rfl rfl (fun r9 h9 => f_X8_isLetter_ok (d := d) h9) (fun r8 S7 hf => ?_)
      show Ev (d + 1) Mx79 (21, [.ref 1, .ref 1005, .int x2, mK], [.int r8], S7, 0) r
      refine ev_if (c1 := (30, [.ref 1, .ref 1005, .int x2, mK], [], S7, 0)) (c2 := (24, [.ref 1, .ref 1005, .int x2, mK], [], S7, 0)) hf rfl rfl (fun _ hf => ?_) (fun _ hf => ?_)
      · exact f_X8_takesWord_b30_ok_1005 hf
      · exact ev_sts 2 (c2 := (5, [.ref 1, .ref 1005, .int (x2 + (1 : Int32)), mK], [], S7, 0)) rfl (ih hf)
theorem f_X8_takesWord_ok_1005 {d F : Nat} {S : mS} {r : mR} (hf : f_X8_takesWord F 5 S = some r) : Ev (d + 1) Mx79 (entry Mx79 [.ref 1, .ref 1005] S) r := by
  unfold f_X8_takesWord at hf
  refine ev_sts 3 (c2 := (5, [.ref 1, .ref 1005, .int (S 1 2), mK], [], S, 0)) rfl ?_
  refine ev_let (P := fun y1 => Ev (d + 1) Mx79 (5, [.ref 1, .ref 1005, .int y1, mK], [], S, 0) r) (fun y1 hf => ?_) hf
  exact f_X8_takesWord_b5_ok_1005 _ hf
