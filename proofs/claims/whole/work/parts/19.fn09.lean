def f_X10_kicksTo_b2 (F : Nat) : Nat → Int32 → Int32 → Int32 → mS → Option mR
  | 0, _, _, _, _ => none
  | n + 1, x1, x2, x3, S => (if ((12 : Int32)) < x3 then some (.inl (some (.int ((-1 : Int32)))), S) else bI0 (f_X10_swings F x1 x3 x2 S) (fun r2 S1 => bI0 (f_X10_of x1 ((1 : Int32)) S1) (fun r4 S3 => (if r2 < r4 then f_X10_kicksTo_b2 F n x1 x2 (x3 + (1 : Int32)) S3 else some (.inl (some (.int x3)), S3)))))
def f_X10_kicksTo (F : Nat) (p1 : Int32) (p2 : Int32) (S : mS) : Option mR := f_X10_kicksTo_b2 F F p1 p2 ((0 : Int32)) S
theorem f_X10_kicksTo_b2_ok {d F : Nat} : ∀ (n : Nat) {x1 : Int32} {x2 : Int32} {x3 : Int32} {S : mS} {r : mR}, f_X10_kicksTo_b2 F n x1 x2 x3 S = some r → Ev (d + 8) Mx209 (2, [.ref 63, .int x1, .int x2, .int x3], [], S, 0) r := by
  intro n
  induction n with
  | zero => intro x1 x2 x3 S r hf; cases hf
  | succ n ih =>
    intro x1 x2 x3 S r hf
    rw [f_X10_kicksTo_b2] at hf
    refine ev_sts 2 (c2 := (5, [.ref 63, .int x1, .int x2, .int x3], [.int ((12 : Int32)), .int x3], S, 0)) rfl ?_
    refine ev_if (c1 := (32, [.ref 63, .int x1, .int x2, .int x3], [], S, 0)) (c2 := (8, [.ref 63, .int x1, .int x2, .int x3], [], S, 0)) hf rfl rfl (fun _ hf => ?_) (fun _ hf => ?_)
    · refine ev_sts 1 (c2 := (33, [.ref 63, .int x1, .int x2, .int x3], [.int ((-1 : Int32))], S, 0)) rfl ?_
      exact ev_ret hf rfl rfl
    · refine ev_sts 4 (c2 := (12, [.ref 63, .int x1, .int x2, .int x3], [.int x2, .int x3, .int x1, .ref 63], S, 0)) rfl ?_
      refine ev_bI0 (d := d + 7) (M' := Mx208) (ct := (15, [.ref 63, .int x1, .int x2, .int x3], [], S, 0)) hf rfl rfl rfl rfl (fun r9 h9 => f_X10_swings_ok (d := d) h9) (fun r2 S1 hf => ?_)
      show Ev (d + 8) Mx209 (15, [.ref 63, .int x1, .int x2, .int x3], [.int r2], S1, 0) r
      refine ev_sts 3 (c2 := (18, [.ref 63, .int x1, .int x2, .int x3], [.int ((1 : Int32)), .int x1, .ref 63, .int r2], S1, 0)) rfl ?_
      refine ev_bI0 (d := d + 7) (M' := Mx166) (ct := (21, [.ref 63, .int x1, .int x2, .int x3], [.int r2], S1, 0)) hf rfl rfl rfl rfl (fun r9 h9 => f_X10_of_ok (d := d + 6) h9) (fun r4 S3 hf => ?_)
      show Ev (d + 8) Mx209 (21, [.ref 63, .int x1, .int x2, .int x3], [.int r4, .int r2], S3, 0) r
      refine ev_if (c1 := (26, [.ref 63, .int x1, .int x2, .int x3], [], S3, 0)) (c2 := (24, [.ref 63, .int x1, .int x2, .int x3], [], S3, 0)) hf rfl rfl (fun _ hf => ?_) (fun _ hf => ?_)
      · exact ev_sts 2 (c2 := (2, [.ref 63, .int x1, .int x2, .int (x3 + (1 : Int32))], [], S3, 0)) rfl (ih hf)
      · refine ev_sts 1 (c2 := (25, [.ref 63, .int x1, .int x2, .int x3], [.int x3], S3, 0)) rfl ?_
        exact ev_ret hf rfl rfl
theorem f_X10_kicksTo_ok {d F : Nat} {p1 : Int32} {p2 : Int32} {S : mS} {r : mR} (hf : f_X10_kicksTo F p1 p2 S = some r) : Ev (d + 8) Mx209 (entry Mx209 [.ref 63, .int p1, .int p2] S) r := by
  unfold f_X10_kicksTo at hf
  exact ev_sts 2 (c2 := (2, [.ref 63, .int p1, .int p2, .int ((0 : Int32))], [], S, 0)) rfl (f_X10_kicksTo_b2_ok _ hf)
def f_X10_calm_b65 (K29 : Int32 → Int32 → Int32 → Int32 → mS → Option mR) (F : Nat) (x1 : Int32) (x2 : Int32) (x3 : Int32) (x4 : Int32) (S : mS) : Option mR := K29 x1 x2 x3 (x4 + (1 : Int32)) S
def f_X10_calm_b29 (F : Nat) : Nat → Int32 → Int32 → Int32 → Int32 → mS → Option mR
  | 0, _, _, _, _, _ => none
  | n + 1, x1, x2, x3, x4, S => (if ((10 : Int32)) ≤ x4 then some (.inl (some (.int x2)), S) else bI0 (f_X10_kicksTo F x1 x4 S) (fun r7 S6 => (if r7 < 0 then f_X10_calm_b65 (fun x1 x2 x3 x4 S => f_X10_calm_b29 F n x1 x2 x3 x4 S) F x1 x2 x3 x4 S6 else (if r7 < x3 then f_X10_calm_b65 (fun x1 x2 x3 x4 S => f_X10_calm_b29 F n x1 x2 x3 x4 S) F x1 x4 r7 x4 S6 else f_X10_calm_b65 (fun x1 x2 x3 x4 S => f_X10_calm_b29 F n x1 x2 x3 x4 S) F x1 x2 x3 x4 S6))))
def f_X10_calm (F : Nat) (p1 : Int32) (S : mS) : Option mR := bnd (upS S 63 0 ((0 : Int32))) (fun S1 => bI0 (f_X10_noLedge p1 S1) (fun r3 S2 => bI0 (f_X10_throwsIf r3 ((1 : Int32)) S2) (fun r5 S4 => (if r5 = 0 then f_X10_calm_b29 F F p1 ((-1 : Int32)) ((1000000 : Int32)) ((0 : Int32)) S4 else some (.inl (some (.int ((0 : Int32)))), S4)))))
theorem f_X10_calm_b65_ok {d F : Nat} {K29 : Int32 → Int32 → Int32 → Int32 → mS → Option mR} (hK29 : ∀ {x1 : Int32} {x2 : Int32} {x3 : Int32} {x4 : Int32} {S : mS} {r : mR}, K29 x1 x2 x3 x4 S = some r → Ev (d + 9) Mx219 (29, [.ref 63, .int x1, .int x2, .int x3, .int x4, mK], [], S, 0) r) {x1 : Int32} {x2 : Int32} {x3 : Int32} {x4 : Int32} {S : mS} {r : mR} (hf : f_X10_calm_b65 K29 F x1 x2 x3 x4 S = some r) : Ev (d + 9) Mx219 (65, [.ref 63, .int x1, .int x2, .int x3, .int x4, mK], [], S, 0) r := by
  unfold f_X10_calm_b65 at hf
  exact ev_sts 2 (c2 := (29, [.ref 63, .int x1, .int x2, .int x3, .int (x4 + (1 : Int32)), mK], [], S, 0)) rfl (hK29 hf)
theorem f_X10_calm_b29_ok {d F : Nat} : ∀ (n : Nat) {x1 : Int32} {x2 : Int32} {x3 : Int32} {x4 : Int32} {S : mS} {r : mR}, f_X10_calm_b29 F n x1 x2 x3 x4 S = some r → Ev (d + 9) Mx219 (29, [.ref 63, .int x1, .int x2, .int x3, .int x4, mK], [], S, 0) r := by
  intro n
  induction n with
  | zero => intro x1 x2 x3 x4 S r hf; cases hf
  | succ n ih =>
    intro x1 x2 x3 x4 S r hf
    rw [f_X10_calm_b29] at hf
    refine ev_sts 2 (c2 := (33, [.ref 63, .int x1, .int x2, .int x3, .int x4, mK], [.int ((10 : Int32)), .int x4], S, 0)) rfl ?_
    refine ev_if (c1 := (71, [.ref 63, .int x1, .int x2, .int x3, .int x4, mK], [], S, 0)) (c2 := (36, [.ref 63, .int x1, .int x2, .int x3, .int x4, mK], [], S, 0)) hf rfl rfl (fun _ hf => ?_) (fun _ hf => ?_)
    · refine ev_sts 1 (c2 := (72, [.ref 63, .int x1, .int x2, .int x3, .int x4, mK], [.int x2], S, 0)) rfl ?_
      exact ev_ret hf rfl rfl
    · refine ev_sts 3 (c2 := (40, [.ref 63, .int x1, .int x2, .int x3, .int x4, mK], [.int x4, .int x1, .ref 63], S, 0)) rfl ?_
      refine ev_bI0 (d := d + 8) (M' := Mx209) (ct := (43, [.ref 63, .int x1, .int x2, .int x3, .int x4, mK], [], S, 0)) hf rfl rfl rfl rfl (fun r9 h9 => f_X10_kicksTo_ok (d := d) h9) (fun r7 S6 hf => ?_)
      show Ev (d + 9) Mx219 (43, [.ref 63, .int x1, .int x2, .int x3, .int x4, mK], [.int r7], S6, 0) r
      refine ev_sts 2 (c2 := (47, [.ref 63, .int x1, .int x2, .int x3, .int x4, .int r7], [.int r7], S6, 0)) rfl ?_
      refine ev_if (c1 := (65, [.ref 63, .int x1, .int x2, .int x3, .int x4, mK], [], S6, 0)) (c2 := (50, [.ref 63, .int x1, .int x2, .int x3, .int x4, .int r7], [], S6, 0)) hf rfl rfl (fun _ hf => ?_) (fun _ hf => ?_)
      · exact f_X10_calm_b65_ok (fun h9 => ih h9) hf
      · refine ev_sts 2 (c2 := (53, [.ref 63, .int x1, .int x2, .int x3, .int x4, .int r7], [.int x3, .int r7], S6, 0)) rfl ?_
        refine ev_if (c1 := (59, [.ref 63, .int x1, .int x2, .int x3, .int x4, .int r7], [], S6, 0)) (c2 := (56, [.ref 63, .int x1, .int x2, .int x3, .int x4, .int r7], [], S6, 0)) hf rfl rfl (fun _ hf => ?_) (fun _ hf => ?_)
        · exact ev_sts 4 (c2 := (65, [.ref 63, .int x1, .int x4, .int r7, .int x4, mK], [], S6, 0)) rfl (f_X10_calm_b65_ok (fun h9 => ih h9) hf)
        · exact ev_sts 1 (c2 := (65, [.ref 63, .int x1, .int x2, .int x3, .int x4, mK], [], S6, 0)) rfl (f_X10_calm_b65_ok (fun h9 => ih h9) hf)
theorem f_X10_calm_ok {d F : Nat} {p1 : Int32} {S : mS} {r : mR} (hf : f_X10_calm F p1 S = some r) : Ev (d + 9) Mx219 (entry Mx219 [.ref 63, .int p1] S) r := by
  unfold f_X10_calm at hf
  refine ev_sts 3 (c2 := (5, [.ref 63, .int p1, mK, mK, mK, mK], [], (upS S 63 0 ((0 : Int32))), 0)) rfl ?_
  refine ev_let (P := fun S1 => Ev (d + 9) Mx219 (5, [.ref 63, .int p1, mK, mK, mK, mK], [], S1, 0) r) (fun S1 hf => ?_) hf
  refine ev_sts 3 (c2 := (8, [.ref 63, .int p1, mK, mK, mK, mK], [.int p1, .ref 63, .ref 63], S1, 0)) rfl ?_
  refine ev_bI0 (d := d + 8) (M' := Mx169) (ct := (11, [.ref 63, .int p1, mK, mK, mK, mK], [.ref 63], S1, 0)) hf rfl rfl rfl rfl (fun r9 h9 => f_X10_noLedge_ok (d := d + 7) h9) (fun r3 S2 hf => ?_)
  show Ev (d + 9) Mx219 (11, [.ref 63, .int p1, mK, mK, mK, mK], [.int r3, .ref 63], S2, 0) r
  refine ev_sts 1 (c2 := (12, [.ref 63, .int p1, mK, mK, mK, mK], [.int ((1 : Int32)), .int r3, .ref 63], S2, 0)) rfl ?_
  refine ev_bI0 (d := d + 8) (M' := Mx155) (ct := (15, [.ref 63, .int p1, mK, mK, mK, mK], [], S2, 0)) hf rfl rfl rfl rfl (fun r9 h9 => f_X10_throwsIf_ok (d := d + 8) h9) (fun r5 S4 hf => ?_)
  show Ev (d + 9) Mx219 (15, [.ref 63, .int p1, mK, mK, mK, mK], [.int r5], S4, 0) r
  refine ev_if (c1 := (20, [.ref 63, .int p1, mK, mK, mK, mK], [], S4, 0)) (c2 := (18, [.ref 63, .int p1, mK, mK, mK, mK], [], S4, 0)) hf rfl rfl (fun _ hf => ?_) (fun _ hf => ?_)
  · exact ev_sts 6 (c2 := (29, [.ref 63, .int p1, .int ((-1 : Int32)), .int ((1000000 : Int32)), .int ((0 : Int32)), mK], [], S4, 0)) rfl (f_X10_calm_b29_ok _ hf)
  · refine ev_sts 1 (c2 := (19, [.ref 63, .int p1, mK, mK, mK, mK], [.int ((0 : Int32))], S4, 0)) rfl ?_
    exact ev_ret hf rfl rfl
def f_X10_ofClimber (p1 : Int32) (p2 : Int32) (S : mS) : Option mR := gd (inb ((((79 : Int32)) + (((2 : Int32)) * p1)) + p2) 2145) (some (.inl (some (.int (S 64 ((((79 : Int32)) + (((2 : Int32)) * p1)) + p2).toNatClampNeg))), S))
theorem f_X10_ofClimber_ok {d : Nat} {p1 : Int32} {p2 : Int32} {S : mS} {r : mR} (hf : f_X10_ofClimber p1 p2 S = some r) : Ev (d) Mx168 (entry Mx168 [.ref 63, .int p1, .int p2] S) r := by
  unfold f_X10_ofClimber at hf
  refine ev_sts 9 (c2 := (12, [.ref 63, .int p1, .int p2], [.int ((((79 : Int32)) + (((2 : Int32)) * p1)) + p2), .ref 64], S, 0)) rfl ?_
  refine ev_gd (c1 := (13, [.ref 63, .int p1, .int p2], [.int (S 64 ((((79 : Int32)) + (((2 : Int32)) * p1)) + p2).toNatClampNeg)], S, 0)) hf rfl rfl (fun hf => ?_)
  exact ev_ret hf rfl rfl
def f_X10_loadOf (p1 : Int32) (p2 : Int32) (S : mS) : Option mR := bI0 (f_X10_ofClimber p1 ((0 : Int32)) S) (fun r2 S1 => bI0 (f_X10_of p2 ((0 : Int32)) S1) (fun r4 S3 => gd (decide (¬ (10 : Int32) = 0)) (some (.inl (some (.int (r2 + (r4 / ((10 : Int32)))))), S3))))
theorem f_X10_loadOf_ok {d : Nat} {p1 : Int32} {p2 : Int32} {S : mS} {r : mR} (hf : f_X10_loadOf p1 p2 S = some r) : Ev (d + 2) Mx220 (entry Mx220 [.ref 63, .int p1, .int p2] S) r := by
  unfold f_X10_loadOf at hf
  refine ev_sts 3 (c2 := (3, [.ref 63, .int p1, .int p2], [.int ((0 : Int32)), .int p1, .ref 63], S, 0)) rfl ?_
  refine ev_bI0 (d := d + 1) (M' := Mx168) (ct := (6, [.ref 63, .int p1, .int p2], [], S, 0)) hf rfl rfl rfl rfl (fun r9 h9 => f_X10_ofClimber_ok (d := d + 1) h9) (fun r2 S1 hf => ?_)
  show Ev (d + 2) Mx220 (6, [.ref 63, .int p1, .int p2], [.int r2], S1, 0) r
  refine ev_sts 3 (c2 := (9, [.ref 63, .int p1, .int p2], [.int ((0 : Int32)), .int p2, .ref 63, .int r2], S1, 0)) rfl ?_
  refine ev_bI0 (d := d + 1) (M' := Mx166) (ct := (12, [.ref 63, .int p1, .int p2], [.int r2], S1, 0)) hf rfl rfl rfl rfl (fun r9 h9 => f_X10_of_ok (d := d) h9) (fun r4 S3 hf => ?_)
  show Ev (d + 2) Mx220 (12, [.ref 63, .int p1, .int p2], [.int r4, .int r2], S3, 0) r
  refine ev_sts 1 (c2 := (14, [.ref 63, .int p1, .int p2], [.int ((10 : Int32)), .int r4, .int r2], S3, 0)) rfl ?_
  refine ev_gd (c1 := (15, [.ref 63, .int p1, .int p2], [.int (r4 / ((10 : Int32))), .int r2], S3, 0)) hf rfl rfl (fun hf => ?_)
  refine ev_sts 1 (c2 := (16, [.ref 63, .int p1, .int p2], [.int (r2 + (r4 / ((10 : Int32))))], S3, 0)) rfl ?_
  exact ev_ret hf rfl rfl
def f_X10_has_b14 (t0 : Int32) (S : mS) : Option mR := some (.inl (some (.int (t0 &&& 1))), S)
def f_X10_has (p0 : Int32) (p1 : Int32) (S : mS) : Option mR := (if ¬ ((p0 >>> (p1 &&& 31)) &&& ((1 : Int32))) = ((1 : Int32)) then f_X10_has_b14 ((0 : Int32)) S else f_X10_has_b14 ((1 : Int32)) S)
theorem f_X10_has_b14_ok {d : Nat} {t0 : Int32} {S : mS} {r : mR} (hf : f_X10_has_b14 t0 S = some r) : Ev (d) Mx157 (14, [mK, mK], [.int t0], S, 0) r := by
  unfold f_X10_has_b14 at hf
  exact ev_ret hf rfl rfl
theorem f_X10_has_ok {d : Nat} {p0 : Int32} {p1 : Int32} {S : mS} {r : mR} (hf : f_X10_has p0 p1 S = some r) : Ev (d) Mx157 (entry Mx157 [.int p0, .int p1] S) r := by
  unfold f_X10_has at hf
  refine ev_sts 6 (c2 := (6, [.int p0, .int p1], [.int ((1 : Int32)), .int ((p0 >>> (p1 &&& 31)) &&& ((1 : Int32)))], S, 0)) rfl ?_
  refine ev_if (c1 := (13, [.int p0, .int p1], [], S, 0)) (c2 := (9, [.int p0, .int p1], [], S, 0)) hf rfl rfl (fun _ hf => ?_) (fun _ hf => ?_)
  · exact ev_sts 1 (c2 := (14, [mK, mK], [.int ((0 : Int32))], S, 0)) rfl (f_X10_has_b14_ok hf)
  · exact ev_sts 2 (c2 := (14, [mK, mK], [.int ((1 : Int32))], S, 0)) rfl (f_X10_has_b14_ok hf)
def f_X10_strengthOf_b42 (K4 : Int32 → Int32 → Int32 → mS → Option mR) (F : Nat) (x1 : Int32) (x3 : Int32) (t1 : Int32) (t0 : Int32) (S : mS) : Option mR := bnd (t0 + t1 : Int32) (fun y5 => K4 x1 y5 (x3 + (1 : Int32)) S)
def f_X10_strengthOf_b4 (F : Nat) : Nat → Int32 → Int32 → Int32 → mS → Option mR
  | 0, _, _, _, _ => none
  | n + 1, x1, x2, x3, S => bI0 (f_X10_holders S) (fun r2 S1 => (if r2 ≤ x3 then some (.inl (some (.int x2)), S1) else bI0 (f_X10_has x1 x3 S1) (fun r4 S3 => (if r4 = 0 then f_X10_strengthOf_b42 (fun x1 x2 x3 S => f_X10_strengthOf_b4 F n x1 x2 x3 S) F x1 x3 ((0 : Int32)) x2 S3 else bI0 (f_X10_ofHolder x3 ((0 : Int32)) S3) (fun r7 S6 => bI0 (f_X10_ofHolder x3 ((1 : Int32)) S6) (fun r9 S8 => f_X10_strengthOf_b42 (fun x1 x2 x3 S => f_X10_strengthOf_b4 F n x1 x2 x3 S) F x1 x3 (if ((0 : Int32)) < (r7 - r9) then (r7 - r9) else ((0 : Int32))) x2 S8))))))
def f_X10_strengthOf (F : Nat) (p1 : Int32) (S : mS) : Option mR := f_X10_strengthOf_b4 F F p1 ((0 : Int32)) ((0 : Int32)) S
theorem f_X10_strengthOf_b42_ok {d F : Nat} {K4 : Int32 → Int32 → Int32 → mS → Option mR} (hK4 : ∀ {x1 : Int32} {x2 : Int32} {x3 : Int32} {S : mS} {r : mR}, K4 x1 x2 x3 S = some r → Ev (d + 1) Mx222 (4, [.ref 63, .int x1, .int x2, .int x3], [], S, 0) r) {x1 : Int32} {x3 : Int32} {t1 : Int32} {t0 : Int32} {S : mS} {r : mR} (hf : f_X10_strengthOf_b42 K4 F x1 x3 t1 t0 S = some r) : Ev (d + 1) Mx222 (42, [.ref 63, .int x1, mK, .int x3], [.int t1, .int t0], S, 0) r := by
  unfold f_X10_strengthOf_b42 at hf
  refine ev_sts 2 (c2 := (44, [.ref 63, .int x1, .int (t0 + t1), .int x3], [], S, 0)) rfl ?_
  refine ev_let (P := fun y5 => Ev (d + 1) Mx222 (44, [.ref 63, .int x1, .int y5, .int x3], [], S, 0) r) (fun y5 hf => ?_) hf
  exact ev_sts 2 (c2 := (4, [.ref 63, .int x1, .int y5, .int (x3 + (1 : Int32))], [], S, 0)) rfl (hK4 hf)
theorem f_X10_strengthOf_b4_ok {d F : Nat} : ∀ (n : Nat) {x1 : Int32} {x2 : Int32} {x3 : Int32} {S : mS} {r : mR}, f_X10_strengthOf_b4 F n x1 x2 x3 S = some r → Ev (d + 1) Mx222 (4, [.ref 63, .int x1, .int x2, .int x3], [], S, 0) r := by
  intro n
  induction n with
  | zero => intro x1 x2 x3 S r hf; cases hf
  | succ n ih =>
    intro x1 x2 x3 S r hf
    rw [f_X10_strengthOf_b4] at hf
    refine ev_sts 2 (c2 := (6, [.ref 63, .int x1, .int x2, .int x3], [.ref 63, .int x3], S, 0)) rfl ?_
    refine ev_bI0 (d := d) (M' := Mx163) (ct := (9, [.ref 63, .int x1, .int x2, .int x3], [.int x3], S, 0)) hf rfl rfl rfl rfl (fun r9 h9 => f_X10_holders_ok (d := d) h9) (fun r2 S1 hf => ?_)
    show Ev (d + 1) Mx222 (9, [.ref 63, .int x1, .int x2, .int x3], [.int r2, .int x3], S1, 0) r
    refine ev_if (c1 := (50, [.ref 63, .int x1, .int x2, .int x3], [], S1, 0)) (c2 := (12, [.ref 63, .int x1, .int x2, .int x3], [], S1, 0)) hf rfl rfl (fun _ hf => ?_) (fun _ hf => ?_)
    · refine ev_sts 1 (c2 := (51, [.ref 63, .int x1, .int x2, .int x3], [.int x2], S1, 0)) rfl ?_
      exact ev_ret hf rfl rfl
    · refine ev_sts 3 (c2 := (15, [.ref 63, .int x1, .int x2, .int x3], [.int x3, .int x1, .int x2], S1, 0)) rfl ?_
      refine ev_bI0 (d := d) (M' := Mx157) (ct := (18, [.ref 63, .int x1, .int x2, .int x3], [.int x2], S1, 0)) hf rfl rfl rfl rfl (fun r9 h9 => f_X10_has_ok (d := d) h9) (fun r4 S3 hf => ?_)
      show Ev (d + 1) Mx222 (18, [.ref 63, .int x1, .int x2, .int x3], [.int r4, .int x2], S3, 0) r
      refine ev_if (c1 := (41, [.ref 63, .int x1, .int x2, .int x3], [.int x2], S3, 0)) (c2 := (21, [.ref 63, .int x1, .int x2, .int x3], [.int x2], S3, 0)) hf rfl rfl (fun _ hf => ?_) (fun _ hf => ?_)
      · exact ev_sts 1 (c2 := (42, [.ref 63, .int x1, mK, .int x3], [.int ((0 : Int32)), .int x2], S3, 0)) rfl (f_X10_strengthOf_b42_ok (fun h9 => ih h9) hf)
      · refine ev_sts 4 (c2 := (25, [.ref 63, .int x1, .int x2, .int x3], [.int ((0 : Int32)), .int x3, .ref 63, .int ((0 : Int32)), .int x2], S3, 0)) rfl ?_
        refine ev_bI0 (d := d) (M' := Mx167) (ct := (28, [.ref 63, .int x1, .int x2, .int x3], [.int ((0 : Int32)), .int x2], S3, 0)) hf rfl rfl rfl rfl (fun r9 h9 => f_X10_ofHolder_ok (d := d) h9) (fun r7 S6 hf => ?_)
        show Ev (d + 1) Mx222 (28, [.ref 63, .int x1, .int x2, .int x3], [.int r7, .int ((0 : Int32)), .int x2], S6, 0) r
        refine ev_sts 3 (c2 := (31, [.ref 63, .int x1, .int x2, .int x3], [.int ((1 : Int32)), .int x3, .ref 63, .int r7, .int ((0 : Int32)), .int x2], S6, 0)) rfl ?_
        refine ev_bI0 (d := d) (M' := Mx167) (ct := (34, [.ref 63, .int x1, .int x2, .int x3], [.int r7, .int ((0 : Int32)), .int x2], S6, 0)) hf rfl rfl rfl rfl (fun r9 h9 => f_X10_ofHolder_ok (d := d) h9) (fun r9 S8 hf => ?_)
        show Ev (d + 1) Mx222 (34, [.ref 63, .int x1, .int x2, .int x3], [.int r9, .int r7, .int ((0 : Int32)), .int x2], S8, 0) r
        exact ev_sts 3 (c2 := (42, [.ref 63, .int x1, mK, .int x3], [.int (if ((0 : Int32)) < (r7 - r9) then (r7 - r9) else ((0 : Int32))), .int x2], S8, 0)) rfl (f_X10_strengthOf_b42_ok (fun h9 => ih h9) hf)
theorem f_X10_strengthOf_ok {d F : Nat} {p1 : Int32} {S : mS} {r : mR} (hf : f_X10_strengthOf F p1 S = some r) : Ev (d + 1) Mx222 (entry Mx222 [.ref 63, .int p1] S) r := by
  unfold f_X10_strengthOf at hf
  exact ev_sts 4 (c2 := (4, [.ref 63, .int p1, .int ((0 : Int32)), .int ((0 : Int32))], [], S, 0)) rfl (f_X10_strengthOf_b4_ok _ hf)
def f_X10_isHeld_b19 (F : Nat) (t0 : Int32) (S : mS) : Option mR := some (.inl (some (.int (t0 &&& 1))), S)
def f_X10_isHeld (F : Nat) (p1 : Int32) (p2 : Int32) (p3 : Int32) (S : mS) : Option mR := bI0 (f_X10_strengthOf F p3 S) (fun r2 S1 => bI0 (f_X10_loadOf p1 p2 S1) (fun r4 S3 => (if r2 < r4 then f_X10_isHeld_b19 F ((0 : Int32)) S3 else f_X10_isHeld_b19 F ((1 : Int32)) S3)))
theorem f_X10_isHeld_b19_ok {d F : Nat} {t0 : Int32} {S : mS} {r : mR} (hf : f_X10_isHeld_b19 F t0 S = some r) : Ev (d + 3) Mx223 (19, [mK, mK, mK, mK], [.int t0], S, 0) r := by
  unfold f_X10_isHeld_b19 at hf
  exact ev_ret hf rfl rfl
theorem f_X10_isHeld_ok {d F : Nat} {p1 : Int32} {p2 : Int32} {p3 : Int32} {S : mS} {r : mR} (hf : f_X10_isHeld F p1 p2 p3 S = some r) : Ev (d + 3) Mx223 (entry Mx223 [.ref 63, .int p1, .int p2, .int p3] S) r := by
  unfold f_X10_isHeld at hf
  refine ev_sts 2 (c2 := (2, [.ref 63, .int p1, .int p2, .int p3], [.int p3, .ref 63], S, 0)) rfl ?_
  refine ev_bI0 (d := d + 2) (M' := Mx222) (ct := (5, [.ref 63, .int p1, .int p2, .int p3], [], S, 0)) hf rfl rfl rfl rfl (fun r9 h9 => f_X10_strengthOf_ok (d := d + 1) h9) (fun r2 S1 hf => ?_)
  show Ev (d + 3) Mx223 (5, [.ref 63, .int p1, .int p2, .int p3], [.int r2], S1, 0) r
  refine ev_sts 3 (c2 := (8, [.ref 63, .int p1, .int p2, .int p3], [.int p2, .int p1, .ref 63, .int r2], S1, 0)) rfl ?_
  refine ev_bI0 (d := d + 2) (M' := Mx220) (ct := (11, [.ref 63, .int p1, .int p2, .int p3], [.int r2], S1, 0)) hf rfl rfl rfl rfl (fun r9 h9 => f_X10_loadOf_ok (d := d) h9) (fun r4 S3 hf => ?_)
  show Ev (d + 3) Mx223 (11, [.ref 63, .int p1, .int p2, .int p3], [.int r4, .int r2], S3, 0) r
  refine ev_if (c1 := (18, [.ref 63, .int p1, .int p2, .int p3], [], S3, 0)) (c2 := (14, [.ref 63, .int p1, .int p2, .int p3], [], S3, 0)) hf rfl rfl (fun _ hf => ?_) (fun _ hf => ?_)
  · exact ev_sts 1 (c2 := (19, [mK, mK, mK, mK], [.int ((0 : Int32))], S3, 0)) rfl (f_X10_isHeld_b19_ok hf)
  · exact ev_sts 2 (c2 := (19, [mK, mK, mK, mK], [.int ((1 : Int32))], S3, 0)) rfl (f_X10_isHeld_b19_ok hf)
def f_X10_canLet_b66 (F : Nat) (t0 : Int32) (S : mS) : Option mR := some (.inl (some (.int (t0 &&& 1))), S)
def f_X10_canLet_b65 (F : Nat) (S : mS) : Option mR := f_X10_canLet_b66 F ((0 : Int32)) S
def f_X10_canLet (F : Nat) (p1 : Int32) (p2 : Int32) (S : mS) : Option mR := gd (inb ((7 : Int32)) 2145) (bI0 (f_X10_of p2 ((0 : Int32)) S) (fun r2 S1 => (if (S 64 ((7 : Int32)).toNatClampNeg) < r2 then f_X10_canLet_b65 F S1 else bI0 (f_X10_allHolders S1) (fun r4 S3 => bI0 (f_X10_isHeld F p1 p2 r4 S3) (fun r6 S5 => (if r6 = 0 then f_X10_canLet_b65 F S5 else gd (inb ((6 : Int32)) 2145) (bI0 (f_X10_kicksTo F p2 (S5 64 ((6 : Int32)).toNatClampNeg) S5) (fun r8 S7 => (if r8 < 0 then f_X10_canLet_b65 F S7 else gd (inb ((8 : Int32)) 2145) (gd (inb ((9 : Int32)) 2145) ((if (S7 64 ((9 : Int32)).toNatClampNeg) ≤ (S7 64 ((8 : Int32)).toNatClampNeg) then f_X10_canLet_b65 F S7 else f_X10_canLet_b66 F ((1 : Int32)) S7))))))))))))
theorem f_X10_canLet_b66_ok {d F : Nat} {t0 : Int32} {S : mS} {r : mR} (hf : f_X10_canLet_b66 F t0 S = some r) : Ev (d + 9) Mx230 (66, [mK, mK, mK], [.int t0], S, 0) r := by
  unfold f_X10_canLet_b66 at hf
  exact ev_ret hf rfl rfl
theorem f_X10_canLet_b65_ok {d F : Nat} {S : mS} {r : mR} (hf : f_X10_canLet_b65 F  S = some r) : Ev (d + 9) Mx230 (65, [mK, mK, mK], [], S, 0) r := by
  unfold f_X10_canLet_b65 at hf
  exact ev_sts 1 (c2 := (66, [mK, mK, mK], [.int ((0 : Int32))], S, 0)) rfl (f_X10_canLet_b66_ok hf)
theorem f_X10_canLet_ok {d F : Nat} {p1 : Int32} {p2 : Int32} {S : mS} {r : mR} (hf : f_X10_canLet F p1 p2 S = some r) : Ev (d + 9) Mx230 (entry Mx230 [.ref 63, .int p1, .int p2] S) r := by
  unfold f_X10_canLet at hf
  refine ev_sts 3 (c2 := (6, [.ref 63, .int p1, .int p2], [.int ((7 : Int32)), .ref 64], S, 0)) rfl ?_
  refine ev_gd (c1 := (7, [.ref 63, .int p1, .int p2], [.int (S 64 ((7 : Int32)).toNatClampNeg)], S, 0)) hf rfl rfl (fun hf => ?_)
  refine ev_sts 3 (c2 := (10, [.ref 63, .int p1, .int p2], [.int ((0 : Int32)), .int p2, .ref 63, .int (S 64 ((7 : Int32)).toNatClampNeg)], S, 0)) rfl ?_
  refine ev_bI0 (d := d + 8) (M' := Mx166) (ct := (13, [.ref 63, .int p1, .int p2], [.int (S 64 ((7 : Int32)).toNatClampNeg)], S, 0)) hf rfl rfl rfl rfl (fun r9 h9 => f_X10_of_ok (d := d + 7) h9) (fun r2 S1 hf => ?_)
  show Ev (d + 9) Mx230 (13, [.ref 63, .int p1, .int p2], [.int r2, .int (S 64 ((7 : Int32)).toNatClampNeg)], S1, 0) r
  refine ev_if (c1 := (65, [mK, mK, mK], [], S1, 0)) (c2 := (16, [.ref 63, .int p1, .int p2], [], S1, 0)) hf rfl rfl (fun _ hf => ?_) (fun _ hf => ?_)
  · exact f_X10_canLet_b65_ok hf
  · refine ev_sts 4 (c2 := (20, [.ref 63, .int p1, .int p2], [.ref 63, .int p2, .int p1, .ref 63], S1, 0)) rfl ?_
    refine ev_bI0 (d := d + 8) (M' := Mx221) (ct := (23, [.ref 63, .int p1, .int p2], [.int p2, .int p1, .ref 63], S1, 0)) hf rfl rfl rfl rfl (fun r9 h9 => f_X10_allHolders_ok (d := d + 7) h9) (fun r4 S3 hf => ?_)
    show Ev (d + 9) Mx230 (23, [.ref 63, .int p1, .int p2], [.int r4, .int p2, .int p1, .ref 63], S3, 0) r
    refine ev_bI0 (d := d + 8) (M' := Mx223) (ct := (26, [.ref 63, .int p1, .int p2], [], S3, 0)) hf rfl rfl rfl rfl (fun r9 h9 => f_X10_isHeld_ok (d := d + 5) h9) (fun r6 S5 hf => ?_)
    show Ev (d + 9) Mx230 (26, [.ref 63, .int p1, .int p2], [.int r6], S5, 0) r
    refine ev_if (c1 := (65, [mK, mK, mK], [], S5, 0)) (c2 := (29, [.ref 63, .int p1, .int p2], [], S5, 0)) hf rfl rfl (fun _ hf => ?_) (fun _ hf => ?_)
    · exact f_X10_canLet_b65_ok hf
    · refine ev_sts 5 (c2 := (37, [.ref 63, .int p1, .int p2], [.int ((6 : Int32)), .ref 64, .int p2, .ref 63], S5, 0)) rfl ?_
      refine ev_gd (c1 := (38, [.ref 63, .int p1, .int p2], [.int (S5 64 ((6 : Int32)).toNatClampNeg), .int p2, .ref 63], S5, 0)) hf rfl rfl (fun hf => ?_)
      refine ev_bI0 (d := d + 8) (M' := Mx209) (ct := (41, [.ref 63, .int p1, .int p2], [], S5, 0)) hf rfl rfl rfl rfl (fun r9 h9 => f_X10_kicksTo_ok (d := d) h9) (fun r8 S7 hf => ?_)
      show Ev (d + 9) Mx230 (41, [.ref 63, .int p1, .int p2], [.int r8], S7, 0) r
      refine ev_if (c1 := (65, [mK, mK, mK], [], S7, 0)) (c2 := (44, [.ref 63, .int p1, .int p2], [], S7, 0)) hf rfl rfl (fun _ hf => ?_) (fun _ hf => ?_)
      · exact f_X10_canLet_b65_ok hf
      · refine ev_sts 3 (c2 := (50, [.ref 63, .int p1, .int p2], [.int ((8 : Int32)), .ref 64], S7, 0)) rfl ?_
        refine ev_gd (c1 := (51, [.ref 63, .int p1, .int p2], [.int (S7 64 ((8 : Int32)).toNatClampNeg)], S7, 0)) hf rfl rfl (fun hf => ?_)
        refine ev_sts 3 (c2 := (57, [.ref 63, .int p1, .int p2], [.int ((9 : Int32)), .ref 64, .int (S7 64 ((8 : Int32)).toNatClampNeg)], S7, 0)) rfl ?_
        refine ev_gd (c1 := (58, [.ref 63, .int p1, .int p2], [.int (S7 64 ((9 : Int32)).toNatClampNeg), .int (S7 64 ((8 : Int32)).toNatClampNeg)], S7, 0)) hf rfl rfl (fun hf => ?_)
        refine ev_if (c1 := (65, [mK, mK, mK], [], S7, 0)) (c2 := (61, [.ref 63, .int p1, .int p2], [], S7, 0)) hf rfl rfl (fun _ hf => ?_) (fun _ hf => ?_)
        · exact f_X10_canLet_b65_ok hf
        · exact ev_sts 2 (c2 := (66, [mK, mK, mK], [.int ((1 : Int32))], S7, 0)) rfl (f_X10_canLet_b66_ok hf)
def f_X10_canOf_b29 (K4 : Int32 → Int32 → Int32 → mS → Option mR) (F : Nat) (x1 : Int32) (x3 : Int32) (t1 : Int32) (t0 : Int32) (S : mS) : Option mR := bnd (t0 ||| t1 : Int32) (fun y5 => K4 x1 y5 (x3 + (1 : Int32)) S)
def f_X10_canOf_b4 (F : Nat) : Nat → Int32 → Int32 → Int32 → mS → Option mR
  | 0, _, _, _, _ => none
  | n + 1, x1, x2, x3, S => bI0 (f_X10_ledges S) (fun r2 S1 => (if r2 ≤ x3 then some (.inl (some (.int x2)), S1) else bI0 (f_X10_canLet F x1 x3 S1) (fun r4 S3 => (if r4 = 0 then f_X10_canOf_b29 (fun x1 x2 x3 S => f_X10_canOf_b4 F n x1 x2 x3 S) F x1 x3 ((0 : Int32)) x2 S3 else f_X10_canOf_b29 (fun x1 x2 x3 S => f_X10_canOf_b4 F n x1 x2 x3 S) F x1 x3 (((1 : Int32)) <<< (x3 &&& 31)) x2 S3))))
def f_X10_canOf (F : Nat) (p1 : Int32) (S : mS) : Option mR := f_X10_canOf_b4 F F p1 ((0 : Int32)) ((0 : Int32)) S
theorem f_X10_canOf_b29_ok {d F : Nat} {K4 : Int32 → Int32 → Int32 → mS → Option mR} (hK4 : ∀ {x1 : Int32} {x2 : Int32} {x3 : Int32} {S : mS} {r : mR}, K4 x1 x2 x3 S = some r → Ev (d + 10) Mx231 (4, [.ref 63, .int x1, .int x2, .int x3], [], S, 0) r) {x1 : Int32} {x3 : Int32} {t1 : Int32} {t0 : Int32} {S : mS} {r : mR} (hf : f_X10_canOf_b29 K4 F x1 x3 t1 t0 S = some r) : Ev (d + 10) Mx231 (29, [.ref 63, .int x1, mK, .int x3], [.int t1, .int t0], S, 0) r := by
  unfold f_X10_canOf_b29 at hf
  refine ev_sts 2 (c2 := (31, [.ref 63, .int x1, .int (t0 ||| t1), .int x3], [], S, 0)) rfl ?_
  refine ev_let (P := fun y5 => Ev (d + 10) Mx231 (31, [.ref 63, .int x1, .int y5, .int x3], [], S, 0) r) (fun y5 hf => ?_) hf
  exact ev_sts 2 (c2 := (4, [.ref 63, .int x1, .int y5, .int (x3 + (1 : Int32))], [], S, 0)) rfl (hK4 hf)
theorem f_X10_canOf_b4_ok {d F : Nat} : ∀ (n : Nat) {x1 : Int32} {x2 : Int32} {x3 : Int32} {S : mS} {r : mR}, f_X10_canOf_b4 F n x1 x2 x3 S = some r → Ev (d + 10) Mx231 (4, [.ref 63, .int x1, .int x2, .int x3], [], S, 0) r := by
  intro n
  induction n with
  | zero => intro x1 x2 x3 S r hf; cases hf
  | succ n ih =>
    intro x1 x2 x3 S r hf
    rw [f_X10_canOf_b4] at hf
    refine ev_sts 2 (c2 := (6, [.ref 63, .int x1, .int x2, .int x3], [.ref 63, .int x3], S, 0)) rfl ?_
    refine ev_bI0 (d := d + 9) (M' := Mx162) (ct := (9, [.ref 63, .int x1, .int x2, .int x3], [.int x3], S, 0)) hf rfl rfl rfl rfl (fun r9 h9 => f_X10_ledges_ok (d := d + 9) h9) (fun r2 S1 hf => ?_)
    show Ev (d + 10) Mx231 (9, [.ref 63, .int x1, .int x2, .int x3], [.int r2, .int x3], S1, 0) r
    refine ev_if (c1 := (37, [.ref 63, .int x1, .int x2, .int x3], [], S1, 0)) (c2 := (12, [.ref 63, .int x1, .int x2, .int x3], [], S1, 0)) hf rfl rfl (fun _ hf => ?_) (fun _ hf => ?_)
    · refine ev_sts 1 (c2 := (38, [.ref 63, .int x1, .int x2, .int x3], [.int x2], S1, 0)) rfl ?_
      exact ev_ret hf rfl rfl
    · refine ev_sts 4 (c2 := (16, [.ref 63, .int x1, .int x2, .int x3], [.int x3, .int x1, .ref 63, .int x2], S1, 0)) rfl ?_
      refine ev_bI0 (d := d + 9) (M' := Mx230) (ct := (19, [.ref 63, .int x1, .int x2, .int x3], [.int x2], S1, 0)) hf rfl rfl rfl rfl (fun r9 h9 => f_X10_canLet_ok (d := d) h9) (fun r4 S3 hf => ?_)
      show Ev (d + 10) Mx231 (19, [.ref 63, .int x1, .int x2, .int x3], [.int r4, .int x2], S3, 0) r
      refine ev_if (c1 := (28, [.ref 63, .int x1, .int x2, .int x3], [.int x2], S3, 0)) (c2 := (22, [.ref 63, .int x1, .int x2, .int x3], [.int x2], S3, 0)) hf rfl rfl (fun _ hf => ?_) (fun _ hf => ?_)
      · exact ev_sts 1 (c2 := (29, [.ref 63, .int x1, mK, .int x3], [.int ((0 : Int32)), .int x2], S3, 0)) rfl (f_X10_canOf_b29_ok (fun h9 => ih h9) hf)
      · exact ev_sts 4 (c2 := (29, [.ref 63, .int x1, mK, .int x3], [.int (((1 : Int32)) <<< (x3 &&& 31)), .int x2], S3, 0)) rfl (f_X10_canOf_b29_ok (fun h9 => ih h9) hf)
theorem f_X10_canOf_ok {d F : Nat} {p1 : Int32} {S : mS} {r : mR} (hf : f_X10_canOf F p1 S = some r) : Ev (d + 10) Mx231 (entry Mx231 [.ref 63, .int p1] S) r := by
  unfold f_X10_canOf at hf
  exact ev_sts 4 (c2 := (4, [.ref 63, .int p1, .int ((0 : Int32)), .int ((0 : Int32))], [], S, 0)) rfl (f_X10_canOf_b4_ok _ hf)
def f_X10_remembers_b55 (F : Nat) : Nat → Int32 → mS → Option mR
  | 0, _, _ => none
  | n + 1, x1, S => (if ((447 : Int32)) ≤ x1 then some (.inl none, S) else gd (inb x1 2145) (gd (inb ((((447 : Int32)) * ((S 63 7) - ((1 : Int32)))) + x1) 5364) (bnd (upS S 68 ((((447 : Int32)) * ((S 63 7) - ((1 : Int32)))) + x1).toNatClampNeg (S 64 x1.toNatClampNeg)) (fun S2 => f_X10_remembers_b55 F n (x1 + (1 : Int32)) S2))))
def f_X10_remembers_b53 (F : Nat) (S : mS) : Option mR := f_X10_remembers_b55 F F ((0 : Int32)) S
def f_X10_remembers_b11 (F : Nat) : Nat → Int32 → mS → Option mR
  | 0, _, _ => none
  | n + 1, x1, S => (if ((4917 : Int32)) ≤ x1 then f_X10_remembers_b53 F S else gd (inb (x1 + ((447 : Int32))) 5364) (gd (inb x1 5364) (bnd (upS S 68 x1.toNatClampNeg (S 68 (x1 + ((447 : Int32))).toNatClampNeg)) (fun S3 => f_X10_remembers_b11 F n (x1 + (1 : Int32)) S3))))
def f_X10_remembers (F : Nat) (S : mS) : Option mR := (if ¬ (S 63 7) = ((12 : Int32)) then bnd (upS S 63 7 ((S 63 7) + ((1 : Int32)))) (fun S1 => f_X10_remembers_b53 F S1) else f_X10_remembers_b11 F F ((0 : Int32)) S)
theorem f_X10_remembers_b55_ok {d F : Nat} : ∀ (n : Nat) {x1 : Int32} {S : mS} {r : mR}, f_X10_remembers_b55 F n x1 S = some r → Ev (d) Mx160 (55, [.ref 63, .int x1], [], S, 0) r := by
  intro n
  induction n with
  | zero => intro x1 S r hf; cases hf
  | succ n ih =>
    intro x1 S r hf
    rw [f_X10_remembers_b55] at hf
    refine ev_sts 2 (c2 := (59, [.ref 63, .int x1], [.int ((447 : Int32)), .int x1], S, 0)) rfl ?_
    refine ev_if (c1 := (91, [.ref 63, .int x1], [], S, 0)) (c2 := (62, [.ref 63, .int x1], [], S, 0)) hf rfl rfl (fun _ hf => ?_) (fun _ hf => ?_)
    · exact ev_ret hf rfl rfl
    · refine ev_sts 13 (c2 := (83, [.ref 63, .int x1], [.int x1, .ref 64, .int ((((447 : Int32)) * ((S 63 7) - ((1 : Int32)))) + x1), .ref 68], S, 0)) rfl ?_
      refine ev_gd (c1 := (84, [.ref 63, .int x1], [.int (S 64 x1.toNatClampNeg), .int ((((447 : Int32)) * ((S 63 7) - ((1 : Int32)))) + x1), .ref 68], S, 0)) hf rfl rfl (fun hf => ?_)
      refine ev_gd (c1 := (85, [.ref 63, .int x1], [], (upS S 68 ((((447 : Int32)) * ((S 63 7) - ((1 : Int32)))) + x1).toNatClampNeg (S 64 x1.toNatClampNeg)), 0)) hf rfl rfl (fun hf => ?_)
      refine ev_let (P := fun S2 => Ev (d) Mx160 (85, [.ref 63, .int x1], [], S2, 0) r) (fun S2 hf => ?_) hf
      exact ev_sts 2 (c2 := (55, [.ref 63, .int (x1 + (1 : Int32))], [], S2, 0)) rfl (ih hf)
theorem f_X10_remembers_b53_ok {d F : Nat} {S : mS} {r : mR} (hf : f_X10_remembers_b53 F  S = some r) : Ev (d) Mx160 (53, [.ref 63, mK], [], S, 0) r := by
  unfold f_X10_remembers_b53 at hf
  exact ev_sts 2 (c2 := (55, [.ref 63, .int ((0 : Int32))], [], S, 0)) rfl (f_X10_remembers_b55_ok _ hf)
theorem f_X10_remembers_b11_ok {d F : Nat} : ∀ (n : Nat) {x1 : Int32} {S : mS} {r : mR}, f_X10_remembers_b11 F n x1 S = some r → Ev (d) Mx160 (11, [.ref 63, .int x1], [], S, 0) r := by
  intro n
  induction n with
  | zero => intro x1 S r hf; cases hf
  | succ n ih =>
    intro x1 S r hf
    rw [f_X10_remembers_b11] at hf
    refine ev_sts 2 (c2 := (15, [.ref 63, .int x1], [.int ((4917 : Int32)), .int x1], S, 0)) rfl ?_
    refine ev_if (c1 := (40, [.ref 63, .int x1], [], S, 0)) (c2 := (18, [.ref 63, .int x1], [], S, 0)) hf rfl rfl (fun _ hf => ?_) (fun _ hf => ?_)
    · exact ev_sts 1 (c2 := (53, [.ref 63, mK], [], S, 0)) rfl (f_X10_remembers_b53_ok hf)
    · refine ev_sts 8 (c2 := (32, [.ref 63, .int x1], [.int (x1 + ((447 : Int32))), .ref 68, .int x1, .ref 68], S, 0)) rfl ?_
      refine ev_gd (c1 := (33, [.ref 63, .int x1], [.int (S 68 (x1 + ((447 : Int32))).toNatClampNeg), .int x1, .ref 68], S, 0)) hf rfl rfl (fun hf => ?_)
      refine ev_gd (c1 := (34, [.ref 63, .int x1], [], (upS S 68 x1.toNatClampNeg (S 68 (x1 + ((447 : Int32))).toNatClampNeg)), 0)) hf rfl rfl (fun hf => ?_)
      refine ev_let (P := fun S3 => Ev (d) Mx160 (34, [.ref 63, .int x1], [], S3, 0) r) (fun S3 hf => ?_) hf
      exact ev_sts 2 (c2 := (11, [.ref 63, .int (x1 + (1 : Int32))], [], S3, 0)) rfl (ih hf)
theorem f_X10_remembers_ok {d F : Nat} {S : mS} {r : mR} (hf : f_X10_remembers F S = some r) : Ev (d) Mx160 (entry Mx160 [.ref 63] S) r := by
  unfold f_X10_remembers at hf
  refine ev_sts 3 (c2 := (6, [.ref 63, mK], [.int ((12 : Int32)), .int (S 63 7)], S, 0)) rfl ?_
  refine ev_if (c1 := (43, [.ref 63, mK], [], S, 0)) (c2 := (9, [.ref 63, mK], [], S, 0)) hf rfl rfl (fun _ hf => ?_) (fun _ hf => ?_)
  · refine ev_sts 6 (c2 := (53, [.ref 63, mK], [], (upS S 63 7 ((S 63 7) + ((1 : Int32)))), 0)) rfl ?_
    refine ev_let (P := fun S1 => Ev (d) Mx160 (53, [.ref 63, mK], [], S1, 0) r) (fun S1 hf => ?_) hf
    exact f_X10_remembers_b53_ok hf
  · exact ev_sts 2 (c2 := (11, [.ref 63, .int ((0 : Int32))], [], S, 0)) rfl (f_X10_remembers_b11_ok _ hf)
def f_X10_clear (F : Nat) (p1 : Int32) (S : mS) : Option mR := bnd (upS S 63 0 ((0 : Int32))) (fun S1 => bI0 (f_X10_noLedge p1 S1) (fun r3 S2 => bI0 (f_X10_throwsIf r3 ((1 : Int32)) S2) (fun r5 S4 => (if r5 = 0 then bV0 (f_X10_remembers F S4) (fun S6 => bI0 (f_X10_of p1 ((2 : Int32)) S6) (fun r8 S7 => bI0 (f_X10_at p1 ((2 : Int32)) S7) (fun r10 S9 => gd (inb r10 2145) (bnd (upS S9 64 r10.toNatClampNeg ((0 : Int32))) (fun S11 => bI0 (f_X10_at p1 ((3 : Int32)) S11) (fun r13 S12 => gd (inb r13 2145) (bnd (upS S12 64 r13.toNatClampNeg ((0 : Int32))) (fun S14 => bI0 (f_X10_at p1 ((4 : Int32)) S14) (fun r16 S15 => bI0 (f_X10_of p1 ((4 : Int32)) S15) (fun r18 S17 => gd (inb r16 2145) (bnd (upS S17 64 r16.toNatClampNeg (if ((0 : Int32)) < (r18 - ((1 : Int32))) then (r18 - ((1 : Int32))) else ((0 : Int32)))) (fun S19 => some (.inl (some (.int r8)), S19))))))))))))) else some (.inl (some (.int ((0 : Int32)))), S4)))))
theorem f_X10_clear_ok {d F : Nat} {p1 : Int32} {S : mS} {r : mR} (hf : f_X10_clear F p1 S = some r) : Ev (d + 2) Mx242 (entry Mx242 [.ref 63, .int p1] S) r := by
  unfold f_X10_clear at hf
  refine ev_sts 3 (c2 := (5, [.ref 63, .int p1, mK], [], (upS S 63 0 ((0 : Int32))), 0)) rfl ?_
  refine ev_let (P := fun S1 => Ev (d + 2) Mx242 (5, [.ref 63, .int p1, mK], [], S1, 0) r) (fun S1 hf => ?_) hf
  refine ev_sts 3 (c2 := (8, [.ref 63, .int p1, mK], [.int p1, .ref 63, .ref 63], S1, 0)) rfl ?_
  refine ev_bI0 (d := d + 1) (M' := Mx169) (ct := (11, [.ref 63, .int p1, mK], [.ref 63], S1, 0)) hf rfl rfl rfl rfl (fun r9 h9 => f_X10_noLedge_ok (d := d) h9) (fun r3 S2 hf => ?_)
  show Ev (d + 2) Mx242 (11, [.ref 63, .int p1, mK], [.int r3, .ref 63], S2, 0) r
  refine ev_sts 1 (c2 := (12, [.ref 63, .int p1, mK], [.int ((1 : Int32)), .int r3, .ref 63], S2, 0)) rfl ?_
  refine ev_bI0 (d := d + 1) (M' := Mx155) (ct := (15, [.ref 63, .int p1, mK], [], S2, 0)) hf rfl rfl rfl rfl (fun r9 h9 => f_X10_throwsIf_ok (d := d + 1) h9) (fun r5 S4 hf => ?_)
  show Ev (d + 2) Mx242 (15, [.ref 63, .int p1, mK], [.int r5], S4, 0) r
  refine ev_if (c1 := (20, [.ref 63, .int p1, mK], [], S4, 0)) (c2 := (18, [.ref 63, .int p1, mK], [], S4, 0)) hf rfl rfl (fun _ hf => ?_) (fun _ hf => ?_)
  · refine ev_sts 1 (c2 := (21, [.ref 63, .int p1, mK], [.ref 63], S4, 0)) rfl ?_
    refine ev_bV0 (d := d + 1) (M' := Mx160) (ct := (24, [.ref 63, .int p1, mK], [], S4, 0)) hf rfl rfl rfl rfl (fun r9 h9 => f_X10_remembers_ok (d := d + 1) h9) (fun S6 hf => ?_)
    show Ev (d + 2) Mx242 (24, [.ref 63, .int p1, mK], [], S6, 0) r
    refine ev_sts 3 (c2 := (27, [.ref 63, .int p1, mK], [.int ((2 : Int32)), .int p1, .ref 63], S6, 0)) rfl ?_
    refine ev_bI0 (d := d + 1) (M' := Mx166) (ct := (30, [.ref 63, .int p1, mK], [], S6, 0)) hf rfl rfl rfl rfl (fun r9 h9 => f_X10_of_ok (d := d) h9) (fun r8 S7 hf => ?_)
    show Ev (d + 2) Mx242 (30, [.ref 63, .int p1, mK], [.int r8], S7, 0) r
    refine ev_sts 5 (c2 := (37, [.ref 63, .int p1, .int r8], [.int ((2 : Int32)), .int p1, .ref 64], S7, 0)) rfl ?_
    refine ev_bI0 (d := d + 1) (M' := Mx165) (ct := (40, [.ref 63, .int p1, .int r8], [.ref 64], S7, 0)) hf rfl rfl rfl rfl (fun r9 h9 => f_X10_at_ok (d := d + 1) h9) (fun r10 S9 hf => ?_)
    show Ev (d + 2) Mx242 (40, [.ref 63, .int p1, .int r8], [.int r10, .ref 64], S9, 0) r
    refine ev_sts 1 (c2 := (41, [.ref 63, .int p1, .int r8], [.int ((0 : Int32)), .int r10, .ref 64], S9, 0)) rfl ?_
    refine ev_gd (c1 := (42, [.ref 63, .int p1, .int r8], [], (upS S9 64 r10.toNatClampNeg ((0 : Int32))), 0)) hf rfl rfl (fun hf => ?_)
    refine ev_let (P := fun S11 => Ev (d + 2) Mx242 (42, [.ref 63, .int p1, .int r8], [], S11, 0) r) (fun S11 hf => ?_) hf
    refine ev_sts 4 (c2 := (48, [.ref 63, .int p1, .int r8], [.int ((3 : Int32)), .int p1, .ref 64], S11, 0)) rfl ?_
    refine ev_bI0 (d := d + 1) (M' := Mx165) (ct := (51, [.ref 63, .int p1, .int r8], [.ref 64], S11, 0)) hf rfl rfl rfl rfl (fun r9 h9 => f_X10_at_ok (d := d + 1) h9) (fun r13 S12 hf => ?_)
    show Ev (d + 2) Mx242 (51, [.ref 63, .int p1, .int r8], [.int r13, .ref 64], S12, 0) r
    refine ev_sts 1 (c2 := (52, [.ref 63, .int p1, .int r8], [.int ((0 : Int32)), .int r13, .ref 64], S12, 0)) rfl ?_
    refine ev_gd (c1 := (53, [.ref 63, .int p1, .int r8], [], (upS S12 64 r13.toNatClampNeg ((0 : Int32))), 0)) hf rfl rfl (fun hf => ?_)
    refine ev_let (P := fun S14 => Ev (d + 2) Mx242 (53, [.ref 63, .int p1, .int r8], [], S14, 0) r) (fun S14 hf => ?_) hf
    refine ev_sts 4 (c2 := (59, [.ref 63, .int p1, .int r8], [.int ((4 : Int32)), .int p1, .ref 64], S14, 0)) rfl ?_
    refine ev_bI0 (d := d + 1) (M' := Mx165) (ct := (62, [.ref 63, .int p1, .int r8], [.ref 64], S14, 0)) hf rfl rfl rfl rfl (fun r9 h9 => f_X10_at_ok (d := d + 1) h9) (fun r16 S15 hf => ?_)
    show Ev (d + 2) Mx242 (62, [.ref 63, .int p1, .int r8], [.int r16, .ref 64], S15, 0) r
    refine ev_sts 4 (c2 := (66, [.ref 63, .int p1, .int r8], [.int ((4 : Int32)), .int p1, .ref 63, .int ((0 : Int32)), .int r16, .ref 64], S15, 0)) rfl ?_
    refine ev_bI0 (d := d + 1) (M' := Mx166) (ct := (69, [.ref 63, .int p1, .int r8], [.int ((0 : Int32)), .int r16, .ref 64], S15, 0)) hf rfl rfl rfl rfl (fun r9 h9 => f_X10_of_ok (d := d) h9) (fun r18 S17 hf => ?_)
    show Ev (d + 2) Mx242 (69, [.ref 63, .int p1, .int r8], [.int r18, .int ((0 : Int32)), .int r16, .ref 64], S17, 0) r
    refine ev_sts 3 (c2 := (74, [.ref 63, .int p1, .int r8], [.int (if ((0 : Int32)) < (r18 - ((1 : Int32))) then (r18 - ((1 : Int32))) else ((0 : Int32))), .int r16, .ref 64], S17, 0)) rfl ?_
    refine ev_gd (c1 := (75, [.ref 63, .int p1, .int r8], [], (upS S17 64 r16.toNatClampNeg (if ((0 : Int32)) < (r18 - ((1 : Int32))) then (r18 - ((1 : Int32))) else ((0 : Int32)))), 0)) hf rfl rfl (fun hf => ?_)
    refine ev_let (P := fun S19 => Ev (d + 2) Mx242 (75, [.ref 63, .int p1, .int r8], [], S19, 0) r) (fun S19 hf => ?_) hf
    refine ev_sts 1 (c2 := (76, [.ref 63, .int p1, .int r8], [.int r8], S19, 0)) rfl ?_
    exact ev_ret hf rfl rfl
  · refine ev_sts 1 (c2 := (19, [.ref 63, .int p1, mK], [.int ((0 : Int32))], S4, 0)) rfl ?_
    exact ev_ret hf rfl rfl
def f_X10_climbers (S : mS) : Option mR := gd (inb ((2 : Int32)) 2145) (some (.inl (some (.int (S 64 ((2 : Int32)).toNatClampNeg))), S))
theorem f_X10_climbers_ok {d : Nat} {S : mS} {r : mR} (hf : f_X10_climbers S = some r) : Ev (d) Mx164 (entry Mx164 [.ref 63] S) r := by
  unfold f_X10_climbers at hf
  refine ev_sts 3 (c2 := (5, [.ref 63], [.int ((2 : Int32)), .ref 64], S, 0)) rfl ?_
  refine ev_gd (c1 := (6, [.ref 63], [.int (S 64 ((2 : Int32)).toNatClampNeg)], S, 0)) hf rfl rfl (fun hf => ?_)
  exact ev_ret hf rfl rfl
def f_X10_noClimber_b19 (t0 : Int32) (S : mS) : Option mR := some (.inl (some (.int (t0 &&& 1))), S)
def f_X10_noClimber (p1 : Int32) (S : mS) : Option mR := bI0 (f_X10_climbers S) (fun r2 S1 => bI0 (f_X10_in p1 ((0 : Int32)) (r2 - ((1 : Int32))) S1) (fun r4 S3 => (if ¬ r4 = 0 then f_X10_noClimber_b19 ((0 : Int32)) S3 else f_X10_noClimber_b19 ((1 : Int32)) S3)))
theorem f_X10_noClimber_b19_ok {d : Nat} {t0 : Int32} {S : mS} {r : mR} (hf : f_X10_noClimber_b19 t0 S = some r) : Ev (d + 1) Mx171 (19, [mK, mK], [.int t0], S, 0) r := by
  unfold f_X10_noClimber_b19 at hf
  exact ev_ret hf rfl rfl
theorem f_X10_noClimber_ok {d : Nat} {p1 : Int32} {S : mS} {r : mR} (hf : f_X10_noClimber p1 S = some r) : Ev (d + 1) Mx171 (entry Mx171 [.ref 63, .int p1] S) r := by
  unfold f_X10_noClimber at hf
  refine ev_sts 3 (c2 := (3, [.ref 63, .int p1], [.ref 63, .int ((0 : Int32)), .int p1], S, 0)) rfl ?_
  refine ev_bI0 (d := d) (M' := Mx164) (ct := (6, [.ref 63, .int p1], [.int ((0 : Int32)), .int p1], S, 0)) hf rfl rfl rfl rfl (fun r9 h9 => f_X10_climbers_ok (d := d) h9) (fun r2 S1 hf => ?_)
  show Ev (d + 1) Mx171 (6, [.ref 63, .int p1], [.int r2, .int ((0 : Int32)), .int p1], S1, 0) r
  refine ev_sts 2 (c2 := (8, [.ref 63, .int p1], [.int (r2 - ((1 : Int32))), .int ((0 : Int32)), .int p1], S1, 0)) rfl ?_
  refine ev_bI0 (d := d) (M' := Mx156) (ct := (11, [.ref 63, .int p1], [], S1, 0)) hf rfl rfl rfl rfl (fun r9 h9 => f_X10_in_ok (d := d) h9) (fun r4 S3 hf => ?_)
  show Ev (d + 1) Mx171 (11, [.ref 63, .int p1], [.int r4], S3, 0) r
  refine ev_if (c1 := (18, [.ref 63, .int p1], [], S3, 0)) (c2 := (14, [.ref 63, .int p1], [], S3, 0)) hf rfl rfl (fun _ hf => ?_) (fun _ hf => ?_)
  · exact ev_sts 1 (c2 := (19, [mK, mK], [.int ((0 : Int32))], S3, 0)) rfl (f_X10_noClimber_b19_ok hf)
  · exact ev_sts 2 (c2 := (19, [mK, mK], [.int ((1 : Int32))], S3, 0)) rfl (f_X10_noClimber_b19_ok hf)
def f_X10_climber_b40 (F : Nat) (S : mS) : Option mR := some (.inl (some (.int ((0 : Int32)))), S)
def f_X10_climber_b61 (F : Nat) (t0 : Int32) (S : mS) : Option mR := some (.inl (some (.int t0)), S)
def f_X10_climber_b33 (F : Nat) (x1 : Int32) (x2 : Int32) (t1 : Int32) (S : mS) : Option mR := bI0 (f_X10_throwsIf t1 ((2 : Int32)) S) (fun r9 S8 => (if r9 = 0 then (if ¬ x2 = ((2 : Int32)) then bI0 (f_X10_ofClimber x1 x2 S8) (fun r11 S10 => f_X10_climber_b61 F r11 S10) else bI0 (f_X10_canOf F x1 S8) (fun r13 S12 => f_X10_climber_b61 F r13 S12)) else f_X10_climber_b40 F S8))
def f_X10_climber (F : Nat) (p1 : Int32) (p2 : Int32) (S : mS) : Option mR := bnd (upS S 63 0 ((0 : Int32))) (fun S1 => bI0 (f_X10_noClimber p1 S1) (fun r3 S2 => bI0 (f_X10_throwsIf r3 ((1 : Int32)) S2) (fun r5 S4 => (if ¬ r5 = 0 then f_X10_climber_b40 F S4 else bI0 (f_X10_in p2 ((0 : Int32)) ((2 : Int32)) S4) (fun r7 S6 => (if ¬ r7 = 0 then f_X10_climber_b33 F p1 p2 ((0 : Int32)) S6 else f_X10_climber_b33 F p1 p2 ((1 : Int32)) S6))))))
theorem f_X10_climber_b40_ok {d F : Nat} {S : mS} {r : mR} (hf : f_X10_climber_b40 F  S = some r) : Ev (d + 11) Mx232 (40, [mK, mK, mK], [], S, 0) r := by
  unfold f_X10_climber_b40 at hf
  refine ev_sts 1 (c2 := (41, [mK, mK, mK], [.int ((0 : Int32))], S, 0)) rfl ?_
  exact ev_ret hf rfl rfl
theorem f_X10_climber_b61_ok {d F : Nat} {t0 : Int32} {S : mS} {r : mR} (hf : f_X10_climber_b61 F t0 S = some r) : Ev (d + 11) Mx232 (61, [mK, mK, mK], [.int t0], S, 0) r := by
  unfold f_X10_climber_b61 at hf
  exact ev_ret hf rfl rfl
theorem f_X10_climber_b33_ok {d F : Nat} {x1 : Int32} {x2 : Int32} {t1 : Int32} {S : mS} {r : mR} (hf : f_X10_climber_b33 F x1 x2 t1 S = some r) : Ev (d + 11) Mx232 (33, [.ref 63, .int x1, .int x2], [.int t1, .ref 63], S, 0) r := by
  unfold f_X10_climber_b33 at hf
  refine ev_sts 1 (c2 := (34, [.ref 63, .int x1, .int x2], [.int ((2 : Int32)), .int t1, .ref 63], S, 0)) rfl ?_
  refine ev_bI0 (d := d + 10) (M' := Mx155) (ct := (37, [.ref 63, .int x1, .int x2], [], S, 0)) hf rfl rfl rfl rfl (fun r9 h9 => f_X10_throwsIf_ok (d := d + 10) h9) (fun r9 S8 hf => ?_)
  show Ev (d + 11) Mx232 (37, [.ref 63, .int x1, .int x2], [.int r9], S8, 0) r
  refine ev_if (c1 := (42, [.ref 63, .int x1, .int x2], [], S8, 0)) (c2 := (40, [mK, mK, mK], [], S8, 0)) hf rfl rfl (fun _ hf => ?_) (fun _ hf => ?_)
  · refine ev_sts 2 (c2 := (44, [.ref 63, .int x1, .int x2], [.int ((2 : Int32)), .int x2], S8, 0)) rfl ?_
    refine ev_if (c1 := (55, [.ref 63, .int x1, .int x2], [], S8, 0)) (c2 := (47, [.ref 63, .int x1, .int x2], [], S8, 0)) hf rfl rfl (fun _ hf => ?_) (fun _ hf => ?_)
    · refine ev_sts 3 (c2 := (58, [.ref 63, .int x1, .int x2], [.int x2, .int x1, .ref 63], S8, 0)) rfl ?_
      refine ev_bI0 (d := d + 10) (M' := Mx168) (ct := (61, [mK, mK, mK], [], S8, 0)) hf rfl rfl rfl rfl (fun r9 h9 => f_X10_ofClimber_ok (d := d + 10) h9) (fun r11 S10 hf => ?_)
      show Ev (d + 11) Mx232 (61, [mK, mK, mK], [.int r11], S10, 0) r
      exact f_X10_climber_b61_ok hf
    · refine ev_sts 2 (c2 := (49, [.ref 63, .int x1, .int x2], [.int x1, .ref 63], S8, 0)) rfl ?_
      refine ev_bI0 (d := d + 10) (M' := Mx231) (ct := (52, [.ref 63, .int x1, .int x2], [], S8, 0)) hf rfl rfl rfl rfl (fun r9 h9 => f_X10_canOf_ok (d := d) h9) (fun r13 S12 hf => ?_)
      show Ev (d + 11) Mx232 (52, [.ref 63, .int x1, .int x2], [.int r13], S12, 0) r
      exact ev_sts 1 (c2 := (61, [mK, mK, mK], [.int r13], S12, 0)) rfl (f_X10_climber_b61_ok hf)
  · exact f_X10_climber_b40_ok hf
theorem f_X10_climber_ok {d F : Nat} {p1 : Int32} {p2 : Int32} {S : mS} {r : mR} (hf : f_X10_climber F p1 p2 S = some r) : Ev (d + 11) Mx232 (entry Mx232 [.ref 63, .int p1, .int p2] S) r := by
  unfold f_X10_climber at hf
  refine ev_sts 3 (c2 := (5, [.ref 63, .int p1, .int p2], [], (upS S 63 0 ((0 : Int32))), 0)) rfl ?_
  refine ev_let (P := fun S1 => Ev (d + 11) Mx232 (5, [.ref 63, .int p1, .int p2], [], S1, 0) r) (fun S1 hf => ?_) hf
  refine ev_sts 3 (c2 := (8, [.ref 63, .int p1, .int p2], [.int p1, .ref 63, .ref 63], S1, 0)) rfl ?_
  refine ev_bI0 (d := d + 10) (M' := Mx171) (ct := (11, [.ref 63, .int p1, .int p2], [.ref 63], S1, 0)) hf rfl rfl rfl rfl (fun r9 h9 => f_X10_noClimber_ok (d := d + 9) h9) (fun r3 S2 hf => ?_)
  show Ev (d + 11) Mx232 (11, [.ref 63, .int p1, .int p2], [.int r3, .ref 63], S2, 0) r
  refine ev_sts 1 (c2 := (12, [.ref 63, .int p1, .int p2], [.int ((1 : Int32)), .int r3, .ref 63], S2, 0)) rfl ?_
  refine ev_bI0 (d := d + 10) (M' := Mx155) (ct := (15, [.ref 63, .int p1, .int p2], [], S2, 0)) hf rfl rfl rfl rfl (fun r9 h9 => f_X10_throwsIf_ok (d := d + 10) h9) (fun r5 S4 hf => ?_)
  show Ev (d + 11) Mx232 (15, [.ref 63, .int p1, .int p2], [.int r5], S4, 0) r
  refine ev_if (c1 := (40, [mK, mK, mK], [], S4, 0)) (c2 := (18, [.ref 63, .int p1, .int p2], [], S4, 0)) hf rfl rfl (fun _ hf => ?_) (fun _ hf => ?_)
  · exact f_X10_climber_b40_ok hf
  · refine ev_sts 4 (c2 := (22, [.ref 63, .int p1, .int p2], [.int ((2 : Int32)), .int ((0 : Int32)), .int p2, .ref 63], S4, 0)) rfl ?_
    refine ev_bI0 (d := d + 10) (M' := Mx156) (ct := (25, [.ref 63, .int p1, .int p2], [.ref 63], S4, 0)) hf rfl rfl rfl rfl (fun r9 h9 => f_X10_in_ok (d := d + 10) h9) (fun r7 S6 hf => ?_)
    show Ev (d + 11) Mx232 (25, [.ref 63, .int p1, .int p2], [.int r7, .ref 63], S6, 0) r
    refine ev_if (c1 := (32, [.ref 63, .int p1, .int p2], [.ref 63], S6, 0)) (c2 := (28, [.ref 63, .int p1, .int p2], [.ref 63], S6, 0)) hf rfl rfl (fun _ hf => ?_) (fun _ hf => ?_)
    · exact ev_sts 1 (c2 := (33, [.ref 63, .int p1, .int p2], [.int ((0 : Int32)), .ref 63], S6, 0)) rfl (f_X10_climber_b33_ok hf)
    · exact ev_sts 2 (c2 := (33, [.ref 63, .int p1, .int p2], [.int ((1 : Int32)), .ref 63], S6, 0)) rfl (f_X10_climber_b33_ok hf)
def f_X10_sumIn_b35 (K5 : Int32 → Int32 → Int32 → Int32 → mS → Option mR) (F : Nat) (x1 : Int32) (x2 : Int32) (x4 : Int32) (t1 : Int32) (t0 : Int32) (S : mS) : Option mR := bnd (t0 + t1 : Int32) (fun y5 => K5 x1 x2 y5 (x4 + (1 : Int32)) S)
def f_X10_sumIn_b5 (F : Nat) : Nat → Int32 → Int32 → Int32 → Int32 → mS → Option mR
  | 0, _, _, _, _, _ => none
  | n + 1, x1, x2, x3, x4, S => bI0 (f_X10_ledges S) (fun r2 S1 => (if r2 ≤ x4 then some (.inl (some (.int x3)), S1) else bI0 (f_X10_has x1 x4 S1) (fun r4 S3 => (if r4 = 0 then f_X10_sumIn_b35 (fun x1 x2 x3 x4 S => f_X10_sumIn_b5 F n x1 x2 x3 x4 S) F x1 x2 x4 ((0 : Int32)) x3 S3 else bI0 (f_X10_of x4 x2 S3) (fun r7 S6 => f_X10_sumIn_b35 (fun x1 x2 x3 x4 S => f_X10_sumIn_b5 F n x1 x2 x3 x4 S) F x1 x2 x4 r7 x3 S6)))))
def f_X10_sumIn (F : Nat) (p1 : Int32) (p2 : Int32) (S : mS) : Option mR := f_X10_sumIn_b5 F F p1 p2 ((0 : Int32)) ((0 : Int32)) S
theorem f_X10_sumIn_b35_ok {d F : Nat} {K5 : Int32 → Int32 → Int32 → Int32 → mS → Option mR} (hK5 : ∀ {x1 : Int32} {x2 : Int32} {x3 : Int32} {x4 : Int32} {S : mS} {r : mR}, K5 x1 x2 x3 x4 S = some r → Ev (d + 2) Mx260 (5, [.ref 63, .int x1, .int x2, .int x3, .int x4], [], S, 0) r) {x1 : Int32} {x2 : Int32} {x4 : Int32} {t1 : Int32} {t0 : Int32} {S : mS} {r : mR} (hf : f_X10_sumIn_b35 K5 F x1 x2 x4 t1 t0 S = some r) : Ev (d + 2) Mx260 (35, [.ref 63, .int x1, .int x2, mK, .int x4], [.int t1, .int t0], S, 0) r := by
  unfold f_X10_sumIn_b35 at hf
  refine ev_sts 2 (c2 := (37, [.ref 63, .int x1, .int x2, .int (t0 + t1), .int x4], [], S, 0)) rfl ?_
  refine ev_let (P := fun y5 => Ev (d + 2) Mx260 (37, [.ref 63, .int x1, .int x2, .int y5, .int x4], [], S, 0) r) (fun y5 hf => ?_) hf
  exact ev_sts 2 (c2 := (5, [.ref 63, .int x1, .int x2, .int y5, .int (x4 + (1 : Int32))], [], S, 0)) rfl (hK5 hf)
theorem f_X10_sumIn_b5_ok {d F : Nat} : ∀ (n : Nat) {x1 : Int32} {x2 : Int32} {x3 : Int32} {x4 : Int32} {S : mS} {r : mR}, f_X10_sumIn_b5 F n x1 x2 x3 x4 S = some r → Ev (d + 2) Mx260 (5, [.ref 63, .int x1, .int x2, .int x3, .int x4], [], S, 0) r := by
  intro n
  induction n with
  | zero => intro x1 x2 x3 x4 S r hf; cases hf
  | succ n ih =>
    intro x1 x2 x3 x4 S r hf
    rw [f_X10_sumIn_b5] at hf
    refine ev_sts 2 (c2 := (8, [.ref 63, .int x1, .int x2, .int x3, .int x4], [.ref 63, .int x4], S, 0)) rfl ?_
    refine ev_bI0 (d := d + 1) (M' := Mx162) (ct := (11, [.ref 63, .int x1, .int x2, .int x3, .int x4], [.int x4], S, 0)) hf rfl rfl rfl rfl (fun r9 h9 => f_X10_ledges_ok (d := d + 1) h9) (fun r2 S1 hf => ?_)
    show Ev (d + 2) Mx260 (11, [.ref 63, .int x1, .int x2, .int x3, .int x4], [.int r2, .int x4], S1, 0) r
    refine ev_if (c1 := (43, [.ref 63, .int x1, .int x2, .int x3, .int x4], [], S1, 0)) (c2 := (14, [.ref 63, .int x1, .int x2, .int x3, .int x4], [], S1, 0)) hf rfl rfl (fun _ hf => ?_) (fun _ hf => ?_)
    · refine ev_sts 1 (c2 := (44, [.ref 63, .int x1, .int x2, .int x3, .int x4], [.int x3], S1, 0)) rfl ?_
      exact ev_ret hf rfl rfl
    · refine ev_sts 3 (c2 := (18, [.ref 63, .int x1, .int x2, .int x3, .int x4], [.int x4, .int x1, .int x3], S1, 0)) rfl ?_
      refine ev_bI0 (d := d + 1) (M' := Mx157) (ct := (21, [.ref 63, .int x1, .int x2, .int x3, .int x4], [.int x3], S1, 0)) hf rfl rfl rfl rfl (fun r9 h9 => f_X10_has_ok (d := d + 1) h9) (fun r4 S3 hf => ?_)
      show Ev (d + 2) Mx260 (21, [.ref 63, .int x1, .int x2, .int x3, .int x4], [.int r4, .int x3], S3, 0) r
      refine ev_if (c1 := (34, [.ref 63, .int x1, .int x2, .int x3, .int x4], [.int x3], S3, 0)) (c2 := (24, [.ref 63, .int x1, .int x2, .int x3, .int x4], [.int x3], S3, 0)) hf rfl rfl (fun _ hf => ?_) (fun _ hf => ?_)
      · exact ev_sts 1 (c2 := (35, [.ref 63, .int x1, .int x2, mK, .int x4], [.int ((0 : Int32)), .int x3], S3, 0)) rfl (f_X10_sumIn_b35_ok (fun h9 => ih h9) hf)
      · refine ev_sts 3 (c2 := (28, [.ref 63, .int x1, .int x2, .int x3, .int x4], [.int x2, .int x4, .ref 63, .int x3], S3, 0)) rfl ?_
        refine ev_bI0 (d := d + 1) (M' := Mx166) (ct := (31, [.ref 63, .int x1, .int x2, .int x3, .int x4], [.int x3], S3, 0)) hf rfl rfl rfl rfl (fun r9 h9 => f_X10_of_ok (d := d) h9) (fun r7 S6 hf => ?_)
        show Ev (d + 2) Mx260 (31, [.ref 63, .int x1, .int x2, .int x3, .int x4], [.int r7, .int x3], S6, 0) r
        exact ev_sts 1 (c2 := (35, [.ref 63, .int x1, .int x2, mK, .int x4], [.int r7, .int x3], S6, 0)) rfl (f_X10_sumIn_b35_ok (fun h9 => ih h9) hf)
theorem f_X10_sumIn_ok {d F : Nat} {p1 : Int32} {p2 : Int32} {S : mS} {r : mR} (hf : f_X10_sumIn F p1 p2 S = some r) : Ev (d + 2) Mx260 (entry Mx260 [.ref 63, .int p1, .int p2] S) r := by
  unfold f_X10_sumIn at hf
  exact ev_sts 4 (c2 := (5, [.ref 63, .int p1, .int p2, .int ((0 : Int32)), .int ((0 : Int32))], [], S, 0)) rfl (f_X10_sumIn_b5_ok _ hf)
def f_X10_count_b94 (F : Nat) (t0 : Int32) (S : mS) : Option mR := some (.inl (some (.int t0)), S)
def f_X10_count_b148 (F : Nat) (t0 : Int32) (S : mS) : Option mR := some (.inl (some (.int t0)), S)
def f_X10_count (F : Nat) (p1 : Int32) (S : mS) : Option mR := bnd (upS S 63 0 ((0 : Int32))) (fun S1 => (if p1 = (4 : Int32) then gd (inb ((4 : Int32)) 2145) ((if ¬ (S1 64 ((4 : Int32)).toNatClampNeg) = ((1 : Int32)) then f_X10_count_b94 F ((-1 : Int32)) S1 else gd (inb ((447 : Int32)) 2145) (f_X10_count_b94 F (S1 64 ((447 : Int32)).toNatClampNeg) S1))) else if p1 = (5 : Int32) then bI0 (f_X10_in p1 ((0 : Int32)) ((12 : Int32)) S1) (fun r5 S4 => (if r5 = 0 then f_X10_count_b148 F ((-1 : Int32)) S4 else gd (inb p1 2145) (f_X10_count_b148 F (S4 64 p1.toNatClampNeg) S4))) else if p1 = (6 : Int32) then bI0 (f_X10_in p1 ((0 : Int32)) ((12 : Int32)) S1) (fun r8 S7 => (if r8 = 0 then f_X10_count_b148 F ((-1 : Int32)) S7 else gd (inb p1 2145) (f_X10_count_b148 F (S7 64 p1.toNatClampNeg) S7))) else if p1 = (7 : Int32) then bI0 (f_X10_in p1 ((0 : Int32)) ((12 : Int32)) S1) (fun r11 S10 => (if r11 = 0 then f_X10_count_b148 F ((-1 : Int32)) S10 else gd (inb p1 2145) (f_X10_count_b148 F (S10 64 p1.toNatClampNeg) S10))) else if p1 = (8 : Int32) then bI0 (f_X10_in p1 ((0 : Int32)) ((12 : Int32)) S1) (fun r14 S13 => (if r14 = 0 then f_X10_count_b148 F ((-1 : Int32)) S13 else gd (inb p1 2145) (f_X10_count_b148 F (S13 64 p1.toNatClampNeg) S13))) else if p1 = (9 : Int32) then bI0 (f_X10_in p1 ((0 : Int32)) ((12 : Int32)) S1) (fun r17 S16 => (if r17 = 0 then f_X10_count_b148 F ((-1 : Int32)) S16 else gd (inb p1 2145) (f_X10_count_b148 F (S16 64 p1.toNatClampNeg) S16))) else if p1 = (10 : Int32) then bI0 (f_X10_in p1 ((0 : Int32)) ((12 : Int32)) S1) (fun r20 S19 => (if r20 = 0 then f_X10_count_b148 F ((-1 : Int32)) S19 else gd (inb p1 2145) (f_X10_count_b148 F (S19 64 p1.toNatClampNeg) S19))) else if p1 = (11 : Int32) then bI0 (f_X10_in p1 ((0 : Int32)) ((12 : Int32)) S1) (fun r23 S22 => (if r23 = 0 then f_X10_count_b148 F ((-1 : Int32)) S22 else gd (inb p1 2145) (f_X10_count_b148 F (S22 64 p1.toNatClampNeg) S22))) else if p1 = (12 : Int32) then bI0 (f_X10_in p1 ((0 : Int32)) ((12 : Int32)) S1) (fun r26 S25 => (if r26 = 0 then f_X10_count_b148 F ((-1 : Int32)) S25 else gd (inb p1 2145) (f_X10_count_b148 F (S25 64 p1.toNatClampNeg) S25))) else if p1 = (13 : Int32) then bI0 (f_X10_allLedges S1) (fun r29 S28 => bI0 (f_X10_sumIn F r29 ((2 : Int32)) S28) (fun r31 S30 => some (.inl (some (.int r31)), S30))) else if p1 = (14 : Int32) then bI0 (f_X10_allLedges S1) (fun r34 S33 => bI0 (f_X10_sumIn F r34 ((4 : Int32)) S33) (fun r36 S35 => some (.inl (some (.int r36)), S35))) else if p1 = (15 : Int32) then gd (inb ((15 : Int32)) 2145) (some (.inl (some (.int (S1 64 ((15 : Int32)).toNatClampNeg))), S1)) else if p1 = (16 : Int32) then some (.inl (some (.int (S1 63 7))), S1) else bI0 (f_X10_in p1 ((0 : Int32)) ((12 : Int32)) S1) (fun r40 S39 => (if r40 = 0 then f_X10_count_b148 F ((-1 : Int32)) S39 else gd (inb p1 2145) (f_X10_count_b148 F (S39 64 p1.toNatClampNeg) S39)))))
theorem f_X10_count_b94_ok {d F : Nat} {t0 : Int32} {S : mS} {r : mR} (hf : f_X10_count_b94 F t0 S = some r) : Ev (d + 3) Mx282 (94, [mK, mK], [.int t0], S, 0) r := by
  unfold f_X10_count_b94 at hf
  exact ev_ret hf rfl rfl
theorem f_X10_count_b148_ok {d F : Nat} {t0 : Int32} {S : mS} {r : mR} (hf : f_X10_count_b148 F t0 S = some r) : Ev (d + 3) Mx282 (148, [mK, mK], [.int t0], S, 0) r := by
  unfold f_X10_count_b148 at hf
  exact ev_ret hf rfl rfl
theorem f_X10_count_ok {d F : Nat} {p1 : Int32} {S : mS} {r : mR} (hf : f_X10_count F p1 S = some r) : Ev (d + 3) Mx282 (entry Mx282 [.ref 63, .int p1] S) r := by
  unfold f_X10_count at hf
  refine ev_sts 3 (c2 := (5, [.ref 63, .int p1], [], (upS S 63 0 ((0 : Int32))), 0)) rfl ?_
  refine ev_let (P := fun S1 => Ev (d + 3) Mx282 (5, [.ref 63, .int p1], [], S1, 0) r) (fun S1 hf => ?_) hf
  refine ev_sts 1 (c2 := (6, [.ref 63, .int p1], [.int p1], S1, 0)) rfl ?_
  rcases ite_or hf with ⟨h1, hf⟩ | ⟨h1, hf⟩
  · refine ev_sw (l2 := [.ref 63, .int p1]) (st2 := []) (msw_p h1) rfl rfl ?_
    show Ev (d + 3) Mx282 (72, [.ref 63, .int p1], [], S1, 0) r
    refine ev_sts 3 (c2 := (77, [.ref 63, .int p1], [.int ((4 : Int32)), .ref 64], S1, 0)) rfl ?_
    refine ev_gd (c1 := (78, [.ref 63, .int p1], [.int (S1 64 ((4 : Int32)).toNatClampNeg)], S1, 0)) hf rfl rfl (fun hf => ?_)
    refine ev_sts 1 (c2 := (79, [.ref 63, .int p1], [.int ((1 : Int32)), .int (S1 64 ((4 : Int32)).toNatClampNeg)], S1, 0)) rfl ?_
    refine ev_if (c1 := (93, [.ref 63, .int p1], [], S1, 0)) (c2 := (82, [.ref 63, .int p1], [], S1, 0)) hf rfl rfl (fun _ hf => ?_) (fun _ hf => ?_)
    · exact ev_sts 1 (c2 := (94, [mK, mK], [.int ((-1 : Int32))], S1, 0)) rfl (f_X10_count_b94_ok hf)
    · refine ev_sts 3 (c2 := (89, [.ref 63, .int p1], [.int ((447 : Int32)), .ref 64], S1, 0)) rfl ?_
      refine ev_gd (c1 := (90, [.ref 63, .int p1], [.int (S1 64 ((447 : Int32)).toNatClampNeg)], S1, 0)) hf rfl rfl (fun hf => ?_)
      exact ev_sts 1 (c2 := (94, [mK, mK], [.int (S1 64 ((447 : Int32)).toNatClampNeg)], S1, 0)) rfl (f_X10_count_b94_ok hf)
  rcases ite_or hf with ⟨h2, hf⟩ | ⟨h2, hf⟩
  · refine ev_sw (l2 := [.ref 63, .int p1]) (st2 := []) (msw_n h1 (msw_p h2)) rfl rfl ?_
    show Ev (d + 3) Mx282 (128, [.ref 63, .int p1], [], S1, 0) r
    refine ev_sts 3 (c2 := (132, [.ref 63, .int p1], [.int ((12 : Int32)), .int ((0 : Int32)), .int p1], S1, 0)) rfl ?_
    refine ev_bI0 (d := d + 2) (M' := Mx156) (ct := (135, [.ref 63, .int p1], [], S1, 0)) hf rfl rfl rfl rfl (fun r9 h9 => f_X10_in_ok (d := d + 2) h9) (fun r5 S4 hf => ?_)
    show Ev (d + 3) Mx282 (135, [.ref 63, .int p1], [.int r5], S4, 0) r
    refine ev_if (c1 := (147, [.ref 63, .int p1], [], S4, 0)) (c2 := (138, [.ref 63, .int p1], [], S4, 0)) hf rfl rfl (fun _ hf => ?_) (fun _ hf => ?_)
    · exact ev_sts 1 (c2 := (148, [mK, mK], [.int ((-1 : Int32))], S4, 0)) rfl (f_X10_count_b148_ok hf)
    · refine ev_sts 3 (c2 := (143, [.ref 63, .int p1], [.int p1, .ref 64], S4, 0)) rfl ?_
      refine ev_gd (c1 := (144, [.ref 63, .int p1], [.int (S4 64 p1.toNatClampNeg)], S4, 0)) hf rfl rfl (fun hf => ?_)
      exact ev_sts 1 (c2 := (148, [mK, mK], [.int (S4 64 p1.toNatClampNeg)], S4, 0)) rfl (f_X10_count_b148_ok hf)
  rcases ite_or hf with ⟨h5, hf⟩ | ⟨h5, hf⟩
  · refine ev_sw (l2 := [.ref 63, .int p1]) (st2 := []) (msw_n h1 (msw_n h2 (msw_p h5))) rfl rfl ?_
    show Ev (d + 3) Mx282 (128, [.ref 63, .int p1], [], S1, 0) r
    refine ev_sts 3 (c2 := (132, [.ref 63, .int p1], [.int ((12 : Int32)), .int ((0 : Int32)), .int p1], S1, 0)) rfl ?_
    refine ev_bI0 (d := d + 2) (M' := Mx156) (ct := (135, [.ref 63, .int p1], [], S1, 0)) hf rfl rfl rfl rfl (fun r9 h9 => f_X10_in_ok (d := d + 2) h9) (fun r8 S7 hf => ?_)
    show Ev (d + 3) Mx282 (135, [.ref 63, .int p1], [.int r8], S7, 0) r
    refine ev_if (c1 := (147, [.ref 63, .int p1], [], S7, 0)) (c2 := (138, [.ref 63, .int p1], [], S7, 0)) hf rfl rfl (fun _ hf => ?_) (fun _ hf => ?_)
    · exact ev_sts 1 (c2 := (148, [mK, mK], [.int ((-1 : Int32))], S7, 0)) rfl (f_X10_count_b148_ok hf)
    · refine ev_sts 3 (c2 := (143, [.ref 63, .int p1], [.int p1, .ref 64], S7, 0)) rfl ?_
      refine ev_gd (c1 := (144, [.ref 63, .int p1], [.int (S7 64 p1.toNatClampNeg)], S7, 0)) hf rfl rfl (fun hf => ?_)
      exact ev_sts 1 (c2 := (148, [mK, mK], [.int (S7 64 p1.toNatClampNeg)], S7, 0)) rfl (f_X10_count_b148_ok hf)
  rcases ite_or hf with ⟨h8, hf⟩ | ⟨h8, hf⟩
  · refine ev_sw (l2 := [.ref 63, .int p1]) (st2 := []) (msw_n h1 (msw_n h2 (msw_n h5 (msw_p h8)))) rfl rfl ?_
    show Ev (d + 3) Mx282 (128, [.ref 63, .int p1], [], S1, 0) r
    refine ev_sts 3 (c2 := (132, [.ref 63, .int p1], [.int ((12 : Int32)), .int ((0 : Int32)), .int p1], S1, 0)) rfl ?_
    refine ev_bI0 (d := d + 2) (M' := Mx156) (ct := (135, [.ref 63, .int p1], [], S1, 0)) hf rfl rfl rfl rfl (fun r9 h9 => f_X10_in_ok (d := d + 2) h9) (fun r11 S10 hf => ?_)
    show Ev (d + 3) Mx282 (135, [.ref 63, .int p1], [.int r11], S10, 0) r
    refine ev_if (c1 := (147, [.ref 63, .int p1], [], S10, 0)) (c2 := (138, [.ref 63, .int p1], [], S10, 0)) hf rfl rfl (fun _ hf => ?_) (fun _ hf => ?_)
    · exact ev_sts 1 (c2 := (148, [mK, mK], [.int ((-1 : Int32))], S10, 0)) rfl (f_X10_count_b148_ok hf)
    · refine ev_sts 3 (c2 := (143, [.ref 63, .int p1], [.int p1, .ref 64], S10, 0)) rfl ?_
      refine ev_gd (c1 := (144, [.ref 63, .int p1], [.int (S10 64 p1.toNatClampNeg)], S10, 0)) hf rfl rfl (fun hf => ?_)
      exact ev_sts 1 (c2 := (148, [mK, mK], [.int (S10 64 p1.toNatClampNeg)], S10, 0)) rfl (f_X10_count_b148_ok hf)
  rcases ite_or hf with ⟨h11, hf⟩ | ⟨h11, hf⟩
  · refine ev_sw (l2 := [.ref 63, .int p1]) (st2 := []) (msw_n h1 (msw_n h2 (msw_n h5 (msw_n h8 (msw_p h11))))) rfl rfl ?_
    show Ev (d + 3) Mx282 (128, [.ref 63, .int p1], [], S1, 0) r
    refine ev_sts 3 (c2 := (132, [.ref 63, .int p1], [.int ((12 : Int32)), .int ((0 : Int32)), .int p1], S1, 0)) rfl ?_
    refine ev_bI0 (d := d + 2) (M' := Mx156) (ct := (135, [.ref 63, .int p1], [], S1, 0)) hf rfl rfl rfl rfl (fun r9 h9 => f_X10_in_ok (d := d + 2) h9) (fun r14 S13 hf => ?_)
    show Ev (d + 3) Mx282 (135, [.ref 63, .int p1], [.int r14], S13, 0) r
    refine ev_if (c1 := (147, [.ref 63, .int p1], [], S13, 0)) (c2 := (138, [.ref 63, .int p1], [], S13, 0)) hf rfl rfl (fun _ hf => ?_) (fun _ hf => ?_)
    · exact ev_sts 1 (c2 := (148, [mK, mK], [.int ((-1 : Int32))], S13, 0)) rfl (f_X10_count_b148_ok hf)
    · refine ev_sts 3 (c2 := (143, [.ref 63, .int p1], [.int p1, .ref 64], S13, 0)) rfl ?_
      refine ev_gd (c1 := (144, [.ref 63, .int p1], [.int (S13 64 p1.toNatClampNeg)], S13, 0)) hf rfl rfl (fun hf => ?_)
      exact ev_sts 1 (c2 := (148, [mK, mK], [.int (S13 64 p1.toNatClampNeg)], S13, 0)) rfl (f_X10_count_b148_ok hf)
  rcases ite_or hf with ⟨h14, hf⟩ | ⟨h14, hf⟩
  · refine ev_sw (l2 := [.ref 63, .int p1]) (st2 := []) (msw_n h1 (msw_n h2 (msw_n h5 (msw_n h8 (msw_n h11 (msw_p h14)))))) rfl rfl ?_
    show Ev (d + 3) Mx282 (128, [.ref 63, .int p1], [], S1, 0) r
    refine ev_sts 3 (c2 := (132, [.ref 63, .int p1], [.int ((12 : Int32)), .int ((0 : Int32)), .int p1], S1, 0)) rfl ?_
    refine ev_bI0 (d := d + 2) (M' := Mx156) (ct := (135, [.ref 63, .int p1], [], S1, 0)) hf rfl rfl rfl rfl (fun r9 h9 => f_X10_in_ok (d := d + 2) h9) (fun r17 S16 hf => ?_)
    show Ev (d + 3) Mx282 (135, [.ref 63, .int p1], [.int r17], S16, 0) r
    refine ev_if (c1 := (147, [.ref 63, .int p1], [], S16, 0)) (c2 := (138, [.ref 63, .int p1], [], S16, 0)) hf rfl rfl (fun _ hf => ?_) (fun _ hf => ?_)
    · exact ev_sts 1 (c2 := (148, [mK, mK], [.int ((-1 : Int32))], S16, 0)) rfl (f_X10_count_b148_ok hf)
    · refine ev_sts 3 (c2 := (143, [.ref 63, .int p1], [.int p1, .ref 64], S16, 0)) rfl ?_
      refine ev_gd (c1 := (144, [.ref 63, .int p1], [.int (S16 64 p1.toNatClampNeg)], S16, 0)) hf rfl rfl (fun hf => ?_)
      exact ev_sts 1 (c2 := (148, [mK, mK], [.int (S16 64 p1.toNatClampNeg)], S16, 0)) rfl (f_X10_count_b148_ok hf)
  rcases ite_or hf with ⟨h17, hf⟩ | ⟨h17, hf⟩
  · refine ev_sw (l2 := [.ref 63, .int p1]) (st2 := []) (msw_n h1 (msw_n h2 (msw_n h5 (msw_n h8 (msw_n h11 (msw_n h14 (msw_p h17))))))) rfl rfl ?_
    show Ev (d + 3) Mx282 (128, [.ref 63, .int p1], [], S1, 0) r
    refine ev_sts 3 (c2 := (132, [.ref 63, .int p1], [.int ((12 : Int32)), .int ((0 : Int32)), .int p1], S1, 0)) rfl ?_
    refine ev_bI0 (d := d + 2) (M' := Mx156) (ct := (135, [.ref 63, .int p1], [], S1, 0)) hf rfl rfl rfl rfl (fun r9 h9 => f_X10_in_ok (d := d + 2) h9) (fun r20 S19 hf => ?_)
    show Ev (d + 3) Mx282 (135, [.ref 63, .int p1], [.int r20], S19, 0) r
    refine ev_if (c1 := (147, [.ref 63, .int p1], [], S19, 0)) (c2 := (138, [.ref 63, .int p1], [], S19, 0)) hf rfl rfl (fun _ hf => ?_) (fun _ hf => ?_)
    · exact ev_sts 1 (c2 := (148, [mK, mK], [.int ((-1 : Int32))], S19, 0)) rfl (f_X10_count_b148_ok hf)
    · refine ev_sts 3 (c2 := (143, [.ref 63, .int p1], [.int p1, .ref 64], S19, 0)) rfl ?_
      refine ev_gd (c1 := (144, [.ref 63, .int p1], [.int (S19 64 p1.toNatClampNeg)], S19, 0)) hf rfl rfl (fun hf => ?_)
      exact ev_sts 1 (c2 := (148, [mK, mK], [.int (S19 64 p1.toNatClampNeg)], S19, 0)) rfl (f_X10_count_b148_ok hf)
  rcases ite_or hf with ⟨h20, hf⟩ | ⟨h20, hf⟩
  · refine ev_sw (l2 := [.ref 63, .int p1]) (st2 := []) (msw_n h1 (msw_n h2 (msw_n h5 (msw_n h8 (msw_n h11 (msw_n h14 (msw_n h17 (msw_p h20)))))))) rfl rfl ?_
    show Ev (d + 3) Mx282 (128, [.ref 63, .int p1], [], S1, 0) r
    refine ev_sts 3 (c2 := (132, [.ref 63, .int p1], [.int ((12 : Int32)), .int ((0 : Int32)), .int p1], S1, 0)) rfl ?_
    refine ev_bI0 (d := d + 2) (M' := Mx156) (ct := (135, [.ref 63, .int p1], [], S1, 0)) hf rfl rfl rfl rfl (fun r9 h9 => f_X10_in_ok (d := d + 2) h9) (fun r23 S22 hf => ?_)
    show Ev (d + 3) Mx282 (135, [.ref 63, .int p1], [.int r23], S22, 0) r
    refine ev_if (c1 := (147, [.ref 63, .int p1], [], S22, 0)) (c2 := (138, [.ref 63, .int p1], [], S22, 0)) hf rfl rfl (fun _ hf => ?_) (fun _ hf => ?_)
    · exact ev_sts 1 (c2 := (148, [mK, mK], [.int ((-1 : Int32))], S22, 0)) rfl (f_X10_count_b148_ok hf)
    · refine ev_sts 3 (c2 := (143, [.ref 63, .int p1], [.int p1, .ref 64], S22, 0)) rfl ?_
      refine ev_gd (c1 := (144, [.ref 63, .int p1], [.int (S22 64 p1.toNatClampNeg)], S22, 0)) hf rfl rfl (fun hf => ?_)
      exact ev_sts 1 (c2 := (148, [mK, mK], [.int (S22 64 p1.toNatClampNeg)], S22, 0)) rfl (f_X10_count_b148_ok hf)
  rcases ite_or hf with ⟨h23, hf⟩ | ⟨h23, hf⟩
  · refine ev_sw (l2 := [.ref 63, .int p1]) (st2 := []) (msw_n h1 (msw_n h2 (msw_n h5 (msw_n h8 (msw_n h11 (msw_n h14 (msw_n h17 (msw_n h20 (msw_p h23))))))))) rfl rfl ?_
    show Ev (d + 3) Mx282 (128, [.ref 63, .int p1], [], S1, 0) r
    refine ev_sts 3 (c2 := (132, [.ref 63, .int p1], [.int ((12 : Int32)), .int ((0 : Int32)), .int p1], S1, 0)) rfl ?_
    refine ev_bI0 (d := d + 2) (M' := Mx156) (ct := (135, [.ref 63, .int p1], [], S1, 0)) hf rfl rfl rfl rfl (fun r9 h9 => f_X10_in_ok (d := d + 2) h9) (fun r26 S25 hf => ?_)
    show Ev (d + 3) Mx282 (135, [.ref 63, .int p1], [.int r26], S25, 0) r
    refine ev_if (c1 := (147, [.ref 63, .int p1], [], S25, 0)) (c2 := (138, [.ref 63, .int p1], [], S25, 0)) hf rfl rfl (fun _ hf => ?_) (fun _ hf => ?_)
    · exact ev_sts 1 (c2 := (148, [mK, mK], [.int ((-1 : Int32))], S25, 0)) rfl (f_X10_count_b148_ok hf)
    · refine ev_sts 3 (c2 := (143, [.ref 63, .int p1], [.int p1, .ref 64], S25, 0)) rfl ?_
      refine ev_gd (c1 := (144, [.ref 63, .int p1], [.int (S25 64 p1.toNatClampNeg)], S25, 0)) hf rfl rfl (fun hf => ?_)
      exact ev_sts 1 (c2 := (148, [mK, mK], [.int (S25 64 p1.toNatClampNeg)], S25, 0)) rfl (f_X10_count_b148_ok hf)
  rcases ite_or hf with ⟨h26, hf⟩ | ⟨h26, hf⟩
  · refine ev_sw (l2 := [.ref 63, .int p1]) (st2 := []) (msw_n h1 (msw_n h2 (msw_n h5 (msw_n h8 (msw_n h11 (msw_n h14 (msw_n h17 (msw_n h20 (msw_n h23 (msw_p h26)))))))))) rfl rfl ?_
    show Ev (d + 3) Mx282 (95, [.ref 63, .int p1], [], S1, 0) r
    refine ev_sts 2 (c2 := (97, [.ref 63, .int p1], [.ref 63, .ref 63], S1, 0)) rfl ?_
    refine ev_bI0 (d := d + 2) (M' := Mx261) (ct := (100, [.ref 63, .int p1], [.ref 63], S1, 0)) hf rfl rfl rfl rfl (fun r9 h9 => f_X10_allLedges_ok (d := d + 1) h9) (fun r29 S28 hf => ?_)
    show Ev (d + 3) Mx282 (100, [.ref 63, .int p1], [.int r29, .ref 63], S28, 0) r
    refine ev_sts 1 (c2 := (101, [.ref 63, .int p1], [.int ((2 : Int32)), .int r29, .ref 63], S28, 0)) rfl ?_
    refine ev_bI0 (d := d + 2) (M' := Mx260) (ct := (104, [.ref 63, .int p1], [], S28, 0)) hf rfl rfl rfl rfl (fun r9 h9 => f_X10_sumIn_ok (d := d) h9) (fun r31 S30 hf => ?_)
    show Ev (d + 3) Mx282 (104, [.ref 63, .int p1], [.int r31], S30, 0) r
    exact ev_ret hf rfl rfl
  rcases ite_or hf with ⟨h31, hf⟩ | ⟨h31, hf⟩
  · refine ev_sw (l2 := [.ref 63, .int p1]) (st2 := []) (msw_n h1 (msw_n h2 (msw_n h5 (msw_n h8 (msw_n h11 (msw_n h14 (msw_n h17 (msw_n h20 (msw_n h23 (msw_n h26 (msw_p h31))))))))))) rfl rfl ?_
    show Ev (d + 3) Mx282 (105, [.ref 63, .int p1], [], S1, 0) r
    refine ev_sts 2 (c2 := (107, [.ref 63, .int p1], [.ref 63, .ref 63], S1, 0)) rfl ?_
    refine ev_bI0 (d := d + 2) (M' := Mx261) (ct := (110, [.ref 63, .int p1], [.ref 63], S1, 0)) hf rfl rfl rfl rfl (fun r9 h9 => f_X10_allLedges_ok (d := d + 1) h9) (fun r34 S33 hf => ?_)
    show Ev (d + 3) Mx282 (110, [.ref 63, .int p1], [.int r34, .ref 63], S33, 0) r
    refine ev_sts 1 (c2 := (111, [.ref 63, .int p1], [.int ((4 : Int32)), .int r34, .ref 63], S33, 0)) rfl ?_
    refine ev_bI0 (d := d + 2) (M' := Mx260) (ct := (114, [.ref 63, .int p1], [], S33, 0)) hf rfl rfl rfl rfl (fun r9 h9 => f_X10_sumIn_ok (d := d) h9) (fun r36 S35 hf => ?_)
    show Ev (d + 3) Mx282 (114, [.ref 63, .int p1], [.int r36], S35, 0) r
    exact ev_ret hf rfl rfl
  rcases ite_or hf with ⟨h36, hf⟩ | ⟨h36, hf⟩
  · refine ev_sw (l2 := [.ref 63, .int p1]) (st2 := []) (msw_n h1 (msw_n h2 (msw_n h5 (msw_n h8 (msw_n h11 (msw_n h14 (msw_n h17 (msw_n h20 (msw_n h23 (msw_n h26 (msw_n h31 (msw_p h36)))))))))))) rfl rfl ?_
    show Ev (d + 3) Mx282 (115, [.ref 63, .int p1], [], S1, 0) r
    refine ev_sts 3 (c2 := (121, [.ref 63, .int p1], [.int ((15 : Int32)), .ref 64], S1, 0)) rfl ?_
    refine ev_gd (c1 := (122, [.ref 63, .int p1], [.int (S1 64 ((15 : Int32)).toNatClampNeg)], S1, 0)) hf rfl rfl (fun hf => ?_)
    exact ev_ret hf rfl rfl
  rcases ite_or hf with ⟨h37, hf⟩ | ⟨h37, hf⟩
  · refine ev_sw (l2 := [.ref 63, .int p1]) (st2 := []) (msw_n h1 (msw_n h2 (msw_n h5 (msw_n h8 (msw_n h11 (msw_n h14 (msw_n h17 (msw_n h20 (msw_n h23 (msw_n h26 (msw_n h31 (msw_n h36 (msw_p h37))))))))))))) rfl rfl ?_
    show Ev (d + 3) Mx282 (123, [.ref 63, .int p1], [], S1, 0) r
    refine ev_sts 2 (c2 := (127, [.ref 63, .int p1], [.int (S1 63 7)], S1, 0)) rfl ?_
    exact ev_ret hf rfl rfl
  refine ev_sw (l2 := [.ref 63, .int p1]) (st2 := []) (msw_n h1 (msw_n h2 (msw_n h5 (msw_n h8 (msw_n h11 (msw_n h14 (msw_n h17 (msw_n h20 (msw_n h23 (msw_n h26 (msw_n h31 (msw_n h36 (msw_n h37 rfl))))))))))))) rfl rfl ?_
  show Ev (d + 3) Mx282 (128, [.ref 63, .int p1], [], S1, 0) r
  refine ev_sts 3 (c2 := (132, [.ref 63, .int p1], [.int ((12 : Int32)), .int ((0 : Int32)), .int p1], S1, 0)) rfl ?_
  refine ev_bI0 (d := d + 2) (M' := Mx156) (ct := (135, [.ref 63, .int p1], [], S1, 0)) hf rfl rfl rfl rfl (fun r9 h9 => f_X10_in_ok (d := d + 2) h9) (fun r40 S39 hf => ?_)
  show Ev (d + 3) Mx282 (135, [.ref 63, .int p1], [.int r40], S39, 0) r
  refine ev_if (c1 := (147, [.ref 63, .int p1], [], S39, 0)) (c2 := (138, [.ref 63, .int p1], [], S39, 0)) hf rfl rfl (fun _ hf => ?_) (fun _ hf => ?_)
  · exact ev_sts 1 (c2 := (148, [mK, mK], [.int ((-1 : Int32))], S39, 0)) rfl (f_X10_count_b148_ok hf)
  · refine ev_sts 3 (c2 := (143, [.ref 63, .int p1], [.int p1, .ref 64], S39, 0)) rfl ?_
    refine ev_gd (c1 := (144, [.ref 63, .int p1], [.int (S39 64 p1.toNatClampNeg)], S39, 0)) hf rfl rfl (fun hf => ?_)
    exact ev_sts 1 (c2 := (148, [mK, mK], [.int (S39 64 p1.toNatClampNeg)], S39, 0)) rfl (f_X10_count_b148_ok hf)
def f_X10_days_b38 (F : Nat) : Nat → Int32 → Int32 → Int32 → mS → Option mR
  | 0, _, _, _, _ => none
  | n + 1, x1, x2, x3, S => (if x1 ≤ x3 then some (.inl (some (.int x2)), S) else bI0 (f_X10_oneDay F ((0 : Int32)) S) (fun r8 S7 => bnd (x2 + r8 : Int32) (fun y9 => f_X10_days_b38 F n x1 y9 (x3 + (1 : Int32)) S7)))
def f_X10_days_b21 (F : Nat) (x1 : Int32) (t1 : Int32) (S : mS) : Option mR := bI0 (f_X10_throwsIf t1 ((1 : Int32)) S) (fun r5 S4 => (if r5 = 0 then bV0 (f_X10_remembers F S4) (fun S6 => f_X10_days_b38 F F x1 ((0 : Int32)) ((0 : Int32)) S6) else some (.inl (some (.int ((0 : Int32)))), S4)))
def f_X10_days (F : Nat) (p1 : Int32) (S : mS) : Option mR := bnd (upS S 63 0 ((0 : Int32))) (fun S1 => bI0 (f_X10_in p1 ((1 : Int32)) ((60 : Int32)) S1) (fun r3 S2 => (if ¬ r3 = 0 then f_X10_days_b21 F p1 ((0 : Int32)) S2 else f_X10_days_b21 F p1 ((1 : Int32)) S2)))
theorem f_X10_days_b38_ok {d F : Nat} : ∀ (n : Nat) {x1 : Int32} {x2 : Int32} {x3 : Int32} {S : mS} {r : mR}, f_X10_days_b38 F n x1 x2 x3 S = some r → Ev (d + 9) Mx249 (38, [.ref 63, .int x1, .int x2, .int x3], [], S, 0) r := by
  intro n
  induction n with
  | zero => intro x1 x2 x3 S r hf; cases hf
  | succ n ih =>
    intro x1 x2 x3 S r hf
    rw [f_X10_days_b38] at hf
    refine ev_sts 2 (c2 := (40, [.ref 63, .int x1, .int x2, .int x3], [.int x1, .int x3], S, 0)) rfl ?_
    refine ev_if (c1 := (57, [.ref 63, .int x1, .int x2, .int x3], [], S, 0)) (c2 := (43, [.ref 63, .int x1, .int x2, .int x3], [], S, 0)) hf rfl rfl (fun _ hf => ?_) (fun _ hf => ?_)
    · refine ev_sts 1 (c2 := (58, [.ref 63, .int x1, .int x2, .int x3], [.int x2], S, 0)) rfl ?_
      exact ev_ret hf rfl rfl
    · refine ev_sts 3 (c2 := (46, [.ref 63, .int x1, .int x2, .int x3], [.int ((0 : Int32)), .ref 63, .int x2], S, 0)) rfl ?_
      refine ev_bI0 (d := d + 8) (M' := Mx246) (ct := (49, [.ref 63, .int x1, .int x2, .int x3], [.int x2], S, 0)) hf rfl rfl rfl rfl (fun r9 h9 => f_X10_oneDay_ok (d := d) h9) (fun r8 S7 hf => ?_)
      show Ev (d + 9) Mx249 (49, [.ref 63, .int x1, .int x2, .int x3], [.int r8, .int x2], S7, 0) r
      refine ev_sts 2 (c2 := (51, [.ref 63, .int x1, .int (x2 + r8), .int x3], [], S7, 0)) rfl ?_
      refine ev_let (P := fun y9 => Ev (d + 9) Mx249 (51, [.ref 63, .int x1, .int y9, .int x3], [], S7, 0) r) (fun y9 hf => ?_) hf
      exact ev_sts 2 (c2 := (38, [.ref 63, .int x1, .int y9, .int (x3 + (1 : Int32))], [], S7, 0)) rfl (ih hf)
theorem f_X10_days_b21_ok {d F : Nat} {x1 : Int32} {t1 : Int32} {S : mS} {r : mR} (hf : f_X10_days_b21 F x1 t1 S = some r) : Ev (d + 9) Mx249 (21, [.ref 63, .int x1, mK, mK], [.int t1, .ref 63], S, 0) r := by
  unfold f_X10_days_b21 at hf
  refine ev_sts 1 (c2 := (22, [.ref 63, .int x1, mK, mK], [.int ((1 : Int32)), .int t1, .ref 63], S, 0)) rfl ?_
  refine ev_bI0 (d := d + 8) (M' := Mx155) (ct := (25, [.ref 63, .int x1, mK, mK], [], S, 0)) hf rfl rfl rfl rfl (fun r9 h9 => f_X10_throwsIf_ok (d := d + 8) h9) (fun r5 S4 hf => ?_)
  show Ev (d + 9) Mx249 (25, [.ref 63, .int x1, mK, mK], [.int r5], S4, 0) r
  refine ev_if (c1 := (30, [.ref 63, .int x1, mK, mK], [], S4, 0)) (c2 := (28, [.ref 63, .int x1, mK, mK], [], S4, 0)) hf rfl rfl (fun _ hf => ?_) (fun _ hf => ?_)
  · refine ev_sts 1 (c2 := (31, [.ref 63, .int x1, mK, mK], [.ref 63], S4, 0)) rfl ?_
    refine ev_bV0 (d := d + 8) (M' := Mx160) (ct := (34, [.ref 63, .int x1, mK, mK], [], S4, 0)) hf rfl rfl rfl rfl (fun r9 h9 => f_X10_remembers_ok (d := d + 8) h9) (fun S6 hf => ?_)
    show Ev (d + 9) Mx249 (34, [.ref 63, .int x1, mK, mK], [], S6, 0) r
    exact ev_sts 4 (c2 := (38, [.ref 63, .int x1, .int ((0 : Int32)), .int ((0 : Int32))], [], S6, 0)) rfl (f_X10_days_b38_ok _ hf)
  · refine ev_sts 1 (c2 := (29, [.ref 63, .int x1, mK, mK], [.int ((0 : Int32))], S4, 0)) rfl ?_
    exact ev_ret hf rfl rfl
theorem f_X10_days_ok {d F : Nat} {p1 : Int32} {S : mS} {r : mR} (hf : f_X10_days F p1 S = some r) : Ev (d + 9) Mx249 (entry Mx249 [.ref 63, .int p1] S) r := by
  unfold f_X10_days at hf
  refine ev_sts 3 (c2 := (5, [.ref 63, .int p1, mK, mK], [], (upS S 63 0 ((0 : Int32))), 0)) rfl ?_
  refine ev_let (P := fun S1 => Ev (d + 9) Mx249 (5, [.ref 63, .int p1, mK, mK], [], S1, 0) r) (fun S1 hf => ?_) hf
  refine ev_sts 4 (c2 := (10, [.ref 63, .int p1, mK, mK], [.int ((60 : Int32)), .int ((1 : Int32)), .int p1, .ref 63], S1, 0)) rfl ?_
  refine ev_bI0 (d := d + 8) (M' := Mx156) (ct := (13, [.ref 63, .int p1, mK, mK], [.ref 63], S1, 0)) hf rfl rfl rfl rfl (fun r9 h9 => f_X10_in_ok (d := d + 8) h9) (fun r3 S2 hf => ?_)
  show Ev (d + 9) Mx249 (13, [.ref 63, .int p1, mK, mK], [.int r3, .ref 63], S2, 0) r
  refine ev_if (c1 := (20, [.ref 63, .int p1, mK, mK], [.ref 63], S2, 0)) (c2 := (16, [.ref 63, .int p1, mK, mK], [.ref 63], S2, 0)) hf rfl rfl (fun _ hf => ?_) (fun _ hf => ?_)
  · exact ev_sts 1 (c2 := (21, [.ref 63, .int p1, mK, mK], [.int ((0 : Int32)), .ref 63], S2, 0)) rfl (f_X10_days_b21_ok hf)
  · exact ev_sts 2 (c2 := (21, [.ref 63, .int p1, mK, mK], [.int ((1 : Int32)), .ref 63], S2, 0)) rfl (f_X10_days_b21_ok hf)
def f_X10_emits (p1 : Int32) (p2 : Int32) (S : mS) : Option mR := gd (inb (((1345 : Int32)) + (((2 : Int32)) * (S 63 16))) 2145) (bnd (upS S 64 (((1345 : Int32)) + (((2 : Int32)) * (S 63 16))).toNatClampNeg p1) (fun S1 => gd (inb ((((1345 : Int32)) + (((2 : Int32)) * (S1 63 16))) + ((1 : Int32))) 2145) (bnd (upS S1 64 ((((1345 : Int32)) + (((2 : Int32)) * (S1 63 16))) + ((1 : Int32))).toNatClampNeg p2) (fun S2 => bnd (upS S2 63 16 ((S2 63 16) + ((1 : Int32)))) (fun S3 => some (.inl none, S3))))))
theorem f_X10_emits_ok {d : Nat} {p1 : Int32} {p2 : Int32} {S : mS} {r : mR} (hf : f_X10_emits p1 p2 S = some r) : Ev (d) Mx192 (entry Mx192 [.ref 63, .int p1, .int p2] S) r := by
  unfold f_X10_emits at hf
  refine ev_sts 9 (c2 := (15, [.ref 63, .int p1, .int p2], [.int p1, .int (((1345 : Int32)) + (((2 : Int32)) * (S 63 16))), .ref 64], S, 0)) rfl ?_
  refine ev_gd (c1 := (16, [.ref 63, .int p1, .int p2], [], (upS S 64 (((1345 : Int32)) + (((2 : Int32)) * (S 63 16))).toNatClampNeg p1), 0)) hf rfl rfl (fun hf => ?_)
  refine ev_let (P := fun S1 => Ev (d) Mx192 (16, [.ref 63, .int p1, .int p2], [], S1, 0) r) (fun S1 hf => ?_) hf
  refine ev_sts 11 (c2 := (33, [.ref 63, .int p1, .int p2], [.int p2, .int ((((1345 : Int32)) + (((2 : Int32)) * (S1 63 16))) + ((1 : Int32))), .ref 64], S1, 0)) rfl ?_
  refine ev_gd (c1 := (34, [.ref 63, .int p1, .int p2], [], (upS S1 64 ((((1345 : Int32)) + (((2 : Int32)) * (S1 63 16))) + ((1 : Int32))).toNatClampNeg p2), 0)) hf rfl rfl (fun hf => ?_)
  refine ev_let (P := fun S2 => Ev (d) Mx192 (34, [.ref 63, .int p1, .int p2], [], S2, 0) r) (fun S2 hf => ?_) hf
  refine ev_sts 6 (c2 := (44, [.ref 63, .int p1, .int p2], [], (upS S2 63 16 ((S2 63 16) + ((1 : Int32)))), 0)) rfl ?_
  refine ev_let (P := fun S3 => Ev (d) Mx192 (44, [.ref 63, .int p1, .int p2], [], S3, 0) r) (fun S3 hf => ?_) hf
  exact ev_ret hf rfl rfl
def f_X10_end_b17 (S : mS) : Option mR := some (.inl (some (.int (((0 : Int32)) &&& 1))), S)
def f_X10_end (p1 : Int32) (S : mS) : Option mR := bnd (upS S 63 0 ((0 : Int32))) (fun S1 => (if p1 < 0 then f_X10_end_b17 S1 else (if p1 ≤ (S1 63 9) then bnd (upS S1 63 9 p1) (fun S2 => some (.inl (some (.int (((1 : Int32)) &&& 1))), S2)) else f_X10_end_b17 S1)))
theorem f_X10_end_b17_ok {d : Nat} {S : mS} {r : mR} (hf : f_X10_end_b17  S = some r) : Ev (d) Mx175 (17, [mK, mK], [], S, 0) r := by
  unfold f_X10_end_b17 at hf
  refine ev_sts 1 (c2 := (18, [mK, mK], [.int ((0 : Int32))], S, 0)) rfl ?_
  exact ev_ret hf rfl rfl
theorem f_X10_end_ok {d : Nat} {p1 : Int32} {S : mS} {r : mR} (hf : f_X10_end p1 S = some r) : Ev (d) Mx175 (entry Mx175 [.ref 63, .int p1] S) r := by
  unfold f_X10_end at hf
  refine ev_sts 3 (c2 := (5, [.ref 63, .int p1], [], (upS S 63 0 ((0 : Int32))), 0)) rfl ?_
  refine ev_let (P := fun S1 => Ev (d) Mx175 (5, [.ref 63, .int p1], [], S1, 0) r) (fun S1 hf => ?_) hf
  refine ev_sts 1 (c2 := (6, [.ref 63, .int p1], [.int p1], S1, 0)) rfl ?_
  refine ev_if (c1 := (17, [mK, mK], [], S1, 0)) (c2 := (9, [.ref 63, .int p1], [], S1, 0)) hf rfl rfl (fun _ hf => ?_) (fun _ hf => ?_)
  · exact f_X10_end_b17_ok hf
  · refine ev_sts 3 (c2 := (14, [.ref 63, .int p1], [.int (S1 63 9), .int p1], S1, 0)) rfl ?_
    refine ev_if (c1 := (19, [.ref 63, .int p1], [], S1, 0)) (c2 := (17, [mK, mK], [], S1, 0)) hf rfl rfl (fun _ hf => ?_) (fun _ hf => ?_)
    · refine ev_sts 3 (c2 := (24, [.ref 63, .int p1], [], (upS S1 63 9 p1), 0)) rfl ?_
      refine ev_let (P := fun S2 => Ev (d) Mx175 (24, [.ref 63, .int p1], [], S2, 0) r) (fun S2 hf => ?_) hf
      refine ev_sts 1 (c2 := (25, [.ref 63, .int p1], [.int ((1 : Int32))], S2, 0)) rfl ?_
      exact ev_ret hf rfl rfl
    · exact f_X10_end_b17_ok hf
def f_X10_noBoth_b21 (t0 : Int32) (S : mS) : Option mR := some (.inl (some (.int (t0 &&& 1))), S)
def f_X10_noBoth_b16 (S : mS) : Option mR := f_X10_noBoth_b21 ((1 : Int32)) S
def f_X10_noBoth (p1 : Int32) (p2 : Int32) (S : mS) : Option mR := bI0 (f_X10_noClimber p1 S) (fun r2 S1 => (if ¬ r2 = 0 then f_X10_noBoth_b16 S1 else bI0 (f_X10_noLedge p2 S1) (fun r4 S3 => (if r4 = 0 then f_X10_noBoth_b21 ((0 : Int32)) S3 else f_X10_noBoth_b16 S3))))
theorem f_X10_noBoth_b21_ok {d : Nat} {t0 : Int32} {S : mS} {r : mR} (hf : f_X10_noBoth_b21 t0 S = some r) : Ev (d + 2) Mx224 (21, [mK, mK, mK], [.int t0], S, 0) r := by
  unfold f_X10_noBoth_b21 at hf
  exact ev_ret hf rfl rfl
theorem f_X10_noBoth_b16_ok {d : Nat} {S : mS} {r : mR} (hf : f_X10_noBoth_b16  S = some r) : Ev (d + 2) Mx224 (16, [mK, mK, mK], [], S, 0) r := by
  unfold f_X10_noBoth_b16 at hf
  exact ev_sts 2 (c2 := (21, [mK, mK, mK], [.int ((1 : Int32))], S, 0)) rfl (f_X10_noBoth_b21_ok hf)
theorem f_X10_noBoth_ok {d : Nat} {p1 : Int32} {p2 : Int32} {S : mS} {r : mR} (hf : f_X10_noBoth p1 p2 S = some r) : Ev (d + 2) Mx224 (entry Mx224 [.ref 63, .int p1, .int p2] S) r := by
  unfold f_X10_noBoth at hf
  refine ev_sts 2 (c2 := (2, [.ref 63, .int p1, .int p2], [.int p1, .ref 63], S, 0)) rfl ?_
  refine ev_bI0 (d := d + 1) (M' := Mx171) (ct := (5, [.ref 63, .int p1, .int p2], [], S, 0)) hf rfl rfl rfl rfl (fun r9 h9 => f_X10_noClimber_ok (d := d) h9) (fun r2 S1 hf => ?_)
  show Ev (d + 2) Mx224 (5, [.ref 63, .int p1, .int p2], [.int r2], S1, 0) r
  refine ev_if (c1 := (16, [mK, mK, mK], [], S1, 0)) (c2 := (8, [.ref 63, .int p1, .int p2], [], S1, 0)) hf rfl rfl (fun _ hf => ?_) (fun _ hf => ?_)
  · exact f_X10_noBoth_b16_ok hf
  · refine ev_sts 2 (c2 := (10, [.ref 63, .int p1, .int p2], [.int p2, .ref 63], S1, 0)) rfl ?_
    refine ev_bI0 (d := d + 1) (M' := Mx169) (ct := (13, [.ref 63, .int p1, .int p2], [], S1, 0)) hf rfl rfl rfl rfl (fun r9 h9 => f_X10_noLedge_ok (d := d) h9) (fun r4 S3 hf => ?_)
    show Ev (d + 2) Mx224 (13, [.ref 63, .int p1, .int p2], [.int r4], S3, 0) r
    refine ev_if (c1 := (20, [.ref 63, .int p1, .int p2], [], S3, 0)) (c2 := (16, [mK, mK, mK], [], S3, 0)) hf rfl rfl (fun _ hf => ?_) (fun _ hf => ?_)
    · exact ev_sts 1 (c2 := (21, [mK, mK, mK], [.int ((0 : Int32))], S3, 0)) rfl (f_X10_noBoth_b21_ok hf)
    · exact f_X10_noBoth_b16_ok hf
def f_X10_enough_b64 (K29 : Int32 → Int32 → Int32 → Int32 → mS → Option mR) (F : Nat) (x1 : Int32) (x2 : Int32) (x3 : Int32) (x4 : Int32) (S : mS) : Option mR := K29 x1 x2 x3 (x4 + (-1 : Int32)) S
def f_X10_enough_b61 (K29 : Int32 → Int32 → Int32 → Int32 → mS → Option mR) (F : Nat) (x1 : Int32) (x2 : Int32) (x4 : Int32) (S : mS) : Option mR := f_X10_enough_b64 K29 F x1 x2 x4 x4 S
def f_X10_enough_b29 (F : Nat) : Nat → Int32 → Int32 → Int32 → Int32 → mS → Option mR
  | 0, _, _, _, _, _ => none
  | n + 1, x1, x2, x3, x4, S => (if x4 < 0 then some (.inl (some (.int x3)), S) else bI0 (f_X10_isHeld F x1 x2 x4 S) (fun r9 S8 => (if r9 = 0 then f_X10_enough_b64 (fun x1 x2 x3 x4 S => f_X10_enough_b29 F n x1 x2 x3 x4 S) F x1 x2 x3 x4 S8 else (if x3 < 0 then f_X10_enough_b61 (fun x1 x2 x3 x4 S => f_X10_enough_b29 F n x1 x2 x3 x4 S) F x1 x2 x4 S8 else bI0 (f_J6_bitCount_0f7a4 x4 S8) (fun r11 S10 => bI0 (f_J6_bitCount_0f7a4 x3 S10) (fun r13 S12 => (if r13 < r11 then f_X10_enough_b64 (fun x1 x2 x3 x4 S => f_X10_enough_b29 F n x1 x2 x3 x4 S) F x1 x2 x3 x4 S12 else f_X10_enough_b61 (fun x1 x2 x3 x4 S => f_X10_enough_b29 F n x1 x2 x3 x4 S) F x1 x2 x4 S12)))))))
def f_X10_enough (F : Nat) (p1 : Int32) (p2 : Int32) (S : mS) : Option mR := bnd (upS S 63 0 ((0 : Int32))) (fun S1 => bI0 (f_X10_noBoth p1 p2 S1) (fun r3 S2 => bI0 (f_X10_throwsIf r3 ((1 : Int32)) S2) (fun r5 S4 => (if r5 = 0 then bI0 (f_X10_allHolders S4) (fun r7 S6 => f_X10_enough_b29 F F p1 p2 ((-1 : Int32)) r7 S6) else some (.inl (some (.int ((0 : Int32)))), S4)))))
theorem f_X10_enough_b64_ok {d F : Nat} {K29 : Int32 → Int32 → Int32 → Int32 → mS → Option mR} (hK29 : ∀ {x1 : Int32} {x2 : Int32} {x3 : Int32} {x4 : Int32} {S : mS} {r : mR}, K29 x1 x2 x3 x4 S = some r → Ev (d + 4) Mx227 (29, [.ref 63, .int x1, .int x2, .int x3, .int x4], [], S, 0) r) {x1 : Int32} {x2 : Int32} {x3 : Int32} {x4 : Int32} {S : mS} {r : mR} (hf : f_X10_enough_b64 K29 F x1 x2 x3 x4 S = some r) : Ev (d + 4) Mx227 (64, [.ref 63, .int x1, .int x2, .int x3, .int x4], [], S, 0) r := by
  unfold f_X10_enough_b64 at hf
  exact ev_sts 2 (c2 := (29, [.ref 63, .int x1, .int x2, .int x3, .int (x4 + (-1 : Int32))], [], S, 0)) rfl (hK29 hf)
theorem f_X10_enough_b61_ok {d F : Nat} {K29 : Int32 → Int32 → Int32 → Int32 → mS → Option mR} (hK29 : ∀ {x1 : Int32} {x2 : Int32} {x3 : Int32} {x4 : Int32} {S : mS} {r : mR}, K29 x1 x2 x3 x4 S = some r → Ev (d + 4) Mx227 (29, [.ref 63, .int x1, .int x2, .int x3, .int x4], [], S, 0) r) {x1 : Int32} {x2 : Int32} {x4 : Int32} {S : mS} {r : mR} (hf : f_X10_enough_b61 K29 F x1 x2 x4 S = some r) : Ev (d + 4) Mx227 (61, [.ref 63, .int x1, .int x2, mK, .int x4], [], S, 0) r := by
  unfold f_X10_enough_b61 at hf
  exact ev_sts 2 (c2 := (64, [.ref 63, .int x1, .int x2, .int x4, .int x4], [], S, 0)) rfl (f_X10_enough_b64_ok hK29 hf)
theorem f_X10_enough_b29_ok {d F : Nat} : ∀ (n : Nat) {x1 : Int32} {x2 : Int32} {x3 : Int32} {x4 : Int32} {S : mS} {r : mR}, f_X10_enough_b29 F n x1 x2 x3 x4 S = some r → Ev (d + 4) Mx227 (29, [.ref 63, .int x1, .int x2, .int x3, .int x4], [], S, 0) r := by
  intro n
  induction n with
  | zero => intro x1 x2 x3 x4 S r hf; cases hf
  | succ n ih =>
    intro x1 x2 x3 x4 S r hf
    rw [f_X10_enough_b29] at hf
    refine ev_sts 1 (c2 := (31, [.ref 63, .int x1, .int x2, .int x3, .int x4], [.int x4], S, 0)) rfl ?_
    refine ev_if (c1 := (70, [.ref 63, .int x1, .int x2, .int x3, .int x4], [], S, 0)) (c2 := (34, [.ref 63, .int x1, .int x2, .int x3, .int x4], [], S, 0)) hf rfl rfl (fun _ hf => ?_) (fun _ hf => ?_)
    · refine ev_sts 1 (c2 := (71, [.ref 63, .int x1, .int x2, .int x3, .int x4], [.int x3], S, 0)) rfl ?_
      exact ev_ret hf rfl rfl
    · refine ev_sts 4 (c2 := (39, [.ref 63, .int x1, .int x2, .int x3, .int x4], [.int x4, .int x2, .int x1, .ref 63], S, 0)) rfl ?_
      refine ev_bI0 (d := d + 3) (M' := Mx223) (ct := (42, [.ref 63, .int x1, .int x2, .int x3, .int x4], [], S, 0)) hf rfl rfl rfl rfl (fun r9 h9 => f_X10_isHeld_ok (d := d) h9) (fun r9 S8 hf => ?_)
      show Ev (d + 4) Mx227 (42, [.ref 63, .int x1, .int x2, .int x3, .int x4], [.int r9], S8, 0) r
      refine ev_if (c1 := (64, [.ref 63, .int x1, .int x2, .int x3, .int x4], [], S8, 0)) (c2 := (45, [.ref 63, .int x1, .int x2, .int x3, .int x4], [], S8, 0)) hf rfl rfl (fun _ hf => ?_) (fun _ hf => ?_)
      · exact f_X10_enough_b64_ok (fun h9 => ih h9) hf
      · refine ev_sts 1 (c2 := (46, [.ref 63, .int x1, .int x2, .int x3, .int x4], [.int x3], S8, 0)) rfl ?_
        refine ev_if (c1 := (61, [.ref 63, .int x1, .int x2, mK, .int x4], [], S8, 0)) (c2 := (49, [.ref 63, .int x1, .int x2, .int x3, .int x4], [], S8, 0)) hf rfl rfl (fun _ hf => ?_) (fun _ hf => ?_)
        · exact f_X10_enough_b61_ok (fun h9 => ih h9) hf
        · refine ev_sts 1 (c2 := (51, [.ref 63, .int x1, .int x2, .int x3, .int x4], [.int x4], S8, 0)) rfl ?_
          refine ev_bI0 (d := d + 3) (M' := Mx284) (ct := (54, [.ref 63, .int x1, .int x2, .int x3, .int x4], [], S8, 0)) hf rfl rfl rfl rfl (fun r9 h9 => f_J6_bitCount_0f7a4_ok (d := d + 3) h9) (fun r11 S10 hf => ?_)
          show Ev (d + 4) Mx227 (54, [.ref 63, .int x1, .int x2, .int x3, .int x4], [.int r11], S10, 0) r
          refine ev_sts 1 (c2 := (55, [.ref 63, .int x1, .int x2, .int x3, .int x4], [.int x3, .int r11], S10, 0)) rfl ?_
          refine ev_bI0 (d := d + 3) (M' := Mx284) (ct := (58, [.ref 63, .int x1, .int x2, .int x3, .int x4], [.int r11], S10, 0)) hf rfl rfl rfl rfl (fun r9 h9 => f_J6_bitCount_0f7a4_ok (d := d + 3) h9) (fun r13 S12 hf => ?_)
          show Ev (d + 4) Mx227 (58, [.ref 63, .int x1, .int x2, .int x3, .int x4], [.int r13, .int r11], S12, 0) r
          refine ev_if (c1 := (64, [.ref 63, .int x1, .int x2, .int x3, .int x4], [], S12, 0)) (c2 := (61, [.ref 63, .int x1, .int x2, mK, .int x4], [], S12, 0)) hf rfl rfl (fun _ hf => ?_) (fun _ hf => ?_)
          · exact f_X10_enough_b64_ok (fun h9 => ih h9) hf
          · exact f_X10_enough_b61_ok (fun h9 => ih h9) hf
theorem f_X10_enough_ok {d F : Nat} {p1 : Int32} {p2 : Int32} {S : mS} {r : mR} (hf : f_X10_enough F p1 p2 S = some r) : Ev (d + 4) Mx227 (entry Mx227 [.ref 63, .int p1, .int p2] S) r := by
  unfold f_X10_enough at hf
  refine ev_sts 3 (c2 := (5, [.ref 63, .int p1, .int p2, mK, mK], [], (upS S 63 0 ((0 : Int32))), 0)) rfl ?_
  refine ev_let (P := fun S1 => Ev (d + 4) Mx227 (5, [.ref 63, .int p1, .int p2, mK, mK], [], S1, 0) r) (fun S1 hf => ?_) hf
  refine ev_sts 4 (c2 := (9, [.ref 63, .int p1, .int p2, mK, mK], [.int p2, .int p1, .ref 63, .ref 63], S1, 0)) rfl ?_
  refine ev_bI0 (d := d + 3) (M' := Mx224) (ct := (12, [.ref 63, .int p1, .int p2, mK, mK], [.ref 63], S1, 0)) hf rfl rfl rfl rfl (fun r9 h9 => f_X10_noBoth_ok (d := d + 1) h9) (fun r3 S2 hf => ?_)
  show Ev (d + 4) Mx227 (12, [.ref 63, .int p1, .int p2, mK, mK], [.int r3, .ref 63], S2, 0) r
  refine ev_sts 1 (c2 := (13, [.ref 63, .int p1, .int p2, mK, mK], [.int ((1 : Int32)), .int r3, .ref 63], S2, 0)) rfl ?_
  refine ev_bI0 (d := d + 3) (M' := Mx155) (ct := (16, [.ref 63, .int p1, .int p2, mK, mK], [], S2, 0)) hf rfl rfl rfl rfl (fun r9 h9 => f_X10_throwsIf_ok (d := d + 3) h9) (fun r5 S4 hf => ?_)
  show Ev (d + 4) Mx227 (16, [.ref 63, .int p1, .int p2, mK, mK], [.int r5], S4, 0) r
  refine ev_if (c1 := (21, [.ref 63, .int p1, .int p2, mK, mK], [], S4, 0)) (c2 := (19, [.ref 63, .int p1, .int p2, mK, mK], [], S4, 0)) hf rfl rfl (fun _ hf => ?_) (fun _ hf => ?_)
  · refine ev_sts 3 (c2 := (24, [.ref 63, .int p1, .int p2, .int ((-1 : Int32)), mK], [.ref 63], S4, 0)) rfl ?_
    refine ev_bI0 (d := d + 3) (M' := Mx221) (ct := (27, [.ref 63, .int p1, .int p2, .int ((-1 : Int32)), mK], [], S4, 0)) hf rfl rfl rfl rfl (fun r9 h9 => f_X10_allHolders_ok (d := d + 2) h9) (fun r7 S6 hf => ?_)
    show Ev (d + 4) Mx227 (27, [.ref 63, .int p1, .int p2, .int ((-1 : Int32)), mK], [.int r7], S6, 0) r
    exact ev_sts 1 (c2 := (29, [.ref 63, .int p1, .int p2, .int ((-1 : Int32)), .int r7], [], S6, 0)) rfl (f_X10_enough_b29_ok _ hf)
  · refine ev_sts 1 (c2 := (20, [.ref 63, .int p1, .int p2, mK, mK], [.int ((0 : Int32))], S4, 0)) rfl ?_
    exact ev_ret hf rfl rfl
def f_X10_noWind_b15 (t0 : Int32) (S : mS) : Option mR := some (.inl (some (.int (t0 &&& 1))), S)
def f_X10_noWind (p0 : Int32) (S : mS) : Option mR := bI0 (f_X10_in p0 ((0 : Int32)) ((9 : Int32)) S) (fun r2 S1 => (if ¬ r2 = 0 then f_X10_noWind_b15 ((0 : Int32)) S1 else f_X10_noWind_b15 ((1 : Int32)) S1))
theorem f_X10_noWind_b15_ok {d : Nat} {t0 : Int32} {S : mS} {r : mR} (hf : f_X10_noWind_b15 t0 S = some r) : Ev (d + 1) Mx172 (15, [mK], [.int t0], S, 0) r := by
  unfold f_X10_noWind_b15 at hf
  exact ev_ret hf rfl rfl
theorem f_X10_noWind_ok {d : Nat} {p0 : Int32} {S : mS} {r : mR} (hf : f_X10_noWind p0 S = some r) : Ev (d + 1) Mx172 (entry Mx172 [.int p0] S) r := by
  unfold f_X10_noWind at hf
  refine ev_sts 3 (c2 := (4, [.int p0], [.int ((9 : Int32)), .int ((0 : Int32)), .int p0], S, 0)) rfl ?_
  refine ev_bI0 (d := d) (M' := Mx156) (ct := (7, [.int p0], [], S, 0)) hf rfl rfl rfl rfl (fun r9 h9 => f_X10_in_ok (d := d) h9) (fun r2 S1 hf => ?_)
  show Ev (d + 1) Mx172 (7, [.int p0], [.int r2], S1, 0) r
  refine ev_if (c1 := (14, [.int p0], [], S1, 0)) (c2 := (10, [.int p0], [], S1, 0)) hf rfl rfl (fun _ hf => ?_) (fun _ hf => ?_)
  · exact ev_sts 1 (c2 := (15, [mK], [.int ((0 : Int32))], S1, 0)) rfl (f_X10_noWind_b15_ok hf)
  · exact ev_sts 2 (c2 := (15, [mK], [.int ((1 : Int32))], S1, 0)) rfl (f_X10_noWind_b15_ok hf)
def f_X10_farthest_b59 (F : Nat) (t0 : Int32) (S : mS) : Option mR := some (.inl (some (.int t0)), S)
def f_X10_farthest_b48 (F : Nat) (S : mS) : Option mR := f_X10_farthest_b59 F ((0 : Int32)) S
def f_X10_farthest_b41 (F : Nat) (x1 : Int32) (x2 : Int32) (x3 : Int32) (t1 : Int32) (S : mS) : Option mR := bI0 (f_X10_throwsIf t1 ((2 : Int32)) S) (fun r9 S8 => (if r9 = 0 then bI0 (f_X10_swings F x1 x2 x3 S8) (fun r11 S10 => f_X10_farthest_b59 F r11 S10) else f_X10_farthest_b48 F S8))
def f_X10_farthest_b36 (F : Nat) (x1 : Int32) (x2 : Int32) (x3 : Int32) (S : mS) : Option mR := f_X10_farthest_b41 F x1 x2 x3 ((1 : Int32)) S
def f_X10_farthest (F : Nat) (p1 : Int32) (p2 : Int32) (p3 : Int32) (S : mS) : Option mR := bnd (upS S 63 0 ((0 : Int32))) (fun S1 => bI0 (f_X10_noLedge p1 S1) (fun r3 S2 => bI0 (f_X10_throwsIf r3 ((1 : Int32)) S2) (fun r5 S4 => (if ¬ r5 = 0 then f_X10_farthest_b48 F S4 else bI0 (f_X10_in p2 ((0 : Int32)) ((12 : Int32)) S4) (fun r7 S6 => (if r7 = 0 then f_X10_farthest_b36 F p1 p2 p3 S6 else bI0 (f_X10_noWind p3 S6) (fun r13 S12 => (if r13 = 0 then f_X10_farthest_b41 F p1 p2 p3 ((0 : Int32)) S12 else f_X10_farthest_b36 F p1 p2 p3 S12))))))))
theorem f_X10_farthest_b59_ok {d F : Nat} {t0 : Int32} {S : mS} {r : mR} (hf : f_X10_farthest_b59 F t0 S = some r) : Ev (d + 8) Mx218 (59, [mK, mK, mK, mK], [.int t0], S, 0) r := by
  unfold f_X10_farthest_b59 at hf
  exact ev_ret hf rfl rfl
theorem f_X10_farthest_b48_ok {d F : Nat} {S : mS} {r : mR} (hf : f_X10_farthest_b48 F  S = some r) : Ev (d + 8) Mx218 (48, [mK, mK, mK, mK], [], S, 0) r := by
  unfold f_X10_farthest_b48 at hf
  exact ev_sts 2 (c2 := (59, [mK, mK, mK, mK], [.int ((0 : Int32))], S, 0)) rfl (f_X10_farthest_b59_ok hf)
theorem f_X10_farthest_b41_ok {d F : Nat} {x1 : Int32} {x2 : Int32} {x3 : Int32} {t1 : Int32} {S : mS} {r : mR} (hf : f_X10_farthest_b41 F x1 x2 x3 t1 S = some r) : Ev (d + 8) Mx218 (41, [.ref 63, .int x1, .int x2, .int x3], [.int t1, .ref 63], S, 0) r := by
  unfold f_X10_farthest_b41 at hf
  refine ev_sts 1 (c2 := (42, [.ref 63, .int x1, .int x2, .int x3], [.int ((2 : Int32)), .int t1, .ref 63], S, 0)) rfl ?_
  refine ev_bI0 (d := d + 7) (M' := Mx155) (ct := (45, [.ref 63, .int x1, .int x2, .int x3], [], S, 0)) hf rfl rfl rfl rfl (fun r9 h9 => f_X10_throwsIf_ok (d := d + 7) h9) (fun r9 S8 hf => ?_)
  show Ev (d + 8) Mx218 (45, [.ref 63, .int x1, .int x2, .int x3], [.int r9], S8, 0) r
  refine ev_if (c1 := (52, [.ref 63, .int x1, .int x2, .int x3], [], S8, 0)) (c2 := (48, [mK, mK, mK, mK], [], S8, 0)) hf rfl rfl (fun _ hf => ?_) (fun _ hf => ?_)
  · refine ev_sts 4 (c2 := (56, [.ref 63, .int x1, .int x2, .int x3], [.int x3, .int x2, .int x1, .ref 63], S8, 0)) rfl ?_
    refine ev_bI0 (d := d + 7) (M' := Mx208) (ct := (59, [mK, mK, mK, mK], [], S8, 0)) hf rfl rfl rfl rfl (fun r9 h9 => f_X10_swings_ok (d := d) h9) (fun r11 S10 hf => ?_)
    show Ev (d + 8) Mx218 (59, [mK, mK, mK, mK], [.int r11], S10, 0) r
    exact f_X10_farthest_b59_ok hf
  · exact f_X10_farthest_b48_ok hf
theorem f_X10_farthest_b36_ok {d F : Nat} {x1 : Int32} {x2 : Int32} {x3 : Int32} {S : mS} {r : mR} (hf : f_X10_farthest_b36 F x1 x2 x3 S = some r) : Ev (d + 8) Mx218 (36, [.ref 63, .int x1, .int x2, .int x3], [.ref 63], S, 0) r := by
  unfold f_X10_farthest_b36 at hf
  exact ev_sts 2 (c2 := (41, [.ref 63, .int x1, .int x2, .int x3], [.int ((1 : Int32)), .ref 63], S, 0)) rfl (f_X10_farthest_b41_ok hf)
theorem f_X10_farthest_ok {d F : Nat} {p1 : Int32} {p2 : Int32} {p3 : Int32} {S : mS} {r : mR} (hf : f_X10_farthest F p1 p2 p3 S = some r) : Ev (d + 8) Mx218 (entry Mx218 [.ref 63, .int p1, .int p2, .int p3] S) r := by
  unfold f_X10_farthest at hf
  refine ev_sts 3 (c2 := (5, [.ref 63, .int p1, .int p2, .int p3], [], (upS S 63 0 ((0 : Int32))), 0)) rfl ?_
  refine ev_let (P := fun S1 => Ev (d + 8) Mx218 (5, [.ref 63, .int p1, .int p2, .int p3], [], S1, 0) r) (fun S1 hf => ?_) hf
  refine ev_sts 3 (c2 := (8, [.ref 63, .int p1, .int p2, .int p3], [.int p1, .ref 63, .ref 63], S1, 0)) rfl ?_
  refine ev_bI0 (d := d + 7) (M' := Mx169) (ct := (11, [.ref 63, .int p1, .int p2, .int p3], [.ref 63], S1, 0)) hf rfl rfl rfl rfl (fun r9 h9 => f_X10_noLedge_ok (d := d + 6) h9) (fun r3 S2 hf => ?_)
  show Ev (d + 8) Mx218 (11, [.ref 63, .int p1, .int p2, .int p3], [.int r3, .ref 63], S2, 0) r
  refine ev_sts 1 (c2 := (12, [.ref 63, .int p1, .int p2, .int p3], [.int ((1 : Int32)), .int r3, .ref 63], S2, 0)) rfl ?_
  refine ev_bI0 (d := d + 7) (M' := Mx155) (ct := (15, [.ref 63, .int p1, .int p2, .int p3], [], S2, 0)) hf rfl rfl rfl rfl (fun r9 h9 => f_X10_throwsIf_ok (d := d + 7) h9) (fun r5 S4 hf => ?_)
  show Ev (d + 8) Mx218 (15, [.ref 63, .int p1, .int p2, .int p3], [.int r5], S4, 0) r
  refine ev_if (c1 := (48, [mK, mK, mK, mK], [], S4, 0)) (c2 := (18, [.ref 63, .int p1, .int p2, .int p3], [], S4, 0)) hf rfl rfl (fun _ hf => ?_) (fun _ hf => ?_)
  · exact f_X10_farthest_b48_ok hf
  · refine ev_sts 4 (c2 := (23, [.ref 63, .int p1, .int p2, .int p3], [.int ((12 : Int32)), .int ((0 : Int32)), .int p2, .ref 63], S4, 0)) rfl ?_
    refine ev_bI0 (d := d + 7) (M' := Mx156) (ct := (26, [.ref 63, .int p1, .int p2, .int p3], [.ref 63], S4, 0)) hf rfl rfl rfl rfl (fun r9 h9 => f_X10_in_ok (d := d + 7) h9) (fun r7 S6 hf => ?_)
    show Ev (d + 8) Mx218 (26, [.ref 63, .int p1, .int p2, .int p3], [.int r7, .ref 63], S6, 0) r
    refine ev_if (c1 := (36, [.ref 63, .int p1, .int p2, .int p3], [.ref 63], S6, 0)) (c2 := (29, [.ref 63, .int p1, .int p2, .int p3], [.ref 63], S6, 0)) hf rfl rfl (fun _ hf => ?_) (fun _ hf => ?_)
    · exact f_X10_farthest_b36_ok hf
    · refine ev_sts 1 (c2 := (30, [.ref 63, .int p1, .int p2, .int p3], [.int p3, .ref 63], S6, 0)) rfl ?_
      refine ev_bI0 (d := d + 7) (M' := Mx172) (ct := (33, [.ref 63, .int p1, .int p2, .int p3], [.ref 63], S6, 0)) hf rfl rfl rfl rfl (fun r9 h9 => f_X10_noWind_ok (d := d + 6) h9) (fun r13 S12 hf => ?_)
      show Ev (d + 8) Mx218 (33, [.ref 63, .int p1, .int p2, .int p3], [.int r13, .ref 63], S12, 0) r
      refine ev_if (c1 := (40, [.ref 63, .int p1, .int p2, .int p3], [.ref 63], S12, 0)) (c2 := (36, [.ref 63, .int p1, .int p2, .int p3], [.ref 63], S12, 0)) hf rfl rfl (fun _ hf => ?_) (fun _ hf => ?_)
      · exact ev_sts 1 (c2 := (41, [.ref 63, .int p1, .int p2, .int p3], [.int ((0 : Int32)), .ref 63], S12, 0)) rfl (f_X10_farthest_b41_ok hf)
      · exact f_X10_farthest_b36_ok hf
def f_X10_fault (S : mS) : Option mR := bnd (upS S 63 0 ((0 : Int32))) (fun S1 => some (.inl (some (.int (S1 63 14))), S1))
theorem f_X10_fault_ok {d : Nat} {S : mS} {r : mR} (hf : f_X10_fault S = some r) : Ev (d) Mx184 (entry Mx184 [.ref 63] S) r := by
  unfold f_X10_fault at hf
  refine ev_sts 3 (c2 := (5, [.ref 63], [], (upS S 63 0 ((0 : Int32))), 0)) rfl ?_
  refine ev_let (P := fun S1 => Ev (d) Mx184 (5, [.ref 63], [], S1, 0) r) (fun S1 hf => ?_) hf
  refine ev_sts 2 (c2 := (9, [.ref 63], [.int (S1 63 14)], S1, 0)) rfl ?_
  exact ev_ret hf rfl rfl
def f_X10_feed_b60 (F : Nat) : Nat → Int32 → mS → Option mR
  | 0, _, _ => none
  | n + 1, x6, S => (if ((20 : Int32)) ≤ x6 then bnd (upS S 63 9 ((S 63 9) + ((20 : Int32)))) (fun S7 => some (.inl (some (.int (S7 63 9))), S7)) else gd (decide (¬ (4 : Int32) = 0)) (gd (inb (x6 / ((4 : Int32))) 5) (gd (decide (¬ (4 : Int32) = 0)) (gd (inb ((S 63 9) + x6) 400) (bnd (upS S 69 ((S 63 9) + x6).toNatClampNeg (((S 70 (x6 / ((4 : Int32))).toNatClampNeg) >>> ((((24 : Int32)) - (((8 : Int32)) * (x6 - x6 / ((4 : Int32)) * ((4 : Int32))))) &&& 31)).toInt8.toInt32).toInt8.toInt32) (fun S8 => f_X10_feed_b60 F n (x6 + (1 : Int32)) S8))))))
def f_X10_feed (F : Nat) (p1 : Int32) (p2 : Int32) (p3 : Int32) (p4 : Int32) (p5 : Int32) (S : mS) : Option mR := bnd (upS S 63 0 ((0 : Int32))) (fun S1 => (if ((S1 63 9) + ((20 : Int32))) ≤ ((400 : Int32)) then gd (inb ((0 : Int32)) 5) (bnd (upS S1 70 ((0 : Int32)).toNatClampNeg p1) (fun S2 => gd (inb ((1 : Int32)) 5) (bnd (upS S2 70 ((1 : Int32)).toNatClampNeg p2) (fun S3 => gd (inb ((2 : Int32)) 5) (bnd (upS S3 70 ((2 : Int32)).toNatClampNeg p3) (fun S4 => gd (inb ((3 : Int32)) 5) (bnd (upS S4 70 ((3 : Int32)).toNatClampNeg p4) (fun S5 => gd (inb ((4 : Int32)) 5) (bnd (upS S5 70 ((4 : Int32)).toNatClampNeg p5) (fun S6 => f_X10_feed_b60 F F ((0 : Int32)) S6)))))))))) else some (.inl (some (.int ((-1 : Int32)))), S1)))
theorem f_X10_feed_b60_ok {d F : Nat} : ∀ (n : Nat) {x6 : Int32} {S : mS} {r : mR}, f_X10_feed_b60 F n x6 S = some r → Ev (d) Mx174 (60, [.ref 63, mK, mK, mK, mK, mK, .int x6], [], S, 0) r := by
  intro n
  induction n with
  | zero => intro x6 S r hf; cases hf
  | succ n ih =>
    intro x6 S r hf
    rw [f_X10_feed_b60] at hf
    refine ev_sts 2 (c2 := (64, [.ref 63, mK, mK, mK, mK, mK, .int x6], [.int ((20 : Int32)), .int x6], S, 0)) rfl ?_
    refine ev_if (c1 := (106, [.ref 63, mK, mK, mK, mK, mK, .int x6], [], S, 0)) (c2 := (67, [.ref 63, mK, mK, mK, mK, mK, .int x6], [], S, 0)) hf rfl rfl (fun _ hf => ?_) (fun _ hf => ?_)
    · refine ev_sts 6 (c2 := (117, [.ref 63, mK, mK, mK, mK, mK, .int x6], [], (upS S 63 9 ((S 63 9) + ((20 : Int32)))), 0)) rfl ?_
      refine ev_let (P := fun S7 => Ev (d) Mx174 (117, [.ref 63, mK, mK, mK, mK, mK, .int x6], [], S7, 0) r) (fun S7 hf => ?_) hf
      refine ev_sts 2 (c2 := (121, [.ref 63, mK, mK, mK, mK, mK, .int x6], [.int (S7 63 9)], S7, 0)) rfl ?_
      exact ev_ret hf rfl rfl
    · refine ev_sts 10 (c2 := (85, [.ref 63, mK, mK, mK, mK, mK, .int x6], [.int ((4 : Int32)), .int x6, .ref 70, .int ((S 63 9) + x6), .ref 69], S, 0)) rfl ?_
      refine ev_gd (c1 := (86, [.ref 63, mK, mK, mK, mK, mK, .int x6], [.int (x6 / ((4 : Int32))), .ref 70, .int ((S 63 9) + x6), .ref 69], S, 0)) hf rfl rfl (fun hf => ?_)
      refine ev_gd (c1 := (87, [.ref 63, mK, mK, mK, mK, mK, .int x6], [.int (S 70 (x6 / ((4 : Int32))).toNatClampNeg), .int ((S 63 9) + x6), .ref 69], S, 0)) hf rfl rfl (fun hf => ?_)
      refine ev_sts 4 (c2 := (94, [.ref 63, mK, mK, mK, mK, mK, .int x6], [.int ((4 : Int32)), .int x6, .int ((8 : Int32)), .int ((24 : Int32)), .int (S 70 (x6 / ((4 : Int32))).toNatClampNeg), .int ((S 63 9) + x6), .ref 69], S, 0)) rfl ?_
      refine ev_gd (c1 := (95, [.ref 63, mK, mK, mK, mK, mK, .int x6], [.int (x6 - x6 / ((4 : Int32)) * ((4 : Int32))), .int ((8 : Int32)), .int ((24 : Int32)), .int (S 70 (x6 / ((4 : Int32))).toNatClampNeg), .int ((S 63 9) + x6), .ref 69], S, 0)) hf rfl rfl (fun hf => ?_)
      refine ev_sts 4 (c2 := (99, [.ref 63, mK, mK, mK, mK, mK, .int x6], [.int (((S 70 (x6 / ((4 : Int32))).toNatClampNeg) >>> ((((24 : Int32)) - (((8 : Int32)) * (x6 - x6 / ((4 : Int32)) * ((4 : Int32))))) &&& 31)).toInt8.toInt32), .int ((S 63 9) + x6), .ref 69], S, 0)) rfl ?_
      refine ev_gd (c1 := (100, [.ref 63, mK, mK, mK, mK, mK, .int x6], [], (upS S 69 ((S 63 9) + x6).toNatClampNeg (((S 70 (x6 / ((4 : Int32))).toNatClampNeg) >>> ((((24 : Int32)) - (((8 : Int32)) * (x6 - x6 / ((4 : Int32)) * ((4 : Int32))))) &&& 31)).toInt8.toInt32).toInt8.toInt32), 0)) hf rfl rfl (fun hf => ?_)
      refine ev_let (P := fun S8 => Ev (d) Mx174 (100, [.ref 63, mK, mK, mK, mK, mK, .int x6], [], S8, 0) r) (fun S8 hf => ?_) hf
      exact ev_sts 2 (c2 := (60, [.ref 63, mK, mK, mK, mK, mK, .int (x6 + (1 : Int32))], [], S8, 0)) rfl (ih hf)
theorem f_X10_feed_ok {d F : Nat} {p1 : Int32} {p2 : Int32} {p3 : Int32} {p4 : Int32} {p5 : Int32} {S : mS} {r : mR} (hf : f_X10_feed F p1 p2 p3 p4 p5 S = some r) : Ev (d) Mx174 (entry Mx174 [.ref 63, .int p1, .int p2, .int p3, .int p4, .int p5] S) r := by
  unfold f_X10_feed at hf
  refine ev_sts 3 (c2 := (5, [.ref 63, .int p1, .int p2, .int p3, .int p4, .int p5, mK], [], (upS S 63 0 ((0 : Int32))), 0)) rfl ?_
  refine ev_let (P := fun S1 => Ev (d) Mx174 (5, [.ref 63, .int p1, .int p2, .int p3, .int p4, .int p5, mK], [], S1, 0) r) (fun S1 hf => ?_) hf
  refine ev_sts 5 (c2 := (15, [.ref 63, .int p1, .int p2, .int p3, .int p4, .int p5, mK], [.int ((400 : Int32)), .int ((S1 63 9) + ((20 : Int32)))], S1, 0)) rfl ?_
  refine ev_if (c1 := (20, [.ref 63, .int p1, .int p2, .int p3, .int p4, .int p5, mK], [], S1, 0)) (c2 := (18, [.ref 63, .int p1, .int p2, .int p3, .int p4, .int p5, mK], [], S1, 0)) hf rfl rfl (fun _ hf => ?_) (fun _ hf => ?_)
  · refine ev_sts 4 (c2 := (26, [.ref 63, .int p1, .int p2, .int p3, .int p4, .int p5, mK], [.int p1, .int ((0 : Int32)), .ref 70], S1, 0)) rfl ?_
    refine ev_gd (c1 := (27, [.ref 63, .int p1, .int p2, .int p3, .int p4, .int p5, mK], [], (upS S1 70 ((0 : Int32)).toNatClampNeg p1), 0)) hf rfl rfl (fun hf => ?_)
    refine ev_let (P := fun S2 => Ev (d) Mx174 (27, [.ref 63, .int p1, .int p2, .int p3, .int p4, .int p5, mK], [], S2, 0) r) (fun S2 hf => ?_) hf
    refine ev_sts 4 (c2 := (33, [.ref 63, .int p1, .int p2, .int p3, .int p4, .int p5, mK], [.int p2, .int ((1 : Int32)), .ref 70], S2, 0)) rfl ?_
    refine ev_gd (c1 := (34, [.ref 63, .int p1, .int p2, .int p3, .int p4, .int p5, mK], [], (upS S2 70 ((1 : Int32)).toNatClampNeg p2), 0)) hf rfl rfl (fun hf => ?_)
    refine ev_let (P := fun S3 => Ev (d) Mx174 (34, [.ref 63, .int p1, .int p2, .int p3, .int p4, .int p5, mK], [], S3, 0) r) (fun S3 hf => ?_) hf
    refine ev_sts 4 (c2 := (40, [.ref 63, .int p1, .int p2, .int p3, .int p4, .int p5, mK], [.int p3, .int ((2 : Int32)), .ref 70], S3, 0)) rfl ?_
    refine ev_gd (c1 := (41, [.ref 63, .int p1, .int p2, .int p3, .int p4, .int p5, mK], [], (upS S3 70 ((2 : Int32)).toNatClampNeg p3), 0)) hf rfl rfl (fun hf => ?_)
    refine ev_let (P := fun S4 => Ev (d) Mx174 (41, [.ref 63, .int p1, .int p2, .int p3, .int p4, .int p5, mK], [], S4, 0) r) (fun S4 hf => ?_) hf
    refine ev_sts 4 (c2 := (48, [.ref 63, .int p1, .int p2, .int p3, .int p4, .int p5, mK], [.int p4, .int ((3 : Int32)), .ref 70], S4, 0)) rfl ?_
    refine ev_gd (c1 := (49, [.ref 63, .int p1, .int p2, .int p3, .int p4, .int p5, mK], [], (upS S4 70 ((3 : Int32)).toNatClampNeg p4), 0)) hf rfl rfl (fun hf => ?_)
    refine ev_let (P := fun S5 => Ev (d) Mx174 (49, [.ref 63, .int p1, .int p2, .int p3, .int p4, .int p5, mK], [], S5, 0) r) (fun S5 hf => ?_) hf
    refine ev_sts 4 (c2 := (56, [.ref 63, .int p1, .int p2, .int p3, .int p4, .int p5, mK], [.int p5, .int ((4 : Int32)), .ref 70], S5, 0)) rfl ?_
    refine ev_gd (c1 := (57, [.ref 63, .int p1, .int p2, .int p3, .int p4, .int p5, mK], [], (upS S5 70 ((4 : Int32)).toNatClampNeg p5), 0)) hf rfl rfl (fun hf => ?_)
    refine ev_let (P := fun S6 => Ev (d) Mx174 (57, [.ref 63, .int p1, .int p2, .int p3, .int p4, .int p5, mK], [], S6, 0) r) (fun S6 hf => ?_) hf
    exact ev_sts 2 (c2 := (60, [.ref 63, mK, mK, mK, mK, mK, .int ((0 : Int32))], [], S6, 0)) rfl (f_X10_feed_b60_ok _ hf)
  · refine ev_sts 1 (c2 := (19, [.ref 63, .int p1, .int p2, .int p3, .int p4, .int p5, mK], [.int ((-1 : Int32))], S1, 0)) rfl ?_
    exact ev_ret hf rfl rfl
def f_X10_wearOf (F : Nat) (p1 : Int32) (p2 : Int32) (S : mS) : Option mR := bI0 (f_X10_sumOf F ((1 : Int32)) p1 ((0 : Int32)) p2 S) (fun r2 S1 => some (.inl (some (.int r2)), S1))
theorem f_X10_wearOf_ok {d F : Nat} {p1 : Int32} {p2 : Int32} {S : mS} {r : mR} (hf : f_X10_wearOf F p1 p2 S = some r) : Ev (d + 6) Mx210 (entry Mx210 [.ref 63, .int p1, .int p2] S) r := by
  unfold f_X10_wearOf at hf
  refine ev_sts 5 (c2 := (5, [.ref 63, .int p1, .int p2], [.int p2, .int ((0 : Int32)), .int p1, .int ((1 : Int32)), .ref 63], S, 0)) rfl ?_
  refine ev_bI0 (d := d + 5) (M' := Mx206) (ct := (8, [.ref 63, .int p1, .int p2], [], S, 0)) hf rfl rfl rfl rfl (fun r9 h9 => f_X10_sumOf_ok (d := d) h9) (fun r2 S1 hf => ?_)
  show Ev (d + 6) Mx210 (8, [.ref 63, .int p1, .int p2], [.int r2], S1, 0) r
  exact ev_ret hf rfl rfl
def f_X10_frays (F : Nat) (p1 : Int32) (S : mS) : Option mR := gd (inb ((8 : Int32)) 2145) (gd (inb ((6 : Int32)) 2145) (bI0 (f_X10_kicksTo F p1 (S 64 ((6 : Int32)).toNatClampNeg) S) (fun r2 S1 => gd (inb ((6 : Int32)) 2145) (bI0 (f_X10_wearOf F p1 (S1 64 ((6 : Int32)).toNatClampNeg) S1) (fun r4 S3 => gd (inb ((8 : Int32)) 2145) (bnd (upS S3 64 ((8 : Int32)).toNatClampNeg (if (((S 64 ((8 : Int32)).toNatClampNeg) + r2) + r4) < ((999 : Int32)) then (((S 64 ((8 : Int32)).toNatClampNeg) + r2) + r4) else ((999 : Int32)))) (fun S5 => some (.inl none, S5))))))))
theorem f_X10_frays_ok {d F : Nat} {p1 : Int32} {S : mS} {r : mR} (hf : f_X10_frays F p1 S = some r) : Ev (d + 9) Mx236 (entry Mx236 [.ref 63, .int p1] S) r := by
  unfold f_X10_frays at hf
  refine ev_sts 7 (c2 := (15, [.ref 63, .int p1], [.int ((8 : Int32)), .ref 64, .int ((999 : Int32)), .int ((8 : Int32)), .ref 64], S, 0)) rfl ?_
  refine ev_gd (c1 := (16, [.ref 63, .int p1], [.int (S 64 ((8 : Int32)).toNatClampNeg), .int ((999 : Int32)), .int ((8 : Int32)), .ref 64], S, 0)) hf rfl rfl (fun hf => ?_)
  refine ev_sts 5 (c2 := (24, [.ref 63, .int p1], [.int ((6 : Int32)), .ref 64, .int p1, .ref 63, .int (S 64 ((8 : Int32)).toNatClampNeg), .int ((999 : Int32)), .int ((8 : Int32)), .ref 64], S, 0)) rfl ?_
  refine ev_gd (c1 := (25, [.ref 63, .int p1], [.int (S 64 ((6 : Int32)).toNatClampNeg), .int p1, .ref 63, .int (S 64 ((8 : Int32)).toNatClampNeg), .int ((999 : Int32)), .int ((8 : Int32)), .ref 64], S, 0)) hf rfl rfl (fun hf => ?_)
  refine ev_bI0 (d := d + 8) (M' := Mx209) (ct := (28, [.ref 63, .int p1], [.int (S 64 ((8 : Int32)).toNatClampNeg), .int ((999 : Int32)), .int ((8 : Int32)), .ref 64], S, 0)) hf rfl rfl rfl rfl (fun r9 h9 => f_X10_kicksTo_ok (d := d) h9) (fun r2 S1 hf => ?_)
  show Ev (d + 9) Mx236 (28, [.ref 63, .int p1], [.int r2, .int (S 64 ((8 : Int32)).toNatClampNeg), .int ((999 : Int32)), .int ((8 : Int32)), .ref 64], S1, 0) r
  refine ev_sts 6 (c2 := (37, [.ref 63, .int p1], [.int ((6 : Int32)), .ref 64, .int p1, .ref 63, .int ((S 64 ((8 : Int32)).toNatClampNeg) + r2), .int ((999 : Int32)), .int ((8 : Int32)), .ref 64], S1, 0)) rfl ?_
  refine ev_gd (c1 := (38, [.ref 63, .int p1], [.int (S1 64 ((6 : Int32)).toNatClampNeg), .int p1, .ref 63, .int ((S 64 ((8 : Int32)).toNatClampNeg) + r2), .int ((999 : Int32)), .int ((8 : Int32)), .ref 64], S1, 0)) hf rfl rfl (fun hf => ?_)
  refine ev_bI0 (d := d + 8) (M' := Mx210) (ct := (41, [.ref 63, .int p1], [.int ((S 64 ((8 : Int32)).toNatClampNeg) + r2), .int ((999 : Int32)), .int ((8 : Int32)), .ref 64], S1, 0)) hf rfl rfl rfl rfl (fun r9 h9 => f_X10_wearOf_ok (d := d + 2) h9) (fun r4 S3 hf => ?_)
  show Ev (d + 9) Mx236 (41, [.ref 63, .int p1], [.int r4, .int ((S 64 ((8 : Int32)).toNatClampNeg) + r2), .int ((999 : Int32)), .int ((8 : Int32)), .ref 64], S3, 0) r
  refine ev_sts 2 (c2 := (45, [.ref 63, .int p1], [.int (if (((S 64 ((8 : Int32)).toNatClampNeg) + r2) + r4) < ((999 : Int32)) then (((S 64 ((8 : Int32)).toNatClampNeg) + r2) + r4) else ((999 : Int32))), .int ((8 : Int32)), .ref 64], S3, 0)) rfl ?_
  refine ev_gd (c1 := (46, [.ref 63, .int p1], [], (upS S3 64 ((8 : Int32)).toNatClampNeg (if (((S 64 ((8 : Int32)).toNatClampNeg) + r2) + r4) < ((999 : Int32)) then (((S 64 ((8 : Int32)).toNatClampNeg) + r2) + r4) else ((999 : Int32)))), 0)) hf rfl rfl (fun hf => ?_)
  refine ev_let (P := fun S5 => Ev (d + 9) Mx236 (46, [.ref 63, .int p1], [], S5, 0) r) (fun S5 hf => ?_) hf
  exact ev_ret hf rfl rfl
