def f_X9_isle (F : Nat) (S : mS) : Option mR := bV0 (f_X0_copy 26 24 S) (fun S1 => bI0 (f_X4_readLines_30 F ((14 : Int32)) S1) (fun r3 S2 => bV0 (f_X8_cut ((0 : Int32)) S2) (fun S4 => (if ¬ r3 = 0 then bI0 (f_X0_at 24 ((11 : Int32)) S4) (fun r6 S5 => (if r6 < ((12 : Int32)) then bV0 (f_X0_add 26 ((11 : Int32)) ((1 : Int32)) S5) (fun S7 => bV0 (f_X0_copy 24 26 S7) (fun S8 => bV0 (f_X5_forget S8) (fun S9 => bI0 (f_X0_at 24 ((11 : Int32)) S9) (fun r11 S10 => some (.inl (some (.int r11)), S10))))) else some (.inr 2, S5))) else some (.inr 1, S4)))))
theorem f_X9_isle_ok {d F : Nat} {S : mS} {r : mR} (hf : f_X9_isle F S = some r) : Ev (d + 45) Mx89 (entry Mx89 [.ref 0] S) r := by
  unfold f_X9_isle at hf
  refine ev_sts 4 (c2 := (8, [.ref 0, mK], [.ref 24, .ref 26], S, 0)) rfl ?_
  refine ev_bV0 (d := d + 44) (M' := Mx0) (ct := (11, [.ref 0, mK], [], S, 0)) hf rfl rfl rfl rfl (fun r9 h9 => f_X0_copy_ok_26_24 (d := d + 44) h9) (fun S1 hf => ?_)
  show Ev (d + 45) Mx89 (11, [.ref 0, mK], [], S1, 0) r
  refine ev_sts 3 (c2 := (17, [.ref 0, mK], [.int ((14 : Int32)), .ref 30], S1, 0)) rfl ?_
  refine ev_bI0 (d := d + 44) (M' := Mx283) (ct := (20, [.ref 0, mK], [], S1, 0)) hf rfl rfl rfl rfl (fun r9 h9 => f_X4_readLines_30_ok (d := d) h9) (fun r3 S2 hf => ?_)
  show Ev (d + 45) Mx89 (20, [.ref 0, mK], [.int r3], S2, 0) r
  refine ev_sts 4 (c2 := (26, [.ref 0, .int r3], [.int ((0 : Int32)), .ref 1], S2, 0)) rfl ?_
  refine ev_bV0 (d := d + 44) (M' := Mx74) (ct := (29, [.ref 0, .int r3], [], S2, 0)) hf rfl rfl rfl rfl (fun r9 h9 => f_X8_cut_ok (d := d + 44) h9) (fun S4 hf => ?_)
  show Ev (d + 45) Mx89 (29, [.ref 0, .int r3], [], S4, 0) r
  refine ev_sts 1 (c2 := (30, [.ref 0, .int r3], [.int r3], S4, 0)) rfl ?_
  refine ev_if (c1 := (43, [.ref 0, .int r3], [], S4, 0)) (c2 := (33, [.ref 0, .int r3], [], S4, 0)) hf rfl rfl (fun _ hf => ?_) (fun _ hf => ?_)
  · refine ev_sts 3 (c2 := (49, [.ref 0, .int r3], [.int ((11 : Int32)), .ref 24], S4, 0)) rfl ?_
    refine ev_bI0 (d := d + 44) (M' := Mx1) (ct := (52, [.ref 0, .int r3], [], S4, 0)) hf rfl rfl rfl rfl (fun r9 h9 => f_X0_at_ok_24 (d := d + 44) h9) (fun r6 S5 hf => ?_)
    show Ev (d + 45) Mx89 (52, [.ref 0, .int r3], [.int r6], S5, 0) r
    refine ev_sts 1 (c2 := (54, [.ref 0, .int r3], [.int ((12 : Int32)), .int r6], S5, 0)) rfl ?_
    refine ev_if (c1 := (67, [.ref 0, .int r3], [], S5, 0)) (c2 := (57, [.ref 0, .int r3], [], S5, 0)) hf rfl rfl (fun _ hf => ?_) (fun _ hf => ?_)
    · refine ev_sts 4 (c2 := (74, [.ref 0, .int r3], [.int ((1 : Int32)), .int ((11 : Int32)), .ref 26], S5, 0)) rfl ?_
      refine ev_bV0 (d := d + 44) (M' := Mx3) (ct := (77, [.ref 0, .int r3], [], S5, 0)) hf rfl rfl rfl rfl (fun r9 h9 => f_X0_add_ok_26 (d := d + 43) h9) (fun S7 hf => ?_)
      show Ev (d + 45) Mx89 (77, [.ref 0, .int r3], [], S7, 0) r
      refine ev_sts 4 (c2 := (85, [.ref 0, .int r3], [.ref 26, .ref 24], S7, 0)) rfl ?_
      refine ev_bV0 (d := d + 44) (M' := Mx0) (ct := (88, [.ref 0, .int r3], [], S7, 0)) hf rfl rfl rfl rfl (fun r9 h9 => f_X0_copy_ok_24_26 (d := d + 44) h9) (fun S8 hf => ?_)
      show Ev (d + 45) Mx89 (88, [.ref 0, .int r3], [], S8, 0) r
      refine ev_sts 2 (c2 := (92, [.ref 0, .int r3], [.ref 36], S8, 0)) rfl ?_
      refine ev_bV0 (d := d + 44) (M' := Mx43) (ct := (95, [.ref 0, .int r3], [], S8, 0)) hf rfl rfl rfl rfl (fun r9 h9 => f_X5_forget_ok (d := d + 44) h9) (fun S9 hf => ?_)
      show Ev (d + 45) Mx89 (95, [.ref 0, .int r3], [], S9, 0) r
      refine ev_sts 3 (c2 := (101, [.ref 0, .int r3], [.int ((11 : Int32)), .ref 24], S9, 0)) rfl ?_
      refine ev_bI0 (d := d + 44) (M' := Mx1) (ct := (104, [.ref 0, .int r3], [], S9, 0)) hf rfl rfl rfl rfl (fun r9 h9 => f_X0_at_ok_24 (d := d + 44) h9) (fun r11 S10 hf => ?_)
      show Ev (d + 45) Mx89 (104, [.ref 0, .int r3], [.int r11], S10, 0) r
      exact ev_ret hf rfl rfl
    · exact ev_ret hf rfl rfl
  · exact ev_ret hf rfl rfl
def f_X9_jerks_b18 (F : Nat) : Nat → Int32 → Int32 → Int32 → Int32 → mS → Option mR
  | 0, _, _, _, _, _ => none
  | n + 1, x1, x2, x3, x4, S => (if x1 < x4 then some (.inl (some (.int x3)), S) else bnd (x4 + ((((2 : Int32)) * x2) + ((1 : Int32))) : Int32) (fun y3 => f_X9_jerks_b18 F n x1 x2 (x3 + (1 : Int32)) y3 S))
def f_X9_jerks (F : Nat) (p1 : Int32) (p2 : Int32) (S : mS) : Option mR := bV (f_X9_needWithin p1 ((1 : Int32)) ((12 : Int32)) S) (fun S1 => bV (f_X9_needWithin p2 ((0 : Int32)) ((5 : Int32)) S1) (fun S2 => f_X9_jerks_b18 F F p1 p2 ((0 : Int32)) ((1 : Int32)) S2))
theorem f_X9_jerks_b18_ok {d F : Nat} : ∀ (n : Nat) {x1 : Int32} {x2 : Int32} {x3 : Int32} {x4 : Int32} {S : mS} {r : mR}, f_X9_jerks_b18 F n x1 x2 x3 x4 S = some r → Ev (d + 1) Mx123 (18, [mK, .int x1, .int x2, .int x3, .int x4], [], S, 2) r := by
  intro n
  induction n with
  | zero => intro x1 x2 x3 x4 S r hf; cases hf
  | succ n ih =>
    intro x1 x2 x3 x4 S r hf
    rw [f_X9_jerks_b18] at hf
    refine ev_sts 2 (c2 := (21, [mK, .int x1, .int x2, .int x3, .int x4], [.int x1, .int x4], S, 2)) rfl ?_
    refine ev_if (c1 := (40, [mK, .int x1, .int x2, .int x3, .int x4], [], S, 2)) (c2 := (24, [mK, .int x1, .int x2, .int x3, .int x4], [], S, 2)) hf rfl rfl (fun _ hf => ?_) (fun _ hf => ?_)
    · refine ev_sts 1 (c2 := (41, [mK, .int x1, .int x2, .int x3, .int x4], [.int x3], S, 2)) rfl ?_
      exact ev_ret hf rfl rfl
    · refine ev_sts 9 (c2 := (37, [mK, .int x1, .int x2, .int (x3 + (1 : Int32)), .int (x4 + ((((2 : Int32)) * x2) + ((1 : Int32))))], [], S, 2)) rfl ?_
      refine ev_let (P := fun y3 => Ev (d + 1) Mx123 (37, [mK, .int x1, .int x2, .int (x3 + (1 : Int32)), .int y3], [], S, 2) r) (fun y3 hf => ?_) hf
      exact ev_sts 1 (c2 := (18, [mK, .int x1, .int x2, .int (x3 + (1 : Int32)), .int y3], [], S, 2)) rfl (ih hf)
theorem f_X9_jerks_ok {d F : Nat} {p1 : Int32} {p2 : Int32} {S : mS} {r : mR} (hf : f_X9_jerks F p1 p2 S = some r) : Ev (d + 1) Mx123 (entry Mx123 [.ref 0, .int p1, .int p2] S) r := by
  unfold f_X9_jerks at hf
  refine ev_sts 3 (c2 := (4, [.ref 0, .int p1, .int p2, mK, mK], [.int ((12 : Int32)), .int ((1 : Int32)), .int p1], S, 0)) rfl ?_
  refine ev_bV (d := d) (M' := Mx142) (ct := (7, [.ref 0, .int p1, .int p2, mK, mK], [], S, 1)) hf rfl rfl rfl rfl (by decide) (fun r9 h9 => f_X9_needWithin_ok (d := d) h9) (fun S1 hf => ?_)
  show Ev (d + 1) Mx123 (7, [.ref 0, .int p1, .int p2, mK, mK], [], S1, 1) r
  refine ev_sts 3 (c2 := (10, [.ref 0, .int p1, .int p2, mK, mK], [.int ((5 : Int32)), .int ((0 : Int32)), .int p2], S1, 1)) rfl ?_
  refine ev_bV (d := d) (M' := Mx142) (ct := (13, [.ref 0, .int p1, .int p2, mK, mK], [], S1, 2)) hf rfl rfl rfl rfl (by decide) (fun r9 h9 => f_X9_needWithin_ok (d := d) h9) (fun S2 hf => ?_)
  show Ev (d + 1) Mx123 (13, [.ref 0, .int p1, .int p2, mK, mK], [], S2, 2) r
  exact ev_sts 4 (c2 := (18, [mK, .int p1, .int p2, .int ((0 : Int32)), .int ((1 : Int32))], [], S2, 2)) rfl (f_X9_jerks_b18_ok _ hf)
def f_X9_kicks (F : Nat) (p1 : Int32) (p2 : Int32) (S : mS) : Option mR := bV (f_X9_needLedge p1 S) (fun S1 => bV (f_X9_needWithin p2 ((0 : Int32)) ((9 : Int32)) S1) (fun S2 => bI0 (f_X7_kicksTo F 24 p1 p2 S2) (fun r4 S3 => some (.inl (some (.int r4)), S3))))
theorem f_X9_kicks_ok {d F : Nat} {p1 : Int32} {p2 : Int32} {S : mS} {r : mR} (hf : f_X9_kicks F p1 p2 S = some r) : Ev (d + 5) Mx95 (entry Mx95 [.ref 0, .int p1, .int p2] S) r := by
  unfold f_X9_kicks at hf
  refine ev_sts 2 (c2 := (2, [.ref 0, .int p1, .int p2], [.int p1, .ref 0], S, 0)) rfl ?_
  refine ev_bV (d := d + 4) (M' := Mx139) (ct := (5, [.ref 0, .int p1, .int p2], [], S, 1)) hf rfl rfl rfl rfl (by decide) (fun r9 h9 => f_X9_needLedge_ok (d := d + 3) h9) (fun S1 hf => ?_)
  show Ev (d + 5) Mx95 (5, [.ref 0, .int p1, .int p2], [], S1, 1) r
  refine ev_sts 3 (c2 := (9, [.ref 0, .int p1, .int p2], [.int ((9 : Int32)), .int ((0 : Int32)), .int p2], S1, 1)) rfl ?_
  refine ev_bV (d := d + 4) (M' := Mx142) (ct := (12, [.ref 0, .int p1, .int p2], [], S1, 2)) hf rfl rfl rfl rfl (by decide) (fun r9 h9 => f_X9_needWithin_ok (d := d + 4) h9) (fun S2 hf => ?_)
  show Ev (d + 5) Mx95 (12, [.ref 0, .int p1, .int p2], [], S2, 2) r
  refine ev_sts 6 (c2 := (22, [.ref 0, .int p1, .int p2], [.int p2, .int p1, .ref 24, .ref 32], S2, 2)) rfl ?_
  refine ev_bI0 (d := d + 4) (M' := Mx60) (ct := (25, [.ref 0, .int p1, .int p2], [], S2, 2)) hf rfl rfl rfl rfl (fun r9 h9 => f_X7_kicksTo_ok_24 (d := d) h9) (fun r4 S3 hf => ?_)
  show Ev (d + 5) Mx95 (25, [.ref 0, .int p1, .int p2], [.int r4], S3, 2) r
  exact ev_ret hf rfl rfl
def f_X7_wearAt (F : Nat) (u1 : Nat) (p2 : Int32) (p3 : Int32) (S : mS) : Option mR := bI0 (f_X2_sum F u1 ((1 : Int32)) p2 ((0 : Int32)) p3 S) (fun r2 S1 => some (.inl (some (.int r2)), S1))
theorem f_X7_wearAt_ok_26 {d F : Nat} {p2 : Int32} {p3 : Int32} {S : mS} {r : mR} (hf : f_X7_wearAt F 26 p2 p3 S = some r) : Ev (d + 3) Mx58 (entry Mx58 [.ref 32, .ref 26, .int p2, .int p3] S) r := by
  unfold f_X7_wearAt at hf
  refine ev_sts 7 (c2 := (9, [.ref 32, .ref 26, .int p2, .int p3], [.int p3, .int ((0 : Int32)), .int p2, .ref 26, .int ((1 : Int32)), .ref 3], S, 0)) rfl ?_
  refine ev_bI0 (d := d + 2) (M' := Mx32) (ct := (12, [.ref 32, .ref 26, .int p2, .int p3], [], S, 0)) hf rfl rfl rfl rfl (fun r9 h9 => f_X2_sum_ok_26 (d := d) h9) (fun r2 S1 hf => ?_)
  show Ev (d + 3) Mx58 (12, [.ref 32, .ref 26, .int p2, .int p3], [.int r2], S1, 0) r
  exact ev_ret hf rfl rfl
theorem f_X7_wearAt_ok_24 {d F : Nat} {p2 : Int32} {p3 : Int32} {S : mS} {r : mR} (hf : f_X7_wearAt F 24 p2 p3 S = some r) : Ev (d + 3) Mx58 (entry Mx58 [.ref 32, .ref 24, .int p2, .int p3] S) r := by
  unfold f_X7_wearAt at hf
  refine ev_sts 7 (c2 := (9, [.ref 32, .ref 24, .int p2, .int p3], [.int p3, .int ((0 : Int32)), .int p2, .ref 24, .int ((1 : Int32)), .ref 3], S, 0)) rfl ?_
  refine ev_bI0 (d := d + 2) (M' := Mx32) (ct := (12, [.ref 32, .ref 24, .int p2, .int p3], [], S, 0)) hf rfl rfl rfl rfl (fun r9 h9 => f_X2_sum_ok_24 (d := d) h9) (fun r2 S1 hf => ?_)
  show Ev (d + 3) Mx58 (12, [.ref 32, .ref 24, .int p2, .int p3], [.int r2], S1, 0) r
  exact ev_ret hf rfl rfl
def f_X9_lasts_b96 (F : Nat) (x6 : Int32) (S : mS) : Option mR := some (.inl (some (.int x6)), S)
def f_X9_lasts_b63 (F : Nat) : Nat → Int32 → Int32 → Int32 → mS → Option mR
  | 0, _, _, _, _ => none
  | n + 1, x4, x5, x6, S => (if ((99 : Int32)) ≤ x6 then f_X9_lasts_b96 F x6 S else bI0 (f_X0_at 24 ((2 : Int32)) S) (fun r11 S10 => (if r11 ≤ x5 then f_X9_lasts_b96 F x6 S10 else bnd (x5 + x4 : Int32) (fun y12 => f_X9_lasts_b63 F n x4 y12 (x6 + (1 : Int32)) S10))))
def f_X9_lasts (F : Nat) (p1 : Int32) (p2 : Int32) (S : mS) : Option mR := bV (f_X9_needLedge p1 S) (fun S1 => bV (f_X9_needWithin p2 ((0 : Int32)) ((9 : Int32)) S1) (fun S2 => bI0 (f_X7_kicksTo F 24 p1 p2 S2) (fun r4 S3 => (if ¬ r4 = ((-1 : Int32)) then bI0 (f_X7_wearAt F 24 p1 p2 S3) (fun r6 S5 => bnd (r4 + r6 : Int32) (fun y7 => bI0 (f_X0_at 24 ((1 : Int32)) S5) (fun r9 S8 => f_X9_lasts_b63 F F y7 r9 ((0 : Int32)) S8))) else some (.inl (some (.int ((-1 : Int32)))), S3)))))
theorem f_X9_lasts_b96_ok {d F : Nat} {x6 : Int32} {S : mS} {r : mR} (hf : f_X9_lasts_b96 F x6 S = some r) : Ev (d + 5) Mx113 (96, [mK, mK, mK, mK, mK, mK, .int x6], [], S, 2) r := by
  unfold f_X9_lasts_b96 at hf
  refine ev_sts 1 (c2 := (98, [mK, mK, mK, mK, mK, mK, .int x6], [.int x6], S, 2)) rfl ?_
  exact ev_ret hf rfl rfl
theorem f_X9_lasts_b63_ok {d F : Nat} : ∀ (n : Nat) {x4 : Int32} {x5 : Int32} {x6 : Int32} {S : mS} {r : mR}, f_X9_lasts_b63 F n x4 x5 x6 S = some r → Ev (d + 5) Mx113 (63, [.ref 0, mK, mK, mK, .int x4, .int x5, .int x6], [], S, 2) r := by
  intro n
  induction n with
  | zero => intro x4 x5 x6 S r hf; cases hf
  | succ n ih =>
    intro x4 x5 x6 S r hf
    rw [f_X9_lasts_b63] at hf
    refine ev_sts 2 (c2 := (67, [.ref 0, mK, mK, mK, .int x4, .int x5, .int x6], [.int ((99 : Int32)), .int x6], S, 2)) rfl ?_
    refine ev_if (c1 := (96, [mK, mK, mK, mK, mK, mK, .int x6], [], S, 2)) (c2 := (70, [.ref 0, mK, mK, mK, .int x4, .int x5, .int x6], [], S, 2)) hf rfl rfl (fun _ hf => ?_) (fun _ hf => ?_)
    · exact f_X9_lasts_b96_ok hf
    · refine ev_sts 4 (c2 := (77, [.ref 0, mK, mK, mK, .int x4, .int x5, .int x6], [.int ((2 : Int32)), .ref 24, .int x5], S, 2)) rfl ?_
      refine ev_bI0 (d := d + 4) (M' := Mx1) (ct := (80, [.ref 0, mK, mK, mK, .int x4, .int x5, .int x6], [.int x5], S, 2)) hf rfl rfl rfl rfl (fun r9 h9 => f_X0_at_ok_24 (d := d + 4) h9) (fun r11 S10 hf => ?_)
      show Ev (d + 5) Mx113 (80, [.ref 0, mK, mK, mK, .int x4, .int x5, .int x6], [.int r11, .int x5], S10, 2) r
      refine ev_if (c1 := (96, [mK, mK, mK, mK, mK, mK, .int x6], [], S10, 2)) (c2 := (83, [.ref 0, mK, mK, mK, .int x4, .int x5, .int x6], [], S10, 2)) hf rfl rfl (fun _ hf => ?_) (fun _ hf => ?_)
      · exact f_X9_lasts_b96_ok hf
      · refine ev_sts 4 (c2 := (90, [.ref 0, mK, mK, mK, .int x4, .int (x5 + x4), .int x6], [], S10, 2)) rfl ?_
        refine ev_let (P := fun y12 => Ev (d + 5) Mx113 (90, [.ref 0, mK, mK, mK, .int x4, .int y12, .int x6], [], S10, 2) r) (fun y12 hf => ?_) hf
        exact ev_sts 2 (c2 := (63, [.ref 0, mK, mK, mK, .int x4, .int y12, .int (x6 + (1 : Int32))], [], S10, 2)) rfl (ih hf)
theorem f_X9_lasts_ok {d F : Nat} {p1 : Int32} {p2 : Int32} {S : mS} {r : mR} (hf : f_X9_lasts F p1 p2 S = some r) : Ev (d + 5) Mx113 (entry Mx113 [.ref 0, .int p1, .int p2] S) r := by
  unfold f_X9_lasts at hf
  refine ev_sts 2 (c2 := (2, [.ref 0, .int p1, .int p2, mK, mK, mK, mK], [.int p1, .ref 0], S, 0)) rfl ?_
  refine ev_bV (d := d + 4) (M' := Mx139) (ct := (5, [.ref 0, .int p1, .int p2, mK, mK, mK, mK], [], S, 1)) hf rfl rfl rfl rfl (by decide) (fun r9 h9 => f_X9_needLedge_ok (d := d + 3) h9) (fun S1 hf => ?_)
  show Ev (d + 5) Mx113 (5, [.ref 0, .int p1, .int p2, mK, mK, mK, mK], [], S1, 1) r
  refine ev_sts 3 (c2 := (9, [.ref 0, .int p1, .int p2, mK, mK, mK, mK], [.int ((9 : Int32)), .int ((0 : Int32)), .int p2], S1, 1)) rfl ?_
  refine ev_bV (d := d + 4) (M' := Mx142) (ct := (12, [.ref 0, .int p1, .int p2, mK, mK, mK, mK], [], S1, 2)) hf rfl rfl rfl rfl (by decide) (fun r9 h9 => f_X9_needWithin_ok (d := d + 4) h9) (fun S2 hf => ?_)
  show Ev (d + 5) Mx113 (12, [.ref 0, .int p1, .int p2, mK, mK, mK, mK], [], S2, 2) r
  refine ev_sts 6 (c2 := (22, [.ref 0, .int p1, .int p2, mK, mK, mK, mK], [.int p2, .int p1, .ref 24, .ref 32], S2, 2)) rfl ?_
  refine ev_bI0 (d := d + 4) (M' := Mx60) (ct := (25, [.ref 0, .int p1, .int p2, mK, mK, mK, mK], [], S2, 2)) hf rfl rfl rfl rfl (fun r9 h9 => f_X7_kicksTo_ok_24 (d := d) h9) (fun r4 S3 hf => ?_)
  show Ev (d + 5) Mx113 (25, [.ref 0, .int p1, .int p2, mK, mK, mK, mK], [.int r4], S3, 2) r
  refine ev_sts 3 (c2 := (28, [.ref 0, .int p1, .int p2, .int r4, mK, mK, mK], [.int ((-1 : Int32)), .int r4], S3, 2)) rfl ?_
  refine ev_if (c1 := (33, [.ref 0, .int p1, .int p2, .int r4, mK, mK, mK], [], S3, 2)) (c2 := (31, [.ref 0, .int p1, .int p2, .int r4, mK, mK, mK], [], S3, 2)) hf rfl rfl (fun _ hf => ?_) (fun _ hf => ?_)
  · refine ev_sts 7 (c2 := (44, [.ref 0, .int p1, .int p2, .int r4, mK, mK, mK], [.int p2, .int p1, .ref 24, .ref 32, .int r4], S3, 2)) rfl ?_
    refine ev_bI0 (d := d + 4) (M' := Mx58) (ct := (47, [.ref 0, .int p1, .int p2, .int r4, mK, mK, mK], [.int r4], S3, 2)) hf rfl rfl rfl rfl (fun r9 h9 => f_X7_wearAt_ok_24 (d := d + 1) h9) (fun r6 S5 hf => ?_)
    show Ev (d + 5) Mx113 (47, [.ref 0, .int p1, .int p2, .int r4, mK, mK, mK], [.int r6, .int r4], S5, 2) r
    refine ev_sts 2 (c2 := (50, [.ref 0, .int p1, .int p2, .int r4, .int (r4 + r6), mK, mK], [], S5, 2)) rfl ?_
    refine ev_let (P := fun y7 => Ev (d + 5) Mx113 (50, [.ref 0, .int p1, .int p2, .int r4, .int y7, mK, mK], [], S5, 2) r) (fun y7 hf => ?_) hf
    refine ev_sts 3 (c2 := (55, [.ref 0, .int p1, .int p2, .int r4, .int y7, mK, mK], [.int ((1 : Int32)), .ref 24], S5, 2)) rfl ?_
    refine ev_bI0 (d := d + 4) (M' := Mx1) (ct := (58, [.ref 0, .int p1, .int p2, .int r4, .int y7, mK, mK], [], S5, 2)) hf rfl rfl rfl rfl (fun r9 h9 => f_X0_at_ok_24 (d := d + 4) h9) (fun r9 S8 hf => ?_)
    show Ev (d + 5) Mx113 (58, [.ref 0, .int p1, .int p2, .int r4, .int y7, mK, mK], [.int r9], S8, 2) r
    exact ev_sts 3 (c2 := (63, [.ref 0, mK, mK, mK, .int y7, .int r9, .int ((0 : Int32))], [], S8, 2)) rfl (f_X9_lasts_b63_ok _ hf)
  · refine ev_sts 1 (c2 := (32, [.ref 0, .int p1, .int p2, .int r4, mK, mK, mK], [.int ((-1 : Int32))], S3, 2)) rfl ?_
    exact ev_ret hf rfl rfl
def f_X9_late_b49 (K18 : Int32 → Int32 → mS → Option mR) (F : Nat) (x1 : Int32) (x2 : Int32) (S : mS) : Option mR := bV0 (f_X7_stillDayOf F x1 S) (fun S5 => K18 x1 (x2 + (1 : Int32)) S5)
def f_X9_late_b18 (F : Nat) : Nat → Int32 → Int32 → mS → Option mR
  | 0, _, _, _ => none
  | n + 1, x1, x2, S => (if ((40 : Int32)) < x2 then some (.inl (some (.int ((-1 : Int32)))), S) else bI0 (f_X0_ofLedge 26 x1 ((2 : Int32)) S) (fun r4 S3 => (if r4 ≤ 0 then f_X9_late_b49 (fun x1 x2 S => f_X9_late_b18 F n x1 x2 S) F x1 x2 S3 else bI0 (f_X0_isFresh 26 x1 S3) (fun r7 S6 => (if ¬ r7 = 0 then f_X9_late_b49 (fun x1 x2 S => f_X9_late_b18 F n x1 x2 S) F x1 x2 S6 else some (.inl (some (.int x2)), S6))))))
def f_X9_late (F : Nat) (p1 : Int32) (S : mS) : Option mR := bV (f_X9_needLedge p1 S) (fun S1 => bV0 (f_X0_copy 26 24 S1) (fun S2 => f_X9_late_b18 F F p1 ((0 : Int32)) S2))
theorem f_X9_late_b49_ok {d F : Nat} {K18 : Int32 → Int32 → mS → Option mR} (hK18 : ∀ {x1 : Int32} {x2 : Int32} {S : mS} {r : mR}, K18 x1 x2 S = some r → Ev (d + 6) Mx107 (18, [.ref 0, .int x1, .int x2], [], S, 1) r) {x1 : Int32} {x2 : Int32} {S : mS} {r : mR} (hf : f_X9_late_b49 K18 F x1 x2 S = some r) : Ev (d + 6) Mx107 (49, [.ref 0, .int x1, .int x2], [], S, 1) r := by
  unfold f_X9_late_b49 at hf
  refine ev_sts 5 (c2 := (58, [.ref 0, .int x1, .int x2], [.int x1, .ref 26, .ref 32], S, 1)) rfl ?_
  refine ev_bV0 (d := d + 5) (M' := Mx68) (ct := (61, [.ref 0, .int x1, .int x2], [], S, 1)) hf rfl rfl rfl rfl (fun r9 h9 => f_X7_stillDayOf_ok (d := d) h9) (fun S5 hf => ?_)
  show Ev (d + 6) Mx107 (61, [.ref 0, .int x1, .int x2], [], S5, 1) r
  exact ev_sts 2 (c2 := (18, [.ref 0, .int x1, .int (x2 + (1 : Int32))], [], S5, 1)) rfl (hK18 hf)
theorem f_X9_late_b18_ok {d F : Nat} : ∀ (n : Nat) {x1 : Int32} {x2 : Int32} {S : mS} {r : mR}, f_X9_late_b18 F n x1 x2 S = some r → Ev (d + 6) Mx107 (18, [.ref 0, .int x1, .int x2], [], S, 1) r := by
  intro n
  induction n with
  | zero => intro x1 x2 S r hf; cases hf
  | succ n ih =>
    intro x1 x2 S r hf
    rw [f_X9_late_b18] at hf
    refine ev_sts 2 (c2 := (21, [.ref 0, .int x1, .int x2], [.int ((40 : Int32)), .int x2], S, 1)) rfl ?_
    refine ev_if (c1 := (67, [.ref 0, .int x1, .int x2], [], S, 1)) (c2 := (24, [.ref 0, .int x1, .int x2], [], S, 1)) hf rfl rfl (fun _ hf => ?_) (fun _ hf => ?_)
    · refine ev_sts 1 (c2 := (68, [.ref 0, .int x1, .int x2], [.int ((-1 : Int32))], S, 1)) rfl ?_
      exact ev_ret hf rfl rfl
    · refine ev_sts 4 (c2 := (30, [.ref 0, .int x1, .int x2], [.int ((2 : Int32)), .int x1, .ref 26], S, 1)) rfl ?_
      refine ev_bI0 (d := d + 5) (M' := Mx4) (ct := (33, [.ref 0, .int x1, .int x2], [], S, 1)) hf rfl rfl rfl rfl (fun r9 h9 => f_X0_ofLedge_ok_26 (d := d + 4) h9) (fun r4 S3 hf => ?_)
      show Ev (d + 6) Mx107 (33, [.ref 0, .int x1, .int x2], [.int r4], S3, 1) r
      refine ev_if (c1 := (49, [.ref 0, .int x1, .int x2], [], S3, 1)) (c2 := (36, [.ref 0, .int x1, .int x2], [], S3, 1)) hf rfl rfl (fun _ hf => ?_) (fun _ hf => ?_)
      · exact f_X9_late_b49_ok (fun h9 => ih h9) hf
      · refine ev_sts 3 (c2 := (41, [.ref 0, .int x1, .int x2], [.int x1, .ref 26], S3, 1)) rfl ?_
        refine ev_bI0 (d := d + 5) (M' := Mx16) (ct := (44, [.ref 0, .int x1, .int x2], [], S3, 1)) hf rfl rfl rfl rfl (fun r9 h9 => f_X0_isFresh_ok_26 (d := d + 2) h9) (fun r7 S6 hf => ?_)
        show Ev (d + 6) Mx107 (44, [.ref 0, .int x1, .int x2], [.int r7], S6, 1) r
        refine ev_if (c1 := (49, [.ref 0, .int x1, .int x2], [], S6, 1)) (c2 := (47, [.ref 0, .int x1, .int x2], [], S6, 1)) hf rfl rfl (fun _ hf => ?_) (fun _ hf => ?_)
        · exact f_X9_late_b49_ok (fun h9 => ih h9) hf
        · refine ev_sts 1 (c2 := (48, [.ref 0, .int x1, .int x2], [.int x2], S6, 1)) rfl ?_
          exact ev_ret hf rfl rfl
theorem f_X9_late_ok {d F : Nat} {p1 : Int32} {S : mS} {r : mR} (hf : f_X9_late F p1 S = some r) : Ev (d + 6) Mx107 (entry Mx107 [.ref 0, .int p1] S) r := by
  unfold f_X9_late at hf
  refine ev_sts 2 (c2 := (2, [.ref 0, .int p1, mK], [.int p1, .ref 0], S, 0)) rfl ?_
  refine ev_bV (d := d + 5) (M' := Mx139) (ct := (5, [.ref 0, .int p1, mK], [], S, 1)) hf rfl rfl rfl rfl (by decide) (fun r9 h9 => f_X9_needLedge_ok (d := d + 4) h9) (fun S1 hf => ?_)
  show Ev (d + 6) Mx107 (5, [.ref 0, .int p1, mK], [], S1, 1) r
  refine ev_sts 4 (c2 := (13, [.ref 0, .int p1, mK], [.ref 24, .ref 26], S1, 1)) rfl ?_
  refine ev_bV0 (d := d + 5) (M' := Mx0) (ct := (16, [.ref 0, .int p1, mK], [], S1, 1)) hf rfl rfl rfl rfl (fun r9 h9 => f_X0_copy_ok_26_24 (d := d + 5) h9) (fun S2 hf => ?_)
  show Ev (d + 6) Mx107 (16, [.ref 0, .int p1, mK], [], S2, 1) r
  exact ev_sts 2 (c2 := (18, [.ref 0, .int p1, .int ((0 : Int32))], [], S2, 1)) rfl (f_X9_late_b18_ok _ hf)
def f_X2_begin (S : mS) : Option mR := bnd (upS S 10 6 ((0 : Int32))) (fun S1 => bnd (upS S1 10 7 ((0 : Int32))) (fun S2 => some (.inl none, S2)))
theorem f_X2_begin_ok {d : Nat} {S : mS} {r : mR} (hf : f_X2_begin S = some r) : Ev (d) Mx28 (entry Mx28 [.ref 10] S) r := by
  unfold f_X2_begin at hf
  refine ev_sts 3 (c2 := (5, [.ref 10], [], (upS S 10 6 ((0 : Int32))), 0)) rfl ?_
  refine ev_let (P := fun S1 => Ev (d) Mx28 (5, [.ref 10], [], S1, 0) r) (fun S1 hf => ?_) hf
  refine ev_sts 3 (c2 := (10, [.ref 10], [], (upS S1 10 7 ((0 : Int32))), 0)) rfl ?_
  refine ev_let (P := fun S2 => Ev (d) Mx28 (10, [.ref 10], [], S2, 0) r) (fun S2 hf => ?_) hf
  exact ev_ret hf rfl rfl
def f_X9_law (F : Nat) (S : mS) : Option mR := bV0 (f_X2_begin S) (fun S1 => bI0 (f_X4_readLines_31 F ((12 : Int32)) S1) (fun r3 S2 => bV0 (f_X8_cut ((0 : Int32)) S2) (fun S4 => (if ¬ r3 = 0 then bV0 (f_X2_copy 3 10 S4) (fun S5 => bV0 (f_X5_forget S5) (fun S6 => bI0 (f_X2_size S6) (fun r8 S7 => some (.inl (some (.int r8)), S7)))) else some (.inr 1, S4)))))
theorem f_X9_law_ok {d F : Nat} {S : mS} {r : mR} (hf : f_X9_law F S = some r) : Ev (d + 45) Mx90 (entry Mx90 [.ref 0] S) r := by
  unfold f_X9_law at hf
  refine ev_sts 2 (c2 := (4, [.ref 0, mK], [.ref 10], S, 0)) rfl ?_
  refine ev_bV0 (d := d + 44) (M' := Mx28) (ct := (7, [.ref 0, mK], [], S, 0)) hf rfl rfl rfl rfl (fun r9 h9 => f_X2_begin_ok (d := d + 44) h9) (fun S1 hf => ?_)
  show Ev (d + 45) Mx90 (7, [.ref 0, mK], [], S1, 0) r
  refine ev_sts 3 (c2 := (13, [.ref 0, mK], [.int ((12 : Int32)), .ref 31], S1, 0)) rfl ?_
  refine ev_bI0 (d := d + 44) (M' := Mx283) (ct := (16, [.ref 0, mK], [], S1, 0)) hf rfl rfl rfl rfl (fun r9 h9 => f_X4_readLines_31_ok (d := d) h9) (fun r3 S2 hf => ?_)
  show Ev (d + 45) Mx90 (16, [.ref 0, mK], [.int r3], S2, 0) r
  refine ev_sts 4 (c2 := (22, [.ref 0, .int r3], [.int ((0 : Int32)), .ref 1], S2, 0)) rfl ?_
  refine ev_bV0 (d := d + 44) (M' := Mx74) (ct := (25, [.ref 0, .int r3], [], S2, 0)) hf rfl rfl rfl rfl (fun r9 h9 => f_X8_cut_ok (d := d + 44) h9) (fun S4 hf => ?_)
  show Ev (d + 45) Mx90 (25, [.ref 0, .int r3], [], S4, 0) r
  refine ev_sts 1 (c2 := (26, [.ref 0, .int r3], [.int r3], S4, 0)) rfl ?_
  refine ev_if (c1 := (39, [.ref 0, .int r3], [], S4, 0)) (c2 := (29, [.ref 0, .int r3], [], S4, 0)) hf rfl rfl (fun _ hf => ?_) (fun _ hf => ?_)
  · refine ev_sts 4 (c2 := (47, [.ref 0, .int r3], [.ref 10, .ref 3], S4, 0)) rfl ?_
    refine ev_bV0 (d := d + 44) (M' := Mx31) (ct := (50, [.ref 0, .int r3], [], S4, 0)) hf rfl rfl rfl rfl (fun r9 h9 => f_X2_copy_ok_3_10 (d := d + 44) h9) (fun S5 hf => ?_)
    show Ev (d + 45) Mx90 (50, [.ref 0, .int r3], [], S5, 0) r
    refine ev_sts 2 (c2 := (54, [.ref 0, .int r3], [.ref 36], S5, 0)) rfl ?_
    refine ev_bV0 (d := d + 44) (M' := Mx43) (ct := (57, [.ref 0, .int r3], [], S5, 0)) hf rfl rfl rfl rfl (fun r9 h9 => f_X5_forget_ok (d := d + 44) h9) (fun S6 hf => ?_)
    show Ev (d + 45) Mx90 (57, [.ref 0, .int r3], [], S6, 0) r
    refine ev_sts 2 (c2 := (61, [.ref 0, .int r3], [.ref 3], S6, 0)) rfl ?_
    refine ev_bI0 (d := d + 44) (M' := Mx27) (ct := (64, [.ref 0, .int r3], [], S6, 0)) hf rfl rfl rfl rfl (fun r9 h9 => f_X2_size_ok (d := d + 44) h9) (fun r8 S7 hf => ?_)
    show Ev (d + 45) Mx90 (64, [.ref 0, .int r3], [.int r8], S7, 0) r
    exact ev_ret hf rfl rfl
  · exact ev_ret hf rfl rfl
def f_X9_leave_b60 (K14 : Int32 → Int32 → Int32 → Int32 → mS → Option mR) (F : Nat) (x1 : Int32) (x2 : Int32) (x3 : Int32) (x4 : Int32) (S : mS) : Option mR := K14 x1 x2 x3 (x4 + (1 : Int32)) S
def f_X9_leave_b54 (K14 : Int32 → Int32 → Int32 → Int32 → mS → Option mR) (F : Nat) (x1 : Int32) (x4 : Int32) (x5 : Int32) (S : mS) : Option mR := f_X9_leave_b60 K14 F x1 x4 x5 x4 S
def f_X9_leave_b14 (F : Nat) : Nat → Int32 → Int32 → Int32 → Int32 → mS → Option mR
  | 0, _, _, _, _, _ => none
  | n + 1, x1, x2, x3, x4, S => bI0 (f_X9_ledgeSets S) (fun r3 S2 => (if r3 ≤ x4 then some (.inl (some (.int x2)), S2) else bI0 (f_X9_sumOf F x4 ((2 : Int32)) S2) (fun r5 S4 => bI0 (f_X9_sumOf F x4 ((4 : Int32)) S4) (fun r7 S6 => (if r7 < x1 then f_X9_leave_b60 (fun x1 x2 x3 x4 S => f_X9_leave_b14 F n x1 x2 x3 x4 S) F x1 x2 x3 x4 S6 else (if x2 = ((-1 : Int32)) then f_X9_leave_b54 (fun x1 x2 x3 x4 S => f_X9_leave_b14 F n x1 x2 x3 x4 S) F x1 x4 r5 S6 else (if x3 ≤ r5 then f_X9_leave_b60 (fun x1 x2 x3 x4 S => f_X9_leave_b14 F n x1 x2 x3 x4 S) F x1 x2 x3 x4 S6 else f_X9_leave_b54 (fun x1 x2 x3 x4 S => f_X9_leave_b14 F n x1 x2 x3 x4 S) F x1 x4 r5 S6)))))))
def f_X9_leave (F : Nat) (p1 : Int32) (S : mS) : Option mR := bV (f_X9_needWithin p1 ((0 : Int32)) ((90 : Int32)) S) (fun S1 => f_X9_leave_b14 F F p1 ((-1 : Int32)) ((0 : Int32)) ((0 : Int32)) S1)
theorem f_X9_leave_b60_ok {d F : Nat} {K14 : Int32 → Int32 → Int32 → Int32 → mS → Option mR} (hK14 : ∀ {x1 : Int32} {x2 : Int32} {x3 : Int32} {x4 : Int32} {S : mS} {r : mR}, K14 x1 x2 x3 x4 S = some r → Ev (d + 3) Mx110 (14, [.ref 0, .int x1, .int x2, .int x3, .int x4, mK], [], S, 1) r) {x1 : Int32} {x2 : Int32} {x3 : Int32} {x4 : Int32} {S : mS} {r : mR} (hf : f_X9_leave_b60 K14 F x1 x2 x3 x4 S = some r) : Ev (d + 3) Mx110 (60, [.ref 0, .int x1, .int x2, .int x3, .int x4, mK], [], S, 1) r := by
  unfold f_X9_leave_b60 at hf
  exact ev_sts 2 (c2 := (14, [.ref 0, .int x1, .int x2, .int x3, .int (x4 + (1 : Int32)), mK], [], S, 1)) rfl (hK14 hf)
theorem f_X9_leave_b54_ok {d F : Nat} {K14 : Int32 → Int32 → Int32 → Int32 → mS → Option mR} (hK14 : ∀ {x1 : Int32} {x2 : Int32} {x3 : Int32} {x4 : Int32} {S : mS} {r : mR}, K14 x1 x2 x3 x4 S = some r → Ev (d + 3) Mx110 (14, [.ref 0, .int x1, .int x2, .int x3, .int x4, mK], [], S, 1) r) {x1 : Int32} {x4 : Int32} {x5 : Int32} {S : mS} {r : mR} (hf : f_X9_leave_b54 K14 F x1 x4 x5 S = some r) : Ev (d + 3) Mx110 (54, [.ref 0, .int x1, mK, mK, .int x4, .int x5], [], S, 1) r := by
  unfold f_X9_leave_b54 at hf
  exact ev_sts 4 (c2 := (60, [.ref 0, .int x1, .int x4, .int x5, .int x4, mK], [], S, 1)) rfl (f_X9_leave_b60_ok hK14 hf)
theorem f_X9_leave_b14_ok {d F : Nat} : ∀ (n : Nat) {x1 : Int32} {x2 : Int32} {x3 : Int32} {x4 : Int32} {S : mS} {r : mR}, f_X9_leave_b14 F n x1 x2 x3 x4 S = some r → Ev (d + 3) Mx110 (14, [.ref 0, .int x1, .int x2, .int x3, .int x4, mK], [], S, 1) r := by
  intro n
  induction n with
  | zero => intro x1 x2 x3 x4 S r hf; cases hf
  | succ n ih =>
    intro x1 x2 x3 x4 S r hf
    rw [f_X9_leave_b14] at hf
    refine ev_sts 2 (c2 := (17, [.ref 0, .int x1, .int x2, .int x3, .int x4, mK], [.ref 0, .int x4], S, 1)) rfl ?_
    refine ev_bI0 (d := d + 2) (M' := Mx144) (ct := (20, [.ref 0, .int x1, .int x2, .int x3, .int x4, mK], [.int x4], S, 1)) hf rfl rfl rfl rfl (fun r9 h9 => f_X9_ledgeSets_ok (d := d + 1) h9) (fun r3 S2 hf => ?_)
    show Ev (d + 3) Mx110 (20, [.ref 0, .int x1, .int x2, .int x3, .int x4, mK], [.int r3, .int x4], S2, 1) r
    refine ev_if (c1 := (66, [.ref 0, .int x1, .int x2, .int x3, .int x4, mK], [], S2, 1)) (c2 := (23, [.ref 0, .int x1, .int x2, .int x3, .int x4, mK], [], S2, 1)) hf rfl rfl (fun _ hf => ?_) (fun _ hf => ?_)
    · refine ev_sts 1 (c2 := (67, [.ref 0, .int x1, .int x2, .int x3, .int x4, mK], [.int x2], S2, 1)) rfl ?_
      exact ev_ret hf rfl rfl
    · refine ev_sts 3 (c2 := (27, [.ref 0, .int x1, .int x2, .int x3, .int x4, mK], [.int ((2 : Int32)), .int x4, .ref 0], S2, 1)) rfl ?_
      refine ev_bI0 (d := d + 2) (M' := Mx146) (ct := (30, [.ref 0, .int x1, .int x2, .int x3, .int x4, mK], [], S2, 1)) hf rfl rfl rfl rfl (fun r9 h9 => f_X9_sumOf_ok (d := d) h9) (fun r5 S4 hf => ?_)
      show Ev (d + 3) Mx110 (30, [.ref 0, .int x1, .int x2, .int x3, .int x4, mK], [.int r5], S4, 1) r
      refine ev_sts 4 (c2 := (36, [.ref 0, .int x1, .int x2, .int x3, .int x4, .int r5], [.int ((4 : Int32)), .int x4, .ref 0], S4, 1)) rfl ?_
      refine ev_bI0 (d := d + 2) (M' := Mx146) (ct := (39, [.ref 0, .int x1, .int x2, .int x3, .int x4, .int r5], [], S4, 1)) hf rfl rfl rfl rfl (fun r9 h9 => f_X9_sumOf_ok (d := d) h9) (fun r7 S6 hf => ?_)
      show Ev (d + 3) Mx110 (39, [.ref 0, .int x1, .int x2, .int x3, .int x4, .int r5], [.int r7], S6, 1) r
      refine ev_sts 1 (c2 := (40, [.ref 0, .int x1, .int x2, .int x3, .int x4, .int r5], [.int x1, .int r7], S6, 1)) rfl ?_
      refine ev_if (c1 := (60, [.ref 0, .int x1, .int x2, .int x3, .int x4, mK], [], S6, 1)) (c2 := (43, [.ref 0, .int x1, .int x2, .int x3, .int x4, .int r5], [], S6, 1)) hf rfl rfl (fun _ hf => ?_) (fun _ hf => ?_)
      · exact f_X9_leave_b60_ok (fun h9 => ih h9) hf
      · refine ev_sts 2 (c2 := (45, [.ref 0, .int x1, .int x2, .int x3, .int x4, .int r5], [.int ((-1 : Int32)), .int x2], S6, 1)) rfl ?_
        refine ev_if (c1 := (54, [.ref 0, .int x1, mK, mK, .int x4, .int r5], [], S6, 1)) (c2 := (48, [.ref 0, .int x1, .int x2, .int x3, .int x4, .int r5], [], S6, 1)) hf rfl rfl (fun _ hf => ?_) (fun _ hf => ?_)
        · exact f_X9_leave_b54_ok (fun h9 => ih h9) hf
        · refine ev_sts 2 (c2 := (51, [.ref 0, .int x1, .int x2, .int x3, .int x4, .int r5], [.int x3, .int r5], S6, 1)) rfl ?_
          refine ev_if (c1 := (60, [.ref 0, .int x1, .int x2, .int x3, .int x4, mK], [], S6, 1)) (c2 := (54, [.ref 0, .int x1, mK, mK, .int x4, .int r5], [], S6, 1)) hf rfl rfl (fun _ hf => ?_) (fun _ hf => ?_)
          · exact f_X9_leave_b60_ok (fun h9 => ih h9) hf
          · exact f_X9_leave_b54_ok (fun h9 => ih h9) hf
theorem f_X9_leave_ok {d F : Nat} {p1 : Int32} {S : mS} {r : mR} (hf : f_X9_leave F p1 S = some r) : Ev (d + 3) Mx110 (entry Mx110 [.ref 0, .int p1] S) r := by
  unfold f_X9_leave at hf
  refine ev_sts 3 (c2 := (4, [.ref 0, .int p1, mK, mK, mK, mK], [.int ((90 : Int32)), .int ((0 : Int32)), .int p1], S, 0)) rfl ?_
  refine ev_bV (d := d + 2) (M' := Mx142) (ct := (7, [.ref 0, .int p1, mK, mK, mK, mK], [], S, 1)) hf rfl rfl rfl rfl (by decide) (fun r9 h9 => f_X9_needWithin_ok (d := d + 2) h9) (fun S1 hf => ?_)
  show Ev (d + 3) Mx110 (7, [.ref 0, .int p1, mK, mK, mK, mK], [], S1, 1) r
  exact ev_sts 6 (c2 := (14, [.ref 0, .int p1, .int ((-1 : Int32)), .int ((0 : Int32)), .int ((0 : Int32)), mK], [], S1, 1)) rfl (f_X9_leave_b14_ok _ hf)
def f_X0_ofRow (p1 : Int32) (p2 : Int32) (S : mS) : Option mR := bI0 (f_X0_at 24 ((((86 : Int32)) + (p1 * ((6 : Int32)))) + p2) S) (fun r2 S1 => some (.inl (some (.int r2)), S1))
theorem f_X0_ofRow_ok {d : Nat} {p1 : Int32} {p2 : Int32} {S : mS} {r : mR} (hf : f_X0_ofRow p1 p2 S = some r) : Ev (d + 1) Mx10 (entry Mx10 [.ref 24, .int p1, .int p2] S) r := by
  unfold f_X0_ofRow at hf
  refine ev_sts 8 (c2 := (10, [.ref 24, .int p1, .int p2], [.int ((((86 : Int32)) + (p1 * ((6 : Int32)))) + p2), .ref 24], S, 0)) rfl ?_
  refine ev_bI0 (d := d) (M' := Mx1) (ct := (13, [.ref 24, .int p1, .int p2], [], S, 0)) hf rfl rfl rfl rfl (fun r9 h9 => f_X0_at_ok_24 (d := d) h9) (fun r2 S1 hf => ?_)
  show Ev (d + 1) Mx10 (13, [.ref 24, .int p1, .int p2], [.int r2], S1, 0) r
  exact ev_ret hf rfl rfl
def f_X0_loggedEggs_b38 (K5 : Int32 → Int32 → Int32 → Int32 → mS → Option mR) (F : Nat) (x1 : Int32) (x2 : Int32) (x3 : Int32) (x4 : Int32) (S : mS) : Option mR := K5 x1 x2 x3 (x4 + (1 : Int32)) S
def f_X0_loggedEggs_b5 (F : Nat) : Nat → Int32 → Int32 → Int32 → Int32 → mS → Option mR
  | 0, _, _, _, _, _ => none
  | n + 1, x1, x2, x3, x4, S => gd (inb ((15 : Int32)) 446) ((if (S 25 ((15 : Int32)).toNatClampNeg) ≤ x4 then some (.inl (some (.int x3)), S) else bI0 (f_X0_ofRow x4 x1 S) (fun r2 S1 => (if ¬ r2 = x2 then f_X0_loggedEggs_b38 (fun x1 x2 x3 x4 S => f_X0_loggedEggs_b5 F n x1 x2 x3 x4 S) F x1 x2 x3 x4 S1 else bI0 (f_X0_ofRow x4 ((3 : Int32)) S1) (fun r4 S3 => bnd (x3 + r4 : Int32) (fun y5 => f_X0_loggedEggs_b38 (fun x1 x2 x3 x4 S => f_X0_loggedEggs_b5 F n x1 x2 x3 x4 S) F x1 x2 y5 x4 S3))))))
def f_X0_loggedEggs (F : Nat) (p1 : Int32) (p2 : Int32) (S : mS) : Option mR := f_X0_loggedEggs_b5 F F p1 p2 ((0 : Int32)) ((0 : Int32)) S
theorem f_X0_loggedEggs_b38_ok {d F : Nat} {K5 : Int32 → Int32 → Int32 → Int32 → mS → Option mR} (hK5 : ∀ {x1 : Int32} {x2 : Int32} {x3 : Int32} {x4 : Int32} {S : mS} {r : mR}, K5 x1 x2 x3 x4 S = some r → Ev (d + 2) Mx14 (5, [.ref 24, .int x1, .int x2, .int x3, .int x4], [], S, 0) r) {x1 : Int32} {x2 : Int32} {x3 : Int32} {x4 : Int32} {S : mS} {r : mR} (hf : f_X0_loggedEggs_b38 K5 F x1 x2 x3 x4 S = some r) : Ev (d + 2) Mx14 (38, [.ref 24, .int x1, .int x2, .int x3, .int x4], [], S, 0) r := by
  unfold f_X0_loggedEggs_b38 at hf
  exact ev_sts 2 (c2 := (5, [.ref 24, .int x1, .int x2, .int x3, .int (x4 + (1 : Int32))], [], S, 0)) rfl (hK5 hf)
theorem f_X0_loggedEggs_b5_ok {d F : Nat} : ∀ (n : Nat) {x1 : Int32} {x2 : Int32} {x3 : Int32} {x4 : Int32} {S : mS} {r : mR}, f_X0_loggedEggs_b5 F n x1 x2 x3 x4 S = some r → Ev (d + 2) Mx14 (5, [.ref 24, .int x1, .int x2, .int x3, .int x4], [], S, 0) r := by
  intro n
  induction n with
  | zero => intro x1 x2 x3 x4 S r hf; cases hf
  | succ n ih =>
    intro x1 x2 x3 x4 S r hf
    rw [f_X0_loggedEggs_b5] at hf
    refine ev_sts 4 (c2 := (13, [.ref 24, .int x1, .int x2, .int x3, .int x4], [.int ((15 : Int32)), .ref 25, .int x4], S, 0)) rfl ?_
    refine ev_gd (c1 := (14, [.ref 24, .int x1, .int x2, .int x3, .int x4], [.int (S 25 ((15 : Int32)).toNatClampNeg), .int x4], S, 0)) hf rfl rfl (fun hf => ?_)
    refine ev_if (c1 := (44, [.ref 24, .int x1, .int x2, .int x3, .int x4], [], S, 0)) (c2 := (17, [.ref 24, .int x1, .int x2, .int x3, .int x4], [], S, 0)) hf rfl rfl (fun _ hf => ?_) (fun _ hf => ?_)
    · refine ev_sts 1 (c2 := (45, [.ref 24, .int x1, .int x2, .int x3, .int x4], [.int x3], S, 0)) rfl ?_
      exact ev_ret hf rfl rfl
    · refine ev_sts 3 (c2 := (21, [.ref 24, .int x1, .int x2, .int x3, .int x4], [.int x1, .int x4, .ref 24], S, 0)) rfl ?_
      refine ev_bI0 (d := d + 1) (M' := Mx10) (ct := (24, [.ref 24, .int x1, .int x2, .int x3, .int x4], [], S, 0)) hf rfl rfl rfl rfl (fun r9 h9 => f_X0_ofRow_ok (d := d) h9) (fun r2 S1 hf => ?_)
      show Ev (d + 2) Mx14 (24, [.ref 24, .int x1, .int x2, .int x3, .int x4], [.int r2], S1, 0) r
      refine ev_sts 1 (c2 := (25, [.ref 24, .int x1, .int x2, .int x3, .int x4], [.int x2, .int r2], S1, 0)) rfl ?_
      refine ev_if (c1 := (38, [.ref 24, .int x1, .int x2, .int x3, .int x4], [], S1, 0)) (c2 := (28, [.ref 24, .int x1, .int x2, .int x3, .int x4], [], S1, 0)) hf rfl rfl (fun _ hf => ?_) (fun _ hf => ?_)
      · exact f_X0_loggedEggs_b38_ok (fun h9 => ih h9) hf
      · refine ev_sts 4 (c2 := (33, [.ref 24, .int x1, .int x2, .int x3, .int x4], [.int ((3 : Int32)), .int x4, .ref 24, .int x3], S1, 0)) rfl ?_
        refine ev_bI0 (d := d + 1) (M' := Mx10) (ct := (36, [.ref 24, .int x1, .int x2, .int x3, .int x4], [.int x3], S1, 0)) hf rfl rfl rfl rfl (fun r9 h9 => f_X0_ofRow_ok (d := d) h9) (fun r4 S3 hf => ?_)
        show Ev (d + 2) Mx14 (36, [.ref 24, .int x1, .int x2, .int x3, .int x4], [.int r4, .int x3], S3, 0) r
        refine ev_sts 2 (c2 := (38, [.ref 24, .int x1, .int x2, .int (x3 + r4), .int x4], [], S3, 0)) rfl ?_
        refine ev_let (P := fun y5 => Ev (d + 2) Mx14 (38, [.ref 24, .int x1, .int x2, .int y5, .int x4], [], S3, 0) r) (fun y5 hf => ?_) hf
        exact f_X0_loggedEggs_b38_ok (fun h9 => ih h9) hf
theorem f_X0_loggedEggs_ok {d F : Nat} {p1 : Int32} {p2 : Int32} {S : mS} {r : mR} (hf : f_X0_loggedEggs F p1 p2 S = some r) : Ev (d + 2) Mx14 (entry Mx14 [.ref 24, .int p1, .int p2] S) r := by
  unfold f_X0_loggedEggs at hf
  exact ev_sts 4 (c2 := (5, [.ref 24, .int p1, .int p2, .int ((0 : Int32)), .int ((0 : Int32))], [], S, 0)) rfl (f_X0_loggedEggs_b5_ok _ hf)
def f_X0_loggedRows_b28 (K4 : Int32 → Int32 → Int32 → mS → Option mR) (F : Nat) (x1 : Int32) (x2 : Int32) (x3 : Int32) (S : mS) : Option mR := K4 x1 x2 (x3 + (1 : Int32)) S
def f_X0_loggedRows_b4 (F : Nat) : Nat → Int32 → Int32 → Int32 → mS → Option mR
  | 0, _, _, _, _ => none
  | n + 1, x1, x2, x3, S => gd (inb ((15 : Int32)) 446) ((if (S 25 ((15 : Int32)).toNatClampNeg) ≤ x3 then some (.inl (some (.int x2)), S) else bI0 (f_X0_ofRow x3 ((2 : Int32)) S) (fun r2 S1 => (if ¬ r2 = x1 then f_X0_loggedRows_b28 (fun x1 x2 x3 S => f_X0_loggedRows_b4 F n x1 x2 x3 S) F x1 x2 x3 S1 else f_X0_loggedRows_b28 (fun x1 x2 x3 S => f_X0_loggedRows_b4 F n x1 x2 x3 S) F x1 (x2 + (1 : Int32)) x3 S1))))
def f_X0_loggedRows (F : Nat) (p1 : Int32) (S : mS) : Option mR := f_X0_loggedRows_b4 F F p1 ((0 : Int32)) ((0 : Int32)) S
theorem f_X0_loggedRows_b28_ok {d F : Nat} {K4 : Int32 → Int32 → Int32 → mS → Option mR} (hK4 : ∀ {x1 : Int32} {x2 : Int32} {x3 : Int32} {S : mS} {r : mR}, K4 x1 x2 x3 S = some r → Ev (d + 2) Mx13 (4, [.ref 24, .int x1, .int x2, .int x3], [], S, 0) r) {x1 : Int32} {x2 : Int32} {x3 : Int32} {S : mS} {r : mR} (hf : f_X0_loggedRows_b28 K4 F x1 x2 x3 S = some r) : Ev (d + 2) Mx13 (28, [.ref 24, .int x1, .int x2, .int x3], [], S, 0) r := by
  unfold f_X0_loggedRows_b28 at hf
  exact ev_sts 2 (c2 := (4, [.ref 24, .int x1, .int x2, .int (x3 + (1 : Int32))], [], S, 0)) rfl (hK4 hf)
theorem f_X0_loggedRows_b4_ok {d F : Nat} : ∀ (n : Nat) {x1 : Int32} {x2 : Int32} {x3 : Int32} {S : mS} {r : mR}, f_X0_loggedRows_b4 F n x1 x2 x3 S = some r → Ev (d + 2) Mx13 (4, [.ref 24, .int x1, .int x2, .int x3], [], S, 0) r := by
  intro n
  induction n with
  | zero => intro x1 x2 x3 S r hf; cases hf
  | succ n ih =>
    intro x1 x2 x3 S r hf
    rw [f_X0_loggedRows_b4] at hf
    refine ev_sts 4 (c2 := (11, [.ref 24, .int x1, .int x2, .int x3], [.int ((15 : Int32)), .ref 25, .int x3], S, 0)) rfl ?_
    refine ev_gd (c1 := (12, [.ref 24, .int x1, .int x2, .int x3], [.int (S 25 ((15 : Int32)).toNatClampNeg), .int x3], S, 0)) hf rfl rfl (fun hf => ?_)
    refine ev_if (c1 := (34, [.ref 24, .int x1, .int x2, .int x3], [], S, 0)) (c2 := (15, [.ref 24, .int x1, .int x2, .int x3], [], S, 0)) hf rfl rfl (fun _ hf => ?_) (fun _ hf => ?_)
    · refine ev_sts 1 (c2 := (35, [.ref 24, .int x1, .int x2, .int x3], [.int x2], S, 0)) rfl ?_
      exact ev_ret hf rfl rfl
    · refine ev_sts 3 (c2 := (18, [.ref 24, .int x1, .int x2, .int x3], [.int ((2 : Int32)), .int x3, .ref 24], S, 0)) rfl ?_
      refine ev_bI0 (d := d + 1) (M' := Mx10) (ct := (21, [.ref 24, .int x1, .int x2, .int x3], [], S, 0)) hf rfl rfl rfl rfl (fun r9 h9 => f_X0_ofRow_ok (d := d) h9) (fun r2 S1 hf => ?_)
      show Ev (d + 2) Mx13 (21, [.ref 24, .int x1, .int x2, .int x3], [.int r2], S1, 0) r
      refine ev_sts 1 (c2 := (22, [.ref 24, .int x1, .int x2, .int x3], [.int x1, .int r2], S1, 0)) rfl ?_
      refine ev_if (c1 := (28, [.ref 24, .int x1, .int x2, .int x3], [], S1, 0)) (c2 := (25, [.ref 24, .int x1, .int x2, .int x3], [], S1, 0)) hf rfl rfl (fun _ hf => ?_) (fun _ hf => ?_)
      · exact f_X0_loggedRows_b28_ok (fun h9 => ih h9) hf
      · exact ev_sts 1 (c2 := (28, [.ref 24, .int x1, .int (x2 + (1 : Int32)), .int x3], [], S1, 0)) rfl (f_X0_loggedRows_b28_ok (fun h9 => ih h9) hf)
theorem f_X0_loggedRows_ok {d F : Nat} {p1 : Int32} {S : mS} {r : mR} (hf : f_X0_loggedRows F p1 S = some r) : Ev (d + 2) Mx13 (entry Mx13 [.ref 24, .int p1] S) r := by
  unfold f_X0_loggedRows at hf
  exact ev_sts 4 (c2 := (4, [.ref 24, .int p1, .int ((0 : Int32)), .int ((0 : Int32))], [], S, 0)) rfl (f_X0_loggedRows_b4_ok _ hf)
def f_X9_led_b29 (F : Nat) (t0 : Int32) (S : mS) : Option mR := some (.inl (some (.int t0)), S)
def f_X9_led (F : Nat) (p1 : Int32) (p2 : Int32) (S : mS) : Option mR := bV (f_X9_needLedge p1 S) (fun S1 => (if p2 = 0 then bI0 (f_X0_loggedRows F p1 S1) (fun r3 S2 => f_X9_led_b29 F r3 S2) else bI0 (f_X0_loggedEggs F ((2 : Int32)) p1 S1) (fun r5 S4 => f_X9_led_b29 F r5 S4)))
theorem f_X9_led_b29_ok {d F : Nat} {t0 : Int32} {S : mS} {r : mR} (hf : f_X9_led_b29 F t0 S = some r) : Ev (d + 3) Mx131 (29, [mK, mK, mK], [.int t0], S, 1) r := by
  unfold f_X9_led_b29 at hf
  exact ev_ret hf rfl rfl
theorem f_X9_led_ok {d F : Nat} {p1 : Int32} {p2 : Int32} {S : mS} {r : mR} (hf : f_X9_led F p1 p2 S = some r) : Ev (d + 3) Mx131 (entry Mx131 [.ref 0, .int p1, .int p2] S) r := by
  unfold f_X9_led at hf
  refine ev_sts 2 (c2 := (2, [.ref 0, .int p1, .int p2], [.int p1, .ref 0], S, 0)) rfl ?_
  refine ev_bV (d := d + 2) (M' := Mx139) (ct := (5, [.ref 0, .int p1, .int p2], [], S, 1)) hf rfl rfl rfl rfl (by decide) (fun r9 h9 => f_X9_needLedge_ok (d := d + 1) h9) (fun S1 hf => ?_)
  show Ev (d + 3) Mx131 (5, [.ref 0, .int p1, .int p2], [], S1, 1) r
  refine ev_sts 1 (c2 := (6, [.ref 0, .int p1, .int p2], [.int p2], S1, 1)) rfl ?_
  refine ev_if (c1 := (21, [.ref 0, .int p1, .int p2], [], S1, 1)) (c2 := (9, [.ref 0, .int p1, .int p2], [], S1, 1)) hf rfl rfl (fun _ hf => ?_) (fun _ hf => ?_)
  · refine ev_sts 3 (c2 := (26, [.ref 0, .int p1, .int p2], [.int p1, .ref 24], S1, 1)) rfl ?_
    refine ev_bI0 (d := d + 2) (M' := Mx13) (ct := (29, [mK, mK, mK], [], S1, 1)) hf rfl rfl rfl rfl (fun r9 h9 => f_X0_loggedRows_ok (d := d) h9) (fun r3 S2 hf => ?_)
    show Ev (d + 3) Mx131 (29, [mK, mK, mK], [.int r3], S2, 1) r
    exact f_X9_led_b29_ok hf
  · refine ev_sts 4 (c2 := (15, [.ref 0, .int p1, .int p2], [.int p1, .int ((2 : Int32)), .ref 24], S1, 1)) rfl ?_
    refine ev_bI0 (d := d + 2) (M' := Mx14) (ct := (18, [.ref 0, .int p1, .int p2], [], S1, 1)) hf rfl rfl rfl rfl (fun r9 h9 => f_X0_loggedEggs_ok (d := d) h9) (fun r5 S4 hf => ?_)
    show Ev (d + 3) Mx131 (18, [.ref 0, .int p1, .int p2], [.int r5], S4, 1) r
    exact ev_sts 1 (c2 := (29, [mK, mK, mK], [.int r5], S4, 1)) rfl (f_X9_led_b29_ok hf)
def f_X9_nextTo_b44 (K4 : Int32 → Int32 → Int32 → mS → Option mR) (F : Nat) (x1 : Int32) (x2 : Int32) (x3 : Int32) (S : mS) : Option mR := K4 x1 x2 (x3 + (1 : Int32)) S
def f_X9_nextTo_b42 (K4 : Int32 → Int32 → Int32 → mS → Option mR) (F : Nat) (x1 : Int32) (x3 : Int32) (S : mS) : Option mR := f_X9_nextTo_b44 K4 F x1 x3 x3 S
def f_X9_nextTo_b4 (F : Nat) : Nat → Int32 → Int32 → Int32 → mS → Option mR
  | 0, _, _, _, _ => none
  | n + 1, x1, x2, x3, S => bI0 (f_X0_at 24 ((12 : Int32)) S) (fun r2 S1 => (if r2 ≤ x3 then some (.inl (some (.int x2)), S1) else (if x3 = x1 then f_X9_nextTo_b44 (fun x1 x2 x3 S => f_X9_nextTo_b4 F n x1 x2 x3 S) F x1 x2 x3 S1 else (if x2 = ((-1 : Int32)) then f_X9_nextTo_b42 (fun x1 x2 x3 S => f_X9_nextTo_b4 F n x1 x2 x3 S) F x1 x3 S1 else bI0 (f_X9_apart x1 x3 S1) (fun r4 S3 => bI0 (f_X9_apart x1 x2 S3) (fun r6 S5 => (if r6 ≤ r4 then f_X9_nextTo_b44 (fun x1 x2 x3 S => f_X9_nextTo_b4 F n x1 x2 x3 S) F x1 x2 x3 S5 else f_X9_nextTo_b42 (fun x1 x2 x3 S => f_X9_nextTo_b4 F n x1 x2 x3 S) F x1 x3 S5)))))))
def f_X9_nextTo (F : Nat) (p1 : Int32) (S : mS) : Option mR := f_X9_nextTo_b4 F F p1 ((-1 : Int32)) ((0 : Int32)) S
theorem f_X9_nextTo_b44_ok {d F : Nat} {K4 : Int32 → Int32 → Int32 → mS → Option mR} (hK4 : ∀ {x1 : Int32} {x2 : Int32} {x3 : Int32} {S : mS} {r : mR}, K4 x1 x2 x3 S = some r → Ev (d + 3) Mx149 (4, [.ref 0, .int x1, .int x2, .int x3], [], S, 0) r) {x1 : Int32} {x2 : Int32} {x3 : Int32} {S : mS} {r : mR} (hf : f_X9_nextTo_b44 K4 F x1 x2 x3 S = some r) : Ev (d + 3) Mx149 (44, [.ref 0, .int x1, .int x2, .int x3], [], S, 0) r := by
  unfold f_X9_nextTo_b44 at hf
  exact ev_sts 2 (c2 := (4, [.ref 0, .int x1, .int x2, .int (x3 + (1 : Int32))], [], S, 0)) rfl (hK4 hf)
theorem f_X9_nextTo_b42_ok {d F : Nat} {K4 : Int32 → Int32 → Int32 → mS → Option mR} (hK4 : ∀ {x1 : Int32} {x2 : Int32} {x3 : Int32} {S : mS} {r : mR}, K4 x1 x2 x3 S = some r → Ev (d + 3) Mx149 (4, [.ref 0, .int x1, .int x2, .int x3], [], S, 0) r) {x1 : Int32} {x3 : Int32} {S : mS} {r : mR} (hf : f_X9_nextTo_b42 K4 F x1 x3 S = some r) : Ev (d + 3) Mx149 (42, [.ref 0, .int x1, mK, .int x3], [], S, 0) r := by
  unfold f_X9_nextTo_b42 at hf
  exact ev_sts 2 (c2 := (44, [.ref 0, .int x1, .int x3, .int x3], [], S, 0)) rfl (f_X9_nextTo_b44_ok hK4 hf)
theorem f_X9_nextTo_b4_ok {d F : Nat} : ∀ (n : Nat) {x1 : Int32} {x2 : Int32} {x3 : Int32} {S : mS} {r : mR}, f_X9_nextTo_b4 F n x1 x2 x3 S = some r → Ev (d + 3) Mx149 (4, [.ref 0, .int x1, .int x2, .int x3], [], S, 0) r := by
  intro n
  induction n with
  | zero => intro x1 x2 x3 S r hf; cases hf
  | succ n ih =>
    intro x1 x2 x3 S r hf
    rw [f_X9_nextTo_b4] at hf
    refine ev_sts 4 (c2 := (11, [.ref 0, .int x1, .int x2, .int x3], [.int ((12 : Int32)), .ref 24, .int x3], S, 0)) rfl ?_
    refine ev_bI0 (d := d + 2) (M' := Mx1) (ct := (14, [.ref 0, .int x1, .int x2, .int x3], [.int x3], S, 0)) hf rfl rfl rfl rfl (fun r9 h9 => f_X0_at_ok_24 (d := d + 2) h9) (fun r2 S1 hf => ?_)
    show Ev (d + 3) Mx149 (14, [.ref 0, .int x1, .int x2, .int x3], [.int r2, .int x3], S1, 0) r
    refine ev_if (c1 := (50, [.ref 0, .int x1, .int x2, .int x3], [], S1, 0)) (c2 := (17, [.ref 0, .int x1, .int x2, .int x3], [], S1, 0)) hf rfl rfl (fun _ hf => ?_) (fun _ hf => ?_)
    · refine ev_sts 1 (c2 := (51, [.ref 0, .int x1, .int x2, .int x3], [.int x2], S1, 0)) rfl ?_
      exact ev_ret hf rfl rfl
    · refine ev_sts 2 (c2 := (19, [.ref 0, .int x1, .int x2, .int x3], [.int x1, .int x3], S1, 0)) rfl ?_
      refine ev_if (c1 := (44, [.ref 0, .int x1, .int x2, .int x3], [], S1, 0)) (c2 := (22, [.ref 0, .int x1, .int x2, .int x3], [], S1, 0)) hf rfl rfl (fun _ hf => ?_) (fun _ hf => ?_)
      · exact f_X9_nextTo_b44_ok (fun h9 => ih h9) hf
      · refine ev_sts 2 (c2 := (24, [.ref 0, .int x1, .int x2, .int x3], [.int ((-1 : Int32)), .int x2], S1, 0)) rfl ?_
        refine ev_if (c1 := (42, [.ref 0, .int x1, mK, .int x3], [], S1, 0)) (c2 := (27, [.ref 0, .int x1, .int x2, .int x3], [], S1, 0)) hf rfl rfl (fun _ hf => ?_) (fun _ hf => ?_)
        · exact f_X9_nextTo_b42_ok (fun h9 => ih h9) hf
        · refine ev_sts 3 (c2 := (30, [.ref 0, .int x1, .int x2, .int x3], [.int x3, .int x1, .ref 0], S1, 0)) rfl ?_
          refine ev_bI0 (d := d + 2) (M' := Mx148) (ct := (33, [.ref 0, .int x1, .int x2, .int x3], [], S1, 0)) hf rfl rfl rfl rfl (fun r9 h9 => f_X9_apart_ok (d := d) h9) (fun r4 S3 hf => ?_)
          show Ev (d + 3) Mx149 (33, [.ref 0, .int x1, .int x2, .int x3], [.int r4], S3, 0) r
          refine ev_sts 3 (c2 := (36, [.ref 0, .int x1, .int x2, .int x3], [.int x2, .int x1, .ref 0, .int r4], S3, 0)) rfl ?_
          refine ev_bI0 (d := d + 2) (M' := Mx148) (ct := (39, [.ref 0, .int x1, .int x2, .int x3], [.int r4], S3, 0)) hf rfl rfl rfl rfl (fun r9 h9 => f_X9_apart_ok (d := d) h9) (fun r6 S5 hf => ?_)
          show Ev (d + 3) Mx149 (39, [.ref 0, .int x1, .int x2, .int x3], [.int r6, .int r4], S5, 0) r
          refine ev_if (c1 := (44, [.ref 0, .int x1, .int x2, .int x3], [], S5, 0)) (c2 := (42, [.ref 0, .int x1, mK, .int x3], [], S5, 0)) hf rfl rfl (fun _ hf => ?_) (fun _ hf => ?_)
          · exact f_X9_nextTo_b44_ok (fun h9 => ih h9) hf
          · exact f_X9_nextTo_b42_ok (fun h9 => ih h9) hf
theorem f_X9_nextTo_ok {d F : Nat} {p1 : Int32} {S : mS} {r : mR} (hf : f_X9_nextTo F p1 S = some r) : Ev (d + 3) Mx149 (entry Mx149 [.ref 0, .int p1] S) r := by
  unfold f_X9_nextTo at hf
  exact ev_sts 4 (c2 := (4, [.ref 0, .int p1, .int ((-1 : Int32)), .int ((0 : Int32))], [], S, 0)) rfl (f_X9_nextTo_b4_ok _ hf)
def f_X9_windsTo_b33 (K4 : Int32 → Int32 → Int32 → mS → Option mR) (F : Nat) (x1 : Int32) (x2 : Int32) (x3 : Int32) (S : mS) : Option mR := K4 x1 x2 (x3 + (1 : Int32)) S
def f_X9_windsTo_b4 (F : Nat) : Nat → Int32 → Int32 → Int32 → mS → Option mR
  | 0, _, _, _, _ => none
  | n + 1, x1, x2, x3, S => (if ((9 : Int32)) < x3 then some (.inl (some (.int x2)), S) else bI0 (f_X7_kicksTo F 24 x1 x3 S) (fun r2 S1 => (if r2 = ((-1 : Int32)) then f_X9_windsTo_b33 (fun x1 x2 x3 S => f_X9_windsTo_b4 F n x1 x2 x3 S) F x1 x2 x3 S1 else bnd (x2 ||| (((1 : Int32)) <<< (x3 &&& 31)) : Int32) (fun y3 => f_X9_windsTo_b33 (fun x1 x2 x3 S => f_X9_windsTo_b4 F n x1 x2 x3 S) F x1 y3 x3 S1))))
def f_X9_windsTo (F : Nat) (p1 : Int32) (S : mS) : Option mR := f_X9_windsTo_b4 F F p1 ((0 : Int32)) ((0 : Int32)) S
theorem f_X9_windsTo_b33_ok {d F : Nat} {K4 : Int32 → Int32 → Int32 → mS → Option mR} (hK4 : ∀ {x1 : Int32} {x2 : Int32} {x3 : Int32} {S : mS} {r : mR}, K4 x1 x2 x3 S = some r → Ev (d + 5) Mx147 (4, [.ref 0, .int x1, .int x2, .int x3], [], S, 0) r) {x1 : Int32} {x2 : Int32} {x3 : Int32} {S : mS} {r : mR} (hf : f_X9_windsTo_b33 K4 F x1 x2 x3 S = some r) : Ev (d + 5) Mx147 (33, [.ref 0, .int x1, .int x2, .int x3], [], S, 0) r := by
  unfold f_X9_windsTo_b33 at hf
  exact ev_sts 2 (c2 := (4, [.ref 0, .int x1, .int x2, .int (x3 + (1 : Int32))], [], S, 0)) rfl (hK4 hf)
theorem f_X9_windsTo_b4_ok {d F : Nat} : ∀ (n : Nat) {x1 : Int32} {x2 : Int32} {x3 : Int32} {S : mS} {r : mR}, f_X9_windsTo_b4 F n x1 x2 x3 S = some r → Ev (d + 5) Mx147 (4, [.ref 0, .int x1, .int x2, .int x3], [], S, 0) r := by
  intro n
  induction n with
  | zero => intro x1 x2 x3 S r hf; cases hf
  | succ n ih =>
    intro x1 x2 x3 S r hf
    rw [f_X9_windsTo_b4] at hf
    refine ev_sts 2 (c2 := (7, [.ref 0, .int x1, .int x2, .int x3], [.int ((9 : Int32)), .int x3], S, 0)) rfl ?_
    refine ev_if (c1 := (39, [.ref 0, .int x1, .int x2, .int x3], [], S, 0)) (c2 := (10, [.ref 0, .int x1, .int x2, .int x3], [], S, 0)) hf rfl rfl (fun _ hf => ?_) (fun _ hf => ?_)
    · refine ev_sts 1 (c2 := (40, [.ref 0, .int x1, .int x2, .int x3], [.int x2], S, 0)) rfl ?_
      exact ev_ret hf rfl rfl
    · refine ev_sts 6 (c2 := (20, [.ref 0, .int x1, .int x2, .int x3], [.int x3, .int x1, .ref 24, .ref 32], S, 0)) rfl ?_
      refine ev_bI0 (d := d + 4) (M' := Mx60) (ct := (23, [.ref 0, .int x1, .int x2, .int x3], [], S, 0)) hf rfl rfl rfl rfl (fun r9 h9 => f_X7_kicksTo_ok_24 (d := d) h9) (fun r2 S1 hf => ?_)
      show Ev (d + 5) Mx147 (23, [.ref 0, .int x1, .int x2, .int x3], [.int r2], S1, 0) r
      refine ev_sts 1 (c2 := (24, [.ref 0, .int x1, .int x2, .int x3], [.int ((-1 : Int32)), .int r2], S1, 0)) rfl ?_
      refine ev_if (c1 := (33, [.ref 0, .int x1, .int x2, .int x3], [], S1, 0)) (c2 := (27, [.ref 0, .int x1, .int x2, .int x3], [], S1, 0)) hf rfl rfl (fun _ hf => ?_) (fun _ hf => ?_)
      · exact f_X9_windsTo_b33_ok (fun h9 => ih h9) hf
      · refine ev_sts 6 (c2 := (33, [.ref 0, .int x1, .int (x2 ||| (((1 : Int32)) <<< (x3 &&& 31))), .int x3], [], S1, 0)) rfl ?_
        refine ev_let (P := fun y3 => Ev (d + 5) Mx147 (33, [.ref 0, .int x1, .int y3, .int x3], [], S1, 0) r) (fun y3 hf => ?_) hf
        exact f_X9_windsTo_b33_ok (fun h9 => ih h9) hf
theorem f_X9_windsTo_ok {d F : Nat} {p1 : Int32} {S : mS} {r : mR} (hf : f_X9_windsTo F p1 S = some r) : Ev (d + 5) Mx147 (entry Mx147 [.ref 0, .int p1] S) r := by
  unfold f_X9_windsTo at hf
  exact ev_sts 4 (c2 := (4, [.ref 0, .int p1, .int ((0 : Int32)), .int ((0 : Int32))], [], S, 0)) rfl (f_X9_windsTo_b4_ok _ hf)
def f_X9_ledge_b15 (F : Nat) (S : mS) : Option mR := some (.inr 4, S)
def f_X9_ledge_b78 (F : Nat) (t0 : Int32) (S : mS) : Option mR := some (.inl (some (.int t0)), S)
def f_X9_ledge (F : Nat) (p1 : Int32) (p2 : Int32) (S : mS) : Option mR := bV (f_X9_needLedge p1 S) (fun S1 => (if p2 < 0 then f_X9_ledge_b15 F S1 else (if p2 ≤ ((7 : Int32)) then (if ¬ p2 = ((5 : Int32)) then (if ¬ p2 = ((6 : Int32)) then (if ¬ p2 = ((7 : Int32)) then bI0 (f_X0_ofLedge 24 p1 p2 S1) (fun r3 S2 => f_X9_ledge_b78 F r3 S2) else bI0 (f_X9_nextTo F p1 S1) (fun r5 S4 => f_X9_ledge_b78 F r5 S4)) else bI0 (f_X9_windsTo F p1 S1) (fun r7 S6 => some (.inl (some (.int r7)), S6))) else bI0 (f_X7_laysAt F 24 p1 S1) (fun r9 S8 => some (.inl (some (.int r9)), S8))) else f_X9_ledge_b15 F S1)))
theorem f_X9_ledge_b15_ok {d F : Nat} {S : mS} {r : mR} (hf : f_X9_ledge_b15 F  S = some r) : Ev (d + 6) Mx92 (15, [mK, mK, mK], [], S, 1) r := by
  unfold f_X9_ledge_b15 at hf
  exact ev_ret hf rfl rfl
theorem f_X9_ledge_b78_ok {d F : Nat} {t0 : Int32} {S : mS} {r : mR} (hf : f_X9_ledge_b78 F t0 S = some r) : Ev (d + 6) Mx92 (78, [mK, mK, mK], [.int t0], S, 1) r := by
  unfold f_X9_ledge_b78 at hf
  exact ev_ret hf rfl rfl
theorem f_X9_ledge_ok {d F : Nat} {p1 : Int32} {p2 : Int32} {S : mS} {r : mR} (hf : f_X9_ledge F p1 p2 S = some r) : Ev (d + 6) Mx92 (entry Mx92 [.ref 0, .int p1, .int p2] S) r := by
  unfold f_X9_ledge at hf
  refine ev_sts 2 (c2 := (2, [.ref 0, .int p1, .int p2], [.int p1, .ref 0], S, 0)) rfl ?_
  refine ev_bV (d := d + 5) (M' := Mx139) (ct := (5, [.ref 0, .int p1, .int p2], [], S, 1)) hf rfl rfl rfl rfl (by decide) (fun r9 h9 => f_X9_needLedge_ok (d := d + 4) h9) (fun S1 hf => ?_)
  show Ev (d + 6) Mx92 (5, [.ref 0, .int p1, .int p2], [], S1, 1) r
  refine ev_sts 1 (c2 := (6, [.ref 0, .int p1, .int p2], [.int p2], S1, 1)) rfl ?_
  refine ev_if (c1 := (15, [mK, mK, mK], [], S1, 1)) (c2 := (9, [.ref 0, .int p1, .int p2], [], S1, 1)) hf rfl rfl (fun _ hf => ?_) (fun _ hf => ?_)
  · exact f_X9_ledge_b15_ok hf
  · refine ev_sts 2 (c2 := (12, [.ref 0, .int p1, .int p2], [.int ((7 : Int32)), .int p2], S1, 1)) rfl ?_
    refine ev_if (c1 := (25, [.ref 0, .int p1, .int p2], [], S1, 1)) (c2 := (15, [mK, mK, mK], [], S1, 1)) hf rfl rfl (fun _ hf => ?_) (fun _ hf => ?_)
    · refine ev_sts 2 (c2 := (27, [.ref 0, .int p1, .int p2], [.int ((5 : Int32)), .int p2], S1, 1)) rfl ?_
      refine ev_if (c1 := (43, [.ref 0, .int p1, .int p2], [], S1, 1)) (c2 := (30, [.ref 0, .int p1, .int p2], [], S1, 1)) hf rfl rfl (fun _ hf => ?_) (fun _ hf => ?_)
      · refine ev_sts 2 (c2 := (46, [.ref 0, .int p1, .int p2], [.int ((6 : Int32)), .int p2], S1, 1)) rfl ?_
        refine ev_if (c1 := (55, [.ref 0, .int p1, .int p2], [], S1, 1)) (c2 := (49, [.ref 0, .int p1, .int p2], [], S1, 1)) hf rfl rfl (fun _ hf => ?_) (fun _ hf => ?_)
        · refine ev_sts 2 (c2 := (58, [.ref 0, .int p1, .int p2], [.int ((7 : Int32)), .int p2], S1, 1)) rfl ?_
          refine ev_if (c1 := (69, [.ref 0, .int p1, .int p2], [], S1, 1)) (c2 := (61, [.ref 0, .int p1, .int p2], [], S1, 1)) hf rfl rfl (fun _ hf => ?_) (fun _ hf => ?_)
          · refine ev_sts 4 (c2 := (75, [.ref 0, .int p1, .int p2], [.int p2, .int p1, .ref 24], S1, 1)) rfl ?_
            refine ev_bI0 (d := d + 5) (M' := Mx4) (ct := (78, [mK, mK, mK], [], S1, 1)) hf rfl rfl rfl rfl (fun r9 h9 => f_X0_ofLedge_ok_24 (d := d + 4) h9) (fun r3 S2 hf => ?_)
            show Ev (d + 6) Mx92 (78, [mK, mK, mK], [.int r3], S2, 1) r
            exact f_X9_ledge_b78_ok hf
          · refine ev_sts 2 (c2 := (63, [.ref 0, .int p1, .int p2], [.int p1, .ref 0], S1, 1)) rfl ?_
            refine ev_bI0 (d := d + 5) (M' := Mx149) (ct := (66, [.ref 0, .int p1, .int p2], [], S1, 1)) hf rfl rfl rfl rfl (fun r9 h9 => f_X9_nextTo_ok (d := d + 2) h9) (fun r5 S4 hf => ?_)
            show Ev (d + 6) Mx92 (66, [.ref 0, .int p1, .int p2], [.int r5], S4, 1) r
            exact ev_sts 1 (c2 := (78, [mK, mK, mK], [.int r5], S4, 1)) rfl (f_X9_ledge_b78_ok hf)
        · refine ev_sts 2 (c2 := (51, [.ref 0, .int p1, .int p2], [.int p1, .ref 0], S1, 1)) rfl ?_
          refine ev_bI0 (d := d + 5) (M' := Mx147) (ct := (54, [.ref 0, .int p1, .int p2], [], S1, 1)) hf rfl rfl rfl rfl (fun r9 h9 => f_X9_windsTo_ok (d := d) h9) (fun r7 S6 hf => ?_)
          show Ev (d + 6) Mx92 (54, [.ref 0, .int p1, .int p2], [.int r7], S6, 1) r
          exact ev_ret hf rfl rfl
      · refine ev_sts 5 (c2 := (39, [.ref 0, .int p1, .int p2], [.int p1, .ref 24, .ref 32], S1, 1)) rfl ?_
        refine ev_bI0 (d := d + 5) (M' := Mx59) (ct := (42, [.ref 0, .int p1, .int p2], [], S1, 1)) hf rfl rfl rfl rfl (fun r9 h9 => f_X7_laysAt_ok_24 (d := d + 2) h9) (fun r9 S8 hf => ?_)
        show Ev (d + 6) Mx92 (42, [.ref 0, .int p1, .int p2], [.int r9], S8, 1) r
        exact ev_ret hf rfl rfl
    · exact f_X9_ledge_b15_ok hf
def f_X0_pushRow (u0 : Nat) (S : mS) : Option mR := gd (decide (¬ ((86 : Int32)) < 0 ∧ ¬ ((92 : Int32)) < 0 ∧ ¬ ((354 : Int32)) < 0 ∧ ((86 : Int32)).toNatClampNeg + ((354 : Int32)).toNatClampNeg ≤ 446 ∧ ((92 : Int32)).toNatClampNeg + ((354 : Int32)).toNatClampNeg ≤ 446)) (bnd (seS S ((u0 + 1)) (va_cpy (S ((u0 + 1))) (S ((u0 + 1))) ((86 : Int32)).toNatClampNeg ((92 : Int32)).toNatClampNeg ((354 : Int32)).toNatClampNeg)) (fun S1 => gd (inb ((15 : Int32)) 446) (gd (inb ((15 : Int32)) 446) (bnd (upS S1 ((u0 + 1)) ((15 : Int32)).toNatClampNeg (if ((S1 ((u0 + 1)) ((15 : Int32)).toNatClampNeg) + ((1 : Int32))) < ((60 : Int32)) then ((S1 ((u0 + 1)) ((15 : Int32)).toNatClampNeg) + ((1 : Int32))) else ((60 : Int32)))) (fun S2 => some (.inl none, S2))))))
theorem f_X0_pushRow_ok_26 {d : Nat} {S : mS} {r : mR} (hf : f_X0_pushRow 26 S = some r) : Ev (d) Mx12 (entry Mx12 [.ref 26] S) r := by
  unfold f_X0_pushRow at hf
  refine ev_sts 7 (c2 := (15, [.ref 26], [.int ((354 : Int32)), .int ((92 : Int32)), .ref 27, .int ((86 : Int32)), .ref 27], S, 0)) rfl ?_
  refine ev_gd (c1 := (18, [.ref 26], [], (seS S ((26 + 1)) (va_cpy (S ((26 + 1))) (S ((26 + 1))) ((86 : Int32)).toNatClampNeg ((92 : Int32)).toNatClampNeg ((354 : Int32)).toNatClampNeg)), 0)) hf rfl rfl (fun hf => ?_)
  refine ev_let (P := fun S1 => Ev (d) Mx12 (18, [.ref 26], [], S1, 0) r) (fun S1 hf => ?_) hf
  refine ev_sts 7 (c2 := (32, [.ref 26], [.int ((15 : Int32)), .ref 27, .int ((60 : Int32)), .int ((15 : Int32)), .ref 27], S1, 0)) rfl ?_
  refine ev_gd (c1 := (33, [.ref 26], [.int (S1 ((26 + 1)) ((15 : Int32)).toNatClampNeg), .int ((60 : Int32)), .int ((15 : Int32)), .ref 27], S1, 0)) hf rfl rfl (fun hf => ?_)
  refine ev_sts 3 (c2 := (38, [.ref 26], [.int (if ((S1 ((26 + 1)) ((15 : Int32)).toNatClampNeg) + ((1 : Int32))) < ((60 : Int32)) then ((S1 ((26 + 1)) ((15 : Int32)).toNatClampNeg) + ((1 : Int32))) else ((60 : Int32))), .int ((15 : Int32)), .ref 27], S1, 0)) rfl ?_
  refine ev_gd (c1 := (39, [.ref 26], [], (upS S1 ((26 + 1)) ((15 : Int32)).toNatClampNeg (if ((S1 ((26 + 1)) ((15 : Int32)).toNatClampNeg) + ((1 : Int32))) < ((60 : Int32)) then ((S1 ((26 + 1)) ((15 : Int32)).toNatClampNeg) + ((1 : Int32))) else ((60 : Int32)))), 0)) hf rfl rfl (fun hf => ?_)
  refine ev_let (P := fun S2 => Ev (d) Mx12 (39, [.ref 26], [], S2, 0) r) (fun S2 hf => ?_) hf
  exact ev_ret hf rfl rfl
theorem f_X0_pushRow_ok_24 {d : Nat} {S : mS} {r : mR} (hf : f_X0_pushRow 24 S = some r) : Ev (d) Mx12 (entry Mx12 [.ref 24] S) r := by
  unfold f_X0_pushRow at hf
  refine ev_sts 7 (c2 := (15, [.ref 24], [.int ((354 : Int32)), .int ((92 : Int32)), .ref 25, .int ((86 : Int32)), .ref 25], S, 0)) rfl ?_
  refine ev_gd (c1 := (18, [.ref 24], [], (seS S ((24 + 1)) (va_cpy (S ((24 + 1))) (S ((24 + 1))) ((86 : Int32)).toNatClampNeg ((92 : Int32)).toNatClampNeg ((354 : Int32)).toNatClampNeg)), 0)) hf rfl rfl (fun hf => ?_)
  refine ev_let (P := fun S1 => Ev (d) Mx12 (18, [.ref 24], [], S1, 0) r) (fun S1 hf => ?_) hf
  refine ev_sts 7 (c2 := (32, [.ref 24], [.int ((15 : Int32)), .ref 25, .int ((60 : Int32)), .int ((15 : Int32)), .ref 25], S1, 0)) rfl ?_
  refine ev_gd (c1 := (33, [.ref 24], [.int (S1 ((24 + 1)) ((15 : Int32)).toNatClampNeg), .int ((60 : Int32)), .int ((15 : Int32)), .ref 25], S1, 0)) hf rfl rfl (fun hf => ?_)
  refine ev_sts 3 (c2 := (38, [.ref 24], [.int (if ((S1 ((24 + 1)) ((15 : Int32)).toNatClampNeg) + ((1 : Int32))) < ((60 : Int32)) then ((S1 ((24 + 1)) ((15 : Int32)).toNatClampNeg) + ((1 : Int32))) else ((60 : Int32))), .int ((15 : Int32)), .ref 25], S1, 0)) rfl ?_
  refine ev_gd (c1 := (39, [.ref 24], [], (upS S1 ((24 + 1)) ((15 : Int32)).toNatClampNeg (if ((S1 ((24 + 1)) ((15 : Int32)).toNatClampNeg) + ((1 : Int32))) < ((60 : Int32)) then ((S1 ((24 + 1)) ((15 : Int32)).toNatClampNeg) + ((1 : Int32))) else ((60 : Int32)))), 0)) hf rfl rfl (fun hf => ?_)
  refine ev_let (P := fun S2 => Ev (d) Mx12 (39, [.ref 24], [], S2, 0) r) (fun S2 hf => ?_) hf
  exact ev_ret hf rfl rfl
def f_X0_putNewestRow (u0 : Nat) (p1 : Int32) (p2 : Int32) (S : mS) : Option mR := bV0 (f_X0_put u0 (((86 : Int32)) + p1) p2 S) (fun S1 => some (.inl none, S1))
theorem f_X0_putNewestRow_ok_26 {d : Nat} {p1 : Int32} {p2 : Int32} {S : mS} {r : mR} (hf : f_X0_putNewestRow 26 p1 p2 S = some r) : Ev (d + 1) Mx11 (entry Mx11 [.ref 26, .int p1, .int p2] S) r := by
  unfold f_X0_putNewestRow at hf
  refine ev_sts 5 (c2 := (6, [.ref 26, .int p1, .int p2], [.int p2, .int (((86 : Int32)) + p1), .ref 26], S, 0)) rfl ?_
  refine ev_bV0 (d := d) (M' := Mx2) (ct := (9, [.ref 26, .int p1, .int p2], [], S, 0)) hf rfl rfl rfl rfl (fun r9 h9 => f_X0_put_ok_26 (d := d) h9) (fun S1 hf => ?_)
  show Ev (d + 1) Mx11 (9, [.ref 26, .int p1, .int p2], [], S1, 0) r
  exact ev_ret hf rfl rfl
theorem f_X0_putNewestRow_ok_24 {d : Nat} {p1 : Int32} {p2 : Int32} {S : mS} {r : mR} (hf : f_X0_putNewestRow 24 p1 p2 S = some r) : Ev (d + 1) Mx11 (entry Mx11 [.ref 24, .int p1, .int p2] S) r := by
  unfold f_X0_putNewestRow at hf
  refine ev_sts 5 (c2 := (6, [.ref 24, .int p1, .int p2], [.int p2, .int (((86 : Int32)) + p1), .ref 24], S, 0)) rfl ?_
  refine ev_bV0 (d := d) (M' := Mx2) (ct := (9, [.ref 24, .int p1, .int p2], [], S, 0)) hf rfl rfl rfl rfl (fun r9 h9 => f_X0_put_ok_24 (d := d) h9) (fun S1 hf => ?_)
  show Ev (d + 1) Mx11 (9, [.ref 24, .int p1, .int p2], [], S1, 0) r
  exact ev_ret hf rfl rfl
def f_X7_takeEggs_b67 (u1 : Nat) (x5 : Int32) (S : mS) : Option mR := some (.inl (some (.int x5)), S)
def f_X7_takeEggs_b42 (u1 : Nat) (x2 : Int32) (x4 : Int32) (x5 : Int32) (S : mS) : Option mR := bV0 (f_X0_putLedge u1 x2 ((2 : Int32)) (x4 - x5) S) (fun S7 => (if ¬ x5 = x4 then f_X7_takeEggs_b67 u1 x5 S7 else bV0 (f_X0_putLedge u1 x2 ((3 : Int32)) ((0 : Int32)) S7) (fun S8 => f_X7_takeEggs_b67 u1 x5 S8)))
def f_X7_takeEggs (u1 : Nat) (p2 : Int32) (p3 : Int32) (S : mS) : Option mR := bI0 (f_X0_ofLedge u1 p2 ((2 : Int32)) S) (fun r2 S1 => bnd (if r2 < p3 then r2 else p3 : Int32) (fun y3 => bV0 (f_X0_add u1 ((8 : Int32)) y3 S1) (fun S4 => bI0 (f_X0_ofLedge u1 p2 ((3 : Int32)) S4) (fun r6 S5 => (if r6 ≤ ((3 : Int32)) then f_X7_takeEggs_b42 u1 p2 r2 y3 S5 else bV0 (f_X0_add u1 ((9 : Int32)) y3 S5) (fun S9 => f_X7_takeEggs_b42 u1 p2 r2 y3 S9))))))
theorem f_X7_takeEggs_b67_ok_26 {d : Nat} {x5 : Int32} {S : mS} {r : mR} (hf : f_X7_takeEggs_b67 26 x5 S = some r) : Ev (d + 2) Mx66 (67, [mK, mK, mK, mK, mK, .int x5], [], S, 0) r := by
  unfold f_X7_takeEggs_b67 at hf
  refine ev_sts 1 (c2 := (69, [mK, mK, mK, mK, mK, .int x5], [.int x5], S, 0)) rfl ?_
  exact ev_ret hf rfl rfl
theorem f_X7_takeEggs_b42_ok_26 {d : Nat} {x2 : Int32} {x4 : Int32} {x5 : Int32} {S : mS} {r : mR} (hf : f_X7_takeEggs_b42 26 x2 x4 x5 S = some r) : Ev (d + 2) Mx66 (42, [mK, .ref 26, .int x2, mK, .int x4, .int x5], [], S, 0) r := by
  unfold f_X7_takeEggs_b42 at hf
  refine ev_sts 6 (c2 := (50, [mK, .ref 26, .int x2, mK, .int x4, .int x5], [.int (x4 - x5), .int ((2 : Int32)), .int x2, .ref 26], S, 0)) rfl ?_
  refine ev_bV0 (d := d + 1) (M' := Mx5) (ct := (53, [mK, .ref 26, .int x2, mK, .int x4, .int x5], [], S, 0)) hf rfl rfl rfl rfl (fun r9 h9 => f_X0_putLedge_ok_26 (d := d) h9) (fun S7 hf => ?_)
  show Ev (d + 2) Mx66 (53, [mK, .ref 26, .int x2, mK, .int x4, .int x5], [], S7, 0) r
  refine ev_sts 2 (c2 := (57, [mK, .ref 26, .int x2, mK, .int x4, .int x5], [.int x4, .int x5], S7, 0)) rfl ?_
  refine ev_if (c1 := (67, [mK, mK, mK, mK, mK, .int x5], [], S7, 0)) (c2 := (60, [mK, .ref 26, .int x2, mK, .int x4, .int x5], [], S7, 0)) hf rfl rfl (fun _ hf => ?_) (fun _ hf => ?_)
  · exact f_X7_takeEggs_b67_ok_26 hf
  · refine ev_sts 4 (c2 := (64, [mK, .ref 26, .int x2, mK, .int x4, .int x5], [.int ((0 : Int32)), .int ((3 : Int32)), .int x2, .ref 26], S7, 0)) rfl ?_
    refine ev_bV0 (d := d + 1) (M' := Mx5) (ct := (67, [mK, mK, mK, mK, mK, .int x5], [], S7, 0)) hf rfl rfl rfl rfl (fun r9 h9 => f_X0_putLedge_ok_26 (d := d) h9) (fun S8 hf => ?_)
    show Ev (d + 2) Mx66 (67, [mK, mK, mK, mK, mK, .int x5], [], S8, 0) r
    exact f_X7_takeEggs_b67_ok_26 hf
theorem f_X7_takeEggs_ok_26 {d : Nat} {p2 : Int32} {p3 : Int32} {S : mS} {r : mR} (hf : f_X7_takeEggs 26 p2 p3 S = some r) : Ev (d + 2) Mx66 (entry Mx66 [.ref 32, .ref 26, .int p2, .int p3] S) r := by
  unfold f_X7_takeEggs at hf
  refine ev_sts 3 (c2 := (3, [.ref 32, .ref 26, .int p2, .int p3, mK, mK], [.int ((2 : Int32)), .int p2, .ref 26], S, 0)) rfl ?_
  refine ev_bI0 (d := d + 1) (M' := Mx4) (ct := (6, [.ref 32, .ref 26, .int p2, .int p3, mK, mK], [], S, 0)) hf rfl rfl rfl rfl (fun r9 h9 => f_X0_ofLedge_ok_26 (d := d) h9) (fun r2 S1 hf => ?_)
  show Ev (d + 2) Mx66 (6, [.ref 32, .ref 26, .int p2, .int p3, mK, mK], [.int r2], S1, 0) r
  refine ev_sts 5 (c2 := (16, [.ref 32, .ref 26, .int p2, .int p3, .int r2, .int (if r2 < p3 then r2 else p3)], [], S1, 0)) rfl ?_
  refine ev_let (P := fun y3 => Ev (d + 2) Mx66 (16, [.ref 32, .ref 26, .int p2, .int p3, .int r2, .int y3], [], S1, 0) r) (fun y3 hf => ?_) hf
  refine ev_sts 3 (c2 := (21, [.ref 32, .ref 26, .int p2, .int p3, .int r2, .int y3], [.int y3, .int ((8 : Int32)), .ref 26], S1, 0)) rfl ?_
  refine ev_bV0 (d := d + 1) (M' := Mx3) (ct := (24, [.ref 32, .ref 26, .int p2, .int p3, .int r2, .int y3], [], S1, 0)) hf rfl rfl rfl rfl (fun r9 h9 => f_X0_add_ok_26 (d := d) h9) (fun S4 hf => ?_)
  show Ev (d + 2) Mx66 (24, [.ref 32, .ref 26, .int p2, .int p3, .int r2, .int y3], [], S4, 0) r
  refine ev_sts 3 (c2 := (27, [.ref 32, .ref 26, .int p2, .int p3, .int r2, .int y3], [.int ((3 : Int32)), .int p2, .ref 26], S4, 0)) rfl ?_
  refine ev_bI0 (d := d + 1) (M' := Mx4) (ct := (30, [.ref 32, .ref 26, .int p2, .int p3, .int r2, .int y3], [], S4, 0)) hf rfl rfl rfl rfl (fun r9 h9 => f_X0_ofLedge_ok_26 (d := d) h9) (fun r6 S5 hf => ?_)
  show Ev (d + 2) Mx66 (30, [.ref 32, .ref 26, .int p2, .int p3, .int r2, .int y3], [.int r6], S5, 0) r
  refine ev_sts 1 (c2 := (31, [.ref 32, .ref 26, .int p2, .int p3, .int r2, .int y3], [.int ((3 : Int32)), .int r6], S5, 0)) rfl ?_
  refine ev_if (c1 := (42, [mK, .ref 26, .int p2, mK, .int r2, .int y3], [], S5, 0)) (c2 := (34, [.ref 32, .ref 26, .int p2, .int p3, .int r2, .int y3], [], S5, 0)) hf rfl rfl (fun _ hf => ?_) (fun _ hf => ?_)
  · exact f_X7_takeEggs_b42_ok_26 hf
  · refine ev_sts 3 (c2 := (39, [.ref 32, .ref 26, .int p2, .int p3, .int r2, .int y3], [.int y3, .int ((9 : Int32)), .ref 26], S5, 0)) rfl ?_
    refine ev_bV0 (d := d + 1) (M' := Mx3) (ct := (42, [mK, .ref 26, .int p2, mK, .int r2, .int y3], [], S5, 0)) hf rfl rfl rfl rfl (fun r9 h9 => f_X0_add_ok_26 (d := d) h9) (fun S9 hf => ?_)
    show Ev (d + 2) Mx66 (42, [mK, .ref 26, .int p2, mK, .int r2, .int y3], [], S9, 0) r
    exact f_X7_takeEggs_b42_ok_26 hf
theorem f_X7_takeEggs_b67_ok_24 {d : Nat} {x5 : Int32} {S : mS} {r : mR} (hf : f_X7_takeEggs_b67 24 x5 S = some r) : Ev (d + 2) Mx66 (67, [mK, mK, mK, mK, mK, .int x5], [], S, 0) r := by
  unfold f_X7_takeEggs_b67 at hf
  refine ev_sts 1 (c2 := (69, [mK, mK, mK, mK, mK, .int x5], [.int x5], S, 0)) rfl ?_
  exact ev_ret hf rfl rfl
theorem f_X7_takeEggs_b42_ok_24 {d : Nat} {x2 : Int32} {x4 : Int32} {x5 : Int32} {S : mS} {r : mR} (hf : f_X7_takeEggs_b42 24 x2 x4 x5 S = some r) : Ev (d + 2) Mx66 (42, [mK, .ref 24, .int x2, mK, .int x4, .int x5], [], S, 0) r := by
  unfold f_X7_takeEggs_b42 at hf
  refine ev_sts 6 (c2 := (50, [mK, .ref 24, .int x2, mK, .int x4, .int x5], [.int (x4 - x5), .int ((2 : Int32)), .int x2, .ref 24], S, 0)) rfl ?_
  refine ev_bV0 (d := d + 1) (M' := Mx5) (ct := (53, [mK, .ref 24, .int x2, mK, .int x4, .int x5], [], S, 0)) hf rfl rfl rfl rfl (fun r9 h9 => f_X0_putLedge_ok_24 (d := d) h9) (fun S7 hf => ?_)
  show Ev (d + 2) Mx66 (53, [mK, .ref 24, .int x2, mK, .int x4, .int x5], [], S7, 0) r
  refine ev_sts 2 (c2 := (57, [mK, .ref 24, .int x2, mK, .int x4, .int x5], [.int x4, .int x5], S7, 0)) rfl ?_
  refine ev_if (c1 := (67, [mK, mK, mK, mK, mK, .int x5], [], S7, 0)) (c2 := (60, [mK, .ref 24, .int x2, mK, .int x4, .int x5], [], S7, 0)) hf rfl rfl (fun _ hf => ?_) (fun _ hf => ?_)
  · exact f_X7_takeEggs_b67_ok_24 hf
  · refine ev_sts 4 (c2 := (64, [mK, .ref 24, .int x2, mK, .int x4, .int x5], [.int ((0 : Int32)), .int ((3 : Int32)), .int x2, .ref 24], S7, 0)) rfl ?_
    refine ev_bV0 (d := d + 1) (M' := Mx5) (ct := (67, [mK, mK, mK, mK, mK, .int x5], [], S7, 0)) hf rfl rfl rfl rfl (fun r9 h9 => f_X0_putLedge_ok_24 (d := d) h9) (fun S8 hf => ?_)
    show Ev (d + 2) Mx66 (67, [mK, mK, mK, mK, mK, .int x5], [], S8, 0) r
    exact f_X7_takeEggs_b67_ok_24 hf
theorem f_X7_takeEggs_ok_24 {d : Nat} {p2 : Int32} {p3 : Int32} {S : mS} {r : mR} (hf : f_X7_takeEggs 24 p2 p3 S = some r) : Ev (d + 2) Mx66 (entry Mx66 [.ref 32, .ref 24, .int p2, .int p3] S) r := by
  unfold f_X7_takeEggs at hf
  refine ev_sts 3 (c2 := (3, [.ref 32, .ref 24, .int p2, .int p3, mK, mK], [.int ((2 : Int32)), .int p2, .ref 24], S, 0)) rfl ?_
  refine ev_bI0 (d := d + 1) (M' := Mx4) (ct := (6, [.ref 32, .ref 24, .int p2, .int p3, mK, mK], [], S, 0)) hf rfl rfl rfl rfl (fun r9 h9 => f_X0_ofLedge_ok_24 (d := d) h9) (fun r2 S1 hf => ?_)
  show Ev (d + 2) Mx66 (6, [.ref 32, .ref 24, .int p2, .int p3, mK, mK], [.int r2], S1, 0) r
  refine ev_sts 5 (c2 := (16, [.ref 32, .ref 24, .int p2, .int p3, .int r2, .int (if r2 < p3 then r2 else p3)], [], S1, 0)) rfl ?_
  refine ev_let (P := fun y3 => Ev (d + 2) Mx66 (16, [.ref 32, .ref 24, .int p2, .int p3, .int r2, .int y3], [], S1, 0) r) (fun y3 hf => ?_) hf
  refine ev_sts 3 (c2 := (21, [.ref 32, .ref 24, .int p2, .int p3, .int r2, .int y3], [.int y3, .int ((8 : Int32)), .ref 24], S1, 0)) rfl ?_
  refine ev_bV0 (d := d + 1) (M' := Mx3) (ct := (24, [.ref 32, .ref 24, .int p2, .int p3, .int r2, .int y3], [], S1, 0)) hf rfl rfl rfl rfl (fun r9 h9 => f_X0_add_ok_24 (d := d) h9) (fun S4 hf => ?_)
  show Ev (d + 2) Mx66 (24, [.ref 32, .ref 24, .int p2, .int p3, .int r2, .int y3], [], S4, 0) r
  refine ev_sts 3 (c2 := (27, [.ref 32, .ref 24, .int p2, .int p3, .int r2, .int y3], [.int ((3 : Int32)), .int p2, .ref 24], S4, 0)) rfl ?_
  refine ev_bI0 (d := d + 1) (M' := Mx4) (ct := (30, [.ref 32, .ref 24, .int p2, .int p3, .int r2, .int y3], [], S4, 0)) hf rfl rfl rfl rfl (fun r9 h9 => f_X0_ofLedge_ok_24 (d := d) h9) (fun r6 S5 hf => ?_)
  show Ev (d + 2) Mx66 (30, [.ref 32, .ref 24, .int p2, .int p3, .int r2, .int y3], [.int r6], S5, 0) r
  refine ev_sts 1 (c2 := (31, [.ref 32, .ref 24, .int p2, .int p3, .int r2, .int y3], [.int ((3 : Int32)), .int r6], S5, 0)) rfl ?_
  refine ev_if (c1 := (42, [mK, .ref 24, .int p2, mK, .int r2, .int y3], [], S5, 0)) (c2 := (34, [.ref 32, .ref 24, .int p2, .int p3, .int r2, .int y3], [], S5, 0)) hf rfl rfl (fun _ hf => ?_) (fun _ hf => ?_)
  · exact f_X7_takeEggs_b42_ok_24 hf
  · refine ev_sts 3 (c2 := (39, [.ref 32, .ref 24, .int p2, .int p3, .int r2, .int y3], [.int y3, .int ((9 : Int32)), .ref 24], S5, 0)) rfl ?_
    refine ev_bV0 (d := d + 1) (M' := Mx3) (ct := (42, [mK, .ref 24, .int p2, mK, .int r2, .int y3], [], S5, 0)) hf rfl rfl rfl rfl (fun r9 h9 => f_X0_add_ok_24 (d := d) h9) (fun S9 hf => ?_)
    show Ev (d + 2) Mx66 (42, [mK, .ref 24, .int p2, mK, .int r2, .int y3], [], S9, 0) r
    exact f_X7_takeEggs_b42_ok_24 hf
def f_X7_letDown_b140 (F : Nat) (u1 : Nat) (x2 : Int32) (x3 : Int32) (x6 : Int32) (x8 : Int32) (t0 : Int32) (S : mS) : Option mR := bV0 (f_X0_add u1 ((7 : Int32)) t0 S) (fun S21 => bV0 (f_X0_pushRow u1 S21) (fun S22 => bI0 (f_X0_at u1 ((3 : Int32)) S22) (fun r24 S23 => bV0 (f_X0_putNewestRow u1 ((0 : Int32)) r24 S23) (fun S25 => bV0 (f_X0_putNewestRow u1 ((1 : Int32)) x2 S25) (fun S26 => bV0 (f_X0_putNewestRow u1 ((2 : Int32)) x3 S26) (fun S27 => bV0 (f_X0_putNewestRow u1 ((3 : Int32)) x8 S27) (fun S28 => bV0 (f_X0_putNewestRow u1 ((4 : Int32)) x6 S28) (fun S29 => bV0 (f_X0_putNewestRow u1 ((5 : Int32)) t0 S29) (fun S30 => some (.inl (some (.int x8)), S30))))))))))
def f_X7_letDown_b77 (F : Nat) (u1 : Nat) : Nat → Int32 → Int32 → Int32 → Int32 → Int32 → mS → Option mR
  | 0, _, _, _, _, _, _ => none
  | n + 1, x2, x3, x6, x8, x9, S => bI0 (f_X0_at u1 ((13 : Int32)) S) (fun r16 S15 => (if r16 ≤ x9 then bI0 (f_X0_draw u1 S15) (fun r18 S17 => gd (decide (¬ (100 : Int32) = 0)) (bI0 (f_X0_at u1 ((6 : Int32)) S17) (fun r20 S19 => (if r20 ≤ (r18 - r18 / ((100 : Int32)) * ((100 : Int32))) then f_X7_letDown_b140 F u1 x2 x3 x6 x8 ((0 : Int32)) S19 else f_X7_letDown_b140 F u1 x2 x3 x6 x8 ((1 : Int32)) S19)))) else bI0 (f_X0_ofHolder u1 x9 ((1 : Int32)) S15) (fun r32 S31 => bnd (r32 + ((1 : Int32)) : Int32) (fun y33 => bV0 (f_X0_putHolder u1 x9 ((1 : Int32)) (if y33 < ((9 : Int32)) then y33 else ((9 : Int32))) S31) (fun S34 => f_X7_letDown_b77 F u1 n x2 x3 x6 x8 (x9 + (1 : Int32)) S34)))))
def f_X7_letDown (F : Nat) (u1 : Nat) (p2 : Int32) (p3 : Int32) (p4 : Int32) (S : mS) : Option mR := bI0 (f_X0_at u1 ((4 : Int32)) S) (fun r2 S1 => bI0 (f_X7_kicksTo F u1 p3 r2 S1) (fun r4 S3 => bI0 (f_X7_wearAt F u1 p3 r2 S3) (fun r6 S5 => bI0 (f_X7_takeEggs u1 p3 p4 S5) (fun r8 S7 => bI0 (f_X0_ofClimber u1 p2 ((1 : Int32)) S7) (fun r10 S9 => bV0 (f_X0_putClimber u1 p2 ((1 : Int32)) (r10 + r8) S9) (fun S11 => bI0 (f_X0_at u1 ((1 : Int32)) S11) (fun r13 S12 => bV0 (f_X0_put u1 ((1 : Int32)) (if ((r13 + r4) + r6) < ((999 : Int32)) then ((r13 + r4) + r6) else ((999 : Int32))) S12) (fun S14 => f_X7_letDown_b77 F u1 F p2 p3 r4 r8 ((0 : Int32)) S14))))))))
theorem f_X7_letDown_b140_ok_26 {d F : Nat} {x2 : Int32} {x3 : Int32} {x6 : Int32} {x8 : Int32} {t0 : Int32} {S : mS} {r : mR} (hf : f_X7_letDown_b140 F 26 x2 x3 x6 x8 t0 S = some r) : Ev (d + 5) Mx65 (140, [mK, .ref 26, .int x2, .int x3, mK, mK, .int x6, mK, .int x8, mK, mK], [.int t0], S, 0) r := by
  unfold f_X7_letDown_b140 at hf
  refine ev_sts 4 (c2 := (147, [mK, .ref 26, .int x2, .int x3, mK, mK, .int x6, mK, .int x8, .int t0, mK], [.int t0, .int ((7 : Int32)), .ref 26], S, 0)) rfl ?_
  refine ev_bV0 (d := d + 4) (M' := Mx3) (ct := (150, [mK, .ref 26, .int x2, .int x3, mK, mK, .int x6, mK, .int x8, .int t0, mK], [], S, 0)) hf rfl rfl rfl rfl (fun r9 h9 => f_X0_add_ok_26 (d := d + 3) h9) (fun S21 hf => ?_)
  show Ev (d + 5) Mx65 (150, [mK, .ref 26, .int x2, .int x3, mK, mK, .int x6, mK, .int x8, .int t0, mK], [], S21, 0) r
  refine ev_sts 1 (c2 := (151, [mK, .ref 26, .int x2, .int x3, mK, mK, .int x6, mK, .int x8, .int t0, mK], [.ref 26], S21, 0)) rfl ?_
  refine ev_bV0 (d := d + 4) (M' := Mx12) (ct := (154, [mK, .ref 26, .int x2, .int x3, mK, mK, .int x6, mK, .int x8, .int t0, mK], [], S21, 0)) hf rfl rfl rfl rfl (fun r9 h9 => f_X0_pushRow_ok_26 (d := d + 4) h9) (fun S22 hf => ?_)
  show Ev (d + 5) Mx65 (154, [mK, .ref 26, .int x2, .int x3, mK, mK, .int x6, mK, .int x8, .int t0, mK], [], S22, 0) r
  refine ev_sts 4 (c2 := (158, [mK, .ref 26, .int x2, .int x3, mK, mK, .int x6, mK, .int x8, .int t0, mK], [.int ((3 : Int32)), .ref 26, .int ((0 : Int32)), .ref 26], S22, 0)) rfl ?_
  refine ev_bI0 (d := d + 4) (M' := Mx1) (ct := (161, [mK, .ref 26, .int x2, .int x3, mK, mK, .int x6, mK, .int x8, .int t0, mK], [.int ((0 : Int32)), .ref 26], S22, 0)) hf rfl rfl rfl rfl (fun r9 h9 => f_X0_at_ok_26 (d := d + 4) h9) (fun r24 S23 hf => ?_)
  show Ev (d + 5) Mx65 (161, [mK, .ref 26, .int x2, .int x3, mK, mK, .int x6, mK, .int x8, .int t0, mK], [.int r24, .int ((0 : Int32)), .ref 26], S23, 0) r
  refine ev_bV0 (d := d + 4) (M' := Mx11) (ct := (164, [mK, .ref 26, .int x2, .int x3, mK, mK, .int x6, mK, .int x8, .int t0, mK], [], S23, 0)) hf rfl rfl rfl rfl (fun r9 h9 => f_X0_putNewestRow_ok_26 (d := d + 3) h9) (fun S25 hf => ?_)
  show Ev (d + 5) Mx65 (164, [mK, .ref 26, .int x2, .int x3, mK, mK, .int x6, mK, .int x8, .int t0, mK], [], S25, 0) r
  refine ev_sts 3 (c2 := (167, [mK, .ref 26, .int x2, .int x3, mK, mK, .int x6, mK, .int x8, .int t0, mK], [.int x2, .int ((1 : Int32)), .ref 26], S25, 0)) rfl ?_
  refine ev_bV0 (d := d + 4) (M' := Mx11) (ct := (170, [mK, .ref 26, .int x2, .int x3, mK, mK, .int x6, mK, .int x8, .int t0, mK], [], S25, 0)) hf rfl rfl rfl rfl (fun r9 h9 => f_X0_putNewestRow_ok_26 (d := d + 3) h9) (fun S26 hf => ?_)
  show Ev (d + 5) Mx65 (170, [mK, .ref 26, .int x2, .int x3, mK, mK, .int x6, mK, .int x8, .int t0, mK], [], S26, 0) r
  refine ev_sts 3 (c2 := (173, [mK, .ref 26, .int x2, .int x3, mK, mK, .int x6, mK, .int x8, .int t0, mK], [.int x3, .int ((2 : Int32)), .ref 26], S26, 0)) rfl ?_
  refine ev_bV0 (d := d + 4) (M' := Mx11) (ct := (176, [mK, .ref 26, .int x2, .int x3, mK, mK, .int x6, mK, .int x8, .int t0, mK], [], S26, 0)) hf rfl rfl rfl rfl (fun r9 h9 => f_X0_putNewestRow_ok_26 (d := d + 3) h9) (fun S27 hf => ?_)
  show Ev (d + 5) Mx65 (176, [mK, .ref 26, .int x2, .int x3, mK, mK, .int x6, mK, .int x8, .int t0, mK], [], S27, 0) r
  refine ev_sts 3 (c2 := (180, [mK, .ref 26, .int x2, .int x3, mK, mK, .int x6, mK, .int x8, .int t0, mK], [.int x8, .int ((3 : Int32)), .ref 26], S27, 0)) rfl ?_
  refine ev_bV0 (d := d + 4) (M' := Mx11) (ct := (183, [mK, .ref 26, .int x2, .int x3, mK, mK, .int x6, mK, .int x8, .int t0, mK], [], S27, 0)) hf rfl rfl rfl rfl (fun r9 h9 => f_X0_putNewestRow_ok_26 (d := d + 3) h9) (fun S28 hf => ?_)
  show Ev (d + 5) Mx65 (183, [mK, .ref 26, .int x2, .int x3, mK, mK, .int x6, mK, .int x8, .int t0, mK], [], S28, 0) r
  refine ev_sts 3 (c2 := (187, [mK, .ref 26, .int x2, .int x3, mK, mK, .int x6, mK, .int x8, .int t0, mK], [.int x6, .int ((4 : Int32)), .ref 26], S28, 0)) rfl ?_
  refine ev_bV0 (d := d + 4) (M' := Mx11) (ct := (190, [mK, .ref 26, .int x2, .int x3, mK, mK, .int x6, mK, .int x8, .int t0, mK], [], S28, 0)) hf rfl rfl rfl rfl (fun r9 h9 => f_X0_putNewestRow_ok_26 (d := d + 3) h9) (fun S29 hf => ?_)
  show Ev (d + 5) Mx65 (190, [mK, .ref 26, .int x2, .int x3, mK, mK, .int x6, mK, .int x8, .int t0, mK], [], S29, 0) r
  refine ev_sts 3 (c2 := (194, [mK, .ref 26, .int x2, .int x3, mK, mK, .int x6, mK, .int x8, .int t0, mK], [.int t0, .int ((5 : Int32)), .ref 26], S29, 0)) rfl ?_
  refine ev_bV0 (d := d + 4) (M' := Mx11) (ct := (197, [mK, .ref 26, .int x2, .int x3, mK, mK, .int x6, mK, .int x8, .int t0, mK], [], S29, 0)) hf rfl rfl rfl rfl (fun r9 h9 => f_X0_putNewestRow_ok_26 (d := d + 3) h9) (fun S30 hf => ?_)
  show Ev (d + 5) Mx65 (197, [mK, .ref 26, .int x2, .int x3, mK, mK, .int x6, mK, .int x8, .int t0, mK], [], S30, 0) r
  refine ev_sts 1 (c2 := (199, [mK, .ref 26, .int x2, .int x3, mK, mK, .int x6, mK, .int x8, .int t0, mK], [.int x8], S30, 0)) rfl ?_
  exact ev_ret hf rfl rfl
theorem f_X7_letDown_b77_ok_26 {d F : Nat} : ∀ (n : Nat) {x2 : Int32} {x3 : Int32} {x6 : Int32} {x8 : Int32} {x9 : Int32} {S : mS} {r : mR}, f_X7_letDown_b77 F 26 n x2 x3 x6 x8 x9 S = some r → Ev (d + 5) Mx65 (77, [mK, .ref 26, .int x2, .int x3, mK, mK, .int x6, mK, .int x8, .int x9, mK], [], S, 0) r := by
  intro n
  induction n with
  | zero => intro x2 x3 x6 x8 x9 S r hf; cases hf
  | succ n ih =>
    intro x2 x3 x6 x8 x9 S r hf
    rw [f_X7_letDown_b77] at hf
    refine ev_sts 3 (c2 := (82, [mK, .ref 26, .int x2, .int x3, mK, mK, .int x6, mK, .int x8, .int x9, mK], [.int ((13 : Int32)), .ref 26, .int x9], S, 0)) rfl ?_
    refine ev_bI0 (d := d + 4) (M' := Mx1) (ct := (85, [mK, .ref 26, .int x2, .int x3, mK, mK, .int x6, mK, .int x8, .int x9, mK], [.int x9], S, 0)) hf rfl rfl rfl rfl (fun r9 h9 => f_X0_at_ok_26 (d := d + 4) h9) (fun r16 S15 hf => ?_)
    show Ev (d + 5) Mx65 (85, [mK, .ref 26, .int x2, .int x3, mK, mK, .int x6, mK, .int x8, .int x9, mK], [.int r16, .int x9], S15, 0) r
    refine ev_if (c1 := (119, [mK, .ref 26, .int x2, .int x3, mK, mK, .int x6, mK, .int x8, .int x9, mK], [], S15, 0)) (c2 := (88, [mK, .ref 26, .int x2, .int x3, mK, mK, .int x6, mK, .int x8, .int x9, mK], [], S15, 0)) hf rfl rfl (fun _ hf => ?_) (fun _ hf => ?_)
    · refine ev_sts 1 (c2 := (120, [mK, .ref 26, .int x2, .int x3, mK, mK, .int x6, mK, .int x8, .int x9, mK], [.ref 26], S15, 0)) rfl ?_
      refine ev_bI0 (d := d + 4) (M' := Mx18) (ct := (123, [mK, .ref 26, .int x2, .int x3, mK, mK, .int x6, mK, .int x8, .int x9, mK], [], S15, 0)) hf rfl rfl rfl rfl (fun r9 h9 => f_X0_draw_ok_26 (d := d + 4) h9) (fun r18 S17 hf => ?_)
      show Ev (d + 5) Mx65 (123, [mK, .ref 26, .int x2, .int x3, mK, mK, .int x6, mK, .int x8, .int x9, mK], [.int r18], S17, 0) r
      refine ev_sts 1 (c2 := (125, [mK, .ref 26, .int x2, .int x3, mK, mK, .int x6, mK, .int x8, .int x9, mK], [.int ((100 : Int32)), .int r18], S17, 0)) rfl ?_
      refine ev_gd (c1 := (126, [mK, .ref 26, .int x2, .int x3, mK, mK, .int x6, mK, .int x8, .int x9, mK], [.int (r18 - r18 / ((100 : Int32)) * ((100 : Int32)))], S17, 0)) hf rfl rfl (fun hf => ?_)
      refine ev_sts 2 (c2 := (129, [mK, .ref 26, .int x2, .int x3, mK, mK, .int x6, mK, .int x8, .int x9, mK], [.int ((6 : Int32)), .ref 26, .int (r18 - r18 / ((100 : Int32)) * ((100 : Int32)))], S17, 0)) rfl ?_
      refine ev_bI0 (d := d + 4) (M' := Mx1) (ct := (132, [mK, .ref 26, .int x2, .int x3, mK, mK, .int x6, mK, .int x8, .int x9, mK], [.int (r18 - r18 / ((100 : Int32)) * ((100 : Int32)))], S17, 0)) hf rfl rfl rfl rfl (fun r9 h9 => f_X0_at_ok_26 (d := d + 4) h9) (fun r20 S19 hf => ?_)
      show Ev (d + 5) Mx65 (132, [mK, .ref 26, .int x2, .int x3, mK, mK, .int x6, mK, .int x8, .int x9, mK], [.int r20, .int (r18 - r18 / ((100 : Int32)) * ((100 : Int32)))], S19, 0) r
      refine ev_if (c1 := (139, [mK, .ref 26, .int x2, .int x3, mK, mK, .int x6, mK, .int x8, .int x9, mK], [], S19, 0)) (c2 := (135, [mK, .ref 26, .int x2, .int x3, mK, mK, .int x6, mK, .int x8, .int x9, mK], [], S19, 0)) hf rfl rfl (fun _ hf => ?_) (fun _ hf => ?_)
      · exact ev_sts 1 (c2 := (140, [mK, .ref 26, .int x2, .int x3, mK, mK, .int x6, mK, .int x8, mK, mK], [.int ((0 : Int32))], S19, 0)) rfl (f_X7_letDown_b140_ok_26 hf)
      · exact ev_sts 2 (c2 := (140, [mK, .ref 26, .int x2, .int x3, mK, mK, .int x6, mK, .int x8, mK, mK], [.int ((1 : Int32))], S19, 0)) rfl (f_X7_letDown_b140_ok_26 hf)
    · refine ev_sts 3 (c2 := (92, [mK, .ref 26, .int x2, .int x3, mK, mK, .int x6, mK, .int x8, .int x9, mK], [.int ((1 : Int32)), .int x9, .ref 26], S15, 0)) rfl ?_
      refine ev_bI0 (d := d + 4) (M' := Mx6) (ct := (95, [mK, .ref 26, .int x2, .int x3, mK, mK, .int x6, mK, .int x8, .int x9, mK], [], S15, 0)) hf rfl rfl rfl rfl (fun r9 h9 => f_X0_ofHolder_ok_26 (d := d + 3) h9) (fun r32 S31 hf => ?_)
      show Ev (d + 5) Mx65 (95, [mK, .ref 26, .int x2, .int x3, mK, mK, .int x6, mK, .int x8, .int x9, mK], [.int r32], S31, 0) r
      refine ev_sts 3 (c2 := (99, [mK, .ref 26, .int x2, .int x3, mK, mK, .int x6, mK, .int x8, .int x9, .int (r32 + ((1 : Int32)))], [], S31, 0)) rfl ?_
      refine ev_let (P := fun y33 => Ev (d + 5) Mx65 (99, [mK, .ref 26, .int x2, .int x3, mK, mK, .int x6, mK, .int x8, .int x9, .int y33], [], S31, 0) r) (fun y33 hf => ?_) hf
      refine ev_sts 6 (c2 := (110, [mK, .ref 26, .int x2, .int x3, mK, mK, .int x6, mK, .int x8, .int x9, .int y33], [.int (if y33 < ((9 : Int32)) then y33 else ((9 : Int32))), .int ((1 : Int32)), .int x9, .ref 26], S31, 0)) rfl ?_
      refine ev_bV0 (d := d + 4) (M' := Mx7) (ct := (113, [mK, .ref 26, .int x2, .int x3, mK, mK, .int x6, mK, .int x8, .int x9, .int y33], [], S31, 0)) hf rfl rfl rfl rfl (fun r9 h9 => f_X0_putHolder_ok_26 (d := d + 3) h9) (fun S34 hf => ?_)
      show Ev (d + 5) Mx65 (113, [mK, .ref 26, .int x2, .int x3, mK, mK, .int x6, mK, .int x8, .int x9, .int y33], [], S34, 0) r
      exact ev_sts 2 (c2 := (77, [mK, .ref 26, .int x2, .int x3, mK, mK, .int x6, mK, .int x8, .int (x9 + (1 : Int32)), mK], [], S34, 0)) rfl (ih hf)
theorem f_X7_letDown_ok_26 {d F : Nat} {p2 : Int32} {p3 : Int32} {p4 : Int32} {S : mS} {r : mR} (hf : f_X7_letDown F 26 p2 p3 p4 S = some r) : Ev (d + 5) Mx65 (entry Mx65 [.ref 32, .ref 26, .int p2, .int p3, .int p4] S) r := by
  unfold f_X7_letDown at hf
  refine ev_sts 2 (c2 := (2, [.ref 32, .ref 26, .int p2, .int p3, .int p4, mK, mK, mK, mK, mK, mK], [.int ((4 : Int32)), .ref 26], S, 0)) rfl ?_
  refine ev_bI0 (d := d + 4) (M' := Mx1) (ct := (5, [.ref 32, .ref 26, .int p2, .int p3, .int p4, mK, mK, mK, mK, mK, mK], [], S, 0)) hf rfl rfl rfl rfl (fun r9 h9 => f_X0_at_ok_26 (d := d + 4) h9) (fun r2 S1 hf => ?_)
  show Ev (d + 5) Mx65 (5, [.ref 32, .ref 26, .int p2, .int p3, .int p4, mK, mK, mK, mK, mK, mK], [.int r2], S1, 0) r
  refine ev_sts 5 (c2 := (12, [.ref 32, .ref 26, .int p2, .int p3, .int p4, .int r2, mK, mK, mK, mK, mK], [.int r2, .int p3, .ref 26, .ref 32], S1, 0)) rfl ?_
  refine ev_bI0 (d := d + 4) (M' := Mx60) (ct := (15, [.ref 32, .ref 26, .int p2, .int p3, .int p4, .int r2, mK, mK, mK, mK, mK], [], S1, 0)) hf rfl rfl rfl rfl (fun r9 h9 => f_X7_kicksTo_ok_26 (d := d) h9) (fun r4 S3 hf => ?_)
  show Ev (d + 5) Mx65 (15, [.ref 32, .ref 26, .int p2, .int p3, .int p4, .int r2, mK, mK, mK, mK, mK], [.int r4], S3, 0) r
  refine ev_sts 5 (c2 := (22, [.ref 32, .ref 26, .int p2, .int p3, .int p4, .int r2, .int r4, mK, mK, mK, mK], [.int r2, .int p3, .ref 26, .ref 32], S3, 0)) rfl ?_
  refine ev_bI0 (d := d + 4) (M' := Mx58) (ct := (25, [.ref 32, .ref 26, .int p2, .int p3, .int p4, .int r2, .int r4, mK, mK, mK, mK], [], S3, 0)) hf rfl rfl rfl rfl (fun r9 h9 => f_X7_wearAt_ok_26 (d := d + 1) h9) (fun r6 S5 hf => ?_)
  show Ev (d + 5) Mx65 (25, [.ref 32, .ref 26, .int p2, .int p3, .int p4, .int r2, .int r4, mK, mK, mK, mK], [.int r6], S5, 0) r
  refine ev_sts 5 (c2 := (32, [.ref 32, .ref 26, .int p2, .int p3, .int p4, .int r2, .int r4, .int r6, mK, mK, mK], [.int p4, .int p3, .ref 26, .ref 32], S5, 0)) rfl ?_
  refine ev_bI0 (d := d + 4) (M' := Mx66) (ct := (35, [.ref 32, .ref 26, .int p2, .int p3, .int p4, .int r2, .int r4, .int r6, mK, mK, mK], [], S5, 0)) hf rfl rfl rfl rfl (fun r9 h9 => f_X7_takeEggs_ok_26 (d := d + 2) h9) (fun r8 S7 hf => ?_)
  show Ev (d + 5) Mx65 (35, [.ref 32, .ref 26, .int p2, .int p3, .int p4, .int r2, .int r4, .int r6, mK, mK, mK], [.int r8], S7, 0) r
  refine ev_sts 7 (c2 := (43, [.ref 32, .ref 26, .int p2, .int p3, .int p4, .int r2, .int r4, .int r6, .int r8, mK, mK], [.int ((1 : Int32)), .int p2, .ref 26, .int ((1 : Int32)), .int p2, .ref 26], S7, 0)) rfl ?_
  refine ev_bI0 (d := d + 4) (M' := Mx8) (ct := (46, [.ref 32, .ref 26, .int p2, .int p3, .int p4, .int r2, .int r4, .int r6, .int r8, mK, mK], [.int ((1 : Int32)), .int p2, .ref 26], S7, 0)) hf rfl rfl rfl rfl (fun r9 h9 => f_X0_ofClimber_ok_26 (d := d + 3) h9) (fun r10 S9 hf => ?_)
  show Ev (d + 5) Mx65 (46, [.ref 32, .ref 26, .int p2, .int p3, .int p4, .int r2, .int r4, .int r6, .int r8, mK, mK], [.int r10, .int ((1 : Int32)), .int p2, .ref 26], S9, 0) r
  refine ev_sts 2 (c2 := (49, [.ref 32, .ref 26, .int p2, .int p3, .int p4, .int r2, .int r4, .int r6, .int r8, mK, mK], [.int (r10 + r8), .int ((1 : Int32)), .int p2, .ref 26], S9, 0)) rfl ?_
  refine ev_bV0 (d := d + 4) (M' := Mx9) (ct := (52, [.ref 32, .ref 26, .int p2, .int p3, .int p4, .int r2, .int r4, .int r6, .int r8, mK, mK], [], S9, 0)) hf rfl rfl rfl rfl (fun r9 h9 => f_X0_putClimber_ok_26 (d := d + 3) h9) (fun S11 hf => ?_)
  show Ev (d + 5) Mx65 (52, [.ref 32, .ref 26, .int p2, .int p3, .int p4, .int r2, .int r4, .int r6, .int r8, mK, mK], [], S11, 0) r
  refine ev_sts 5 (c2 := (59, [.ref 32, .ref 26, .int p2, .int p3, .int p4, .int r2, .int r4, .int r6, .int r8, mK, mK], [.int ((1 : Int32)), .ref 26, .int ((999 : Int32)), .int ((1 : Int32)), .ref 26], S11, 0)) rfl ?_
  refine ev_bI0 (d := d + 4) (M' := Mx1) (ct := (62, [.ref 32, .ref 26, .int p2, .int p3, .int p4, .int r2, .int r4, .int r6, .int r8, mK, mK], [.int ((999 : Int32)), .int ((1 : Int32)), .ref 26], S11, 0)) hf rfl rfl rfl rfl (fun r9 h9 => f_X0_at_ok_26 (d := d + 4) h9) (fun r13 S12 hf => ?_)
  show Ev (d + 5) Mx65 (62, [.ref 32, .ref 26, .int p2, .int p3, .int p4, .int r2, .int r4, .int r6, .int r8, mK, mK], [.int r13, .int ((999 : Int32)), .int ((1 : Int32)), .ref 26], S12, 0) r
  refine ev_sts 5 (c2 := (71, [.ref 32, .ref 26, .int p2, .int p3, .int p4, .int r2, .int r4, .int r6, .int r8, mK, mK], [.int (if ((r13 + r4) + r6) < ((999 : Int32)) then ((r13 + r4) + r6) else ((999 : Int32))), .int ((1 : Int32)), .ref 26], S12, 0)) rfl ?_
  refine ev_bV0 (d := d + 4) (M' := Mx2) (ct := (74, [.ref 32, .ref 26, .int p2, .int p3, .int p4, .int r2, .int r4, .int r6, .int r8, mK, mK], [], S12, 0)) hf rfl rfl rfl rfl (fun r9 h9 => f_X0_put_ok_26 (d := d + 4) h9) (fun S14 hf => ?_)
  show Ev (d + 5) Mx65 (74, [.ref 32, .ref 26, .int p2, .int p3, .int p4, .int r2, .int r4, .int r6, .int r8, mK, mK], [], S14, 0) r
  exact ev_sts 2 (c2 := (77, [mK, .ref 26, .int p2, .int p3, mK, mK, .int r4, mK, .int r8, .int ((0 : Int32)), mK], [], S14, 0)) rfl (f_X7_letDown_b77_ok_26 _ hf)
theorem f_X7_letDown_b140_ok_24 {d F : Nat} {x2 : Int32} {x3 : Int32} {x6 : Int32} {x8 : Int32} {t0 : Int32} {S : mS} {r : mR} (hf : f_X7_letDown_b140 F 24 x2 x3 x6 x8 t0 S = some r) : Ev (d + 5) Mx65 (140, [mK, .ref 24, .int x2, .int x3, mK, mK, .int x6, mK, .int x8, mK, mK], [.int t0], S, 0) r := by
  unfold f_X7_letDown_b140 at hf
  refine ev_sts 4 (c2 := (147, [mK, .ref 24, .int x2, .int x3, mK, mK, .int x6, mK, .int x8, .int t0, mK], [.int t0, .int ((7 : Int32)), .ref 24], S, 0)) rfl ?_
  refine ev_bV0 (d := d + 4) (M' := Mx3) (ct := (150, [mK, .ref 24, .int x2, .int x3, mK, mK, .int x6, mK, .int x8, .int t0, mK], [], S, 0)) hf rfl rfl rfl rfl (fun r9 h9 => f_X0_add_ok_24 (d := d + 3) h9) (fun S21 hf => ?_)
  show Ev (d + 5) Mx65 (150, [mK, .ref 24, .int x2, .int x3, mK, mK, .int x6, mK, .int x8, .int t0, mK], [], S21, 0) r
  refine ev_sts 1 (c2 := (151, [mK, .ref 24, .int x2, .int x3, mK, mK, .int x6, mK, .int x8, .int t0, mK], [.ref 24], S21, 0)) rfl ?_
  refine ev_bV0 (d := d + 4) (M' := Mx12) (ct := (154, [mK, .ref 24, .int x2, .int x3, mK, mK, .int x6, mK, .int x8, .int t0, mK], [], S21, 0)) hf rfl rfl rfl rfl (fun r9 h9 => f_X0_pushRow_ok_24 (d := d + 4) h9) (fun S22 hf => ?_)
  show Ev (d + 5) Mx65 (154, [mK, .ref 24, .int x2, .int x3, mK, mK, .int x6, mK, .int x8, .int t0, mK], [], S22, 0) r
  refine ev_sts 4 (c2 := (158, [mK, .ref 24, .int x2, .int x3, mK, mK, .int x6, mK, .int x8, .int t0, mK], [.int ((3 : Int32)), .ref 24, .int ((0 : Int32)), .ref 24], S22, 0)) rfl ?_
  refine ev_bI0 (d := d + 4) (M' := Mx1) (ct := (161, [mK, .ref 24, .int x2, .int x3, mK, mK, .int x6, mK, .int x8, .int t0, mK], [.int ((0 : Int32)), .ref 24], S22, 0)) hf rfl rfl rfl rfl (fun r9 h9 => f_X0_at_ok_24 (d := d + 4) h9) (fun r24 S23 hf => ?_)
  show Ev (d + 5) Mx65 (161, [mK, .ref 24, .int x2, .int x3, mK, mK, .int x6, mK, .int x8, .int t0, mK], [.int r24, .int ((0 : Int32)), .ref 24], S23, 0) r
  refine ev_bV0 (d := d + 4) (M' := Mx11) (ct := (164, [mK, .ref 24, .int x2, .int x3, mK, mK, .int x6, mK, .int x8, .int t0, mK], [], S23, 0)) hf rfl rfl rfl rfl (fun r9 h9 => f_X0_putNewestRow_ok_24 (d := d + 3) h9) (fun S25 hf => ?_)
  show Ev (d + 5) Mx65 (164, [mK, .ref 24, .int x2, .int x3, mK, mK, .int x6, mK, .int x8, .int t0, mK], [], S25, 0) r
  refine ev_sts 3 (c2 := (167, [mK, .ref 24, .int x2, .int x3, mK, mK, .int x6, mK, .int x8, .int t0, mK], [.int x2, .int ((1 : Int32)), .ref 24], S25, 0)) rfl ?_
  refine ev_bV0 (d := d + 4) (M' := Mx11) (ct := (170, [mK, .ref 24, .int x2, .int x3, mK, mK, .int x6, mK, .int x8, .int t0, mK], [], S25, 0)) hf rfl rfl rfl rfl (fun r9 h9 => f_X0_putNewestRow_ok_24 (d := d + 3) h9) (fun S26 hf => ?_)
  show Ev (d + 5) Mx65 (170, [mK, .ref 24, .int x2, .int x3, mK, mK, .int x6, mK, .int x8, .int t0, mK], [], S26, 0) r
  refine ev_sts 3 (c2 := (173, [mK, .ref 24, .int x2, .int x3, mK, mK, .int x6, mK, .int x8, .int t0, mK], [.int x3, .int ((2 : Int32)), .ref 24], S26, 0)) rfl ?_
  refine ev_bV0 (d := d + 4) (M' := Mx11) (ct := (176, [mK, .ref 24, .int x2, .int x3, mK, mK, .int x6, mK, .int x8, .int t0, mK], [], S26, 0)) hf rfl rfl rfl rfl (fun r9 h9 => f_X0_putNewestRow_ok_24 (d := d + 3) h9) (fun S27 hf => ?_)
  show Ev (d + 5) Mx65 (176, [mK, .ref 24, .int x2, .int x3, mK, mK, .int x6, mK, .int x8, .int t0, mK], [], S27, 0) r
  refine ev_sts 3 (c2 := (180, [mK, .ref 24, .int x2, .int x3, mK, mK, .int x6, mK, .int x8, .int t0, mK], [.int x8, .int ((3 : Int32)), .ref 24], S27, 0)) rfl ?_
  refine ev_bV0 (d := d + 4) (M' := Mx11) (ct := (183, [mK, .ref 24, .int x2, .int x3, mK, mK, .int x6, mK, .int x8, .int t0, mK], [], S27, 0)) hf rfl rfl rfl rfl (fun r9 h9 => f_X0_putNewestRow_ok_24 (d := d + 3) h9) (fun S28 hf => ?_)
  show Ev (d + 5) Mx65 (183, [mK, .ref 24, .int x2, .int x3, mK, mK, .int x6, mK, .int x8, .int t0, mK], [], S28, 0) r
  refine ev_sts 3 (c2 := (187, [mK, .ref 24, .int x2, .int x3, mK, mK, .int x6, mK, .int x8, .int t0, mK], [.int x6, .int ((4 : Int32)), .ref 24], S28, 0)) rfl ?_
  refine ev_bV0 (d := d + 4) (M' := Mx11) (ct := (190, [mK, .ref 24, .int x2, .int x3, mK, mK, .int x6, mK, .int x8, .int t0, mK], [], S28, 0)) hf rfl rfl rfl rfl (fun r9 h9 => f_X0_putNewestRow_ok_24 (d := d + 3) h9) (fun S29 hf => ?_)
  show Ev (d + 5) Mx65 (190, [mK, .ref 24, .int x2, .int x3, mK, mK, .int x6, mK, .int x8, .int t0, mK], [], S29, 0) r
  refine ev_sts 3 (c2 := (194, [mK, .ref 24, .int x2, .int x3, mK, mK, .int x6, mK, .int x8, .int t0, mK], [.int t0, .int ((5 : Int32)), .ref 24], S29, 0)) rfl ?_
  refine ev_bV0 (d := d + 4) (M' := Mx11) (ct := (197, [mK, .ref 24, .int x2, .int x3, mK, mK, .int x6, mK, .int x8, .int t0, mK], [], S29, 0)) hf rfl rfl rfl rfl (fun r9 h9 => f_X0_putNewestRow_ok_24 (d := d + 3) h9) (fun S30 hf => ?_)
  show Ev (d + 5) Mx65 (197, [mK, .ref 24, .int x2, .int x3, mK, mK, .int x6, mK, .int x8, .int t0, mK], [], S30, 0) r
  refine ev_sts 1 (c2 := (199, [mK, .ref 24, .int x2, .int x3, mK, mK, .int x6, mK, .int x8, .int t0, mK], [.int x8], S30, 0)) rfl ?_
  exact ev_ret hf rfl rfl
theorem f_X7_letDown_b77_ok_24 {d F : Nat} : ∀ (n : Nat) {x2 : Int32} {x3 : Int32} {x6 : Int32} {x8 : Int32} {x9 : Int32} {S : mS} {r : mR}, f_X7_letDown_b77 F 24 n x2 x3 x6 x8 x9 S = some r → Ev (d + 5) Mx65 (77, [mK, .ref 24, .int x2, .int x3, mK, mK, .int x6, mK, .int x8, .int x9, mK], [], S, 0) r := by
  intro n
  induction n with
  | zero => intro x2 x3 x6 x8 x9 S r hf; cases hf
  | succ n ih =>
    intro x2 x3 x6 x8 x9 S r hf
    rw [f_X7_letDown_b77] at hf
    refine ev_sts 3 (c2 := (82, [mK, .ref 24, .int x2, .int x3, mK, mK, .int x6, mK, .int x8, .int x9, mK], [.int ((13 : Int32)), .ref 24, .int x9], S, 0)) rfl ?_
    refine ev_bI0 (d := d + 4) (M' := Mx1) (ct := (85, [mK, .ref 24, .int x2, .int x3, mK, mK, .int x6, mK, .int x8, .int x9, mK], [.int x9], S, 0)) hf rfl rfl rfl rfl (fun r9 h9 => f_X0_at_ok_24 (d := d + 4) h9) (fun r16 S15 hf => ?_)
    show Ev (d + 5) Mx65 (85, [mK, .ref 24, .int x2, .int x3, mK, mK, .int x6, mK, .int x8, .int x9, mK], [.int r16, .int x9], S15, 0) r
    refine ev_if (c1 := (119, [mK, .ref 24, .int x2, .int x3, mK, mK, .int x6, mK, .int x8, .int x9, mK], [], S15, 0)) (c2 := (88, [mK, .ref 24, .int x2, .int x3, mK, mK, .int x6, mK, .int x8, .int x9, mK], [], S15, 0)) hf rfl rfl (fun _ hf => ?_) (fun _ hf => ?_)
    · refine ev_sts 1 (c2 := (120, [mK, .ref 24, .int x2, .int x3, mK, mK, .int x6, mK, .int x8, .int x9, mK], [.ref 24], S15, 0)) rfl ?_
      refine ev_bI0 (d := d + 4) (M' := Mx18) (ct := (123, [mK, .ref 24, .int x2, .int x3, mK, mK, .int x6, mK, .int x8, .int x9, mK], [], S15, 0)) hf rfl rfl rfl rfl (fun r9 h9 => f_X0_draw_ok_24 (d := d + 4) h9) (fun r18 S17 hf => ?_)
      show Ev (d + 5) Mx65 (123, [mK, .ref 24, .int x2, .int x3, mK, mK, .int x6, mK, .int x8, .int x9, mK], [.int r18], S17, 0) r
      refine ev_sts 1 (c2 := (125, [mK, .ref 24, .int x2, .int x3, mK, mK, .int x6, mK, .int x8, .int x9, mK], [.int ((100 : Int32)), .int r18], S17, 0)) rfl ?_
      refine ev_gd (c1 := (126, [mK, .ref 24, .int x2, .int x3, mK, mK, .int x6, mK, .int x8, .int x9, mK], [.int (r18 - r18 / ((100 : Int32)) * ((100 : Int32)))], S17, 0)) hf rfl rfl (fun hf => ?_)
      refine ev_sts 2 (c2 := (129, [mK, .ref 24, .int x2, .int x3, mK, mK, .int x6, mK, .int x8, .int x9, mK], [.int ((6 : Int32)), .ref 24, .int (r18 - r18 / ((100 : Int32)) * ((100 : Int32)))], S17, 0)) rfl ?_
      refine ev_bI0 (d := d + 4) (M' := Mx1) (ct := (132, [mK, .ref 24, .int x2, .int x3, mK, mK, .int x6, mK, .int x8, .int x9, mK], [.int (r18 - r18 / ((100 : Int32)) * ((100 : Int32)))], S17, 0)) hf rfl rfl rfl rfl (fun r9 h9 => f_X0_at_ok_24 (d := d + 4) h9) (fun r20 S19 hf => ?_)
      show Ev (d + 5) Mx65 (132, [mK, .ref 24, .int x2, .int x3, mK, mK, .int x6, mK, .int x8, .int x9, mK], [.int r20, .int (r18 - r18 / ((100 : Int32)) * ((100 : Int32)))], S19, 0) r
      refine ev_if (c1 := (139, [mK, .ref 24, .int x2, .int x3, mK, mK, .int x6, mK, .int x8, .int x9, mK], [], S19, 0)) (c2 := (135, [mK, .ref 24, .int x2, .int x3, mK, mK, .int x6, mK, .int x8, .int x9, mK], [], S19, 0)) hf rfl rfl (fun _ hf => ?_) (fun _ hf => ?_)
      · exact ev_sts 1 (c2 := (140, [mK, .ref 24, .int x2, .int x3, mK, mK, .int x6, mK, .int x8, mK, mK], [.int ((0 : Int32))], S19, 0)) rfl (f_X7_letDown_b140_ok_24 hf)
      · exact ev_sts 2 (c2 := (140, [mK, .ref 24, .int x2, .int x3, mK, mK, .int x6, mK, .int x8, mK, mK], [.int ((1 : Int32))], S19, 0)) rfl (f_X7_letDown_b140_ok_24 hf)
    · refine ev_sts 3 (c2 := (92, [mK, .ref 24, .int x2, .int x3, mK, mK, .int x6, mK, .int x8, .int x9, mK], [.int ((1 : Int32)), .int x9, .ref 24], S15, 0)) rfl ?_
      refine ev_bI0 (d := d + 4) (M' := Mx6) (ct := (95, [mK, .ref 24, .int x2, .int x3, mK, mK, .int x6, mK, .int x8, .int x9, mK], [], S15, 0)) hf rfl rfl rfl rfl (fun r9 h9 => f_X0_ofHolder_ok_24 (d := d + 3) h9) (fun r32 S31 hf => ?_)
      show Ev (d + 5) Mx65 (95, [mK, .ref 24, .int x2, .int x3, mK, mK, .int x6, mK, .int x8, .int x9, mK], [.int r32], S31, 0) r
      refine ev_sts 3 (c2 := (99, [mK, .ref 24, .int x2, .int x3, mK, mK, .int x6, mK, .int x8, .int x9, .int (r32 + ((1 : Int32)))], [], S31, 0)) rfl ?_
      refine ev_let (P := fun y33 => Ev (d + 5) Mx65 (99, [mK, .ref 24, .int x2, .int x3, mK, mK, .int x6, mK, .int x8, .int x9, .int y33], [], S31, 0) r) (fun y33 hf => ?_) hf
      refine ev_sts 6 (c2 := (110, [mK, .ref 24, .int x2, .int x3, mK, mK, .int x6, mK, .int x8, .int x9, .int y33], [.int (if y33 < ((9 : Int32)) then y33 else ((9 : Int32))), .int ((1 : Int32)), .int x9, .ref 24], S31, 0)) rfl ?_
      refine ev_bV0 (d := d + 4) (M' := Mx7) (ct := (113, [mK, .ref 24, .int x2, .int x3, mK, mK, .int x6, mK, .int x8, .int x9, .int y33], [], S31, 0)) hf rfl rfl rfl rfl (fun r9 h9 => f_X0_putHolder_ok_24 (d := d + 3) h9) (fun S34 hf => ?_)
      show Ev (d + 5) Mx65 (113, [mK, .ref 24, .int x2, .int x3, mK, mK, .int x6, mK, .int x8, .int x9, .int y33], [], S34, 0) r
      exact ev_sts 2 (c2 := (77, [mK, .ref 24, .int x2, .int x3, mK, mK, .int x6, mK, .int x8, .int (x9 + (1 : Int32)), mK], [], S34, 0)) rfl (ih hf)
theorem f_X7_letDown_ok_24 {d F : Nat} {p2 : Int32} {p3 : Int32} {p4 : Int32} {S : mS} {r : mR} (hf : f_X7_letDown F 24 p2 p3 p4 S = some r) : Ev (d + 5) Mx65 (entry Mx65 [.ref 32, .ref 24, .int p2, .int p3, .int p4] S) r := by
  unfold f_X7_letDown at hf
  refine ev_sts 2 (c2 := (2, [.ref 32, .ref 24, .int p2, .int p3, .int p4, mK, mK, mK, mK, mK, mK], [.int ((4 : Int32)), .ref 24], S, 0)) rfl ?_
  refine ev_bI0 (d := d + 4) (M' := Mx1) (ct := (5, [.ref 32, .ref 24, .int p2, .int p3, .int p4, mK, mK, mK, mK, mK, mK], [], S, 0)) hf rfl rfl rfl rfl (fun r9 h9 => f_X0_at_ok_24 (d := d + 4) h9) (fun r2 S1 hf => ?_)
  show Ev (d + 5) Mx65 (5, [.ref 32, .ref 24, .int p2, .int p3, .int p4, mK, mK, mK, mK, mK, mK], [.int r2], S1, 0) r
  refine ev_sts 5 (c2 := (12, [.ref 32, .ref 24, .int p2, .int p3, .int p4, .int r2, mK, mK, mK, mK, mK], [.int r2, .int p3, .ref 24, .ref 32], S1, 0)) rfl ?_
  refine ev_bI0 (d := d + 4) (M' := Mx60) (ct := (15, [.ref 32, .ref 24, .int p2, .int p3, .int p4, .int r2, mK, mK, mK, mK, mK], [], S1, 0)) hf rfl rfl rfl rfl (fun r9 h9 => f_X7_kicksTo_ok_24 (d := d) h9) (fun r4 S3 hf => ?_)
  show Ev (d + 5) Mx65 (15, [.ref 32, .ref 24, .int p2, .int p3, .int p4, .int r2, mK, mK, mK, mK, mK], [.int r4], S3, 0) r
  refine ev_sts 5 (c2 := (22, [.ref 32, .ref 24, .int p2, .int p3, .int p4, .int r2, .int r4, mK, mK, mK, mK], [.int r2, .int p3, .ref 24, .ref 32], S3, 0)) rfl ?_
  refine ev_bI0 (d := d + 4) (M' := Mx58) (ct := (25, [.ref 32, .ref 24, .int p2, .int p3, .int p4, .int r2, .int r4, mK, mK, mK, mK], [], S3, 0)) hf rfl rfl rfl rfl (fun r9 h9 => f_X7_wearAt_ok_24 (d := d + 1) h9) (fun r6 S5 hf => ?_)
  show Ev (d + 5) Mx65 (25, [.ref 32, .ref 24, .int p2, .int p3, .int p4, .int r2, .int r4, mK, mK, mK, mK], [.int r6], S5, 0) r
  refine ev_sts 5 (c2 := (32, [.ref 32, .ref 24, .int p2, .int p3, .int p4, .int r2, .int r4, .int r6, mK, mK, mK], [.int p4, .int p3, .ref 24, .ref 32], S5, 0)) rfl ?_
  refine ev_bI0 (d := d + 4) (M' := Mx66) (ct := (35, [.ref 32, .ref 24, .int p2, .int p3, .int p4, .int r2, .int r4, .int r6, mK, mK, mK], [], S5, 0)) hf rfl rfl rfl rfl (fun r9 h9 => f_X7_takeEggs_ok_24 (d := d + 2) h9) (fun r8 S7 hf => ?_)
  show Ev (d + 5) Mx65 (35, [.ref 32, .ref 24, .int p2, .int p3, .int p4, .int r2, .int r4, .int r6, mK, mK, mK], [.int r8], S7, 0) r
  refine ev_sts 7 (c2 := (43, [.ref 32, .ref 24, .int p2, .int p3, .int p4, .int r2, .int r4, .int r6, .int r8, mK, mK], [.int ((1 : Int32)), .int p2, .ref 24, .int ((1 : Int32)), .int p2, .ref 24], S7, 0)) rfl ?_
  refine ev_bI0 (d := d + 4) (M' := Mx8) (ct := (46, [.ref 32, .ref 24, .int p2, .int p3, .int p4, .int r2, .int r4, .int r6, .int r8, mK, mK], [.int ((1 : Int32)), .int p2, .ref 24], S7, 0)) hf rfl rfl rfl rfl (fun r9 h9 => f_X0_ofClimber_ok_24 (d := d + 3) h9) (fun r10 S9 hf => ?_)
  show Ev (d + 5) Mx65 (46, [.ref 32, .ref 24, .int p2, .int p3, .int p4, .int r2, .int r4, .int r6, .int r8, mK, mK], [.int r10, .int ((1 : Int32)), .int p2, .ref 24], S9, 0) r
  refine ev_sts 2 (c2 := (49, [.ref 32, .ref 24, .int p2, .int p3, .int p4, .int r2, .int r4, .int r6, .int r8, mK, mK], [.int (r10 + r8), .int ((1 : Int32)), .int p2, .ref 24], S9, 0)) rfl ?_
  refine ev_bV0 (d := d + 4) (M' := Mx9) (ct := (52, [.ref 32, .ref 24, .int p2, .int p3, .int p4, .int r2, .int r4, .int r6, .int r8, mK, mK], [], S9, 0)) hf rfl rfl rfl rfl (fun r9 h9 => f_X0_putClimber_ok_24 (d := d + 3) h9) (fun S11 hf => ?_)
  show Ev (d + 5) Mx65 (52, [.ref 32, .ref 24, .int p2, .int p3, .int p4, .int r2, .int r4, .int r6, .int r8, mK, mK], [], S11, 0) r
  refine ev_sts 5 (c2 := (59, [.ref 32, .ref 24, .int p2, .int p3, .int p4, .int r2, .int r4, .int r6, .int r8, mK, mK], [.int ((1 : Int32)), .ref 24, .int ((999 : Int32)), .int ((1 : Int32)), .ref 24], S11, 0)) rfl ?_
  refine ev_bI0 (d := d + 4) (M' := Mx1) (ct := (62, [.ref 32, .ref 24, .int p2, .int p3, .int p4, .int r2, .int r4, .int r6, .int r8, mK, mK], [.int ((999 : Int32)), .int ((1 : Int32)), .ref 24], S11, 0)) hf rfl rfl rfl rfl (fun r9 h9 => f_X0_at_ok_24 (d := d + 4) h9) (fun r13 S12 hf => ?_)
  show Ev (d + 5) Mx65 (62, [.ref 32, .ref 24, .int p2, .int p3, .int p4, .int r2, .int r4, .int r6, .int r8, mK, mK], [.int r13, .int ((999 : Int32)), .int ((1 : Int32)), .ref 24], S12, 0) r
  refine ev_sts 5 (c2 := (71, [.ref 32, .ref 24, .int p2, .int p3, .int p4, .int r2, .int r4, .int r6, .int r8, mK, mK], [.int (if ((r13 + r4) + r6) < ((999 : Int32)) then ((r13 + r4) + r6) else ((999 : Int32))), .int ((1 : Int32)), .ref 24], S12, 0)) rfl ?_
  refine ev_bV0 (d := d + 4) (M' := Mx2) (ct := (74, [.ref 32, .ref 24, .int p2, .int p3, .int p4, .int r2, .int r4, .int r6, .int r8, mK, mK], [], S12, 0)) hf rfl rfl rfl rfl (fun r9 h9 => f_X0_put_ok_24 (d := d + 4) h9) (fun S14 hf => ?_)
  show Ev (d + 5) Mx65 (74, [.ref 32, .ref 24, .int p2, .int p3, .int p4, .int r2, .int r4, .int r6, .int r8, mK, mK], [], S14, 0) r
  exact ev_sts 2 (c2 := (77, [mK, .ref 24, .int p2, .int p3, mK, mK, .int r4, mK, .int r8, .int ((0 : Int32)), mK], [], S14, 0)) rfl (f_X7_letDown_b77_ok_24 _ hf)
def f_X9_let (F : Nat) (p1 : Int32) (p2 : Int32) (p3 : Int32) (S : mS) : Option mR := bV (f_X9_needClimber p1 S) (fun S1 => bV (f_X9_needLedge p2 S1) (fun S2 => bV (f_X9_needWithin p3 ((0 : Int32)) ((20 : Int32)) S2) (fun S3 => bI0 (f_X7_canLet F 24 p1 p2 S3) (fun r5 S4 => (if ¬ r5 = 0 then bV0 (f_X5_remember S4) (fun S6 => bI0 (f_X7_letDown F 24 p1 p2 p3 S6) (fun r8 S7 => some (.inl (some (.int r8)), S7))) else some (.inr 5, S4))))))
theorem f_X9_let_ok {d F : Nat} {p1 : Int32} {p2 : Int32} {p3 : Int32} {S : mS} {r : mR} (hf : f_X9_let F p1 p2 p3 S = some r) : Ev (d + 6) Mx99 (entry Mx99 [.ref 0, .int p1, .int p2, .int p3] S) r := by
  unfold f_X9_let at hf
  refine ev_sts 2 (c2 := (2, [.ref 0, .int p1, .int p2, .int p3], [.int p1, .ref 0], S, 0)) rfl ?_
  refine ev_bV (d := d + 5) (M' := Mx141) (ct := (5, [.ref 0, .int p1, .int p2, .int p3], [], S, 1)) hf rfl rfl rfl rfl (by decide) (fun r9 h9 => f_X9_needClimber_ok (d := d + 4) h9) (fun S1 hf => ?_)
  show Ev (d + 6) Mx99 (5, [.ref 0, .int p1, .int p2, .int p3], [], S1, 1) r
  refine ev_sts 2 (c2 := (7, [.ref 0, .int p1, .int p2, .int p3], [.int p2, .ref 0], S1, 1)) rfl ?_
  refine ev_bV (d := d + 5) (M' := Mx139) (ct := (10, [.ref 0, .int p1, .int p2, .int p3], [], S1, 2)) hf rfl rfl rfl rfl (by decide) (fun r9 h9 => f_X9_needLedge_ok (d := d + 4) h9) (fun S2 hf => ?_)
  show Ev (d + 6) Mx99 (10, [.ref 0, .int p1, .int p2, .int p3], [], S2, 2) r
  refine ev_sts 3 (c2 := (14, [.ref 0, .int p1, .int p2, .int p3], [.int ((20 : Int32)), .int ((0 : Int32)), .int p3], S2, 2)) rfl ?_
  refine ev_bV (d := d + 5) (M' := Mx142) (ct := (17, [.ref 0, .int p1, .int p2, .int p3], [], S2, 3)) hf rfl rfl rfl rfl (by decide) (fun r9 h9 => f_X9_needWithin_ok (d := d + 5) h9) (fun S3 hf => ?_)
  show Ev (d + 6) Mx99 (17, [.ref 0, .int p1, .int p2, .int p3], [], S3, 3) r
  refine ev_sts 6 (c2 := (27, [.ref 0, .int p1, .int p2, .int p3], [.int p2, .int p1, .ref 24, .ref 32], S3, 3)) rfl ?_
  refine ev_bI0 (d := d + 5) (M' := Mx64) (ct := (30, [.ref 0, .int p1, .int p2, .int p3], [], S3, 3)) hf rfl rfl rfl rfl (fun r9 h9 => f_X7_canLet_ok_24 (d := d) h9) (fun r5 S4 hf => ?_)
  show Ev (d + 6) Mx99 (30, [.ref 0, .int p1, .int p2, .int p3], [.int r5], S4, 3) r
  refine ev_if (c1 := (43, [.ref 0, .int p1, .int p2, .int p3], [], S4, 3)) (c2 := (33, [.ref 0, .int p1, .int p2, .int p3], [], S4, 3)) hf rfl rfl (fun _ hf => ?_) (fun _ hf => ?_)
  · refine ev_sts 4 (c2 := (51, [.ref 0, .int p1, .int p2, .int p3], [.ref 24, .ref 36], S4, 3)) rfl ?_
    refine ev_bV0 (d := d + 5) (M' := Mx44) (ct := (54, [.ref 0, .int p1, .int p2, .int p3], [], S4, 3)) hf rfl rfl rfl rfl (fun r9 h9 => f_X5_remember_ok (d := d + 4) h9) (fun S6 hf => ?_)
    show Ev (d + 6) Mx99 (54, [.ref 0, .int p1, .int p2, .int p3], [], S6, 3) r
    refine ev_sts 7 (c2 := (65, [.ref 0, .int p1, .int p2, .int p3], [.int p3, .int p2, .int p1, .ref 24, .ref 32], S6, 3)) rfl ?_
    refine ev_bI0 (d := d + 5) (M' := Mx65) (ct := (68, [.ref 0, .int p1, .int p2, .int p3], [], S6, 3)) hf rfl rfl rfl rfl (fun r9 h9 => f_X7_letDown_ok_24 (d := d) h9) (fun r8 S7 hf => ?_)
    show Ev (d + 6) Mx99 (68, [.ref 0, .int p1, .int p2, .int p3], [.int r8], S7, 3) r
    exact ev_ret hf rfl rfl
  · exact ev_ret hf rfl rfl
def f_X9_lightest_b33 (K4 : Int32 → Int32 → mS → Option mR) (F : Nat) (x1 : Int32) (x2 : Int32) (S : mS) : Option mR := K4 x1 (x2 + (1 : Int32)) S
def f_X9_lightest_b31 (K4 : Int32 → Int32 → mS → Option mR) (F : Nat) (x2 : Int32) (S : mS) : Option mR := f_X9_lightest_b33 K4 F x2 x2 S
def f_X9_lightest_b4 (F : Nat) : Nat → Int32 → Int32 → mS → Option mR
  | 0, _, _, _ => none
  | n + 1, x1, x2, S => bI0 (f_X0_at 24 ((14 : Int32)) S) (fun r2 S1 => (if r2 ≤ x2 then some (.inl (some (.int x1)), S1) else (if x1 = ((-1 : Int32)) then f_X9_lightest_b31 (fun x1 x2 S => f_X9_lightest_b4 F n x1 x2 S) F x2 S1 else bI0 (f_X9_isLighter x2 x1 S1) (fun r4 S3 => (if r4 = 0 then f_X9_lightest_b33 (fun x1 x2 S => f_X9_lightest_b4 F n x1 x2 S) F x1 x2 S3 else f_X9_lightest_b31 (fun x1 x2 S => f_X9_lightest_b4 F n x1 x2 S) F x2 S3)))))
def f_X9_lightest (F : Nat) (S : mS) : Option mR := f_X9_lightest_b4 F F ((-1 : Int32)) ((0 : Int32)) S
theorem f_X9_lightest_b33_ok {d F : Nat} {K4 : Int32 → Int32 → mS → Option mR} (hK4 : ∀ {x1 : Int32} {x2 : Int32} {S : mS} {r : mR}, K4 x1 x2 S = some r → Ev (d + 3) Mx121 (4, [.ref 0, .int x1, .int x2], [], S, 0) r) {x1 : Int32} {x2 : Int32} {S : mS} {r : mR} (hf : f_X9_lightest_b33 K4 F x1 x2 S = some r) : Ev (d + 3) Mx121 (33, [.ref 0, .int x1, .int x2], [], S, 0) r := by
  unfold f_X9_lightest_b33 at hf
  exact ev_sts 2 (c2 := (4, [.ref 0, .int x1, .int (x2 + (1 : Int32))], [], S, 0)) rfl (hK4 hf)
theorem f_X9_lightest_b31_ok {d F : Nat} {K4 : Int32 → Int32 → mS → Option mR} (hK4 : ∀ {x1 : Int32} {x2 : Int32} {S : mS} {r : mR}, K4 x1 x2 S = some r → Ev (d + 3) Mx121 (4, [.ref 0, .int x1, .int x2], [], S, 0) r) {x2 : Int32} {S : mS} {r : mR} (hf : f_X9_lightest_b31 K4 F x2 S = some r) : Ev (d + 3) Mx121 (31, [.ref 0, mK, .int x2], [], S, 0) r := by
  unfold f_X9_lightest_b31 at hf
  exact ev_sts 2 (c2 := (33, [.ref 0, .int x2, .int x2], [], S, 0)) rfl (f_X9_lightest_b33_ok hK4 hf)
theorem f_X9_lightest_b4_ok {d F : Nat} : ∀ (n : Nat) {x1 : Int32} {x2 : Int32} {S : mS} {r : mR}, f_X9_lightest_b4 F n x1 x2 S = some r → Ev (d + 3) Mx121 (4, [.ref 0, .int x1, .int x2], [], S, 0) r := by
  intro n
  induction n with
  | zero => intro x1 x2 S r hf; cases hf
  | succ n ih =>
    intro x1 x2 S r hf
    rw [f_X9_lightest_b4] at hf
    refine ev_sts 4 (c2 := (11, [.ref 0, .int x1, .int x2], [.int ((14 : Int32)), .ref 24, .int x2], S, 0)) rfl ?_
    refine ev_bI0 (d := d + 2) (M' := Mx1) (ct := (14, [.ref 0, .int x1, .int x2], [.int x2], S, 0)) hf rfl rfl rfl rfl (fun r9 h9 => f_X0_at_ok_24 (d := d + 2) h9) (fun r2 S1 hf => ?_)
    show Ev (d + 3) Mx121 (14, [.ref 0, .int x1, .int x2], [.int r2, .int x2], S1, 0) r
    refine ev_if (c1 := (39, [.ref 0, .int x1, .int x2], [], S1, 0)) (c2 := (17, [.ref 0, .int x1, .int x2], [], S1, 0)) hf rfl rfl (fun _ hf => ?_) (fun _ hf => ?_)
    · refine ev_sts 1 (c2 := (40, [.ref 0, .int x1, .int x2], [.int x1], S1, 0)) rfl ?_
      exact ev_ret hf rfl rfl
    · refine ev_sts 2 (c2 := (19, [.ref 0, .int x1, .int x2], [.int ((-1 : Int32)), .int x1], S1, 0)) rfl ?_
      refine ev_if (c1 := (31, [.ref 0, mK, .int x2], [], S1, 0)) (c2 := (22, [.ref 0, .int x1, .int x2], [], S1, 0)) hf rfl rfl (fun _ hf => ?_) (fun _ hf => ?_)
      · exact f_X9_lightest_b31_ok (fun h9 => ih h9) hf
      · refine ev_sts 3 (c2 := (25, [.ref 0, .int x1, .int x2], [.int x1, .int x2, .ref 0], S1, 0)) rfl ?_
        refine ev_bI0 (d := d + 2) (M' := Mx151) (ct := (28, [.ref 0, .int x1, .int x2], [], S1, 0)) hf rfl rfl rfl rfl (fun r9 h9 => f_X9_isLighter_ok (d := d) h9) (fun r4 S3 hf => ?_)
        show Ev (d + 3) Mx121 (28, [.ref 0, .int x1, .int x2], [.int r4], S3, 0) r
        refine ev_if (c1 := (33, [.ref 0, .int x1, .int x2], [], S3, 0)) (c2 := (31, [.ref 0, mK, .int x2], [], S3, 0)) hf rfl rfl (fun _ hf => ?_) (fun _ hf => ?_)
        · exact f_X9_lightest_b33_ok (fun h9 => ih h9) hf
        · exact f_X9_lightest_b31_ok (fun h9 => ih h9) hf
theorem f_X9_lightest_ok {d F : Nat} {S : mS} {r : mR} (hf : f_X9_lightest F S = some r) : Ev (d + 3) Mx121 (entry Mx121 [.ref 0] S) r := by
  unfold f_X9_lightest at hf
  exact ev_sts 4 (c2 := (4, [.ref 0, .int ((-1 : Int32)), .int ((0 : Int32))], [], S, 0)) rfl (f_X9_lightest_b4_ok _ hf)
