def f_X10_recovers_b34 (K23 : Int32 → Int32 → Int32 → mS → Option mR) (F : Nat) : Nat → Int32 → Int32 → Int32 → Int32 → Int32 → mS → Option mR
  | 0, _, _, _, _, _, _ => none
  | n + 1, x1, x2, x3, x4, x5, S => bI0 (f_X10_holders S) (fun r7 S6 => (if r7 ≤ x5 then bI0 (f_X10_loadOf x1 x2 S6) (fun r9 S8 => (if x4 < r9 then K23 x1 x2 (x3 + (1 : Int32)) S8 else some (.inl (some (.int x3)), S8))) else bI0 (f_X10_ofHolder x5 ((0 : Int32)) S6) (fun r11 S10 => bI0 (f_X10_ofHolder x5 ((1 : Int32)) S10) (fun r13 S12 => bnd (x4 + (if ((0 : Int32)) < (r11 - (if ((0 : Int32)) < (r13 - (((2 : Int32)) * x3)) then (r13 - (((2 : Int32)) * x3)) else ((0 : Int32)))) then (r11 - (if ((0 : Int32)) < (r13 - (((2 : Int32)) * x3)) then (r13 - (((2 : Int32)) * x3)) else ((0 : Int32)))) else ((0 : Int32))) : Int32) (fun y14 => f_X10_recovers_b34 K23 F n x1 x2 x3 y14 (x5 + (1 : Int32)) S12)))))
def f_X10_recovers_b23 (F : Nat) : Nat → Int32 → Int32 → Int32 → mS → Option mR
  | 0, _, _, _, _ => none
  | n + 1, x1, x2, x3, S => (if ((5 : Int32)) < x3 then some (.inl (some (.int ((-1 : Int32)))), S) else f_X10_recovers_b34 (fun x1 x2 x3 S => f_X10_recovers_b23 F n x1 x2 x3 S) F F x1 x2 x3 ((0 : Int32)) ((0 : Int32)) S)
def f_X10_recovers (F : Nat) (p1 : Int32) (p2 : Int32) (S : mS) : Option mR := bnd (upS S 63 0 ((0 : Int32))) (fun S1 => bI0 (f_X10_noBoth p1 p2 S1) (fun r3 S2 => bI0 (f_X10_throwsIf r3 ((1 : Int32)) S2) (fun r5 S4 => (if r5 = 0 then f_X10_recovers_b23 F F p1 p2 ((0 : Int32)) S4 else some (.inl (some (.int ((0 : Int32)))), S4)))))
theorem f_X10_recovers_b34_ok {d F : Nat} {K23 : Int32 → Int32 → Int32 → mS → Option mR} (hK23 : ∀ {x1 : Int32} {x2 : Int32} {x3 : Int32} {S : mS} {r : mR}, K23 x1 x2 x3 S = some r → Ev (d + 3) Mx229 (23, [.ref 63, .int x1, .int x2, .int x3, mK, mK], [], S, 0) r) : ∀ (n : Nat) {x1 : Int32} {x2 : Int32} {x3 : Int32} {x4 : Int32} {x5 : Int32} {S : mS} {r : mR}, f_X10_recovers_b34 K23 F n x1 x2 x3 x4 x5 S = some r → Ev (d + 3) Mx229 (34, [.ref 63, .int x1, .int x2, .int x3, .int x4, .int x5], [], S, 0) r := by
  intro n
  induction n with
  | zero => intro x1 x2 x3 x4 x5 S r hf; cases hf
  | succ n ih =>
    intro x1 x2 x3 x4 x5 S r hf
    rw [f_X10_recovers_b34] at hf
    refine ev_sts 2 (c2 := (37, [.ref 63, .int x1, .int x2, .int x3, .int x4, .int x5], [.ref 63, .int x5], S, 0)) rfl ?_
    refine ev_bI0 (d := d + 2) (M' := Mx163) (ct := (40, [.ref 63, .int x1, .int x2, .int x3, .int x4, .int x5], [.int x5], S, 0)) hf rfl rfl rfl rfl (fun r9 h9 => f_X10_holders_ok (d := d + 2) h9) (fun r7 S6 hf => ?_)
    show Ev (d + 3) Mx229 (40, [.ref 63, .int x1, .int x2, .int x3, .int x4, .int x5], [.int r7, .int x5], S6, 0) r
    refine ev_if (c1 := (81, [.ref 63, .int x1, .int x2, .int x3, .int x4, .int x5], [], S6, 0)) (c2 := (43, [.ref 63, .int x1, .int x2, .int x3, .int x4, .int x5], [], S6, 0)) hf rfl rfl (fun _ hf => ?_) (fun _ hf => ?_)
    · refine ev_sts 4 (c2 := (86, [.ref 63, .int x1, .int x2, .int x3, .int x4, .int x5], [.int x2, .int x1, .ref 63, .int x4], S6, 0)) rfl ?_
      refine ev_bI0 (d := d + 2) (M' := Mx220) (ct := (89, [.ref 63, .int x1, .int x2, .int x3, .int x4, .int x5], [.int x4], S6, 0)) hf rfl rfl rfl rfl (fun r9 h9 => f_X10_loadOf_ok (d := d) h9) (fun r9 S8 hf => ?_)
      show Ev (d + 3) Mx229 (89, [.ref 63, .int x1, .int x2, .int x3, .int x4, .int x5], [.int r9, .int x4], S8, 0) r
      refine ev_if (c1 := (94, [.ref 63, .int x1, .int x2, .int x3, .int x4, .int x5], [], S8, 0)) (c2 := (92, [.ref 63, .int x1, .int x2, .int x3, .int x4, .int x5], [], S8, 0)) hf rfl rfl (fun _ hf => ?_) (fun _ hf => ?_)
      · exact ev_sts 2 (c2 := (23, [.ref 63, .int x1, .int x2, .int (x3 + (1 : Int32)), mK, mK], [], S8, 0)) rfl (hK23 hf)
      · refine ev_sts 1 (c2 := (93, [.ref 63, .int x1, .int x2, .int x3, .int x4, .int x5], [.int x3], S8, 0)) rfl ?_
        exact ev_ret hf rfl rfl
    · refine ev_sts 5 (c2 := (50, [.ref 63, .int x1, .int x2, .int x3, .int x4, .int x5], [.int ((0 : Int32)), .int x5, .ref 63, .int ((0 : Int32)), .int x4], S6, 0)) rfl ?_
      refine ev_bI0 (d := d + 2) (M' := Mx167) (ct := (53, [.ref 63, .int x1, .int x2, .int x3, .int x4, .int x5], [.int ((0 : Int32)), .int x4], S6, 0)) hf rfl rfl rfl rfl (fun r9 h9 => f_X10_ofHolder_ok (d := d + 2) h9) (fun r11 S10 hf => ?_)
      show Ev (d + 3) Mx229 (53, [.ref 63, .int x1, .int x2, .int x3, .int x4, .int x5], [.int r11, .int ((0 : Int32)), .int x4], S10, 0) r
      refine ev_sts 4 (c2 := (58, [.ref 63, .int x1, .int x2, .int x3, .int x4, .int x5], [.int ((1 : Int32)), .int x5, .ref 63, .int ((0 : Int32)), .int r11, .int ((0 : Int32)), .int x4], S10, 0)) rfl ?_
      refine ev_bI0 (d := d + 2) (M' := Mx167) (ct := (61, [.ref 63, .int x1, .int x2, .int x3, .int x4, .int x5], [.int ((0 : Int32)), .int r11, .int ((0 : Int32)), .int x4], S10, 0)) hf rfl rfl rfl rfl (fun r9 h9 => f_X10_ofHolder_ok (d := d + 2) h9) (fun r13 S12 hf => ?_)
      show Ev (d + 3) Mx229 (61, [.ref 63, .int x1, .int x2, .int x3, .int x4, .int x5], [.int r13, .int ((0 : Int32)), .int r11, .int ((0 : Int32)), .int x4], S12, 0) r
      refine ev_sts 9 (c2 := (75, [.ref 63, .int x1, .int x2, .int x3, .int (x4 + (if ((0 : Int32)) < (r11 - (if ((0 : Int32)) < (r13 - (((2 : Int32)) * x3)) then (r13 - (((2 : Int32)) * x3)) else ((0 : Int32)))) then (r11 - (if ((0 : Int32)) < (r13 - (((2 : Int32)) * x3)) then (r13 - (((2 : Int32)) * x3)) else ((0 : Int32)))) else ((0 : Int32)))), .int x5], [], S12, 0)) rfl ?_
      refine ev_let (P := fun y14 => Ev (d + 3) Mx229 (75, [.ref 63, .int x1, .int x2, .int x3, .int y14, .int x5], [], S12, 0) r) (fun y14 hf => ?_) hf
      exact ev_sts 2 (c2 := (34, [.ref 63, .int x1, .int x2, .int x3, .int y14, .int (x5 + (1 : Int32))], [], S12, 0)) rfl (ih hf)
theorem f_X10_recovers_b23_ok {d F : Nat} : ∀ (n : Nat) {x1 : Int32} {x2 : Int32} {x3 : Int32} {S : mS} {r : mR}, f_X10_recovers_b23 F n x1 x2 x3 S = some r → Ev (d + 3) Mx229 (23, [.ref 63, .int x1, .int x2, .int x3, mK, mK], [], S, 0) r := by
  intro n
  induction n with
  | zero => intro x1 x2 x3 S r hf; cases hf
  | succ n ih =>
    intro x1 x2 x3 S r hf
    rw [f_X10_recovers_b23] at hf
    refine ev_sts 2 (c2 := (25, [.ref 63, .int x1, .int x2, .int x3, mK, mK], [.int ((5 : Int32)), .int x3], S, 0)) rfl ?_
    refine ev_if (c1 := (100, [.ref 63, .int x1, .int x2, .int x3, mK, mK], [], S, 0)) (c2 := (28, [.ref 63, .int x1, .int x2, .int x3, mK, mK], [], S, 0)) hf rfl rfl (fun _ hf => ?_) (fun _ hf => ?_)
    · refine ev_sts 1 (c2 := (101, [.ref 63, .int x1, .int x2, .int x3, mK, mK], [.int ((-1 : Int32))], S, 0)) rfl ?_
      exact ev_ret hf rfl rfl
    · exact ev_sts 4 (c2 := (34, [.ref 63, .int x1, .int x2, .int x3, .int ((0 : Int32)), .int ((0 : Int32))], [], S, 0)) rfl (f_X10_recovers_b34_ok (fun h9 => ih h9) _ hf)
theorem f_X10_recovers_ok {d F : Nat} {p1 : Int32} {p2 : Int32} {S : mS} {r : mR} (hf : f_X10_recovers F p1 p2 S = some r) : Ev (d + 3) Mx229 (entry Mx229 [.ref 63, .int p1, .int p2] S) r := by
  unfold f_X10_recovers at hf
  refine ev_sts 3 (c2 := (5, [.ref 63, .int p1, .int p2, mK, mK, mK], [], (upS S 63 0 ((0 : Int32))), 0)) rfl ?_
  refine ev_let (P := fun S1 => Ev (d + 3) Mx229 (5, [.ref 63, .int p1, .int p2, mK, mK, mK], [], S1, 0) r) (fun S1 hf => ?_) hf
  refine ev_sts 4 (c2 := (9, [.ref 63, .int p1, .int p2, mK, mK, mK], [.int p2, .int p1, .ref 63, .ref 63], S1, 0)) rfl ?_
  refine ev_bI0 (d := d + 2) (M' := Mx224) (ct := (12, [.ref 63, .int p1, .int p2, mK, mK, mK], [.ref 63], S1, 0)) hf rfl rfl rfl rfl (fun r9 h9 => f_X10_noBoth_ok (d := d) h9) (fun r3 S2 hf => ?_)
  show Ev (d + 3) Mx229 (12, [.ref 63, .int p1, .int p2, mK, mK, mK], [.int r3, .ref 63], S2, 0) r
  refine ev_sts 1 (c2 := (13, [.ref 63, .int p1, .int p2, mK, mK, mK], [.int ((1 : Int32)), .int r3, .ref 63], S2, 0)) rfl ?_
  refine ev_bI0 (d := d + 2) (M' := Mx155) (ct := (16, [.ref 63, .int p1, .int p2, mK, mK, mK], [], S2, 0)) hf rfl rfl rfl rfl (fun r9 h9 => f_X10_throwsIf_ok (d := d + 2) h9) (fun r5 S4 hf => ?_)
  show Ev (d + 3) Mx229 (16, [.ref 63, .int p1, .int p2, mK, mK, mK], [.int r5], S4, 0) r
  refine ev_if (c1 := (21, [.ref 63, .int p1, .int p2, mK, mK, mK], [], S4, 0)) (c2 := (19, [.ref 63, .int p1, .int p2, mK, mK, mK], [], S4, 0)) hf rfl rfl (fun _ hf => ?_) (fun _ hf => ?_)
  · exact ev_sts 2 (c2 := (23, [.ref 63, .int p1, .int p2, .int ((0 : Int32)), mK, mK], [], S4, 0)) rfl (f_X10_recovers_b23_ok _ hf)
  · refine ev_sts 1 (c2 := (20, [.ref 63, .int p1, .int p2, mK, mK, mK], [.int ((0 : Int32))], S4, 0)) rfl ?_
    exact ev_ret hf rfl rfl
def f_X10_rest (F : Nat) (p1 : Int32) (S : mS) : Option mR := bnd (upS S 63 0 ((0 : Int32))) (fun S1 => bI0 (f_X10_noHolder p1 S1) (fun r3 S2 => bI0 (f_X10_throwsIf r3 ((1 : Int32)) S2) (fun r5 S4 => (if r5 = 0 then bV0 (f_X10_remembers F S4) (fun S6 => bI0 (f_X10_ofHolder p1 ((1 : Int32)) S6) (fun r8 S7 => gd (inb ((((67 : Int32)) + (((2 : Int32)) * p1)) + ((1 : Int32))) 2145) (bnd (upS S7 64 ((((67 : Int32)) + (((2 : Int32)) * p1)) + ((1 : Int32))).toNatClampNeg ((0 : Int32))) (fun S9 => some (.inl (some (.int r8)), S9))))) else some (.inl (some (.int ((0 : Int32)))), S4)))))
theorem f_X10_rest_ok {d F : Nat} {p1 : Int32} {S : mS} {r : mR} (hf : f_X10_rest F p1 S = some r) : Ev (d + 2) Mx244 (entry Mx244 [.ref 63, .int p1] S) r := by
  unfold f_X10_rest at hf
  refine ev_sts 3 (c2 := (5, [.ref 63, .int p1, mK], [], (upS S 63 0 ((0 : Int32))), 0)) rfl ?_
  refine ev_let (P := fun S1 => Ev (d + 2) Mx244 (5, [.ref 63, .int p1, mK], [], S1, 0) r) (fun S1 hf => ?_) hf
  refine ev_sts 3 (c2 := (8, [.ref 63, .int p1, mK], [.int p1, .ref 63, .ref 63], S1, 0)) rfl ?_
  refine ev_bI0 (d := d + 1) (M' := Mx170) (ct := (11, [.ref 63, .int p1, mK], [.ref 63], S1, 0)) hf rfl rfl rfl rfl (fun r9 h9 => f_X10_noHolder_ok (d := d) h9) (fun r3 S2 hf => ?_)
  show Ev (d + 2) Mx244 (11, [.ref 63, .int p1, mK], [.int r3, .ref 63], S2, 0) r
  refine ev_sts 1 (c2 := (12, [.ref 63, .int p1, mK], [.int ((1 : Int32)), .int r3, .ref 63], S2, 0)) rfl ?_
  refine ev_bI0 (d := d + 1) (M' := Mx155) (ct := (15, [.ref 63, .int p1, mK], [], S2, 0)) hf rfl rfl rfl rfl (fun r9 h9 => f_X10_throwsIf_ok (d := d + 1) h9) (fun r5 S4 hf => ?_)
  show Ev (d + 2) Mx244 (15, [.ref 63, .int p1, mK], [.int r5], S4, 0) r
  refine ev_if (c1 := (20, [.ref 63, .int p1, mK], [], S4, 0)) (c2 := (18, [.ref 63, .int p1, mK], [], S4, 0)) hf rfl rfl (fun _ hf => ?_) (fun _ hf => ?_)
  · refine ev_sts 1 (c2 := (21, [.ref 63, .int p1, mK], [.ref 63], S4, 0)) rfl ?_
    refine ev_bV0 (d := d + 1) (M' := Mx160) (ct := (24, [.ref 63, .int p1, mK], [], S4, 0)) hf rfl rfl rfl rfl (fun r9 h9 => f_X10_remembers_ok (d := d + 1) h9) (fun S6 hf => ?_)
    show Ev (d + 2) Mx244 (24, [.ref 63, .int p1, mK], [], S6, 0) r
    refine ev_sts 3 (c2 := (27, [.ref 63, .int p1, mK], [.int ((1 : Int32)), .int p1, .ref 63], S6, 0)) rfl ?_
    refine ev_bI0 (d := d + 1) (M' := Mx167) (ct := (30, [.ref 63, .int p1, mK], [], S6, 0)) hf rfl rfl rfl rfl (fun r9 h9 => f_X10_ofHolder_ok (d := d + 1) h9) (fun r8 S7 hf => ?_)
    show Ev (d + 2) Mx244 (30, [.ref 63, .int p1, mK], [.int r8], S7, 0) r
    refine ev_sts 11 (c2 := (44, [.ref 63, .int p1, .int r8], [.int ((0 : Int32)), .int ((((67 : Int32)) + (((2 : Int32)) * p1)) + ((1 : Int32))), .ref 64], S7, 0)) rfl ?_
    refine ev_gd (c1 := (45, [.ref 63, .int p1, .int r8], [], (upS S7 64 ((((67 : Int32)) + (((2 : Int32)) * p1)) + ((1 : Int32))).toNatClampNeg ((0 : Int32))), 0)) hf rfl rfl (fun hf => ?_)
    refine ev_let (P := fun S9 => Ev (d + 2) Mx244 (45, [.ref 63, .int p1, .int r8], [], S9, 0) r) (fun S9 hf => ?_) hf
    refine ev_sts 1 (c2 := (46, [.ref 63, .int p1, .int r8], [.int r8], S9, 0)) rfl ?_
    exact ev_ret hf rfl rfl
  · refine ev_sts 1 (c2 := (19, [.ref 63, .int p1, mK], [.int ((0 : Int32))], S4, 0)) rfl ?_
    exact ev_ret hf rfl rfl
def f_X10_rests_b67 (F : Nat) (t1 : Int32) (t0 : Int32) (S : mS) : Option mR := some (.inl (some (.int (t0 ||| t1))), S)
def f_X10_rests_b53 (F : Nat) (x1 : Int32) (x2 : Int32) (t1 : Int32) (t0 : Int32) (S : mS) : Option mR := (if (((2 : Int32)) * x2) < x1 then f_X10_rests_b67 F ((0 : Int32)) (t0 ||| t1) S else f_X10_rests_b67 F ((8 : Int32)) (t0 ||| t1) S)
def f_X10_rests_b52 (F : Nat) (x1 : Int32) (x2 : Int32) (t0 : Int32) (S : mS) : Option mR := f_X10_rests_b53 F x1 x2 ((0 : Int32)) t0 S
def f_X10_rests_b35 (F : Nat) (x1 : Int32) (x2 : Int32) (t0 : Int32) (S : mS) : Option mR := (if x2 < x1 then f_X10_rests_b52 F x1 x2 t0 S else (if x1 < (((2 : Int32)) * x2) then f_X10_rests_b52 F x1 x2 t0 S else f_X10_rests_b53 F x1 x2 ((6 : Int32)) t0 S))
def f_X10_rests (F : Nat) (S : mS) : Option mR := bnd (upS S 63 0 ((0 : Int32))) (fun S1 => bI0 (f_X10_allLedges S1) (fun r3 S2 => bI0 (f_X10_sumIn F r3 ((2 : Int32)) S2) (fun r5 S4 => bI0 (f_X10_allLedges S4) (fun r7 S6 => bI0 (f_X10_sumIn F r7 ((4 : Int32)) S6) (fun r9 S8 => (if r5 < r9 then f_X10_rests_b35 F r5 r9 ((0 : Int32)) S8 else f_X10_rests_b35 F r5 r9 ((1 : Int32)) S8))))))
theorem f_X10_rests_b67_ok {d F : Nat} {t1 : Int32} {t0 : Int32} {S : mS} {r : mR} (hf : f_X10_rests_b67 F t1 t0 S = some r) : Ev (d + 3) Mx271 (67, [mK, mK, mK], [.int t1, .int t0], S, 0) r := by
  unfold f_X10_rests_b67 at hf
  refine ev_sts 1 (c2 := (68, [mK, mK, mK], [.int (t0 ||| t1)], S, 0)) rfl ?_
  exact ev_ret hf rfl rfl
theorem f_X10_rests_b53_ok {d F : Nat} {x1 : Int32} {x2 : Int32} {t1 : Int32} {t0 : Int32} {S : mS} {r : mR} (hf : f_X10_rests_b53 F x1 x2 t1 t0 S = some r) : Ev (d + 3) Mx271 (53, [mK, .int x1, .int x2], [.int t1, .int t0], S, 0) r := by
  unfold f_X10_rests_b53 at hf
  refine ev_sts 5 (c2 := (58, [mK, .int x1, .int x2], [.int x1, .int (((2 : Int32)) * x2), .int (t0 ||| t1)], S, 0)) rfl ?_
  refine ev_if (c1 := (66, [mK, .int x1, .int x2], [.int (t0 ||| t1)], S, 0)) (c2 := (61, [mK, .int x1, .int x2], [.int (t0 ||| t1)], S, 0)) hf rfl rfl (fun _ hf => ?_) (fun _ hf => ?_)
  · exact ev_sts 1 (c2 := (67, [mK, mK, mK], [.int ((0 : Int32)), .int (t0 ||| t1)], S, 0)) rfl (f_X10_rests_b67_ok hf)
  · exact ev_sts 2 (c2 := (67, [mK, mK, mK], [.int ((8 : Int32)), .int (t0 ||| t1)], S, 0)) rfl (f_X10_rests_b67_ok hf)
theorem f_X10_rests_b52_ok {d F : Nat} {x1 : Int32} {x2 : Int32} {t0 : Int32} {S : mS} {r : mR} (hf : f_X10_rests_b52 F x1 x2 t0 S = some r) : Ev (d + 3) Mx271 (52, [mK, .int x1, .int x2], [.int t0], S, 0) r := by
  unfold f_X10_rests_b52 at hf
  exact ev_sts 1 (c2 := (53, [mK, .int x1, .int x2], [.int ((0 : Int32)), .int t0], S, 0)) rfl (f_X10_rests_b53_ok hf)
theorem f_X10_rests_b35_ok {d F : Nat} {x1 : Int32} {x2 : Int32} {t0 : Int32} {S : mS} {r : mR} (hf : f_X10_rests_b35 F x1 x2 t0 S = some r) : Ev (d + 3) Mx271 (35, [mK, .int x1, .int x2], [.int t0], S, 0) r := by
  unfold f_X10_rests_b35 at hf
  refine ev_sts 2 (c2 := (37, [mK, .int x1, .int x2], [.int x1, .int x2, .int t0], S, 0)) rfl ?_
  refine ev_if (c1 := (52, [mK, .int x1, .int x2], [.int t0], S, 0)) (c2 := (40, [mK, .int x1, .int x2], [.int t0], S, 0)) hf rfl rfl (fun _ hf => ?_) (fun _ hf => ?_)
  · exact f_X10_rests_b52_ok hf
  · refine ev_sts 4 (c2 := (44, [mK, .int x1, .int x2], [.int (((2 : Int32)) * x2), .int x1, .int t0], S, 0)) rfl ?_
    refine ev_if (c1 := (52, [mK, .int x1, .int x2], [.int t0], S, 0)) (c2 := (47, [mK, .int x1, .int x2], [.int t0], S, 0)) hf rfl rfl (fun _ hf => ?_) (fun _ hf => ?_)
    · exact f_X10_rests_b52_ok hf
    · exact ev_sts 2 (c2 := (53, [mK, .int x1, .int x2], [.int ((6 : Int32)), .int t0], S, 0)) rfl (f_X10_rests_b53_ok hf)
theorem f_X10_rests_ok {d F : Nat} {S : mS} {r : mR} (hf : f_X10_rests F S = some r) : Ev (d + 3) Mx271 (entry Mx271 [.ref 63] S) r := by
  unfold f_X10_rests at hf
  refine ev_sts 3 (c2 := (5, [.ref 63, mK, mK], [], (upS S 63 0 ((0 : Int32))), 0)) rfl ?_
  refine ev_let (P := fun S1 => Ev (d + 3) Mx271 (5, [.ref 63, mK, mK], [], S1, 0) r) (fun S1 hf => ?_) hf
  refine ev_sts 2 (c2 := (7, [.ref 63, mK, mK], [.ref 63, .ref 63], S1, 0)) rfl ?_
  refine ev_bI0 (d := d + 2) (M' := Mx261) (ct := (10, [.ref 63, mK, mK], [.ref 63], S1, 0)) hf rfl rfl rfl rfl (fun r9 h9 => f_X10_allLedges_ok (d := d + 1) h9) (fun r3 S2 hf => ?_)
  show Ev (d + 3) Mx271 (10, [.ref 63, mK, mK], [.int r3, .ref 63], S2, 0) r
  refine ev_sts 1 (c2 := (11, [.ref 63, mK, mK], [.int ((2 : Int32)), .int r3, .ref 63], S2, 0)) rfl ?_
  refine ev_bI0 (d := d + 2) (M' := Mx260) (ct := (14, [.ref 63, mK, mK], [], S2, 0)) hf rfl rfl rfl rfl (fun r9 h9 => f_X10_sumIn_ok (d := d) h9) (fun r5 S4 hf => ?_)
  show Ev (d + 3) Mx271 (14, [.ref 63, mK, mK], [.int r5], S4, 0) r
  refine ev_sts 3 (c2 := (17, [.ref 63, .int r5, mK], [.ref 63, .ref 63], S4, 0)) rfl ?_
  refine ev_bI0 (d := d + 2) (M' := Mx261) (ct := (20, [.ref 63, .int r5, mK], [.ref 63], S4, 0)) hf rfl rfl rfl rfl (fun r9 h9 => f_X10_allLedges_ok (d := d + 1) h9) (fun r7 S6 hf => ?_)
  show Ev (d + 3) Mx271 (20, [.ref 63, .int r5, mK], [.int r7, .ref 63], S6, 0) r
  refine ev_sts 1 (c2 := (21, [.ref 63, .int r5, mK], [.int ((4 : Int32)), .int r7, .ref 63], S6, 0)) rfl ?_
  refine ev_bI0 (d := d + 2) (M' := Mx260) (ct := (24, [.ref 63, .int r5, mK], [], S6, 0)) hf rfl rfl rfl rfl (fun r9 h9 => f_X10_sumIn_ok (d := d) h9) (fun r9 S8 hf => ?_)
  show Ev (d + 3) Mx271 (24, [.ref 63, .int r5, mK], [.int r9], S8, 0) r
  refine ev_sts 3 (c2 := (27, [.ref 63, .int r5, .int r9], [.int r9, .int r5], S8, 0)) rfl ?_
  refine ev_if (c1 := (34, [.ref 63, .int r5, .int r9], [], S8, 0)) (c2 := (30, [.ref 63, .int r5, .int r9], [], S8, 0)) hf rfl rfl (fun _ hf => ?_) (fun _ hf => ?_)
  · exact ev_sts 1 (c2 := (35, [mK, .int r5, .int r9], [.int ((0 : Int32))], S8, 0)) rfl (f_X10_rests_b35_ok hf)
  · exact ev_sts 2 (c2 := (35, [mK, .int r5, .int r9], [.int ((1 : Int32))], S8, 0)) rfl (f_X10_rests_b35_ok hf)
def f_X10_round_b64 (F : Nat) (t0 : Int32) (S : mS) : Option mR := some (.inl (some (.int t0)), S)
def f_X10_round_b39 (K9 : Int32 → Int32 → Int32 → mS → Option mR) (F : Nat) (x1 : Int32) (x3 : Int32) (t0 : Int32) (S : mS) : Option mR := K9 x1 t0 (x3 + (1 : Int32)) S
def f_X10_round_b9 (F : Nat) : Nat → Int32 → Int32 → Int32 → mS → Option mR
  | 0, _, _, _, _ => none
  | n + 1, x1, x2, x3, S => bI0 (f_X10_ledges S) (fun r3 S2 => (if r3 ≤ x3 then gd (inb ((7 : Int32)) 2145) ((if x2 ≤ (S2 64 ((7 : Int32)).toNatClampNeg) then f_X10_round_b64 F (((2 : Int32)) * x2) S2 else f_X10_round_b64 F ((-1 : Int32)) S2)) else bI0 (f_X10_has x1 x3 S2) (fun r5 S4 => (if r5 = 0 then f_X10_round_b39 (fun x1 x2 x3 S => f_X10_round_b9 F n x1 x2 x3 S) F x1 x3 x2 S4 else bI0 (f_X10_of x3 ((0 : Int32)) S4) (fun r7 S6 => f_X10_round_b39 (fun x1 x2 x3 S => f_X10_round_b9 F n x1 x2 x3 S) F x1 x3 (if x2 < r7 then r7 else x2) S6)))))
def f_X10_round (F : Nat) (p1 : Int32) (S : mS) : Option mR := bnd (upS S 63 0 ((0 : Int32))) (fun S1 => f_X10_round_b9 F F p1 ((0 : Int32)) ((0 : Int32)) S1)
theorem f_X10_round_b64_ok {d F : Nat} {t0 : Int32} {S : mS} {r : mR} (hf : f_X10_round_b64 F t0 S = some r) : Ev (d + 2) Mx268 (64, [mK, mK, mK, mK], [.int t0], S, 0) r := by
  unfold f_X10_round_b64 at hf
  exact ev_ret hf rfl rfl
theorem f_X10_round_b39_ok {d F : Nat} {K9 : Int32 → Int32 → Int32 → mS → Option mR} (hK9 : ∀ {x1 : Int32} {x2 : Int32} {x3 : Int32} {S : mS} {r : mR}, K9 x1 x2 x3 S = some r → Ev (d + 2) Mx268 (9, [.ref 63, .int x1, .int x2, .int x3], [], S, 0) r) {x1 : Int32} {x3 : Int32} {t0 : Int32} {S : mS} {r : mR} (hf : f_X10_round_b39 K9 F x1 x3 t0 S = some r) : Ev (d + 2) Mx268 (39, [.ref 63, .int x1, mK, .int x3], [.int t0], S, 0) r := by
  unfold f_X10_round_b39 at hf
  exact ev_sts 3 (c2 := (9, [.ref 63, .int x1, .int t0, .int (x3 + (1 : Int32))], [], S, 0)) rfl (hK9 hf)
theorem f_X10_round_b9_ok {d F : Nat} : ∀ (n : Nat) {x1 : Int32} {x2 : Int32} {x3 : Int32} {S : mS} {r : mR}, f_X10_round_b9 F n x1 x2 x3 S = some r → Ev (d + 2) Mx268 (9, [.ref 63, .int x1, .int x2, .int x3], [], S, 0) r := by
  intro n
  induction n with
  | zero => intro x1 x2 x3 S r hf; cases hf
  | succ n ih =>
    intro x1 x2 x3 S r hf
    rw [f_X10_round_b9] at hf
    refine ev_sts 2 (c2 := (11, [.ref 63, .int x1, .int x2, .int x3], [.ref 63, .int x3], S, 0)) rfl ?_
    refine ev_bI0 (d := d + 1) (M' := Mx162) (ct := (14, [.ref 63, .int x1, .int x2, .int x3], [.int x3], S, 0)) hf rfl rfl rfl rfl (fun r9 h9 => f_X10_ledges_ok (d := d + 1) h9) (fun r3 S2 hf => ?_)
    show Ev (d + 2) Mx268 (14, [.ref 63, .int x1, .int x2, .int x3], [.int r3, .int x3], S2, 0) r
    refine ev_if (c1 := (46, [.ref 63, .int x1, .int x2, .int x3], [], S2, 0)) (c2 := (17, [.ref 63, .int x1, .int x2, .int x3], [], S2, 0)) hf rfl rfl (fun _ hf => ?_) (fun _ hf => ?_)
    · refine ev_sts 4 (c2 := (53, [.ref 63, .int x1, .int x2, .int x3], [.int ((7 : Int32)), .ref 64, .int x2], S2, 0)) rfl ?_
      refine ev_gd (c1 := (54, [.ref 63, .int x1, .int x2, .int x3], [.int (S2 64 ((7 : Int32)).toNatClampNeg), .int x2], S2, 0)) hf rfl rfl (fun hf => ?_)
      refine ev_if (c1 := (61, [.ref 63, .int x1, .int x2, .int x3], [], S2, 0)) (c2 := (57, [.ref 63, .int x1, .int x2, .int x3], [], S2, 0)) hf rfl rfl (fun _ hf => ?_) (fun _ hf => ?_)
      · exact ev_sts 3 (c2 := (64, [mK, mK, mK, mK], [.int (((2 : Int32)) * x2)], S2, 0)) rfl (f_X10_round_b64_ok hf)
      · exact ev_sts 2 (c2 := (64, [mK, mK, mK, mK], [.int ((-1 : Int32))], S2, 0)) rfl (f_X10_round_b64_ok hf)
    · refine ev_sts 2 (c2 := (19, [.ref 63, .int x1, .int x2, .int x3], [.int x3, .int x1], S2, 0)) rfl ?_
      refine ev_bI0 (d := d + 1) (M' := Mx157) (ct := (22, [.ref 63, .int x1, .int x2, .int x3], [], S2, 0)) hf rfl rfl rfl rfl (fun r9 h9 => f_X10_has_ok (d := d + 1) h9) (fun r5 S4 hf => ?_)
      show Ev (d + 2) Mx268 (22, [.ref 63, .int x1, .int x2, .int x3], [.int r5], S4, 0) r
      refine ev_if (c1 := (38, [.ref 63, .int x1, .int x2, .int x3], [], S4, 0)) (c2 := (25, [.ref 63, .int x1, .int x2, .int x3], [], S4, 0)) hf rfl rfl (fun _ hf => ?_) (fun _ hf => ?_)
      · exact ev_sts 1 (c2 := (39, [.ref 63, .int x1, mK, .int x3], [.int x2], S4, 0)) rfl (f_X10_round_b39_ok (fun h9 => ih h9) hf)
      · refine ev_sts 4 (c2 := (29, [.ref 63, .int x1, .int x2, .int x3], [.int ((0 : Int32)), .int x3, .ref 63, .int x2], S4, 0)) rfl ?_
        refine ev_bI0 (d := d + 1) (M' := Mx166) (ct := (32, [.ref 63, .int x1, .int x2, .int x3], [.int x2], S4, 0)) hf rfl rfl rfl rfl (fun r9 h9 => f_X10_of_ok (d := d) h9) (fun r7 S6 hf => ?_)
        show Ev (d + 2) Mx268 (32, [.ref 63, .int x1, .int x2, .int x3], [.int r7, .int x2], S6, 0) r
        exact ev_sts 2 (c2 := (39, [.ref 63, .int x1, mK, .int x3], [.int (if x2 < r7 then r7 else x2)], S6, 0)) rfl (f_X10_round_b39_ok (fun h9 => ih h9) hf)
theorem f_X10_round_ok {d F : Nat} {p1 : Int32} {S : mS} {r : mR} (hf : f_X10_round F p1 S = some r) : Ev (d + 2) Mx268 (entry Mx268 [.ref 63, .int p1] S) r := by
  unfold f_X10_round at hf
  refine ev_sts 3 (c2 := (5, [.ref 63, .int p1, mK, mK], [], (upS S 63 0 ((0 : Int32))), 0)) rfl ?_
  refine ev_let (P := fun S1 => Ev (d + 2) Mx268 (5, [.ref 63, .int p1, mK, mK], [], S1, 0) r) (fun S1 hf => ?_) hf
  exact ev_sts 4 (c2 := (9, [.ref 63, .int p1, .int ((0 : Int32)), .int ((0 : Int32))], [], S1, 0)) rfl (f_X10_round_b9_ok _ hf)
def f_X10_safe_b79 (K24 : Int32 → Int32 → Int32 → Int32 → mS → Option mR) (K34 : Int32 → Int32 → Int32 → Int32 → Int32 → mS → Option mR) (F : Nat) (x1 : Int32) (x2 : Int32) (x4 : Int32) (x5 : Int32) (t0 : Int32) (S : mS) : Option mR := K34 x1 x2 t0 x4 (x5 + (1 : Int32)) S
def f_X10_safe_b78 (K24 : Int32 → Int32 → Int32 → Int32 → mS → Option mR) (K34 : Int32 → Int32 → Int32 → Int32 → Int32 → mS → Option mR) (F : Nat) (x1 : Int32) (x2 : Int32) (x4 : Int32) (x5 : Int32) (S : mS) : Option mR := f_X10_safe_b79 K24 K34 F x1 x2 x4 x5 ((0 : Int32)) S
def f_X10_safe_b74 (K24 : Int32 → Int32 → Int32 → Int32 → mS → Option mR) (K34 : Int32 → Int32 → Int32 → Int32 → Int32 → mS → Option mR) (F : Nat) (x1 : Int32) (x2 : Int32) (x4 : Int32) (x5 : Int32) (S : mS) : Option mR := f_X10_safe_b79 K24 K34 F x1 x2 x4 x5 ((1 : Int32)) S
def f_X10_safe_b34 (K24 : Int32 → Int32 → Int32 → Int32 → mS → Option mR) (F : Nat) : Nat → Int32 → Int32 → Int32 → Int32 → Int32 → mS → Option mR
  | 0, _, _, _, _, _, _ => none
  | n + 1, x1, x2, x3, x4, x5, S => (if x4 ≤ x5 then K24 x1 x2 x3 (x4 + (1 : Int32)) S else (if x3 = 0 then f_X10_safe_b78 K24 (fun x1 x2 x3 x4 x5 S => f_X10_safe_b34 K24 F n x1 x2 x3 x4 x5 S) F x1 x2 x4 x5 S else bI0 (f_X10_has x1 x4 S) (fun r7 S6 => (if r7 = 0 then f_X10_safe_b74 K24 (fun x1 x2 x3 x4 x5 S => f_X10_safe_b34 K24 F n x1 x2 x3 x4 x5 S) F x1 x2 x4 x5 S6 else bI0 (f_X10_has x1 x5 S6) (fun r9 S8 => (if r9 = 0 then f_X10_safe_b74 K24 (fun x1 x2 x3 x4 x5 S => f_X10_safe_b34 K24 F n x1 x2 x3 x4 x5 S) F x1 x2 x4 x5 S8 else (if (x4 - x5) ≤ (((2 : Int32)) * x2) then f_X10_safe_b78 K24 (fun x1 x2 x3 x4 x5 S => f_X10_safe_b34 K24 F n x1 x2 x3 x4 x5 S) F x1 x2 x4 x5 S8 else f_X10_safe_b74 K24 (fun x1 x2 x3 x4 x5 S => f_X10_safe_b34 K24 F n x1 x2 x3 x4 x5 S) F x1 x2 x4 x5 S8)))))))
def f_X10_safe_b24 (F : Nat) : Nat → Int32 → Int32 → Int32 → Int32 → mS → Option mR
  | 0, _, _, _, _, _ => none
  | n + 1, x1, x2, x3, x4, S => (if ((12 : Int32)) ≤ x4 then some (.inl (some (.int (x3 &&& 1))), S) else f_X10_safe_b34 (fun x1 x2 x3 x4 S => f_X10_safe_b24 F n x1 x2 x3 x4 S) F F x1 x2 x3 x4 ((0 : Int32)) S)
def f_X10_safe (F : Nat) (p1 : Int32) (p2 : Int32) (S : mS) : Option mR := bnd (upS S 63 0 ((0 : Int32))) (fun S1 => bI0 (f_X10_noEar p2 S1) (fun r3 S2 => bI0 (f_X10_throwsIf r3 ((1 : Int32)) S2) (fun r5 S4 => (if r5 = 0 then f_X10_safe_b24 F F p1 p2 ((1 : Int32)) ((0 : Int32)) S4 else some (.inl (some (.int (((0 : Int32)) &&& 1))), S4)))))
theorem f_X10_safe_b79_ok {d F : Nat} {K24 : Int32 → Int32 → Int32 → Int32 → mS → Option mR} (hK24 : ∀ {x1 : Int32} {x2 : Int32} {x3 : Int32} {x4 : Int32} {S : mS} {r : mR}, K24 x1 x2 x3 x4 S = some r → Ev (d + 2) Mx266 (24, [mK, .int x1, .int x2, .int x3, .int x4, mK], [], S, 0) r) {K34 : Int32 → Int32 → Int32 → Int32 → Int32 → mS → Option mR} (hK34 : ∀ {x1 : Int32} {x2 : Int32} {x3 : Int32} {x4 : Int32} {x5 : Int32} {S : mS} {r : mR}, K34 x1 x2 x3 x4 x5 S = some r → Ev (d + 2) Mx266 (34, [mK, .int x1, .int x2, .int x3, .int x4, .int x5], [], S, 0) r) {x1 : Int32} {x2 : Int32} {x4 : Int32} {x5 : Int32} {t0 : Int32} {S : mS} {r : mR} (hf : f_X10_safe_b79 K24 K34 F x1 x2 x4 x5 t0 S = some r) : Ev (d + 2) Mx266 (79, [mK, .int x1, .int x2, mK, .int x4, .int x5], [.int t0], S, 0) r := by
  unfold f_X10_safe_b79 at hf
  exact ev_sts 3 (c2 := (34, [mK, .int x1, .int x2, .int t0, .int x4, .int (x5 + (1 : Int32))], [], S, 0)) rfl (hK34 hf)
theorem f_X10_safe_b78_ok {d F : Nat} {K24 : Int32 → Int32 → Int32 → Int32 → mS → Option mR} (hK24 : ∀ {x1 : Int32} {x2 : Int32} {x3 : Int32} {x4 : Int32} {S : mS} {r : mR}, K24 x1 x2 x3 x4 S = some r → Ev (d + 2) Mx266 (24, [mK, .int x1, .int x2, .int x3, .int x4, mK], [], S, 0) r) {K34 : Int32 → Int32 → Int32 → Int32 → Int32 → mS → Option mR} (hK34 : ∀ {x1 : Int32} {x2 : Int32} {x3 : Int32} {x4 : Int32} {x5 : Int32} {S : mS} {r : mR}, K34 x1 x2 x3 x4 x5 S = some r → Ev (d + 2) Mx266 (34, [mK, .int x1, .int x2, .int x3, .int x4, .int x5], [], S, 0) r) {x1 : Int32} {x2 : Int32} {x4 : Int32} {x5 : Int32} {S : mS} {r : mR} (hf : f_X10_safe_b78 K24 K34 F x1 x2 x4 x5 S = some r) : Ev (d + 2) Mx266 (78, [mK, .int x1, .int x2, mK, .int x4, .int x5], [], S, 0) r := by
  unfold f_X10_safe_b78 at hf
  exact ev_sts 1 (c2 := (79, [mK, .int x1, .int x2, mK, .int x4, .int x5], [.int ((0 : Int32))], S, 0)) rfl (f_X10_safe_b79_ok hK24 hK34 hf)
theorem f_X10_safe_b74_ok {d F : Nat} {K24 : Int32 → Int32 → Int32 → Int32 → mS → Option mR} (hK24 : ∀ {x1 : Int32} {x2 : Int32} {x3 : Int32} {x4 : Int32} {S : mS} {r : mR}, K24 x1 x2 x3 x4 S = some r → Ev (d + 2) Mx266 (24, [mK, .int x1, .int x2, .int x3, .int x4, mK], [], S, 0) r) {K34 : Int32 → Int32 → Int32 → Int32 → Int32 → mS → Option mR} (hK34 : ∀ {x1 : Int32} {x2 : Int32} {x3 : Int32} {x4 : Int32} {x5 : Int32} {S : mS} {r : mR}, K34 x1 x2 x3 x4 x5 S = some r → Ev (d + 2) Mx266 (34, [mK, .int x1, .int x2, .int x3, .int x4, .int x5], [], S, 0) r) {x1 : Int32} {x2 : Int32} {x4 : Int32} {x5 : Int32} {S : mS} {r : mR} (hf : f_X10_safe_b74 K24 K34 F x1 x2 x4 x5 S = some r) : Ev (d + 2) Mx266 (74, [mK, .int x1, .int x2, mK, .int x4, .int x5], [], S, 0) r := by
  unfold f_X10_safe_b74 at hf
  exact ev_sts 2 (c2 := (79, [mK, .int x1, .int x2, mK, .int x4, .int x5], [.int ((1 : Int32))], S, 0)) rfl (f_X10_safe_b79_ok hK24 hK34 hf)
theorem f_X10_safe_b34_ok {d F : Nat} {K24 : Int32 → Int32 → Int32 → Int32 → mS → Option mR} (hK24 : ∀ {x1 : Int32} {x2 : Int32} {x3 : Int32} {x4 : Int32} {S : mS} {r : mR}, K24 x1 x2 x3 x4 S = some r → Ev (d + 2) Mx266 (24, [mK, .int x1, .int x2, .int x3, .int x4, mK], [], S, 0) r) : ∀ (n : Nat) {x1 : Int32} {x2 : Int32} {x3 : Int32} {x4 : Int32} {x5 : Int32} {S : mS} {r : mR}, f_X10_safe_b34 K24 F n x1 x2 x3 x4 x5 S = some r → Ev (d + 2) Mx266 (34, [mK, .int x1, .int x2, .int x3, .int x4, .int x5], [], S, 0) r := by
  intro n
  induction n with
  | zero => intro x1 x2 x3 x4 x5 S r hf; cases hf
  | succ n ih =>
    intro x1 x2 x3 x4 x5 S r hf
    rw [f_X10_safe_b34] at hf
    refine ev_sts 2 (c2 := (38, [mK, .int x1, .int x2, .int x3, .int x4, .int x5], [.int x4, .int x5], S, 0)) rfl ?_
    refine ev_if (c1 := (86, [mK, .int x1, .int x2, .int x3, .int x4, .int x5], [], S, 0)) (c2 := (41, [mK, .int x1, .int x2, .int x3, .int x4, .int x5], [], S, 0)) hf rfl rfl (fun _ hf => ?_) (fun _ hf => ?_)
    · exact ev_sts 2 (c2 := (24, [mK, .int x1, .int x2, .int x3, .int (x4 + (1 : Int32)), mK], [], S, 0)) rfl (hK24 hf)
    · refine ev_sts 1 (c2 := (42, [mK, .int x1, .int x2, .int x3, .int x4, .int x5], [.int x3], S, 0)) rfl ?_
      refine ev_if (c1 := (78, [mK, .int x1, .int x2, mK, .int x4, .int x5], [], S, 0)) (c2 := (45, [mK, .int x1, .int x2, .int x3, .int x4, .int x5], [], S, 0)) hf rfl rfl (fun _ hf => ?_) (fun _ hf => ?_)
      · exact f_X10_safe_b78_ok hK24 (fun h9 => ih h9) hf
      · refine ev_sts 2 (c2 := (48, [mK, .int x1, .int x2, .int x3, .int x4, .int x5], [.int x4, .int x1], S, 0)) rfl ?_
        refine ev_bI0 (d := d + 1) (M' := Mx157) (ct := (51, [mK, .int x1, .int x2, .int x3, .int x4, .int x5], [], S, 0)) hf rfl rfl rfl rfl (fun r9 h9 => f_X10_has_ok (d := d + 1) h9) (fun r7 S6 hf => ?_)
        show Ev (d + 2) Mx266 (51, [mK, .int x1, .int x2, .int x3, .int x4, .int x5], [.int r7], S6, 0) r
        refine ev_if (c1 := (74, [mK, .int x1, .int x2, mK, .int x4, .int x5], [], S6, 0)) (c2 := (54, [mK, .int x1, .int x2, .int x3, .int x4, .int x5], [], S6, 0)) hf rfl rfl (fun _ hf => ?_) (fun _ hf => ?_)
        · exact f_X10_safe_b74_ok hK24 (fun h9 => ih h9) hf
        · refine ev_sts 2 (c2 := (57, [mK, .int x1, .int x2, .int x3, .int x4, .int x5], [.int x5, .int x1], S6, 0)) rfl ?_
          refine ev_bI0 (d := d + 1) (M' := Mx157) (ct := (60, [mK, .int x1, .int x2, .int x3, .int x4, .int x5], [], S6, 0)) hf rfl rfl rfl rfl (fun r9 h9 => f_X10_has_ok (d := d + 1) h9) (fun r9 S8 hf => ?_)
          show Ev (d + 2) Mx266 (60, [mK, .int x1, .int x2, .int x3, .int x4, .int x5], [.int r9], S8, 0) r
          refine ev_if (c1 := (74, [mK, .int x1, .int x2, mK, .int x4, .int x5], [], S8, 0)) (c2 := (63, [mK, .int x1, .int x2, .int x3, .int x4, .int x5], [], S8, 0)) hf rfl rfl (fun _ hf => ?_) (fun _ hf => ?_)
          · exact f_X10_safe_b74_ok hK24 (fun h9 => ih h9) hf
          · refine ev_sts 6 (c2 := (71, [mK, .int x1, .int x2, .int x3, .int x4, .int x5], [.int (((2 : Int32)) * x2), .int (x4 - x5)], S8, 0)) rfl ?_
            refine ev_if (c1 := (78, [mK, .int x1, .int x2, mK, .int x4, .int x5], [], S8, 0)) (c2 := (74, [mK, .int x1, .int x2, mK, .int x4, .int x5], [], S8, 0)) hf rfl rfl (fun _ hf => ?_) (fun _ hf => ?_)
            · exact f_X10_safe_b78_ok hK24 (fun h9 => ih h9) hf
            · exact f_X10_safe_b74_ok hK24 (fun h9 => ih h9) hf
theorem f_X10_safe_b24_ok {d F : Nat} : ∀ (n : Nat) {x1 : Int32} {x2 : Int32} {x3 : Int32} {x4 : Int32} {S : mS} {r : mR}, f_X10_safe_b24 F n x1 x2 x3 x4 S = some r → Ev (d + 2) Mx266 (24, [mK, .int x1, .int x2, .int x3, .int x4, mK], [], S, 0) r := by
  intro n
  induction n with
  | zero => intro x1 x2 x3 x4 S r hf; cases hf
  | succ n ih =>
    intro x1 x2 x3 x4 S r hf
    rw [f_X10_safe_b24] at hf
    refine ev_sts 2 (c2 := (28, [mK, .int x1, .int x2, .int x3, .int x4, mK], [.int ((12 : Int32)), .int x4], S, 0)) rfl ?_
    refine ev_if (c1 := (92, [mK, .int x1, .int x2, .int x3, .int x4, mK], [], S, 0)) (c2 := (31, [mK, .int x1, .int x2, .int x3, .int x4, mK], [], S, 0)) hf rfl rfl (fun _ hf => ?_) (fun _ hf => ?_)
    · refine ev_sts 1 (c2 := (93, [mK, .int x1, .int x2, .int x3, .int x4, mK], [.int x3], S, 0)) rfl ?_
      exact ev_ret hf rfl rfl
    · exact ev_sts 2 (c2 := (34, [mK, .int x1, .int x2, .int x3, .int x4, .int ((0 : Int32))], [], S, 0)) rfl (f_X10_safe_b34_ok (fun h9 => ih h9) _ hf)
theorem f_X10_safe_ok {d F : Nat} {p1 : Int32} {p2 : Int32} {S : mS} {r : mR} (hf : f_X10_safe F p1 p2 S = some r) : Ev (d + 2) Mx266 (entry Mx266 [.ref 63, .int p1, .int p2] S) r := by
  unfold f_X10_safe at hf
  refine ev_sts 3 (c2 := (5, [.ref 63, .int p1, .int p2, mK, mK, mK], [], (upS S 63 0 ((0 : Int32))), 0)) rfl ?_
  refine ev_let (P := fun S1 => Ev (d + 2) Mx266 (5, [.ref 63, .int p1, .int p2, mK, mK, mK], [], S1, 0) r) (fun S1 hf => ?_) hf
  refine ev_sts 2 (c2 := (7, [.ref 63, .int p1, .int p2, mK, mK, mK], [.int p2, .ref 63], S1, 0)) rfl ?_
  refine ev_bI0 (d := d + 1) (M' := Mx264) (ct := (10, [.ref 63, .int p1, .int p2, mK, mK, mK], [.ref 63], S1, 0)) hf rfl rfl rfl rfl (fun r9 h9 => f_X10_noEar_ok (d := d) h9) (fun r3 S2 hf => ?_)
  show Ev (d + 2) Mx266 (10, [.ref 63, .int p1, .int p2, mK, mK, mK], [.int r3, .ref 63], S2, 0) r
  refine ev_sts 1 (c2 := (11, [.ref 63, .int p1, .int p2, mK, mK, mK], [.int ((1 : Int32)), .int r3, .ref 63], S2, 0)) rfl ?_
  refine ev_bI0 (d := d + 1) (M' := Mx155) (ct := (14, [.ref 63, .int p1, .int p2, mK, mK, mK], [], S2, 0)) hf rfl rfl rfl rfl (fun r9 h9 => f_X10_throwsIf_ok (d := d + 1) h9) (fun r5 S4 hf => ?_)
  show Ev (d + 2) Mx266 (14, [.ref 63, .int p1, .int p2, mK, mK, mK], [.int r5], S4, 0) r
  refine ev_if (c1 := (19, [.ref 63, .int p1, .int p2, mK, mK, mK], [], S4, 0)) (c2 := (17, [.ref 63, .int p1, .int p2, mK, mK, mK], [], S4, 0)) hf rfl rfl (fun _ hf => ?_) (fun _ hf => ?_)
  · exact ev_sts 4 (c2 := (24, [mK, .int p1, .int p2, .int ((1 : Int32)), .int ((0 : Int32)), mK], [], S4, 0)) rfl (f_X10_safe_b24_ok _ hf)
  · refine ev_sts 1 (c2 := (18, [.ref 63, .int p1, .int p2, mK, mK, mK], [.int ((0 : Int32))], S4, 0)) rfl ?_
    exact ev_ret hf rfl rfl
def f_X10_seed (p1 : Int32) (S : mS) : Option mR := bnd (upS S 63 0 ((0 : Int32))) (fun S1 => gd (inb ((16 : Int32)) 2145) (bnd (S1 64 ((16 : Int32)).toNatClampNeg : Int32) (fun y2 => gd (inb ((16 : Int32)) 2145) (bnd (upS S1 64 ((16 : Int32)).toNatClampNeg p1) (fun S3 => some (.inl (some (.int y2)), S3))))))
theorem f_X10_seed_ok {d : Nat} {p1 : Int32} {S : mS} {r : mR} (hf : f_X10_seed p1 S = some r) : Ev (d) Mx281 (entry Mx281 [.ref 63, .int p1] S) r := by
  unfold f_X10_seed at hf
  refine ev_sts 3 (c2 := (5, [.ref 63, .int p1, mK], [], (upS S 63 0 ((0 : Int32))), 0)) rfl ?_
  refine ev_let (P := fun S1 => Ev (d) Mx281 (5, [.ref 63, .int p1, mK], [], S1, 0) r) (fun S1 hf => ?_) hf
  refine ev_sts 3 (c2 := (11, [.ref 63, .int p1, mK], [.int ((16 : Int32)), .ref 64], S1, 0)) rfl ?_
  refine ev_gd (c1 := (12, [.ref 63, .int p1, mK], [.int (S1 64 ((16 : Int32)).toNatClampNeg)], S1, 0)) hf rfl rfl (fun hf => ?_)
  refine ev_sts 1 (c2 := (13, [.ref 63, .int p1, .int (S1 64 ((16 : Int32)).toNatClampNeg)], [], S1, 0)) rfl ?_
  refine ev_let (P := fun y2 => Ev (d) Mx281 (13, [.ref 63, .int p1, .int y2], [], S1, 0) r) (fun y2 hf => ?_) hf
  refine ev_sts 4 (c2 := (20, [.ref 63, .int p1, .int y2], [.int p1, .int ((16 : Int32)), .ref 64], S1, 0)) rfl ?_
  refine ev_gd (c1 := (21, [.ref 63, .int p1, .int y2], [], (upS S1 64 ((16 : Int32)).toNatClampNeg p1), 0)) hf rfl rfl (fun hf => ?_)
  refine ev_let (P := fun S3 => Ev (d) Mx281 (21, [.ref 63, .int p1, .int y2], [], S3, 0) r) (fun S3 hf => ?_) hf
  refine ev_sts 1 (c2 := (22, [.ref 63, .int p1, .int y2], [.int y2], S3, 0)) rfl ?_
  exact ev_ret hf rfl rfl
def f_X10_share_b60 (t0 : Int32) (S : mS) : Option mR := some (.inl (some (.int t0)), S)
def f_X10_share_b22 (x1 : Int32) (x2 : Int32) (t1 : Int32) (S : mS) : Option mR := bI0 (f_X10_throwsIf t1 ((1 : Int32)) S) (fun r5 S4 => (if r5 = 0 then bI0 (f_X10_climbers S4) (fun r7 S6 => bI0 (f_X10_holders S6) (fun r9 S8 => bnd ((r7 + r9) + ((2 : Int32)) : Int32) (fun y10 => (if x2 = 0 then gd (decide (¬ y10 = 0)) (f_X10_share_b60 (x1 / y10) S8) else gd (decide (¬ y10 = 0)) (gd (decide (¬ y10 = 0)) (f_X10_share_b60 ((x1 / y10) + (x1 - x1 / y10 * y10)) S8)))))) else some (.inl (some (.int ((0 : Int32)))), S4)))
def f_X10_share (p1 : Int32) (p2 : Int32) (S : mS) : Option mR := bnd (upS S 63 0 ((0 : Int32))) (fun S1 => bI0 (f_X10_in p1 ((0 : Int32)) ((9999 : Int32)) S1) (fun r3 S2 => (if ¬ r3 = 0 then f_X10_share_b22 p1 p2 ((0 : Int32)) S2 else f_X10_share_b22 p1 p2 ((1 : Int32)) S2)))
theorem f_X10_share_b60_ok {d : Nat} {t0 : Int32} {S : mS} {r : mR} (hf : f_X10_share_b60 t0 S = some r) : Ev (d + 1) Mx270 (60, [mK, mK, mK, mK], [.int t0], S, 0) r := by
  unfold f_X10_share_b60 at hf
  exact ev_ret hf rfl rfl
theorem f_X10_share_b22_ok {d : Nat} {x1 : Int32} {x2 : Int32} {t1 : Int32} {S : mS} {r : mR} (hf : f_X10_share_b22 x1 x2 t1 S = some r) : Ev (d + 1) Mx270 (22, [.ref 63, .int x1, .int x2, mK], [.int t1, .ref 63], S, 0) r := by
  unfold f_X10_share_b22 at hf
  refine ev_sts 1 (c2 := (23, [.ref 63, .int x1, .int x2, mK], [.int ((1 : Int32)), .int t1, .ref 63], S, 0)) rfl ?_
  refine ev_bI0 (d := d) (M' := Mx155) (ct := (26, [.ref 63, .int x1, .int x2, mK], [], S, 0)) hf rfl rfl rfl rfl (fun r9 h9 => f_X10_throwsIf_ok (d := d) h9) (fun r5 S4 hf => ?_)
  show Ev (d + 1) Mx270 (26, [.ref 63, .int x1, .int x2, mK], [.int r5], S4, 0) r
  refine ev_if (c1 := (31, [.ref 63, .int x1, .int x2, mK], [], S4, 0)) (c2 := (29, [.ref 63, .int x1, .int x2, mK], [], S4, 0)) hf rfl rfl (fun _ hf => ?_) (fun _ hf => ?_)
  · refine ev_sts 1 (c2 := (32, [.ref 63, .int x1, .int x2, mK], [.ref 63], S4, 0)) rfl ?_
    refine ev_bI0 (d := d) (M' := Mx164) (ct := (35, [.ref 63, .int x1, .int x2, mK], [], S4, 0)) hf rfl rfl rfl rfl (fun r9 h9 => f_X10_climbers_ok (d := d) h9) (fun r7 S6 hf => ?_)
    show Ev (d + 1) Mx270 (35, [.ref 63, .int x1, .int x2, mK], [.int r7], S6, 0) r
    refine ev_sts 1 (c2 := (36, [.ref 63, .int x1, .int x2, mK], [.ref 63, .int r7], S6, 0)) rfl ?_
    refine ev_bI0 (d := d) (M' := Mx163) (ct := (39, [.ref 63, .int x1, .int x2, mK], [.int r7], S6, 0)) hf rfl rfl rfl rfl (fun r9 h9 => f_X10_holders_ok (d := d) h9) (fun r9 S8 hf => ?_)
    show Ev (d + 1) Mx270 (39, [.ref 63, .int x1, .int x2, mK], [.int r9, .int r7], S8, 0) r
    refine ev_sts 4 (c2 := (43, [.ref 63, .int x1, .int x2, .int ((r7 + r9) + ((2 : Int32)))], [], S8, 0)) rfl ?_
    refine ev_let (P := fun y10 => Ev (d + 1) Mx270 (43, [.ref 63, .int x1, .int x2, .int y10], [], S8, 0) r) (fun y10 hf => ?_) hf
    refine ev_sts 1 (c2 := (44, [.ref 63, .int x1, .int x2, .int y10], [.int x2], S8, 0)) rfl ?_
    refine ev_if (c1 := (57, [.ref 63, .int x1, .int x2, .int y10], [], S8, 0)) (c2 := (47, [.ref 63, .int x1, .int x2, .int y10], [], S8, 0)) hf rfl rfl (fun _ hf => ?_) (fun _ hf => ?_)
    · refine ev_sts 2 (c2 := (59, [.ref 63, .int x1, .int x2, .int y10], [.int y10, .int x1], S8, 0)) rfl ?_
      refine ev_gd (c1 := (60, [mK, mK, mK, mK], [.int (x1 / y10)], S8, 0)) hf rfl rfl (fun hf => ?_)
      exact f_X10_share_b60_ok hf
    · refine ev_sts 2 (c2 := (49, [.ref 63, .int x1, .int x2, .int y10], [.int y10, .int x1], S8, 0)) rfl ?_
      refine ev_gd (c1 := (50, [.ref 63, .int x1, .int x2, .int y10], [.int (x1 / y10)], S8, 0)) hf rfl rfl (fun hf => ?_)
      refine ev_sts 2 (c2 := (52, [.ref 63, .int x1, .int x2, .int y10], [.int y10, .int x1, .int (x1 / y10)], S8, 0)) rfl ?_
      refine ev_gd (c1 := (53, [.ref 63, .int x1, .int x2, .int y10], [.int (x1 - x1 / y10 * y10), .int (x1 / y10)], S8, 0)) hf rfl rfl (fun hf => ?_)
      exact ev_sts 2 (c2 := (60, [mK, mK, mK, mK], [.int ((x1 / y10) + (x1 - x1 / y10 * y10))], S8, 0)) rfl (f_X10_share_b60_ok hf)
  · refine ev_sts 1 (c2 := (30, [.ref 63, .int x1, .int x2, mK], [.int ((0 : Int32))], S4, 0)) rfl ?_
    exact ev_ret hf rfl rfl
theorem f_X10_share_ok {d : Nat} {p1 : Int32} {p2 : Int32} {S : mS} {r : mR} (hf : f_X10_share p1 p2 S = some r) : Ev (d + 1) Mx270 (entry Mx270 [.ref 63, .int p1, .int p2] S) r := by
  unfold f_X10_share at hf
  refine ev_sts 3 (c2 := (5, [.ref 63, .int p1, .int p2, mK], [], (upS S 63 0 ((0 : Int32))), 0)) rfl ?_
  refine ev_let (P := fun S1 => Ev (d + 1) Mx270 (5, [.ref 63, .int p1, .int p2, mK], [], S1, 0) r) (fun S1 hf => ?_) hf
  refine ev_sts 4 (c2 := (11, [.ref 63, .int p1, .int p2, mK], [.int ((9999 : Int32)), .int ((0 : Int32)), .int p1, .ref 63], S1, 0)) rfl ?_
  refine ev_bI0 (d := d) (M' := Mx156) (ct := (14, [.ref 63, .int p1, .int p2, mK], [.ref 63], S1, 0)) hf rfl rfl rfl rfl (fun r9 h9 => f_X10_in_ok (d := d) h9) (fun r3 S2 hf => ?_)
  show Ev (d + 1) Mx270 (14, [.ref 63, .int p1, .int p2, mK], [.int r3, .ref 63], S2, 0) r
  refine ev_if (c1 := (21, [.ref 63, .int p1, .int p2, mK], [.ref 63], S2, 0)) (c2 := (17, [.ref 63, .int p1, .int p2, mK], [.ref 63], S2, 0)) hf rfl rfl (fun _ hf => ?_) (fun _ hf => ?_)
  · exact ev_sts 1 (c2 := (22, [.ref 63, .int p1, .int p2, mK], [.int ((0 : Int32)), .ref 63], S2, 0)) rfl (f_X10_share_b22_ok hf)
  · exact ev_sts 2 (c2 := (22, [.ref 63, .int p1, .int p2, mK], [.int ((1 : Int32)), .ref 63], S2, 0)) rfl (f_X10_share_b22_ok hf)
def f_X10_shifts_b85 (K23 : Int32 → Int32 → Int32 → mS → Option mR) (K41 : Int32 → Int32 → Int32 → Int32 → mS → Option mR) (F : Nat) (x1 : Int32) (x2 : Int32) (x3 : Int32) (x4 : Int32) (S : mS) : Option mR := bnd ((x4 - ((1 : Int32))) &&& x3 : Int32) (fun y13 => K41 x1 x2 x3 y13 S)
def f_X10_shifts_b41 (K23 : Int32 → Int32 → Int32 → mS → Option mR) (F : Nat) : Nat → Int32 → Int32 → Int32 → Int32 → mS → Option mR
  | 0, _, _, _, _, _ => none
  | n + 1, x1, x2, x3, x4, S => (if x4 ≤ 0 then K23 x1 x2 (x3 + (1 : Int32)) S else bI0 (f_X10_isHeld F x1 x2 x4 S) (fun r12 S11 => (if r12 = 0 then f_X10_shifts_b85 K23 (fun x1 x2 x3 x4 S => f_X10_shifts_b41 K23 F n x1 x2 x3 x4 S) F x1 x2 x3 x4 S11 else gd (inb x3 64) (gd (inb (x3 &&& (x4 ^^^ ((-1 : Int32)))) 64) (gd (inb x3 64) (bnd (upS S11 72 x3.toNatClampNeg (if (S11 72 x3.toNatClampNeg) < (((1 : Int32)) + (S11 72 (x3 &&& (x4 ^^^ ((-1 : Int32)))).toNatClampNeg)) then (((1 : Int32)) + (S11 72 (x3 &&& (x4 ^^^ ((-1 : Int32)))).toNatClampNeg)) else (S11 72 x3.toNatClampNeg))) (fun S14 => f_X10_shifts_b85 K23 (fun x1 x2 x3 x4 S => f_X10_shifts_b41 K23 F n x1 x2 x3 x4 S) F x1 x2 x3 x4 S14)))))))
def f_X10_shifts_b23 (F : Nat) : Nat → Int32 → Int32 → Int32 → mS → Option mR
  | 0, _, _, _, _ => none
  | n + 1, x1, x2, x3, S => bI0 (f_X10_allHolders S) (fun r7 S6 => (if r7 < x3 then bI0 (f_X10_allHolders S6) (fun r9 S8 => gd (inb r9 64) (some (.inl (some (.int (S8 72 r9.toNatClampNeg))), S8))) else gd (inb x3 64) (bnd (upS S6 72 x3.toNatClampNeg ((0 : Int32))) (fun S10 => f_X10_shifts_b41 (fun x1 x2 x3 S => f_X10_shifts_b23 F n x1 x2 x3 S) F F x1 x2 x3 x3 S10))))
def f_X10_shifts (F : Nat) (p1 : Int32) (p2 : Int32) (S : mS) : Option mR := bnd (upS S 63 0 ((0 : Int32))) (fun S1 => bI0 (f_X10_noBoth p1 p2 S1) (fun r3 S2 => bI0 (f_X10_throwsIf r3 ((1 : Int32)) S2) (fun r5 S4 => (if r5 = 0 then f_X10_shifts_b23 F F p1 p2 ((0 : Int32)) S4 else some (.inl (some (.int ((0 : Int32)))), S4)))))
theorem f_X10_shifts_b85_ok {d F : Nat} {K23 : Int32 → Int32 → Int32 → mS → Option mR} (hK23 : ∀ {x1 : Int32} {x2 : Int32} {x3 : Int32} {S : mS} {r : mR}, K23 x1 x2 x3 S = some r → Ev (d + 4) Mx228 (23, [.ref 63, .int x1, .int x2, .int x3, mK], [], S, 0) r) {K41 : Int32 → Int32 → Int32 → Int32 → mS → Option mR} (hK41 : ∀ {x1 : Int32} {x2 : Int32} {x3 : Int32} {x4 : Int32} {S : mS} {r : mR}, K41 x1 x2 x3 x4 S = some r → Ev (d + 4) Mx228 (41, [.ref 63, .int x1, .int x2, .int x3, .int x4], [], S, 0) r) {x1 : Int32} {x2 : Int32} {x3 : Int32} {x4 : Int32} {S : mS} {r : mR} (hf : f_X10_shifts_b85 K23 K41 F x1 x2 x3 x4 S = some r) : Ev (d + 4) Mx228 (85, [.ref 63, .int x1, .int x2, .int x3, .int x4], [], S, 0) r := by
  unfold f_X10_shifts_b85 at hf
  refine ev_sts 6 (c2 := (93, [.ref 63, .int x1, .int x2, .int x3, .int ((x4 - ((1 : Int32))) &&& x3)], [], S, 0)) rfl ?_
  refine ev_let (P := fun y13 => Ev (d + 4) Mx228 (93, [.ref 63, .int x1, .int x2, .int x3, .int y13], [], S, 0) r) (fun y13 hf => ?_) hf
  exact ev_sts 1 (c2 := (41, [.ref 63, .int x1, .int x2, .int x3, .int y13], [], S, 0)) rfl (hK41 hf)
theorem f_X10_shifts_b41_ok {d F : Nat} {K23 : Int32 → Int32 → Int32 → mS → Option mR} (hK23 : ∀ {x1 : Int32} {x2 : Int32} {x3 : Int32} {S : mS} {r : mR}, K23 x1 x2 x3 S = some r → Ev (d + 4) Mx228 (23, [.ref 63, .int x1, .int x2, .int x3, mK], [], S, 0) r) : ∀ (n : Nat) {x1 : Int32} {x2 : Int32} {x3 : Int32} {x4 : Int32} {S : mS} {r : mR}, f_X10_shifts_b41 K23 F n x1 x2 x3 x4 S = some r → Ev (d + 4) Mx228 (41, [.ref 63, .int x1, .int x2, .int x3, .int x4], [], S, 0) r := by
  intro n
  induction n with
  | zero => intro x1 x2 x3 x4 S r hf; cases hf
  | succ n ih =>
    intro x1 x2 x3 x4 S r hf
    rw [f_X10_shifts_b41] at hf
    refine ev_sts 1 (c2 := (43, [.ref 63, .int x1, .int x2, .int x3, .int x4], [.int x4], S, 0)) rfl ?_
    refine ev_if (c1 := (96, [.ref 63, .int x1, .int x2, .int x3, .int x4], [], S, 0)) (c2 := (46, [.ref 63, .int x1, .int x2, .int x3, .int x4], [], S, 0)) hf rfl rfl (fun _ hf => ?_) (fun _ hf => ?_)
    · exact ev_sts 2 (c2 := (23, [.ref 63, .int x1, .int x2, .int (x3 + (1 : Int32)), mK], [], S, 0)) rfl (hK23 hf)
    · refine ev_sts 4 (c2 := (51, [.ref 63, .int x1, .int x2, .int x3, .int x4], [.int x4, .int x2, .int x1, .ref 63], S, 0)) rfl ?_
      refine ev_bI0 (d := d + 3) (M' := Mx223) (ct := (54, [.ref 63, .int x1, .int x2, .int x3, .int x4], [], S, 0)) hf rfl rfl rfl rfl (fun r9 h9 => f_X10_isHeld_ok (d := d) h9) (fun r12 S11 hf => ?_)
      show Ev (d + 4) Mx228 (54, [.ref 63, .int x1, .int x2, .int x3, .int x4], [.int r12], S11, 0) r
      refine ev_if (c1 := (85, [.ref 63, .int x1, .int x2, .int x3, .int x4], [], S11, 0)) (c2 := (57, [.ref 63, .int x1, .int x2, .int x3, .int x4], [], S11, 0)) hf rfl rfl (fun _ hf => ?_) (fun _ hf => ?_)
      · exact f_X10_shifts_b85_ok hK23 (fun h9 => ih h9) hf
      · refine ev_sts 6 (c2 := (67, [.ref 63, .int x1, .int x2, .int x3, .int x4], [.int x3, .ref 72, .int x3, .ref 72], S11, 0)) rfl ?_
        refine ev_gd (c1 := (68, [.ref 63, .int x1, .int x2, .int x3, .int x4], [.int (S11 72 x3.toNatClampNeg), .int x3, .ref 72], S11, 0)) hf rfl rfl (fun hf => ?_)
        refine ev_sts 8 (c2 := (79, [.ref 63, .int x1, .int x2, .int x3, .int x4], [.int (x3 &&& (x4 ^^^ ((-1 : Int32)))), .ref 72, .int ((1 : Int32)), .int (S11 72 x3.toNatClampNeg), .int x3, .ref 72], S11, 0)) rfl ?_
        refine ev_gd (c1 := (80, [.ref 63, .int x1, .int x2, .int x3, .int x4], [.int (S11 72 (x3 &&& (x4 ^^^ ((-1 : Int32)))).toNatClampNeg), .int ((1 : Int32)), .int (S11 72 x3.toNatClampNeg), .int x3, .ref 72], S11, 0)) hf rfl rfl (fun hf => ?_)
        refine ev_sts 2 (c2 := (84, [.ref 63, .int x1, .int x2, .int x3, .int x4], [.int (if (S11 72 x3.toNatClampNeg) < (((1 : Int32)) + (S11 72 (x3 &&& (x4 ^^^ ((-1 : Int32)))).toNatClampNeg)) then (((1 : Int32)) + (S11 72 (x3 &&& (x4 ^^^ ((-1 : Int32)))).toNatClampNeg)) else (S11 72 x3.toNatClampNeg)), .int x3, .ref 72], S11, 0)) rfl ?_
        refine ev_gd (c1 := (85, [.ref 63, .int x1, .int x2, .int x3, .int x4], [], (upS S11 72 x3.toNatClampNeg (if (S11 72 x3.toNatClampNeg) < (((1 : Int32)) + (S11 72 (x3 &&& (x4 ^^^ ((-1 : Int32)))).toNatClampNeg)) then (((1 : Int32)) + (S11 72 (x3 &&& (x4 ^^^ ((-1 : Int32)))).toNatClampNeg)) else (S11 72 x3.toNatClampNeg))), 0)) hf rfl rfl (fun hf => ?_)
        refine ev_let (P := fun S14 => Ev (d + 4) Mx228 (85, [.ref 63, .int x1, .int x2, .int x3, .int x4], [], S14, 0) r) (fun S14 hf => ?_) hf
        exact f_X10_shifts_b85_ok hK23 (fun h9 => ih h9) hf
theorem f_X10_shifts_b23_ok {d F : Nat} : ∀ (n : Nat) {x1 : Int32} {x2 : Int32} {x3 : Int32} {S : mS} {r : mR}, f_X10_shifts_b23 F n x1 x2 x3 S = some r → Ev (d + 4) Mx228 (23, [.ref 63, .int x1, .int x2, .int x3, mK], [], S, 0) r := by
  intro n
  induction n with
  | zero => intro x1 x2 x3 S r hf; cases hf
  | succ n ih =>
    intro x1 x2 x3 S r hf
    rw [f_X10_shifts_b23] at hf
    refine ev_sts 2 (c2 := (25, [.ref 63, .int x1, .int x2, .int x3, mK], [.ref 63, .int x3], S, 0)) rfl ?_
    refine ev_bI0 (d := d + 3) (M' := Mx221) (ct := (28, [.ref 63, .int x1, .int x2, .int x3, mK], [.int x3], S, 0)) hf rfl rfl rfl rfl (fun r9 h9 => f_X10_allHolders_ok (d := d + 2) h9) (fun r7 S6 hf => ?_)
    show Ev (d + 4) Mx228 (28, [.ref 63, .int x1, .int x2, .int x3, mK], [.int r7, .int x3], S6, 0) r
    refine ev_if (c1 := (102, [.ref 63, .int x1, .int x2, .int x3, mK], [], S6, 0)) (c2 := (31, [.ref 63, .int x1, .int x2, .int x3, mK], [], S6, 0)) hf rfl rfl (fun _ hf => ?_) (fun _ hf => ?_)
    · refine ev_sts 3 (c2 := (107, [.ref 63, .int x1, .int x2, .int x3, mK], [.ref 63, .ref 72], S6, 0)) rfl ?_
      refine ev_bI0 (d := d + 3) (M' := Mx221) (ct := (110, [.ref 63, .int x1, .int x2, .int x3, mK], [.ref 72], S6, 0)) hf rfl rfl rfl rfl (fun r9 h9 => f_X10_allHolders_ok (d := d + 2) h9) (fun r9 S8 hf => ?_)
      show Ev (d + 4) Mx228 (110, [.ref 63, .int x1, .int x2, .int x3, mK], [.int r9, .ref 72], S8, 0) r
      refine ev_gd (c1 := (111, [.ref 63, .int x1, .int x2, .int x3, mK], [.int (S8 72 r9.toNatClampNeg)], S8, 0)) hf rfl rfl (fun hf => ?_)
      exact ev_ret hf rfl rfl
    · refine ev_sts 4 (c2 := (37, [.ref 63, .int x1, .int x2, .int x3, mK], [.int ((0 : Int32)), .int x3, .ref 72], S6, 0)) rfl ?_
      refine ev_gd (c1 := (38, [.ref 63, .int x1, .int x2, .int x3, mK], [], (upS S6 72 x3.toNatClampNeg ((0 : Int32))), 0)) hf rfl rfl (fun hf => ?_)
      refine ev_let (P := fun S10 => Ev (d + 4) Mx228 (38, [.ref 63, .int x1, .int x2, .int x3, mK], [], S10, 0) r) (fun S10 hf => ?_) hf
      exact ev_sts 2 (c2 := (41, [.ref 63, .int x1, .int x2, .int x3, .int x3], [], S10, 0)) rfl (f_X10_shifts_b41_ok (fun h9 => ih h9) _ hf)
theorem f_X10_shifts_ok {d F : Nat} {p1 : Int32} {p2 : Int32} {S : mS} {r : mR} (hf : f_X10_shifts F p1 p2 S = some r) : Ev (d + 4) Mx228 (entry Mx228 [.ref 63, .int p1, .int p2] S) r := by
  unfold f_X10_shifts at hf
  refine ev_sts 3 (c2 := (5, [.ref 63, .int p1, .int p2, mK, mK], [], (upS S 63 0 ((0 : Int32))), 0)) rfl ?_
  refine ev_let (P := fun S1 => Ev (d + 4) Mx228 (5, [.ref 63, .int p1, .int p2, mK, mK], [], S1, 0) r) (fun S1 hf => ?_) hf
  refine ev_sts 4 (c2 := (9, [.ref 63, .int p1, .int p2, mK, mK], [.int p2, .int p1, .ref 63, .ref 63], S1, 0)) rfl ?_
  refine ev_bI0 (d := d + 3) (M' := Mx224) (ct := (12, [.ref 63, .int p1, .int p2, mK, mK], [.ref 63], S1, 0)) hf rfl rfl rfl rfl (fun r9 h9 => f_X10_noBoth_ok (d := d + 1) h9) (fun r3 S2 hf => ?_)
  show Ev (d + 4) Mx228 (12, [.ref 63, .int p1, .int p2, mK, mK], [.int r3, .ref 63], S2, 0) r
  refine ev_sts 1 (c2 := (13, [.ref 63, .int p1, .int p2, mK, mK], [.int ((1 : Int32)), .int r3, .ref 63], S2, 0)) rfl ?_
  refine ev_bI0 (d := d + 3) (M' := Mx155) (ct := (16, [.ref 63, .int p1, .int p2, mK, mK], [], S2, 0)) hf rfl rfl rfl rfl (fun r9 h9 => f_X10_throwsIf_ok (d := d + 3) h9) (fun r5 S4 hf => ?_)
  show Ev (d + 4) Mx228 (16, [.ref 63, .int p1, .int p2, mK, mK], [.int r5], S4, 0) r
  refine ev_if (c1 := (21, [.ref 63, .int p1, .int p2, mK, mK], [], S4, 0)) (c2 := (19, [.ref 63, .int p1, .int p2, mK, mK], [], S4, 0)) hf rfl rfl (fun _ hf => ?_) (fun _ hf => ?_)
  · exact ev_sts 2 (c2 := (23, [.ref 63, .int p1, .int p2, .int ((0 : Int32)), mK], [], S4, 0)) rfl (f_X10_shifts_b23_ok _ hf)
  · refine ev_sts 1 (c2 := (20, [.ref 63, .int p1, .int p2, mK, mK], [.int ((0 : Int32))], S4, 0)) rfl ?_
    exact ev_ret hf rfl rfl
def f_X10_span_b114 (K39 : Int32 → Int32 → Int32 → Int32 → mS → Option mR) (F : Nat) (x1 : Int32) (x2 : Int32) (x4 : Int32) (t0 : Int32) (S : mS) : Option mR := K39 x1 x2 t0 (x4 + (1 : Int32)) S
def f_X10_span_b58 (K39 : Int32 → Int32 → Int32 → Int32 → mS → Option mR) (F : Nat) : Nat → Int32 → Int32 → Int32 → Int32 → Int32 → mS → Option mR
  | 0, _, _, _, _, _, _ => none
  | n + 1, x1, x2, x3, x4, x5, S => (if x1 ≤ x5 then bI0 (f_X10_freshEggs F S) (fun r9 S8 => bV0 (f_X10_bringsBack F S8) (fun S10 => (if 0 ≤ x3 then (if x2 = 0 then f_X10_span_b114 K39 F x1 x2 x4 (if r9 < x3 then r9 else x3) S10 else f_X10_span_b114 K39 F x1 x2 x4 (if x3 < r9 then r9 else x3) S10) else f_X10_span_b114 K39 F x1 x2 x4 r9 S10))) else bI0 (f_X10_oneDay F ((0 : Int32)) S) (fun r12 S11 => f_X10_span_b58 K39 F n x1 x2 x3 x4 (x5 + (1 : Int32)) S11))
def f_X10_span_b39 (F : Nat) : Nat → Int32 → Int32 → Int32 → Int32 → mS → Option mR
  | 0, _, _, _, _, _ => none
  | n + 1, x1, x2, x3, x4, S => (if ((6 : Int32)) < x4 then some (.inl (some (.int x3)), S) else gd (inb ((16 : Int32)) 2145) (bnd (upS S 64 ((16 : Int32)).toNatClampNeg x4) (fun S7 => f_X10_span_b58 (fun x1 x2 x3 x4 S => f_X10_span_b39 F n x1 x2 x3 x4 S) F F x1 x2 x3 x4 ((0 : Int32)) S7)))
def f_X10_span_b21 (F : Nat) (x1 : Int32) (x2 : Int32) (t1 : Int32) (S : mS) : Option mR := bI0 (f_X10_throwsIf t1 ((1 : Int32)) S) (fun r5 S4 => (if r5 = 0 then bV0 (f_X10_keepsAll F S4) (fun S6 => f_X10_span_b39 F F x1 x2 ((-1 : Int32)) ((1 : Int32)) S6) else some (.inl (some (.int ((0 : Int32)))), S4)))
def f_X10_span (F : Nat) (p1 : Int32) (p2 : Int32) (S : mS) : Option mR := bnd (upS S 63 0 ((0 : Int32))) (fun S1 => bI0 (f_X10_in p1 ((0 : Int32)) ((40 : Int32)) S1) (fun r3 S2 => (if ¬ r3 = 0 then f_X10_span_b21 F p1 p2 ((0 : Int32)) S2 else f_X10_span_b21 F p1 p2 ((1 : Int32)) S2)))
theorem f_X10_span_b114_ok {d F : Nat} {K39 : Int32 → Int32 → Int32 → Int32 → mS → Option mR} (hK39 : ∀ {x1 : Int32} {x2 : Int32} {x3 : Int32} {x4 : Int32} {S : mS} {r : mR}, K39 x1 x2 x3 x4 S = some r → Ev (d + 9) Mx275 (39, [.ref 63, .int x1, .int x2, .int x3, .int x4, mK], [], S, 0) r) {x1 : Int32} {x2 : Int32} {x4 : Int32} {t0 : Int32} {S : mS} {r : mR} (hf : f_X10_span_b114 K39 F x1 x2 x4 t0 S = some r) : Ev (d + 9) Mx275 (114, [.ref 63, .int x1, .int x2, mK, .int x4, mK], [.int t0], S, 0) r := by
  unfold f_X10_span_b114 at hf
  exact ev_sts 3 (c2 := (39, [.ref 63, .int x1, .int x2, .int t0, .int (x4 + (1 : Int32)), mK], [], S, 0)) rfl (hK39 hf)
theorem f_X10_span_b58_ok {d F : Nat} {K39 : Int32 → Int32 → Int32 → Int32 → mS → Option mR} (hK39 : ∀ {x1 : Int32} {x2 : Int32} {x3 : Int32} {x4 : Int32} {S : mS} {r : mR}, K39 x1 x2 x3 x4 S = some r → Ev (d + 9) Mx275 (39, [.ref 63, .int x1, .int x2, .int x3, .int x4, mK], [], S, 0) r) : ∀ (n : Nat) {x1 : Int32} {x2 : Int32} {x3 : Int32} {x4 : Int32} {x5 : Int32} {S : mS} {r : mR}, f_X10_span_b58 K39 F n x1 x2 x3 x4 x5 S = some r → Ev (d + 9) Mx275 (58, [.ref 63, .int x1, .int x2, .int x3, .int x4, .int x5], [], S, 0) r := by
  intro n
  induction n with
  | zero => intro x1 x2 x3 x4 x5 S r hf; cases hf
  | succ n ih =>
    intro x1 x2 x3 x4 x5 S r hf
    rw [f_X10_span_b58] at hf
    refine ev_sts 2 (c2 := (61, [.ref 63, .int x1, .int x2, .int x3, .int x4, .int x5], [.int x1, .int x5], S, 0)) rfl ?_
    refine ev_if (c1 := (76, [.ref 63, .int x1, .int x2, .int x3, .int x4, .int x5], [], S, 0)) (c2 := (64, [.ref 63, .int x1, .int x2, .int x3, .int x4, .int x5], [], S, 0)) hf rfl rfl (fun _ hf => ?_) (fun _ hf => ?_)
    · refine ev_sts 1 (c2 := (77, [.ref 63, .int x1, .int x2, .int x3, .int x4, .int x5], [.ref 63], S, 0)) rfl ?_
      refine ev_bI0 (d := d + 8) (M' := Mx274) (ct := (80, [.ref 63, .int x1, .int x2, .int x3, .int x4, .int x5], [], S, 0)) hf rfl rfl rfl rfl (fun r9 h9 => f_X10_freshEggs_ok (d := d + 5) h9) (fun r9 S8 hf => ?_)
      show Ev (d + 9) Mx275 (80, [.ref 63, .int x1, .int x2, .int x3, .int x4, .int x5], [.int r9], S8, 0) r
      refine ev_sts 2 (c2 := (83, [.ref 63, .int x1, .int x2, .int x3, .int x4, .int r9], [.ref 63], S8, 0)) rfl ?_
      refine ev_bV0 (d := d + 8) (M' := Mx248) (ct := (86, [.ref 63, .int x1, .int x2, .int x3, .int x4, .int r9], [], S8, 0)) hf rfl rfl rfl rfl (fun r9 h9 => f_X10_bringsBack_ok (d := d + 8) h9) (fun S10 hf => ?_)
      show Ev (d + 9) Mx275 (86, [.ref 63, .int x1, .int x2, .int x3, .int x4, .int r9], [], S10, 0) r
      refine ev_sts 1 (c2 := (87, [.ref 63, .int x1, .int x2, .int x3, .int x4, .int r9], [.int x3], S10, 0)) rfl ?_
      refine ev_if (c1 := (95, [.ref 63, .int x1, .int x2, .int x3, .int x4, .int r9], [], S10, 0)) (c2 := (90, [.ref 63, .int x1, .int x2, .int x3, .int x4, .int r9], [], S10, 0)) hf rfl rfl (fun _ hf => ?_) (fun _ hf => ?_)
      · refine ev_sts 1 (c2 := (96, [.ref 63, .int x1, .int x2, .int x3, .int x4, .int r9], [.int x2], S10, 0)) rfl ?_
        refine ev_if (c1 := (108, [.ref 63, .int x1, .int x2, .int x3, .int x4, .int r9], [], S10, 0)) (c2 := (99, [.ref 63, .int x1, .int x2, .int x3, .int x4, .int r9], [], S10, 0)) hf rfl rfl (fun _ hf => ?_) (fun _ hf => ?_)
        · exact ev_sts 3 (c2 := (114, [.ref 63, .int x1, .int x2, mK, .int x4, mK], [.int (if r9 < x3 then r9 else x3)], S10, 0)) rfl (f_X10_span_b114_ok hK39 hf)
        · exact ev_sts 4 (c2 := (114, [.ref 63, .int x1, .int x2, mK, .int x4, mK], [.int (if x3 < r9 then r9 else x3)], S10, 0)) rfl (f_X10_span_b114_ok hK39 hf)
      · exact ev_sts 2 (c2 := (114, [.ref 63, .int x1, .int x2, mK, .int x4, mK], [.int r9], S10, 0)) rfl (f_X10_span_b114_ok hK39 hf)
    · refine ev_sts 2 (c2 := (66, [.ref 63, .int x1, .int x2, .int x3, .int x4, .int x5], [.int ((0 : Int32)), .ref 63], S, 0)) rfl ?_
      refine ev_bI0 (d := d + 8) (M' := Mx246) (ct := (69, [.ref 63, .int x1, .int x2, .int x3, .int x4, .int x5], [], S, 0)) hf rfl rfl rfl rfl (fun r9 h9 => f_X10_oneDay_ok (d := d) h9) (fun r12 S11 hf => ?_)
      show Ev (d + 9) Mx275 (69, [.ref 63, .int x1, .int x2, .int x3, .int x4, .int x5], [.int r12], S11, 0) r
      exact ev_sts 3 (c2 := (58, [.ref 63, .int x1, .int x2, .int x3, .int x4, .int (x5 + (1 : Int32))], [], S11, 0)) rfl (ih hf)
theorem f_X10_span_b39_ok {d F : Nat} : ∀ (n : Nat) {x1 : Int32} {x2 : Int32} {x3 : Int32} {x4 : Int32} {S : mS} {r : mR}, f_X10_span_b39 F n x1 x2 x3 x4 S = some r → Ev (d + 9) Mx275 (39, [.ref 63, .int x1, .int x2, .int x3, .int x4, mK], [], S, 0) r := by
  intro n
  induction n with
  | zero => intro x1 x2 x3 x4 S r hf; cases hf
  | succ n ih =>
    intro x1 x2 x3 x4 S r hf
    rw [f_X10_span_b39] at hf
    refine ev_sts 2 (c2 := (43, [.ref 63, .int x1, .int x2, .int x3, .int x4, mK], [.int ((6 : Int32)), .int x4], S, 0)) rfl ?_
    refine ev_if (c1 := (121, [.ref 63, .int x1, .int x2, .int x3, .int x4, mK], [], S, 0)) (c2 := (46, [.ref 63, .int x1, .int x2, .int x3, .int x4, mK], [], S, 0)) hf rfl rfl (fun _ hf => ?_) (fun _ hf => ?_)
    · refine ev_sts 1 (c2 := (122, [.ref 63, .int x1, .int x2, .int x3, .int x4, mK], [.int x3], S, 0)) rfl ?_
      exact ev_ret hf rfl rfl
    · refine ev_sts 4 (c2 := (54, [.ref 63, .int x1, .int x2, .int x3, .int x4, mK], [.int x4, .int ((16 : Int32)), .ref 64], S, 0)) rfl ?_
      refine ev_gd (c1 := (55, [.ref 63, .int x1, .int x2, .int x3, .int x4, mK], [], (upS S 64 ((16 : Int32)).toNatClampNeg x4), 0)) hf rfl rfl (fun hf => ?_)
      refine ev_let (P := fun S7 => Ev (d + 9) Mx275 (55, [.ref 63, .int x1, .int x2, .int x3, .int x4, mK], [], S7, 0) r) (fun S7 hf => ?_) hf
      exact ev_sts 2 (c2 := (58, [.ref 63, .int x1, .int x2, .int x3, .int x4, .int ((0 : Int32))], [], S7, 0)) rfl (f_X10_span_b58_ok (fun h9 => ih h9) _ hf)
theorem f_X10_span_b21_ok {d F : Nat} {x1 : Int32} {x2 : Int32} {t1 : Int32} {S : mS} {r : mR} (hf : f_X10_span_b21 F x1 x2 t1 S = some r) : Ev (d + 9) Mx275 (21, [.ref 63, .int x1, .int x2, mK, mK, mK], [.int t1, .ref 63], S, 0) r := by
  unfold f_X10_span_b21 at hf
  refine ev_sts 1 (c2 := (22, [.ref 63, .int x1, .int x2, mK, mK, mK], [.int ((1 : Int32)), .int t1, .ref 63], S, 0)) rfl ?_
  refine ev_bI0 (d := d + 8) (M' := Mx155) (ct := (25, [.ref 63, .int x1, .int x2, mK, mK, mK], [], S, 0)) hf rfl rfl rfl rfl (fun r9 h9 => f_X10_throwsIf_ok (d := d + 8) h9) (fun r5 S4 hf => ?_)
  show Ev (d + 9) Mx275 (25, [.ref 63, .int x1, .int x2, mK, mK, mK], [.int r5], S4, 0) r
  refine ev_if (c1 := (30, [.ref 63, .int x1, .int x2, mK, mK, mK], [], S4, 0)) (c2 := (28, [.ref 63, .int x1, .int x2, mK, mK, mK], [], S4, 0)) hf rfl rfl (fun _ hf => ?_) (fun _ hf => ?_)
  · refine ev_sts 1 (c2 := (31, [.ref 63, .int x1, .int x2, mK, mK, mK], [.ref 63], S4, 0)) rfl ?_
    refine ev_bV0 (d := d + 8) (M' := Mx247) (ct := (34, [.ref 63, .int x1, .int x2, mK, mK, mK], [], S4, 0)) hf rfl rfl rfl rfl (fun r9 h9 => f_X10_keepsAll_ok (d := d + 8) h9) (fun S6 hf => ?_)
    show Ev (d + 9) Mx275 (34, [.ref 63, .int x1, .int x2, mK, mK, mK], [], S6, 0) r
    exact ev_sts 4 (c2 := (39, [.ref 63, .int x1, .int x2, .int ((-1 : Int32)), .int ((1 : Int32)), mK], [], S6, 0)) rfl (f_X10_span_b39_ok _ hf)
  · refine ev_sts 1 (c2 := (29, [.ref 63, .int x1, .int x2, mK, mK, mK], [.int ((0 : Int32))], S4, 0)) rfl ?_
    exact ev_ret hf rfl rfl
theorem f_X10_span_ok {d F : Nat} {p1 : Int32} {p2 : Int32} {S : mS} {r : mR} (hf : f_X10_span F p1 p2 S = some r) : Ev (d + 9) Mx275 (entry Mx275 [.ref 63, .int p1, .int p2] S) r := by
  unfold f_X10_span at hf
  refine ev_sts 3 (c2 := (5, [.ref 63, .int p1, .int p2, mK, mK, mK], [], (upS S 63 0 ((0 : Int32))), 0)) rfl ?_
  refine ev_let (P := fun S1 => Ev (d + 9) Mx275 (5, [.ref 63, .int p1, .int p2, mK, mK, mK], [], S1, 0) r) (fun S1 hf => ?_) hf
  refine ev_sts 4 (c2 := (10, [.ref 63, .int p1, .int p2, mK, mK, mK], [.int ((40 : Int32)), .int ((0 : Int32)), .int p1, .ref 63], S1, 0)) rfl ?_
  refine ev_bI0 (d := d + 8) (M' := Mx156) (ct := (13, [.ref 63, .int p1, .int p2, mK, mK, mK], [.ref 63], S1, 0)) hf rfl rfl rfl rfl (fun r9 h9 => f_X10_in_ok (d := d + 8) h9) (fun r3 S2 hf => ?_)
  show Ev (d + 9) Mx275 (13, [.ref 63, .int p1, .int p2, mK, mK, mK], [.int r3, .ref 63], S2, 0) r
  refine ev_if (c1 := (20, [.ref 63, .int p1, .int p2, mK, mK, mK], [.ref 63], S2, 0)) (c2 := (16, [.ref 63, .int p1, .int p2, mK, mK, mK], [.ref 63], S2, 0)) hf rfl rfl (fun _ hf => ?_) (fun _ hf => ?_)
  · exact ev_sts 1 (c2 := (21, [.ref 63, .int p1, .int p2, mK, mK, mK], [.int ((0 : Int32)), .ref 63], S2, 0)) rfl (f_X10_span_b21_ok hf)
  · exact ev_sts 2 (c2 := (21, [.ref 63, .int p1, .int p2, mK, mK, mK], [.int ((1 : Int32)), .ref 63], S2, 0)) rfl (f_X10_span_b21_ok hf)
def f_X10_split_b81 (F : Nat) (t0 : Int32) (S : mS) : Option mR := some (.inl (some (.int t0)), S)
def f_X10_split_b65 (K23 : Int32 → Int32 → Int32 → Int32 → Int32 → mS → Option mR) (F : Nat) (x1 : Int32) (x2 : Int32) (x3 : Int32) (x4 : Int32) (x5 : Int32) (S : mS) : Option mR := K23 x1 x2 x3 x4 (x5 + (1 : Int32)) S
def f_X10_split_b23 (F : Nat) : Nat → Int32 → Int32 → Int32 → Int32 → Int32 → mS → Option mR
  | 0, _, _, _, _, _, _ => none
  | n + 1, x1, x2, x3, x4, x5, S => bI0 (f_X10_allLedges S) (fun r7 S6 => (if r7 < x5 then (if x1 = 0 then f_X10_split_b81 F x4 S6 else f_X10_split_b81 F x3 S6) else bI0 (f_X10_sumIn F x5 ((2 : Int32)) S6) (fun r9 S8 => bnd (if 0 ≤ (x2 - (((2 : Int32)) * r9)) then (x2 - (((2 : Int32)) * r9)) else 0 - (x2 - (((2 : Int32)) * r9)) : Int32) (fun y10 => (if y10 < x4 then f_X10_split_b65 (fun x1 x2 x3 x4 x5 S => f_X10_split_b23 F n x1 x2 x3 x4 x5 S) F x1 x2 x5 y10 x5 S8 else f_X10_split_b65 (fun x1 x2 x3 x4 x5 S => f_X10_split_b23 F n x1 x2 x3 x4 x5 S) F x1 x2 x3 x4 x5 S8)))))
def f_X10_split (F : Nat) (p1 : Int32) (S : mS) : Option mR := bnd (upS S 63 0 ((0 : Int32))) (fun S1 => bI0 (f_X10_allLedges S1) (fun r3 S2 => bI0 (f_X10_sumIn F r3 ((2 : Int32)) S2) (fun r5 S4 => f_X10_split_b23 F F p1 r5 ((0 : Int32)) r5 ((1 : Int32)) S4)))
theorem f_X10_split_b81_ok {d F : Nat} {t0 : Int32} {S : mS} {r : mR} (hf : f_X10_split_b81 F t0 S = some r) : Ev (d + 3) Mx269 (81, [mK, mK, mK, mK, mK, mK, mK], [.int t0], S, 0) r := by
  unfold f_X10_split_b81 at hf
  exact ev_ret hf rfl rfl
theorem f_X10_split_b65_ok {d F : Nat} {K23 : Int32 → Int32 → Int32 → Int32 → Int32 → mS → Option mR} (hK23 : ∀ {x1 : Int32} {x2 : Int32} {x3 : Int32} {x4 : Int32} {x5 : Int32} {S : mS} {r : mR}, K23 x1 x2 x3 x4 x5 S = some r → Ev (d + 3) Mx269 (23, [.ref 63, .int x1, .int x2, .int x3, .int x4, .int x5, mK], [], S, 0) r) {x1 : Int32} {x2 : Int32} {x3 : Int32} {x4 : Int32} {x5 : Int32} {S : mS} {r : mR} (hf : f_X10_split_b65 K23 F x1 x2 x3 x4 x5 S = some r) : Ev (d + 3) Mx269 (65, [.ref 63, .int x1, .int x2, .int x3, .int x4, .int x5, mK], [], S, 0) r := by
  unfold f_X10_split_b65 at hf
  exact ev_sts 2 (c2 := (23, [.ref 63, .int x1, .int x2, .int x3, .int x4, .int (x5 + (1 : Int32)), mK], [], S, 0)) rfl (hK23 hf)
theorem f_X10_split_b23_ok {d F : Nat} : ∀ (n : Nat) {x1 : Int32} {x2 : Int32} {x3 : Int32} {x4 : Int32} {x5 : Int32} {S : mS} {r : mR}, f_X10_split_b23 F n x1 x2 x3 x4 x5 S = some r → Ev (d + 3) Mx269 (23, [.ref 63, .int x1, .int x2, .int x3, .int x4, .int x5, mK], [], S, 0) r := by
  intro n
  induction n with
  | zero => intro x1 x2 x3 x4 x5 S r hf; cases hf
  | succ n ih =>
    intro x1 x2 x3 x4 x5 S r hf
    rw [f_X10_split_b23] at hf
    refine ev_sts 2 (c2 := (26, [.ref 63, .int x1, .int x2, .int x3, .int x4, .int x5, mK], [.ref 63, .int x5], S, 0)) rfl ?_
    refine ev_bI0 (d := d + 2) (M' := Mx261) (ct := (29, [.ref 63, .int x1, .int x2, .int x3, .int x4, .int x5, mK], [.int x5], S, 0)) hf rfl rfl rfl rfl (fun r9 h9 => f_X10_allLedges_ok (d := d + 1) h9) (fun r7 S6 hf => ?_)
    show Ev (d + 3) Mx269 (29, [.ref 63, .int x1, .int x2, .int x3, .int x4, .int x5, mK], [.int r7, .int x5], S6, 0) r
    refine ev_if (c1 := (71, [.ref 63, .int x1, .int x2, .int x3, .int x4, .int x5, mK], [], S6, 0)) (c2 := (32, [.ref 63, .int x1, .int x2, .int x3, .int x4, .int x5, mK], [], S6, 0)) hf rfl rfl (fun _ hf => ?_) (fun _ hf => ?_)
    · refine ev_sts 1 (c2 := (72, [.ref 63, .int x1, .int x2, .int x3, .int x4, .int x5, mK], [.int x1], S6, 0)) rfl ?_
      refine ev_if (c1 := (79, [.ref 63, .int x1, .int x2, .int x3, .int x4, .int x5, mK], [], S6, 0)) (c2 := (75, [.ref 63, .int x1, .int x2, .int x3, .int x4, .int x5, mK], [], S6, 0)) hf rfl rfl (fun _ hf => ?_) (fun _ hf => ?_)
      · exact ev_sts 1 (c2 := (81, [mK, mK, mK, mK, mK, mK, mK], [.int x4], S6, 0)) rfl (f_X10_split_b81_ok hf)
      · exact ev_sts 2 (c2 := (81, [mK, mK, mK, mK, mK, mK, mK], [.int x3], S6, 0)) rfl (f_X10_split_b81_ok hf)
    · refine ev_sts 5 (c2 := (38, [.ref 63, .int x1, .int x2, .int x3, .int x4, .int x5, mK], [.int ((2 : Int32)), .int x5, .ref 63, .int ((2 : Int32)), .int x2], S6, 0)) rfl ?_
      refine ev_bI0 (d := d + 2) (M' := Mx260) (ct := (41, [.ref 63, .int x1, .int x2, .int x3, .int x4, .int x5, mK], [.int ((2 : Int32)), .int x2], S6, 0)) hf rfl rfl rfl rfl (fun r9 h9 => f_X10_sumIn_ok (d := d) h9) (fun r9 S8 hf => ?_)
      show Ev (d + 3) Mx269 (41, [.ref 63, .int x1, .int x2, .int x3, .int x4, .int x5, mK], [.int r9, .int ((2 : Int32)), .int x2], S8, 0) r
      refine ev_sts 4 (c2 := (48, [.ref 63, .int x1, .int x2, .int x3, .int x4, .int x5, .int (if 0 ≤ (x2 - (((2 : Int32)) * r9)) then (x2 - (((2 : Int32)) * r9)) else 0 - (x2 - (((2 : Int32)) * r9)))], [], S8, 0)) rfl ?_
      refine ev_let (P := fun y10 => Ev (d + 3) Mx269 (48, [.ref 63, .int x1, .int x2, .int x3, .int x4, .int x5, .int y10], [], S8, 0) r) (fun y10 hf => ?_) hf
      refine ev_sts 2 (c2 := (52, [.ref 63, .int x1, .int x2, .int x3, .int x4, .int x5, .int y10], [.int x4, .int y10], S8, 0)) rfl ?_
      refine ev_if (c1 := (58, [.ref 63, .int x1, .int x2, .int x3, .int x4, .int x5, .int y10], [], S8, 0)) (c2 := (55, [.ref 63, .int x1, .int x2, .int x3, .int x4, .int x5, .int y10], [], S8, 0)) hf rfl rfl (fun _ hf => ?_) (fun _ hf => ?_)
      · exact ev_sts 4 (c2 := (65, [.ref 63, .int x1, .int x2, .int x5, .int y10, .int x5, mK], [], S8, 0)) rfl (f_X10_split_b65_ok (fun h9 => ih h9) hf)
      · exact ev_sts 1 (c2 := (65, [.ref 63, .int x1, .int x2, .int x3, .int x4, .int x5, mK], [], S8, 0)) rfl (f_X10_split_b65_ok (fun h9 => ih h9) hf)
theorem f_X10_split_ok {d F : Nat} {p1 : Int32} {S : mS} {r : mR} (hf : f_X10_split F p1 S = some r) : Ev (d + 3) Mx269 (entry Mx269 [.ref 63, .int p1] S) r := by
  unfold f_X10_split at hf
  refine ev_sts 3 (c2 := (5, [.ref 63, .int p1, mK, mK, mK, mK, mK], [], (upS S 63 0 ((0 : Int32))), 0)) rfl ?_
  refine ev_let (P := fun S1 => Ev (d + 3) Mx269 (5, [.ref 63, .int p1, mK, mK, mK, mK, mK], [], S1, 0) r) (fun S1 hf => ?_) hf
  refine ev_sts 2 (c2 := (7, [.ref 63, .int p1, mK, mK, mK, mK, mK], [.ref 63, .ref 63], S1, 0)) rfl ?_
  refine ev_bI0 (d := d + 2) (M' := Mx261) (ct := (10, [.ref 63, .int p1, mK, mK, mK, mK, mK], [.ref 63], S1, 0)) hf rfl rfl rfl rfl (fun r9 h9 => f_X10_allLedges_ok (d := d + 1) h9) (fun r3 S2 hf => ?_)
  show Ev (d + 3) Mx269 (10, [.ref 63, .int p1, mK, mK, mK, mK, mK], [.int r3, .ref 63], S2, 0) r
  refine ev_sts 1 (c2 := (11, [.ref 63, .int p1, mK, mK, mK, mK, mK], [.int ((2 : Int32)), .int r3, .ref 63], S2, 0)) rfl ?_
  refine ev_bI0 (d := d + 2) (M' := Mx260) (ct := (14, [.ref 63, .int p1, mK, mK, mK, mK, mK], [], S2, 0)) hf rfl rfl rfl rfl (fun r9 h9 => f_X10_sumIn_ok (d := d) h9) (fun r5 S4 hf => ?_)
  show Ev (d + 3) Mx269 (14, [.ref 63, .int p1, mK, mK, mK, mK, mK], [.int r5], S4, 0) r
  exact ev_sts 7 (c2 := (23, [.ref 63, .int p1, .int r5, .int ((0 : Int32)), .int r5, .int ((1 : Int32)), mK], [], S4, 0)) rfl (f_X10_split_b23_ok _ hf)
def f_X10_swing_b59 (F : Nat) (t0 : Int32) (S : mS) : Option mR := some (.inl (some (.int t0)), S)
def f_X10_swing_b48 (F : Nat) (S : mS) : Option mR := f_X10_swing_b59 F ((0 : Int32)) S
def f_X10_swing_b41 (F : Nat) (x1 : Int32) (x2 : Int32) (x3 : Int32) (t1 : Int32) (S : mS) : Option mR := bI0 (f_X10_throwsIf t1 ((2 : Int32)) S) (fun r9 S8 => (if r9 = 0 then bI0 (f_X10_swingOf F x1 x2 x3 S8) (fun r11 S10 => f_X10_swing_b59 F r11 S10) else f_X10_swing_b48 F S8))
def f_X10_swing_b36 (F : Nat) (x1 : Int32) (x2 : Int32) (x3 : Int32) (S : mS) : Option mR := f_X10_swing_b41 F x1 x2 x3 ((1 : Int32)) S
def f_X10_swing (F : Nat) (p1 : Int32) (p2 : Int32) (p3 : Int32) (S : mS) : Option mR := bnd (upS S 63 0 ((0 : Int32))) (fun S1 => bI0 (f_X10_noLedge p1 S1) (fun r3 S2 => bI0 (f_X10_throwsIf r3 ((1 : Int32)) S2) (fun r5 S4 => (if ¬ r5 = 0 then f_X10_swing_b48 F S4 else bI0 (f_X10_in p2 ((1 : Int32)) ((12 : Int32)) S4) (fun r7 S6 => (if r7 = 0 then f_X10_swing_b36 F p1 p2 p3 S6 else bI0 (f_X10_noWind p3 S6) (fun r13 S12 => (if r13 = 0 then f_X10_swing_b41 F p1 p2 p3 ((0 : Int32)) S12 else f_X10_swing_b36 F p1 p2 p3 S12))))))))
theorem f_X10_swing_b59_ok {d F : Nat} {t0 : Int32} {S : mS} {r : mR} (hf : f_X10_swing_b59 F t0 S = some r) : Ev (d + 7) Mx217 (59, [mK, mK, mK, mK], [.int t0], S, 0) r := by
  unfold f_X10_swing_b59 at hf
  exact ev_ret hf rfl rfl
theorem f_X10_swing_b48_ok {d F : Nat} {S : mS} {r : mR} (hf : f_X10_swing_b48 F  S = some r) : Ev (d + 7) Mx217 (48, [mK, mK, mK, mK], [], S, 0) r := by
  unfold f_X10_swing_b48 at hf
  exact ev_sts 2 (c2 := (59, [mK, mK, mK, mK], [.int ((0 : Int32))], S, 0)) rfl (f_X10_swing_b59_ok hf)
theorem f_X10_swing_b41_ok {d F : Nat} {x1 : Int32} {x2 : Int32} {x3 : Int32} {t1 : Int32} {S : mS} {r : mR} (hf : f_X10_swing_b41 F x1 x2 x3 t1 S = some r) : Ev (d + 7) Mx217 (41, [.ref 63, .int x1, .int x2, .int x3], [.int t1, .ref 63], S, 0) r := by
  unfold f_X10_swing_b41 at hf
  refine ev_sts 1 (c2 := (42, [.ref 63, .int x1, .int x2, .int x3], [.int ((2 : Int32)), .int t1, .ref 63], S, 0)) rfl ?_
  refine ev_bI0 (d := d + 6) (M' := Mx155) (ct := (45, [.ref 63, .int x1, .int x2, .int x3], [], S, 0)) hf rfl rfl rfl rfl (fun r9 h9 => f_X10_throwsIf_ok (d := d + 6) h9) (fun r9 S8 hf => ?_)
  show Ev (d + 7) Mx217 (45, [.ref 63, .int x1, .int x2, .int x3], [.int r9], S8, 0) r
  refine ev_if (c1 := (52, [.ref 63, .int x1, .int x2, .int x3], [], S8, 0)) (c2 := (48, [mK, mK, mK, mK], [], S8, 0)) hf rfl rfl (fun _ hf => ?_) (fun _ hf => ?_)
  · refine ev_sts 4 (c2 := (56, [.ref 63, .int x1, .int x2, .int x3], [.int x3, .int x2, .int x1, .ref 63], S8, 0)) rfl ?_
    refine ev_bI0 (d := d + 6) (M' := Mx207) (ct := (59, [mK, mK, mK, mK], [], S8, 0)) hf rfl rfl rfl rfl (fun r9 h9 => f_X10_swingOf_ok (d := d) h9) (fun r11 S10 hf => ?_)
    show Ev (d + 7) Mx217 (59, [mK, mK, mK, mK], [.int r11], S10, 0) r
    exact f_X10_swing_b59_ok hf
  · exact f_X10_swing_b48_ok hf
theorem f_X10_swing_b36_ok {d F : Nat} {x1 : Int32} {x2 : Int32} {x3 : Int32} {S : mS} {r : mR} (hf : f_X10_swing_b36 F x1 x2 x3 S = some r) : Ev (d + 7) Mx217 (36, [.ref 63, .int x1, .int x2, .int x3], [.ref 63], S, 0) r := by
  unfold f_X10_swing_b36 at hf
  exact ev_sts 2 (c2 := (41, [.ref 63, .int x1, .int x2, .int x3], [.int ((1 : Int32)), .ref 63], S, 0)) rfl (f_X10_swing_b41_ok hf)
theorem f_X10_swing_ok {d F : Nat} {p1 : Int32} {p2 : Int32} {p3 : Int32} {S : mS} {r : mR} (hf : f_X10_swing F p1 p2 p3 S = some r) : Ev (d + 7) Mx217 (entry Mx217 [.ref 63, .int p1, .int p2, .int p3] S) r := by
  unfold f_X10_swing at hf
  refine ev_sts 3 (c2 := (5, [.ref 63, .int p1, .int p2, .int p3], [], (upS S 63 0 ((0 : Int32))), 0)) rfl ?_
  refine ev_let (P := fun S1 => Ev (d + 7) Mx217 (5, [.ref 63, .int p1, .int p2, .int p3], [], S1, 0) r) (fun S1 hf => ?_) hf
  refine ev_sts 3 (c2 := (8, [.ref 63, .int p1, .int p2, .int p3], [.int p1, .ref 63, .ref 63], S1, 0)) rfl ?_
  refine ev_bI0 (d := d + 6) (M' := Mx169) (ct := (11, [.ref 63, .int p1, .int p2, .int p3], [.ref 63], S1, 0)) hf rfl rfl rfl rfl (fun r9 h9 => f_X10_noLedge_ok (d := d + 5) h9) (fun r3 S2 hf => ?_)
  show Ev (d + 7) Mx217 (11, [.ref 63, .int p1, .int p2, .int p3], [.int r3, .ref 63], S2, 0) r
  refine ev_sts 1 (c2 := (12, [.ref 63, .int p1, .int p2, .int p3], [.int ((1 : Int32)), .int r3, .ref 63], S2, 0)) rfl ?_
  refine ev_bI0 (d := d + 6) (M' := Mx155) (ct := (15, [.ref 63, .int p1, .int p2, .int p3], [], S2, 0)) hf rfl rfl rfl rfl (fun r9 h9 => f_X10_throwsIf_ok (d := d + 6) h9) (fun r5 S4 hf => ?_)
  show Ev (d + 7) Mx217 (15, [.ref 63, .int p1, .int p2, .int p3], [.int r5], S4, 0) r
  refine ev_if (c1 := (48, [mK, mK, mK, mK], [], S4, 0)) (c2 := (18, [.ref 63, .int p1, .int p2, .int p3], [], S4, 0)) hf rfl rfl (fun _ hf => ?_) (fun _ hf => ?_)
  · exact f_X10_swing_b48_ok hf
  · refine ev_sts 4 (c2 := (23, [.ref 63, .int p1, .int p2, .int p3], [.int ((12 : Int32)), .int ((1 : Int32)), .int p2, .ref 63], S4, 0)) rfl ?_
    refine ev_bI0 (d := d + 6) (M' := Mx156) (ct := (26, [.ref 63, .int p1, .int p2, .int p3], [.ref 63], S4, 0)) hf rfl rfl rfl rfl (fun r9 h9 => f_X10_in_ok (d := d + 6) h9) (fun r7 S6 hf => ?_)
    show Ev (d + 7) Mx217 (26, [.ref 63, .int p1, .int p2, .int p3], [.int r7, .ref 63], S6, 0) r
    refine ev_if (c1 := (36, [.ref 63, .int p1, .int p2, .int p3], [.ref 63], S6, 0)) (c2 := (29, [.ref 63, .int p1, .int p2, .int p3], [.ref 63], S6, 0)) hf rfl rfl (fun _ hf => ?_) (fun _ hf => ?_)
    · exact f_X10_swing_b36_ok hf
    · refine ev_sts 1 (c2 := (30, [.ref 63, .int p1, .int p2, .int p3], [.int p3, .ref 63], S6, 0)) rfl ?_
      refine ev_bI0 (d := d + 6) (M' := Mx172) (ct := (33, [.ref 63, .int p1, .int p2, .int p3], [.ref 63], S6, 0)) hf rfl rfl rfl rfl (fun r9 h9 => f_X10_noWind_ok (d := d + 5) h9) (fun r13 S12 hf => ?_)
      show Ev (d + 7) Mx217 (33, [.ref 63, .int p1, .int p2, .int p3], [.int r13, .ref 63], S12, 0) r
      refine ev_if (c1 := (40, [.ref 63, .int p1, .int p2, .int p3], [.ref 63], S12, 0)) (c2 := (36, [.ref 63, .int p1, .int p2, .int p3], [.ref 63], S12, 0)) hf rfl rfl (fun _ hf => ?_) (fun _ hf => ?_)
      · exact ev_sts 1 (c2 := (41, [.ref 63, .int p1, .int p2, .int p3], [.int ((0 : Int32)), .ref 63], S12, 0)) rfl (f_X10_swing_b41_ok hf)
      · exact f_X10_swing_b36_ok hf
def f_X10_thrown (S : mS) : Option mR := some (.inl (some (.int (S 63 0))), S)
theorem f_X10_thrown_ok {d : Nat} {S : mS} {r : mR} (hf : f_X10_thrown S = some r) : Ev (d) Mx154 (entry Mx154 [.ref 63] S) r := by
  unfold f_X10_thrown at hf
  refine ev_sts 2 (c2 := (4, [.ref 63], [.int (S 63 0)], S, 0)) rfl ?_
  exact ev_ret hf rfl rfl
def f_X10_trial_b76 (F : Nat) (t0 : Int32) (S : mS) : Option mR := bV0 (f_X10_bringsBack F S) (fun S11 => some (.inl (some (.int t0)), S11))
def f_X10_trial_b36 (F : Nat) : Nat → Int32 → Int32 → Int32 → mS → Option mR
  | 0, _, _, _, _ => none
  | n + 1, x1, x2, x3, S => (if x1 ≤ x3 then (if x2 = 0 then bI0 (f_X10_allLedges S) (fun r8 S7 => bI0 (f_X10_sumIn F r8 ((2 : Int32)) S7) (fun r10 S9 => f_X10_trial_b76 F r10 S9)) else gd (inb ((6 : Int32)) 2145) (f_X10_trial_b76 F (S 64 ((6 : Int32)).toNatClampNeg) S)) else bI0 (f_X10_oneDay F ((0 : Int32)) S) (fun r13 S12 => f_X10_trial_b36 F n x1 x2 (x3 + (1 : Int32)) S12))
def f_X10_trial_b21 (F : Nat) (x1 : Int32) (x2 : Int32) (t1 : Int32) (S : mS) : Option mR := bI0 (f_X10_throwsIf t1 ((1 : Int32)) S) (fun r5 S4 => (if r5 = 0 then bV0 (f_X10_keepsAll F S4) (fun S6 => f_X10_trial_b36 F F x1 x2 ((0 : Int32)) S6) else some (.inl (some (.int ((0 : Int32)))), S4)))
def f_X10_trial (F : Nat) (p1 : Int32) (p2 : Int32) (S : mS) : Option mR := bnd (upS S 63 0 ((0 : Int32))) (fun S1 => bI0 (f_X10_in p1 ((0 : Int32)) ((40 : Int32)) S1) (fun r3 S2 => (if ¬ r3 = 0 then f_X10_trial_b21 F p1 p2 ((0 : Int32)) S2 else f_X10_trial_b21 F p1 p2 ((1 : Int32)) S2)))
theorem f_X10_trial_b76_ok {d F : Nat} {t0 : Int32} {S : mS} {r : mR} (hf : f_X10_trial_b76 F t0 S = some r) : Ev (d + 9) Mx273 (76, [.ref 63, mK, mK, mK], [.int t0], S, 0) r := by
  unfold f_X10_trial_b76 at hf
  refine ev_sts 2 (c2 := (78, [.ref 63, mK, mK, .int t0], [.ref 63], S, 0)) rfl ?_
  refine ev_bV0 (d := d + 8) (M' := Mx248) (ct := (81, [.ref 63, mK, mK, .int t0], [], S, 0)) hf rfl rfl rfl rfl (fun r9 h9 => f_X10_bringsBack_ok (d := d + 8) h9) (fun S11 hf => ?_)
  show Ev (d + 9) Mx273 (81, [.ref 63, mK, mK, .int t0], [], S11, 0) r
  refine ev_sts 1 (c2 := (82, [.ref 63, mK, mK, .int t0], [.int t0], S11, 0)) rfl ?_
  exact ev_ret hf rfl rfl
theorem f_X10_trial_b36_ok {d F : Nat} : ∀ (n : Nat) {x1 : Int32} {x2 : Int32} {x3 : Int32} {S : mS} {r : mR}, f_X10_trial_b36 F n x1 x2 x3 S = some r → Ev (d + 9) Mx273 (36, [.ref 63, .int x1, .int x2, .int x3], [], S, 0) r := by
  intro n
  induction n with
  | zero => intro x1 x2 x3 S r hf; cases hf
  | succ n ih =>
    intro x1 x2 x3 S r hf
    rw [f_X10_trial_b36] at hf
    refine ev_sts 2 (c2 := (38, [.ref 63, .int x1, .int x2, .int x3], [.int x1, .int x3], S, 0)) rfl ?_
    refine ev_if (c1 := (53, [.ref 63, .int x1, .int x2, .int x3], [], S, 0)) (c2 := (41, [.ref 63, .int x1, .int x2, .int x3], [], S, 0)) hf rfl rfl (fun _ hf => ?_) (fun _ hf => ?_)
    · refine ev_sts 1 (c2 := (54, [.ref 63, .int x1, .int x2, .int x3], [.int x2], S, 0)) rfl ?_
      refine ev_if (c1 := (67, [.ref 63, .int x1, .int x2, .int x3], [], S, 0)) (c2 := (57, [.ref 63, .int x1, .int x2, .int x3], [], S, 0)) hf rfl rfl (fun _ hf => ?_) (fun _ hf => ?_)
      · refine ev_sts 2 (c2 := (69, [.ref 63, .int x1, .int x2, .int x3], [.ref 63, .ref 63], S, 0)) rfl ?_
        refine ev_bI0 (d := d + 8) (M' := Mx261) (ct := (72, [.ref 63, .int x1, .int x2, .int x3], [.ref 63], S, 0)) hf rfl rfl rfl rfl (fun r9 h9 => f_X10_allLedges_ok (d := d + 7) h9) (fun r8 S7 hf => ?_)
        show Ev (d + 9) Mx273 (72, [.ref 63, .int x1, .int x2, .int x3], [.int r8, .ref 63], S7, 0) r
        refine ev_sts 1 (c2 := (73, [.ref 63, .int x1, .int x2, .int x3], [.int ((2 : Int32)), .int r8, .ref 63], S7, 0)) rfl ?_
        refine ev_bI0 (d := d + 8) (M' := Mx260) (ct := (76, [.ref 63, mK, mK, mK], [], S7, 0)) hf rfl rfl rfl rfl (fun r9 h9 => f_X10_sumIn_ok (d := d + 6) h9) (fun r10 S9 hf => ?_)
        show Ev (d + 9) Mx273 (76, [.ref 63, mK, mK, mK], [.int r10], S9, 0) r
        exact f_X10_trial_b76_ok hf
      · refine ev_sts 3 (c2 := (63, [.ref 63, .int x1, .int x2, .int x3], [.int ((6 : Int32)), .ref 64], S, 0)) rfl ?_
        refine ev_gd (c1 := (64, [.ref 63, .int x1, .int x2, .int x3], [.int (S 64 ((6 : Int32)).toNatClampNeg)], S, 0)) hf rfl rfl (fun hf => ?_)
        exact ev_sts 1 (c2 := (76, [.ref 63, mK, mK, mK], [.int (S 64 ((6 : Int32)).toNatClampNeg)], S, 0)) rfl (f_X10_trial_b76_ok hf)
    · refine ev_sts 2 (c2 := (43, [.ref 63, .int x1, .int x2, .int x3], [.int ((0 : Int32)), .ref 63], S, 0)) rfl ?_
      refine ev_bI0 (d := d + 8) (M' := Mx246) (ct := (46, [.ref 63, .int x1, .int x2, .int x3], [], S, 0)) hf rfl rfl rfl rfl (fun r9 h9 => f_X10_oneDay_ok (d := d) h9) (fun r13 S12 hf => ?_)
      show Ev (d + 9) Mx273 (46, [.ref 63, .int x1, .int x2, .int x3], [.int r13], S12, 0) r
      exact ev_sts 3 (c2 := (36, [.ref 63, .int x1, .int x2, .int (x3 + (1 : Int32))], [], S12, 0)) rfl (ih hf)
theorem f_X10_trial_b21_ok {d F : Nat} {x1 : Int32} {x2 : Int32} {t1 : Int32} {S : mS} {r : mR} (hf : f_X10_trial_b21 F x1 x2 t1 S = some r) : Ev (d + 9) Mx273 (21, [.ref 63, .int x1, .int x2, mK], [.int t1, .ref 63], S, 0) r := by
  unfold f_X10_trial_b21 at hf
  refine ev_sts 1 (c2 := (22, [.ref 63, .int x1, .int x2, mK], [.int ((1 : Int32)), .int t1, .ref 63], S, 0)) rfl ?_
  refine ev_bI0 (d := d + 8) (M' := Mx155) (ct := (25, [.ref 63, .int x1, .int x2, mK], [], S, 0)) hf rfl rfl rfl rfl (fun r9 h9 => f_X10_throwsIf_ok (d := d + 8) h9) (fun r5 S4 hf => ?_)
  show Ev (d + 9) Mx273 (25, [.ref 63, .int x1, .int x2, mK], [.int r5], S4, 0) r
  refine ev_if (c1 := (30, [.ref 63, .int x1, .int x2, mK], [], S4, 0)) (c2 := (28, [.ref 63, .int x1, .int x2, mK], [], S4, 0)) hf rfl rfl (fun _ hf => ?_) (fun _ hf => ?_)
  · refine ev_sts 1 (c2 := (31, [.ref 63, .int x1, .int x2, mK], [.ref 63], S4, 0)) rfl ?_
    refine ev_bV0 (d := d + 8) (M' := Mx247) (ct := (34, [.ref 63, .int x1, .int x2, mK], [], S4, 0)) hf rfl rfl rfl rfl (fun r9 h9 => f_X10_keepsAll_ok (d := d + 8) h9) (fun S6 hf => ?_)
    show Ev (d + 9) Mx273 (34, [.ref 63, .int x1, .int x2, mK], [], S6, 0) r
    exact ev_sts 2 (c2 := (36, [.ref 63, .int x1, .int x2, .int ((0 : Int32))], [], S6, 0)) rfl (f_X10_trial_b36_ok _ hf)
  · refine ev_sts 1 (c2 := (29, [.ref 63, .int x1, .int x2, mK], [.int ((0 : Int32))], S4, 0)) rfl ?_
    exact ev_ret hf rfl rfl
theorem f_X10_trial_ok {d F : Nat} {p1 : Int32} {p2 : Int32} {S : mS} {r : mR} (hf : f_X10_trial F p1 p2 S = some r) : Ev (d + 9) Mx273 (entry Mx273 [.ref 63, .int p1, .int p2] S) r := by
  unfold f_X10_trial at hf
  refine ev_sts 3 (c2 := (5, [.ref 63, .int p1, .int p2, mK], [], (upS S 63 0 ((0 : Int32))), 0)) rfl ?_
  refine ev_let (P := fun S1 => Ev (d + 9) Mx273 (5, [.ref 63, .int p1, .int p2, mK], [], S1, 0) r) (fun S1 hf => ?_) hf
  refine ev_sts 4 (c2 := (10, [.ref 63, .int p1, .int p2, mK], [.int ((40 : Int32)), .int ((0 : Int32)), .int p1, .ref 63], S1, 0)) rfl ?_
  refine ev_bI0 (d := d + 8) (M' := Mx156) (ct := (13, [.ref 63, .int p1, .int p2, mK], [.ref 63], S1, 0)) hf rfl rfl rfl rfl (fun r9 h9 => f_X10_in_ok (d := d + 8) h9) (fun r3 S2 hf => ?_)
  show Ev (d + 9) Mx273 (13, [.ref 63, .int p1, .int p2, mK], [.int r3, .ref 63], S2, 0) r
  refine ev_if (c1 := (20, [.ref 63, .int p1, .int p2, mK], [.ref 63], S2, 0)) (c2 := (16, [.ref 63, .int p1, .int p2, mK], [.ref 63], S2, 0)) hf rfl rfl (fun _ hf => ?_) (fun _ hf => ?_)
  · exact ev_sts 1 (c2 := (21, [.ref 63, .int p1, .int p2, mK], [.int ((0 : Int32)), .ref 63], S2, 0)) rfl (f_X10_trial_b21_ok hf)
  · exact ev_sts 2 (c2 := (21, [.ref 63, .int p1, .int p2, mK], [.int ((1 : Int32)), .ref 63], S2, 0)) rfl (f_X10_trial_b21_ok hf)
def f_X10_trips_b57 (F : Nat) (x3 : Int32) (S : mS) : Option mR := bV0 (f_X10_bringsBack F S) (fun S7 => some (.inl (some (.int x3)), S7))
def f_X10_trips_b27 (F : Nat) : Nat → Int32 → Int32 → Int32 → mS → Option mR
  | 0, _, _, _, _ => none
  | n + 1, x1, x2, x3, S => (if ((99 : Int32)) ≤ x3 then f_X10_trips_b57 F x3 S else bI0 (f_X10_canLet F x1 x2 S) (fun r9 S8 => (if r9 = 0 then f_X10_trips_b57 F x3 S8 else bV0 (f_X10_frays F x2 S8) (fun S10 => bV0 (f_X10_tires F S10) (fun S11 => f_X10_trips_b27 F n x1 x2 (x3 + (1 : Int32)) S11)))))
def f_X10_trips (F : Nat) (p1 : Int32) (p2 : Int32) (S : mS) : Option mR := bnd (upS S 63 0 ((0 : Int32))) (fun S1 => bI0 (f_X10_noBoth p1 p2 S1) (fun r3 S2 => bI0 (f_X10_throwsIf r3 ((1 : Int32)) S2) (fun r5 S4 => (if r5 = 0 then bV0 (f_X10_keepsAll F S4) (fun S6 => f_X10_trips_b27 F F p1 p2 ((0 : Int32)) S6) else some (.inl (some (.int ((0 : Int32)))), S4)))))
theorem f_X10_trips_b57_ok {d F : Nat} {x3 : Int32} {S : mS} {r : mR} (hf : f_X10_trips_b57 F x3 S = some r) : Ev (d + 10) Mx240 (57, [.ref 63, mK, mK, .int x3], [], S, 0) r := by
  unfold f_X10_trips_b57 at hf
  refine ev_sts 1 (c2 := (58, [.ref 63, mK, mK, .int x3], [.ref 63], S, 0)) rfl ?_
  refine ev_bV0 (d := d + 9) (M' := Mx248) (ct := (61, [.ref 63, mK, mK, .int x3], [], S, 0)) hf rfl rfl rfl rfl (fun r9 h9 => f_X10_bringsBack_ok (d := d + 9) h9) (fun S7 hf => ?_)
  show Ev (d + 10) Mx240 (61, [.ref 63, mK, mK, .int x3], [], S7, 0) r
  refine ev_sts 1 (c2 := (62, [.ref 63, mK, mK, .int x3], [.int x3], S7, 0)) rfl ?_
  exact ev_ret hf rfl rfl
theorem f_X10_trips_b27_ok {d F : Nat} : ∀ (n : Nat) {x1 : Int32} {x2 : Int32} {x3 : Int32} {S : mS} {r : mR}, f_X10_trips_b27 F n x1 x2 x3 S = some r → Ev (d + 10) Mx240 (27, [.ref 63, .int x1, .int x2, .int x3], [], S, 0) r := by
  intro n
  induction n with
  | zero => intro x1 x2 x3 S r hf; cases hf
  | succ n ih =>
    intro x1 x2 x3 S r hf
    rw [f_X10_trips_b27] at hf
    refine ev_sts 2 (c2 := (30, [.ref 63, .int x1, .int x2, .int x3], [.int ((99 : Int32)), .int x3], S, 0)) rfl ?_
    refine ev_if (c1 := (57, [.ref 63, mK, mK, .int x3], [], S, 0)) (c2 := (33, [.ref 63, .int x1, .int x2, .int x3], [], S, 0)) hf rfl rfl (fun _ hf => ?_) (fun _ hf => ?_)
    · exact f_X10_trips_b57_ok hf
    · refine ev_sts 3 (c2 := (36, [.ref 63, .int x1, .int x2, .int x3], [.int x2, .int x1, .ref 63], S, 0)) rfl ?_
      refine ev_bI0 (d := d + 9) (M' := Mx230) (ct := (39, [.ref 63, .int x1, .int x2, .int x3], [], S, 0)) hf rfl rfl rfl rfl (fun r9 h9 => f_X10_canLet_ok (d := d) h9) (fun r9 S8 hf => ?_)
      show Ev (d + 10) Mx240 (39, [.ref 63, .int x1, .int x2, .int x3], [.int r9], S8, 0) r
      refine ev_if (c1 := (57, [.ref 63, mK, mK, .int x3], [], S8, 0)) (c2 := (42, [.ref 63, .int x1, .int x2, .int x3], [], S8, 0)) hf rfl rfl (fun _ hf => ?_) (fun _ hf => ?_)
      · exact f_X10_trips_b57_ok hf
      · refine ev_sts 2 (c2 := (44, [.ref 63, .int x1, .int x2, .int x3], [.int x2, .ref 63], S8, 0)) rfl ?_
        refine ev_bV0 (d := d + 9) (M' := Mx236) (ct := (47, [.ref 63, .int x1, .int x2, .int x3], [], S8, 0)) hf rfl rfl rfl rfl (fun r9 h9 => f_X10_frays_ok (d := d) h9) (fun S10 hf => ?_)
        show Ev (d + 10) Mx240 (47, [.ref 63, .int x1, .int x2, .int x3], [], S10, 0) r
        refine ev_sts 1 (c2 := (48, [.ref 63, .int x1, .int x2, .int x3], [.ref 63], S10, 0)) rfl ?_
        refine ev_bV0 (d := d + 9) (M' := Mx235) (ct := (51, [.ref 63, .int x1, .int x2, .int x3], [], S10, 0)) hf rfl rfl rfl rfl (fun r9 h9 => f_X10_tires_ok (d := d + 8) h9) (fun S11 hf => ?_)
        show Ev (d + 10) Mx240 (51, [.ref 63, .int x1, .int x2, .int x3], [], S11, 0) r
        exact ev_sts 2 (c2 := (27, [.ref 63, .int x1, .int x2, .int (x3 + (1 : Int32))], [], S11, 0)) rfl (ih hf)
theorem f_X10_trips_ok {d F : Nat} {p1 : Int32} {p2 : Int32} {S : mS} {r : mR} (hf : f_X10_trips F p1 p2 S = some r) : Ev (d + 10) Mx240 (entry Mx240 [.ref 63, .int p1, .int p2] S) r := by
  unfold f_X10_trips at hf
  refine ev_sts 3 (c2 := (5, [.ref 63, .int p1, .int p2, mK], [], (upS S 63 0 ((0 : Int32))), 0)) rfl ?_
  refine ev_let (P := fun S1 => Ev (d + 10) Mx240 (5, [.ref 63, .int p1, .int p2, mK], [], S1, 0) r) (fun S1 hf => ?_) hf
  refine ev_sts 4 (c2 := (9, [.ref 63, .int p1, .int p2, mK], [.int p2, .int p1, .ref 63, .ref 63], S1, 0)) rfl ?_
  refine ev_bI0 (d := d + 9) (M' := Mx224) (ct := (12, [.ref 63, .int p1, .int p2, mK], [.ref 63], S1, 0)) hf rfl rfl rfl rfl (fun r9 h9 => f_X10_noBoth_ok (d := d + 7) h9) (fun r3 S2 hf => ?_)
  show Ev (d + 10) Mx240 (12, [.ref 63, .int p1, .int p2, mK], [.int r3, .ref 63], S2, 0) r
  refine ev_sts 1 (c2 := (13, [.ref 63, .int p1, .int p2, mK], [.int ((1 : Int32)), .int r3, .ref 63], S2, 0)) rfl ?_
  refine ev_bI0 (d := d + 9) (M' := Mx155) (ct := (16, [.ref 63, .int p1, .int p2, mK], [], S2, 0)) hf rfl rfl rfl rfl (fun r9 h9 => f_X10_throwsIf_ok (d := d + 9) h9) (fun r5 S4 hf => ?_)
  show Ev (d + 10) Mx240 (16, [.ref 63, .int p1, .int p2, mK], [.int r5], S4, 0) r
  refine ev_if (c1 := (21, [.ref 63, .int p1, .int p2, mK], [], S4, 0)) (c2 := (19, [.ref 63, .int p1, .int p2, mK], [], S4, 0)) hf rfl rfl (fun _ hf => ?_) (fun _ hf => ?_)
  · refine ev_sts 1 (c2 := (22, [.ref 63, .int p1, .int p2, mK], [.ref 63], S4, 0)) rfl ?_
    refine ev_bV0 (d := d + 9) (M' := Mx247) (ct := (25, [.ref 63, .int p1, .int p2, mK], [], S4, 0)) hf rfl rfl rfl rfl (fun r9 h9 => f_X10_keepsAll_ok (d := d + 9) h9) (fun S6 hf => ?_)
    show Ev (d + 10) Mx240 (25, [.ref 63, .int p1, .int p2, mK], [], S6, 0) r
    exact ev_sts 2 (c2 := (27, [.ref 63, .int p1, .int p2, .int ((0 : Int32))], [], S6, 0)) rfl (f_X10_trips_b27_ok _ hf)
  · refine ev_sts 1 (c2 := (20, [.ref 63, .int p1, .int p2, mK], [.int ((0 : Int32))], S4, 0)) rfl ?_
    exact ev_ret hf rfl rfl
def f_X10_turn (F : Nat) (S : mS) : Option mR := bnd (upS S 63 0 ((0 : Int32))) (fun S1 => bV0 (f_X10_remembers F S1) (fun S2 => gd (inb ((8 : Int32)) 2145) (gd (decide (¬ (2 : Int32) = 0)) (gd (inb ((8 : Int32)) 2145) (bnd (upS S2 64 ((8 : Int32)).toNatClampNeg ((S2 64 ((8 : Int32)).toNatClampNeg) / ((2 : Int32)))) (fun S3 => gd (inb ((8 : Int32)) 2145) (some (.inl (some (.int (S3 64 ((8 : Int32)).toNatClampNeg))), S3))))))))
theorem f_X10_turn_ok {d F : Nat} {S : mS} {r : mR} (hf : f_X10_turn F S = some r) : Ev (d + 1) Mx243 (entry Mx243 [.ref 63] S) r := by
  unfold f_X10_turn at hf
  refine ev_sts 3 (c2 := (5, [.ref 63], [], (upS S 63 0 ((0 : Int32))), 0)) rfl ?_
  refine ev_let (P := fun S1 => Ev (d + 1) Mx243 (5, [.ref 63], [], S1, 0) r) (fun S1 hf => ?_) hf
  refine ev_sts 1 (c2 := (6, [.ref 63], [.ref 63], S1, 0)) rfl ?_
  refine ev_bV0 (d := d) (M' := Mx160) (ct := (9, [.ref 63], [], S1, 0)) hf rfl rfl rfl rfl (fun r9 h9 => f_X10_remembers_ok (d := d) h9) (fun S2 hf => ?_)
  show Ev (d + 1) Mx243 (9, [.ref 63], [], S2, 0) r
  refine ev_sts 4 (c2 := (16, [.ref 63], [.int ((8 : Int32)), .ref 64, .int ((8 : Int32)), .ref 64], S2, 0)) rfl ?_
  refine ev_gd (c1 := (17, [.ref 63], [.int (S2 64 ((8 : Int32)).toNatClampNeg), .int ((8 : Int32)), .ref 64], S2, 0)) hf rfl rfl (fun hf => ?_)
  refine ev_sts 1 (c2 := (18, [.ref 63], [.int ((2 : Int32)), .int (S2 64 ((8 : Int32)).toNatClampNeg), .int ((8 : Int32)), .ref 64], S2, 0)) rfl ?_
  refine ev_gd (c1 := (19, [.ref 63], [.int ((S2 64 ((8 : Int32)).toNatClampNeg) / ((2 : Int32))), .int ((8 : Int32)), .ref 64], S2, 0)) hf rfl rfl (fun hf => ?_)
  refine ev_gd (c1 := (20, [.ref 63], [], (upS S2 64 ((8 : Int32)).toNatClampNeg ((S2 64 ((8 : Int32)).toNatClampNeg) / ((2 : Int32)))), 0)) hf rfl rfl (fun hf => ?_)
  refine ev_let (P := fun S3 => Ev (d + 1) Mx243 (20, [.ref 63], [], S3, 0) r) (fun S3 hf => ?_) hf
  refine ev_sts 3 (c2 := (26, [.ref 63], [.int ((8 : Int32)), .ref 64], S3, 0)) rfl ?_
  refine ev_gd (c1 := (27, [.ref 63], [.int (S3 64 ((8 : Int32)).toNatClampNeg)], S3, 0)) hf rfl rfl (fun hf => ?_)
  exact ev_ret hf rfl rfl
def f_X10_undo_b26 (F : Nat) : Nat → Int32 → mS → Option mR
  | 0, _, _ => none
  | n + 1, x1, S => (if ((447 : Int32)) ≤ x1 then some (.inl (some (.int (((1 : Int32)) &&& 1))), S) else gd (inb ((((447 : Int32)) * (S 63 7)) + x1) 5364) (gd (inb x1 2145) (bnd (upS S 64 x1.toNatClampNeg (S 68 ((((447 : Int32)) * (S 63 7)) + x1).toNatClampNeg)) (fun S3 => f_X10_undo_b26 F n (x1 + (1 : Int32)) S3))))
def f_X10_undo (F : Nat) (S : mS) : Option mR := bnd (upS S 63 0 ((0 : Int32))) (fun S1 => (if ¬ (S1 63 7) = 0 then bnd (upS S1 63 7 ((S1 63 7) - ((1 : Int32)))) (fun S2 => f_X10_undo_b26 F F ((0 : Int32)) S2) else some (.inl (some (.int (((0 : Int32)) &&& 1))), S1)))
theorem f_X10_undo_b26_ok {d F : Nat} : ∀ (n : Nat) {x1 : Int32} {S : mS} {r : mR}, f_X10_undo_b26 F n x1 S = some r → Ev (d) Mx161 (26, [.ref 63, .int x1], [], S, 0) r := by
  intro n
  induction n with
  | zero => intro x1 S r hf; cases hf
  | succ n ih =>
    intro x1 S r hf
    rw [f_X10_undo_b26] at hf
    refine ev_sts 2 (c2 := (30, [.ref 63, .int x1], [.int ((447 : Int32)), .int x1], S, 0)) rfl ?_
    refine ev_if (c1 := (60, [.ref 63, .int x1], [], S, 0)) (c2 := (33, [.ref 63, .int x1], [], S, 0)) hf rfl rfl (fun _ hf => ?_) (fun _ hf => ?_)
    · refine ev_sts 1 (c2 := (61, [.ref 63, .int x1], [.int ((1 : Int32))], S, 0)) rfl ?_
      exact ev_ret hf rfl rfl
    · refine ev_sts 11 (c2 := (52, [.ref 63, .int x1], [.int ((((447 : Int32)) * (S 63 7)) + x1), .ref 68, .int x1, .ref 64], S, 0)) rfl ?_
      refine ev_gd (c1 := (53, [.ref 63, .int x1], [.int (S 68 ((((447 : Int32)) * (S 63 7)) + x1).toNatClampNeg), .int x1, .ref 64], S, 0)) hf rfl rfl (fun hf => ?_)
      refine ev_gd (c1 := (54, [.ref 63, .int x1], [], (upS S 64 x1.toNatClampNeg (S 68 ((((447 : Int32)) * (S 63 7)) + x1).toNatClampNeg)), 0)) hf rfl rfl (fun hf => ?_)
      refine ev_let (P := fun S3 => Ev (d) Mx161 (54, [.ref 63, .int x1], [], S3, 0) r) (fun S3 hf => ?_) hf
      exact ev_sts 2 (c2 := (26, [.ref 63, .int (x1 + (1 : Int32))], [], S3, 0)) rfl (ih hf)
theorem f_X10_undo_ok {d F : Nat} {S : mS} {r : mR} (hf : f_X10_undo F S = some r) : Ev (d) Mx161 (entry Mx161 [.ref 63] S) r := by
  unfold f_X10_undo at hf
  refine ev_sts 3 (c2 := (5, [.ref 63, mK], [], (upS S 63 0 ((0 : Int32))), 0)) rfl ?_
  refine ev_let (P := fun S1 => Ev (d) Mx161 (5, [.ref 63, mK], [], S1, 0) r) (fun S1 hf => ?_) hf
  refine ev_sts 2 (c2 := (9, [.ref 63, mK], [.int (S1 63 7)], S1, 0)) rfl ?_
  refine ev_if (c1 := (14, [.ref 63, mK], [], S1, 0)) (c2 := (12, [.ref 63, mK], [], S1, 0)) hf rfl rfl (fun _ hf => ?_) (fun _ hf => ?_)
  · refine ev_sts 6 (c2 := (24, [.ref 63, mK], [], (upS S1 63 7 ((S1 63 7) - ((1 : Int32)))), 0)) rfl ?_
    refine ev_let (P := fun S2 => Ev (d) Mx161 (24, [.ref 63, mK], [], S2, 0) r) (fun S2 hf => ?_) hf
    exact ev_sts 2 (c2 := (26, [.ref 63, .int ((0 : Int32))], [], S2, 0)) rfl (f_X10_undo_b26_ok _ hf)
  · refine ev_sts 1 (c2 := (13, [.ref 63, mK], [.int ((0 : Int32))], S1, 0)) rfl ?_
    exact ev_ret hf rfl rfl
def f_X10_when_b41 (F : Nat) (S : mS) : Option mR := some (.inl (some (.int ((0 : Int32)))), S)
def f_X10_when_b102 (F : Nat) (x3 : Int32) (S : mS) : Option mR := bV0 (f_X10_bringsBack F S) (fun S11 => some (.inl (some (.int x3)), S11))
def f_X10_when_b89 (K52 : Int32 → Int32 → Int32 → Int32 → mS → Option mR) (F : Nat) (x1 : Int32) (x2 : Int32) (x4 : Int32) (t0 : Int32) (S : mS) : Option mR := bI0 (f_X10_oneDay F ((1 : Int32)) S) (fun r15 S14 => K52 x1 x2 t0 (x4 + (1 : Int32)) S14)
def f_X10_when_b88 (K52 : Int32 → Int32 → Int32 → Int32 → mS → Option mR) (F : Nat) (x1 : Int32) (x2 : Int32) (x4 : Int32) (S : mS) : Option mR := f_X10_when_b89 K52 F x1 x2 x4 ((-1 : Int32)) S
def f_X10_when_b52 (F : Nat) : Nat → Int32 → Int32 → Int32 → Int32 → mS → Option mR
  | 0, _, _, _, _, _ => none
  | n + 1, x1, x2, x3, x4, S => (if ((40 : Int32)) < x4 then f_X10_when_b102 F x3 S else (if 0 ≤ x3 then f_X10_when_b102 F x3 S else bI0 (f_X10_of x1 ((2 : Int32)) S) (fun r13 S12 => (if r13 < x2 then f_X10_when_b88 (fun x1 x2 x3 x4 S => f_X10_when_b52 F n x1 x2 x3 x4 S) F x1 x2 x4 S12 else bI0 (f_X10_of x1 ((3 : Int32)) S12) (fun r17 S16 => (if ((3 : Int32)) < r17 then f_X10_when_b88 (fun x1 x2 x3 x4 S => f_X10_when_b52 F n x1 x2 x3 x4 S) F x1 x2 x4 S16 else f_X10_when_b89 (fun x1 x2 x3 x4 S => f_X10_when_b52 F n x1 x2 x3 x4 S) F x1 x2 x4 x4 S16))))))
def f_X10_when_b34 (F : Nat) (x1 : Int32) (x2 : Int32) (t1 : Int32) (S : mS) : Option mR := bI0 (f_X10_throwsIf t1 ((2 : Int32)) S) (fun r9 S8 => (if r9 = 0 then bV0 (f_X10_keepsAll F S8) (fun S10 => f_X10_when_b52 F F x1 x2 ((-1 : Int32)) ((0 : Int32)) S10) else f_X10_when_b41 F S8))
def f_X10_when (F : Nat) (p1 : Int32) (p2 : Int32) (S : mS) : Option mR := bnd (upS S 63 0 ((0 : Int32))) (fun S1 => bI0 (f_X10_noLedge p1 S1) (fun r3 S2 => bI0 (f_X10_throwsIf r3 ((1 : Int32)) S2) (fun r5 S4 => (if ¬ r5 = 0 then f_X10_when_b41 F S4 else bI0 (f_X10_in p2 ((1 : Int32)) ((20 : Int32)) S4) (fun r7 S6 => (if ¬ r7 = 0 then f_X10_when_b34 F p1 p2 ((0 : Int32)) S6 else f_X10_when_b34 F p1 p2 ((1 : Int32)) S6))))))
theorem f_X10_when_b41_ok {d F : Nat} {S : mS} {r : mR} (hf : f_X10_when_b41 F  S = some r) : Ev (d + 9) Mx252 (41, [mK, mK, mK, mK, mK], [], S, 0) r := by
  unfold f_X10_when_b41 at hf
  refine ev_sts 1 (c2 := (42, [mK, mK, mK, mK, mK], [.int ((0 : Int32))], S, 0)) rfl ?_
  exact ev_ret hf rfl rfl
theorem f_X10_when_b102_ok {d F : Nat} {x3 : Int32} {S : mS} {r : mR} (hf : f_X10_when_b102 F x3 S = some r) : Ev (d + 9) Mx252 (102, [.ref 63, mK, mK, .int x3, mK], [], S, 0) r := by
  unfold f_X10_when_b102 at hf
  refine ev_sts 1 (c2 := (103, [.ref 63, mK, mK, .int x3, mK], [.ref 63], S, 0)) rfl ?_
  refine ev_bV0 (d := d + 8) (M' := Mx248) (ct := (106, [.ref 63, mK, mK, .int x3, mK], [], S, 0)) hf rfl rfl rfl rfl (fun r9 h9 => f_X10_bringsBack_ok (d := d + 8) h9) (fun S11 hf => ?_)
  show Ev (d + 9) Mx252 (106, [.ref 63, mK, mK, .int x3, mK], [], S11, 0) r
  refine ev_sts 1 (c2 := (107, [.ref 63, mK, mK, .int x3, mK], [.int x3], S11, 0)) rfl ?_
  exact ev_ret hf rfl rfl
theorem f_X10_when_b89_ok {d F : Nat} {K52 : Int32 → Int32 → Int32 → Int32 → mS → Option mR} (hK52 : ∀ {x1 : Int32} {x2 : Int32} {x3 : Int32} {x4 : Int32} {S : mS} {r : mR}, K52 x1 x2 x3 x4 S = some r → Ev (d + 9) Mx252 (52, [.ref 63, .int x1, .int x2, .int x3, .int x4], [], S, 0) r) {x1 : Int32} {x2 : Int32} {x4 : Int32} {t0 : Int32} {S : mS} {r : mR} (hf : f_X10_when_b89 K52 F x1 x2 x4 t0 S = some r) : Ev (d + 9) Mx252 (89, [.ref 63, .int x1, .int x2, mK, .int x4], [.int t0], S, 0) r := by
  unfold f_X10_when_b89 at hf
  refine ev_sts 3 (c2 := (92, [.ref 63, .int x1, .int x2, .int t0, .int x4], [.int ((1 : Int32)), .ref 63], S, 0)) rfl ?_
  refine ev_bI0 (d := d + 8) (M' := Mx246) (ct := (95, [.ref 63, .int x1, .int x2, .int t0, .int x4], [], S, 0)) hf rfl rfl rfl rfl (fun r9 h9 => f_X10_oneDay_ok (d := d) h9) (fun r15 S14 hf => ?_)
  show Ev (d + 9) Mx252 (95, [.ref 63, .int x1, .int x2, .int t0, .int x4], [.int r15], S14, 0) r
  exact ev_sts 3 (c2 := (52, [.ref 63, .int x1, .int x2, .int t0, .int (x4 + (1 : Int32))], [], S14, 0)) rfl (hK52 hf)
theorem f_X10_when_b88_ok {d F : Nat} {K52 : Int32 → Int32 → Int32 → Int32 → mS → Option mR} (hK52 : ∀ {x1 : Int32} {x2 : Int32} {x3 : Int32} {x4 : Int32} {S : mS} {r : mR}, K52 x1 x2 x3 x4 S = some r → Ev (d + 9) Mx252 (52, [.ref 63, .int x1, .int x2, .int x3, .int x4], [], S, 0) r) {x1 : Int32} {x2 : Int32} {x4 : Int32} {S : mS} {r : mR} (hf : f_X10_when_b88 K52 F x1 x2 x4 S = some r) : Ev (d + 9) Mx252 (88, [.ref 63, .int x1, .int x2, mK, .int x4], [], S, 0) r := by
  unfold f_X10_when_b88 at hf
  exact ev_sts 1 (c2 := (89, [.ref 63, .int x1, .int x2, mK, .int x4], [.int ((-1 : Int32))], S, 0)) rfl (f_X10_when_b89_ok hK52 hf)
theorem f_X10_when_b52_ok {d F : Nat} : ∀ (n : Nat) {x1 : Int32} {x2 : Int32} {x3 : Int32} {x4 : Int32} {S : mS} {r : mR}, f_X10_when_b52 F n x1 x2 x3 x4 S = some r → Ev (d + 9) Mx252 (52, [.ref 63, .int x1, .int x2, .int x3, .int x4], [], S, 0) r := by
  intro n
  induction n with
  | zero => intro x1 x2 x3 x4 S r hf; cases hf
  | succ n ih =>
    intro x1 x2 x3 x4 S r hf
    rw [f_X10_when_b52] at hf
    refine ev_sts 2 (c2 := (56, [.ref 63, .int x1, .int x2, .int x3, .int x4], [.int ((40 : Int32)), .int x4], S, 0)) rfl ?_
    refine ev_if (c1 := (102, [.ref 63, mK, mK, .int x3, mK], [], S, 0)) (c2 := (59, [.ref 63, .int x1, .int x2, .int x3, .int x4], [], S, 0)) hf rfl rfl (fun _ hf => ?_) (fun _ hf => ?_)
    · exact f_X10_when_b102_ok hf
    · refine ev_sts 1 (c2 := (60, [.ref 63, .int x1, .int x2, .int x3, .int x4], [.int x3], S, 0)) rfl ?_
      refine ev_if (c1 := (102, [.ref 63, mK, mK, .int x3, mK], [], S, 0)) (c2 := (63, [.ref 63, .int x1, .int x2, .int x3, .int x4], [], S, 0)) hf rfl rfl (fun _ hf => ?_) (fun _ hf => ?_)
      · exact f_X10_when_b102_ok hf
      · refine ev_sts 3 (c2 := (66, [.ref 63, .int x1, .int x2, .int x3, .int x4], [.int ((2 : Int32)), .int x1, .ref 63], S, 0)) rfl ?_
        refine ev_bI0 (d := d + 8) (M' := Mx166) (ct := (69, [.ref 63, .int x1, .int x2, .int x3, .int x4], [], S, 0)) hf rfl rfl rfl rfl (fun r9 h9 => f_X10_of_ok (d := d + 7) h9) (fun r13 S12 hf => ?_)
        show Ev (d + 9) Mx252 (69, [.ref 63, .int x1, .int x2, .int x3, .int x4], [.int r13], S12, 0) r
        refine ev_sts 1 (c2 := (70, [.ref 63, .int x1, .int x2, .int x3, .int x4], [.int x2, .int r13], S12, 0)) rfl ?_
        refine ev_if (c1 := (88, [.ref 63, .int x1, .int x2, mK, .int x4], [], S12, 0)) (c2 := (73, [.ref 63, .int x1, .int x2, .int x3, .int x4], [], S12, 0)) hf rfl rfl (fun _ hf => ?_) (fun _ hf => ?_)
        · exact f_X10_when_b88_ok (fun h9 => ih h9) hf
        · refine ev_sts 3 (c2 := (76, [.ref 63, .int x1, .int x2, .int x3, .int x4], [.int ((3 : Int32)), .int x1, .ref 63], S12, 0)) rfl ?_
          refine ev_bI0 (d := d + 8) (M' := Mx166) (ct := (79, [.ref 63, .int x1, .int x2, .int x3, .int x4], [], S12, 0)) hf rfl rfl rfl rfl (fun r9 h9 => f_X10_of_ok (d := d + 7) h9) (fun r17 S16 hf => ?_)
          show Ev (d + 9) Mx252 (79, [.ref 63, .int x1, .int x2, .int x3, .int x4], [.int r17], S16, 0) r
          refine ev_sts 1 (c2 := (80, [.ref 63, .int x1, .int x2, .int x3, .int x4], [.int ((3 : Int32)), .int r17], S16, 0)) rfl ?_
          refine ev_if (c1 := (88, [.ref 63, .int x1, .int x2, mK, .int x4], [], S16, 0)) (c2 := (83, [.ref 63, .int x1, .int x2, .int x3, .int x4], [], S16, 0)) hf rfl rfl (fun _ hf => ?_) (fun _ hf => ?_)
          · exact f_X10_when_b88_ok (fun h9 => ih h9) hf
          · exact ev_sts 2 (c2 := (89, [.ref 63, .int x1, .int x2, mK, .int x4], [.int x4], S16, 0)) rfl (f_X10_when_b89_ok (fun h9 => ih h9) hf)
theorem f_X10_when_b34_ok {d F : Nat} {x1 : Int32} {x2 : Int32} {t1 : Int32} {S : mS} {r : mR} (hf : f_X10_when_b34 F x1 x2 t1 S = some r) : Ev (d + 9) Mx252 (34, [.ref 63, .int x1, .int x2, mK, mK], [.int t1, .ref 63], S, 0) r := by
  unfold f_X10_when_b34 at hf
  refine ev_sts 1 (c2 := (35, [.ref 63, .int x1, .int x2, mK, mK], [.int ((2 : Int32)), .int t1, .ref 63], S, 0)) rfl ?_
  refine ev_bI0 (d := d + 8) (M' := Mx155) (ct := (38, [.ref 63, .int x1, .int x2, mK, mK], [], S, 0)) hf rfl rfl rfl rfl (fun r9 h9 => f_X10_throwsIf_ok (d := d + 8) h9) (fun r9 S8 hf => ?_)
  show Ev (d + 9) Mx252 (38, [.ref 63, .int x1, .int x2, mK, mK], [.int r9], S8, 0) r
  refine ev_if (c1 := (43, [.ref 63, .int x1, .int x2, mK, mK], [], S8, 0)) (c2 := (41, [mK, mK, mK, mK, mK], [], S8, 0)) hf rfl rfl (fun _ hf => ?_) (fun _ hf => ?_)
  · refine ev_sts 1 (c2 := (44, [.ref 63, .int x1, .int x2, mK, mK], [.ref 63], S8, 0)) rfl ?_
    refine ev_bV0 (d := d + 8) (M' := Mx247) (ct := (47, [.ref 63, .int x1, .int x2, mK, mK], [], S8, 0)) hf rfl rfl rfl rfl (fun r9 h9 => f_X10_keepsAll_ok (d := d + 8) h9) (fun S10 hf => ?_)
    show Ev (d + 9) Mx252 (47, [.ref 63, .int x1, .int x2, mK, mK], [], S10, 0) r
    exact ev_sts 4 (c2 := (52, [.ref 63, .int x1, .int x2, .int ((-1 : Int32)), .int ((0 : Int32))], [], S10, 0)) rfl (f_X10_when_b52_ok _ hf)
  · exact f_X10_when_b41_ok hf
theorem f_X10_when_ok {d F : Nat} {p1 : Int32} {p2 : Int32} {S : mS} {r : mR} (hf : f_X10_when F p1 p2 S = some r) : Ev (d + 9) Mx252 (entry Mx252 [.ref 63, .int p1, .int p2] S) r := by
  unfold f_X10_when at hf
  refine ev_sts 3 (c2 := (5, [.ref 63, .int p1, .int p2, mK, mK], [], (upS S 63 0 ((0 : Int32))), 0)) rfl ?_
  refine ev_let (P := fun S1 => Ev (d + 9) Mx252 (5, [.ref 63, .int p1, .int p2, mK, mK], [], S1, 0) r) (fun S1 hf => ?_) hf
  refine ev_sts 3 (c2 := (8, [.ref 63, .int p1, .int p2, mK, mK], [.int p1, .ref 63, .ref 63], S1, 0)) rfl ?_
  refine ev_bI0 (d := d + 8) (M' := Mx169) (ct := (11, [.ref 63, .int p1, .int p2, mK, mK], [.ref 63], S1, 0)) hf rfl rfl rfl rfl (fun r9 h9 => f_X10_noLedge_ok (d := d + 7) h9) (fun r3 S2 hf => ?_)
  show Ev (d + 9) Mx252 (11, [.ref 63, .int p1, .int p2, mK, mK], [.int r3, .ref 63], S2, 0) r
  refine ev_sts 1 (c2 := (12, [.ref 63, .int p1, .int p2, mK, mK], [.int ((1 : Int32)), .int r3, .ref 63], S2, 0)) rfl ?_
  refine ev_bI0 (d := d + 8) (M' := Mx155) (ct := (15, [.ref 63, .int p1, .int p2, mK, mK], [], S2, 0)) hf rfl rfl rfl rfl (fun r9 h9 => f_X10_throwsIf_ok (d := d + 8) h9) (fun r5 S4 hf => ?_)
  show Ev (d + 9) Mx252 (15, [.ref 63, .int p1, .int p2, mK, mK], [.int r5], S4, 0) r
  refine ev_if (c1 := (41, [mK, mK, mK, mK, mK], [], S4, 0)) (c2 := (18, [.ref 63, .int p1, .int p2, mK, mK], [], S4, 0)) hf rfl rfl (fun _ hf => ?_) (fun _ hf => ?_)
  · exact f_X10_when_b41_ok hf
  · refine ev_sts 4 (c2 := (23, [.ref 63, .int p1, .int p2, mK, mK], [.int ((20 : Int32)), .int ((1 : Int32)), .int p2, .ref 63], S4, 0)) rfl ?_
    refine ev_bI0 (d := d + 8) (M' := Mx156) (ct := (26, [.ref 63, .int p1, .int p2, mK, mK], [.ref 63], S4, 0)) hf rfl rfl rfl rfl (fun r9 h9 => f_X10_in_ok (d := d + 8) h9) (fun r7 S6 hf => ?_)
    show Ev (d + 9) Mx252 (26, [.ref 63, .int p1, .int p2, mK, mK], [.int r7, .ref 63], S6, 0) r
    refine ev_if (c1 := (33, [.ref 63, .int p1, .int p2, mK, mK], [.ref 63], S6, 0)) (c2 := (29, [.ref 63, .int p1, .int p2, mK, mK], [.ref 63], S6, 0)) hf rfl rfl (fun _ hf => ?_) (fun _ hf => ?_)
    · exact ev_sts 1 (c2 := (34, [.ref 63, .int p1, .int p2, mK, mK], [.int ((0 : Int32)), .ref 63], S6, 0)) rfl (f_X10_when_b34_ok hf)
    · exact ev_sts 2 (c2 := (34, [.ref 63, .int p1, .int p2, mK, mK], [.int ((1 : Int32)), .ref 63], S6, 0)) rfl (f_X10_when_b34_ok hf)
def f_X10_who_b73 (K9 : Int32 → Int32 → mS → Option mR) (F : Nat) (x1 : Int32) (x2 : Int32) (S : mS) : Option mR := K9 x1 (x2 + (1 : Int32)) S
def f_X10_who_b71 (K9 : Int32 → Int32 → mS → Option mR) (F : Nat) (x2 : Int32) (S : mS) : Option mR := f_X10_who_b73 K9 F x2 x2 S
def f_X10_who_b42 (K9 : Int32 → Int32 → mS → Option mR) (F : Nat) (x1 : Int32) (x2 : Int32) (x3 : Int32) (t0 : Int32) (S : mS) : Option mR := (if t0 < x3 then f_X10_who_b71 K9 F x2 S else (if ¬ x3 = t0 then f_X10_who_b73 K9 F x1 x2 S else bI0 (f_X10_ofClimber x2 ((0 : Int32)) S) (fun r13 S12 => bI0 (f_X10_ofClimber x1 ((0 : Int32)) S12) (fun r15 S14 => (if r15 ≤ r13 then f_X10_who_b73 K9 F x1 x2 S14 else f_X10_who_b71 K9 F x2 S14)))))
def f_X10_who_b9 (F : Nat) : Nat → Int32 → Int32 → mS → Option mR
  | 0, _, _, _ => none
  | n + 1, x1, x2, S => bI0 (f_X10_climbers S) (fun r3 S2 => (if r3 ≤ x2 then some (.inl (some (.int x1)), S2) else bI0 (f_X10_canOf F x2 S2) (fun r5 S4 => bI0 (f_J6_bitCount_0f7a4 r5 S4) (fun r7 S6 => (if 0 ≤ x1 then bI0 (f_X10_canOf F x1 S6) (fun r9 S8 => bI0 (f_J6_bitCount_0f7a4 r9 S8) (fun r11 S10 => f_X10_who_b42 (fun x1 x2 S => f_X10_who_b9 F n x1 x2 S) F x1 x2 r7 r11 S10)) else f_X10_who_b42 (fun x1 x2 S => f_X10_who_b9 F n x1 x2 S) F x1 x2 r7 ((-1 : Int32)) S6)))))
def f_X10_who (F : Nat) (S : mS) : Option mR := bnd (upS S 63 0 ((0 : Int32))) (fun S1 => f_X10_who_b9 F F ((-1 : Int32)) ((0 : Int32)) S1)
theorem f_X10_who_b73_ok {d F : Nat} {K9 : Int32 → Int32 → mS → Option mR} (hK9 : ∀ {x1 : Int32} {x2 : Int32} {S : mS} {r : mR}, K9 x1 x2 S = some r → Ev (d + 11) Mx233 (9, [.ref 63, .int x1, .int x2, mK, mK], [], S, 0) r) {x1 : Int32} {x2 : Int32} {S : mS} {r : mR} (hf : f_X10_who_b73 K9 F x1 x2 S = some r) : Ev (d + 11) Mx233 (73, [.ref 63, .int x1, .int x2, mK, mK], [], S, 0) r := by
  unfold f_X10_who_b73 at hf
  exact ev_sts 2 (c2 := (9, [.ref 63, .int x1, .int (x2 + (1 : Int32)), mK, mK], [], S, 0)) rfl (hK9 hf)
theorem f_X10_who_b71_ok {d F : Nat} {K9 : Int32 → Int32 → mS → Option mR} (hK9 : ∀ {x1 : Int32} {x2 : Int32} {S : mS} {r : mR}, K9 x1 x2 S = some r → Ev (d + 11) Mx233 (9, [.ref 63, .int x1, .int x2, mK, mK], [], S, 0) r) {x2 : Int32} {S : mS} {r : mR} (hf : f_X10_who_b71 K9 F x2 S = some r) : Ev (d + 11) Mx233 (71, [.ref 63, mK, .int x2, mK, mK], [], S, 0) r := by
  unfold f_X10_who_b71 at hf
  exact ev_sts 2 (c2 := (73, [.ref 63, .int x2, .int x2, mK, mK], [], S, 0)) rfl (f_X10_who_b73_ok hK9 hf)
theorem f_X10_who_b42_ok {d F : Nat} {K9 : Int32 → Int32 → mS → Option mR} (hK9 : ∀ {x1 : Int32} {x2 : Int32} {S : mS} {r : mR}, K9 x1 x2 S = some r → Ev (d + 11) Mx233 (9, [.ref 63, .int x1, .int x2, mK, mK], [], S, 0) r) {x1 : Int32} {x2 : Int32} {x3 : Int32} {t0 : Int32} {S : mS} {r : mR} (hf : f_X10_who_b42 K9 F x1 x2 x3 t0 S = some r) : Ev (d + 11) Mx233 (42, [.ref 63, .int x1, .int x2, .int x3, mK], [.int t0], S, 0) r := by
  unfold f_X10_who_b42 at hf
  refine ev_sts 3 (c2 := (47, [.ref 63, .int x1, .int x2, .int x3, .int t0], [.int t0, .int x3], S, 0)) rfl ?_
  refine ev_if (c1 := (71, [.ref 63, mK, .int x2, mK, mK], [], S, 0)) (c2 := (50, [.ref 63, .int x1, .int x2, .int x3, .int t0], [], S, 0)) hf rfl rfl (fun _ hf => ?_) (fun _ hf => ?_)
  · exact f_X10_who_b71_ok hK9 hf
  · refine ev_sts 2 (c2 := (53, [.ref 63, .int x1, .int x2, .int x3, .int t0], [.int t0, .int x3], S, 0)) rfl ?_
    refine ev_if (c1 := (73, [.ref 63, .int x1, .int x2, mK, mK], [], S, 0)) (c2 := (56, [.ref 63, .int x1, .int x2, .int x3, .int t0], [], S, 0)) hf rfl rfl (fun _ hf => ?_) (fun _ hf => ?_)
    · exact f_X10_who_b73_ok hK9 hf
    · refine ev_sts 3 (c2 := (59, [.ref 63, .int x1, .int x2, .int x3, .int t0], [.int ((0 : Int32)), .int x2, .ref 63], S, 0)) rfl ?_
      refine ev_bI0 (d := d + 10) (M' := Mx168) (ct := (62, [.ref 63, .int x1, .int x2, .int x3, .int t0], [], S, 0)) hf rfl rfl rfl rfl (fun r9 h9 => f_X10_ofClimber_ok (d := d + 10) h9) (fun r13 S12 hf => ?_)
      show Ev (d + 11) Mx233 (62, [.ref 63, .int x1, .int x2, .int x3, .int t0], [.int r13], S12, 0) r
      refine ev_sts 3 (c2 := (65, [.ref 63, .int x1, .int x2, .int x3, .int t0], [.int ((0 : Int32)), .int x1, .ref 63, .int r13], S12, 0)) rfl ?_
      refine ev_bI0 (d := d + 10) (M' := Mx168) (ct := (68, [.ref 63, .int x1, .int x2, .int x3, .int t0], [.int r13], S12, 0)) hf rfl rfl rfl rfl (fun r9 h9 => f_X10_ofClimber_ok (d := d + 10) h9) (fun r15 S14 hf => ?_)
      show Ev (d + 11) Mx233 (68, [.ref 63, .int x1, .int x2, .int x3, .int t0], [.int r15, .int r13], S14, 0) r
      refine ev_if (c1 := (73, [.ref 63, .int x1, .int x2, mK, mK], [], S14, 0)) (c2 := (71, [.ref 63, mK, .int x2, mK, mK], [], S14, 0)) hf rfl rfl (fun _ hf => ?_) (fun _ hf => ?_)
      · exact f_X10_who_b73_ok hK9 hf
      · exact f_X10_who_b71_ok hK9 hf
theorem f_X10_who_b9_ok {d F : Nat} : ∀ (n : Nat) {x1 : Int32} {x2 : Int32} {S : mS} {r : mR}, f_X10_who_b9 F n x1 x2 S = some r → Ev (d + 11) Mx233 (9, [.ref 63, .int x1, .int x2, mK, mK], [], S, 0) r := by
  intro n
  induction n with
  | zero => intro x1 x2 S r hf; cases hf
  | succ n ih =>
    intro x1 x2 S r hf
    rw [f_X10_who_b9] at hf
    refine ev_sts 2 (c2 := (11, [.ref 63, .int x1, .int x2, mK, mK], [.ref 63, .int x2], S, 0)) rfl ?_
    refine ev_bI0 (d := d + 10) (M' := Mx164) (ct := (14, [.ref 63, .int x1, .int x2, mK, mK], [.int x2], S, 0)) hf rfl rfl rfl rfl (fun r9 h9 => f_X10_climbers_ok (d := d + 10) h9) (fun r3 S2 hf => ?_)
    show Ev (d + 11) Mx233 (14, [.ref 63, .int x1, .int x2, mK, mK], [.int r3, .int x2], S2, 0) r
    refine ev_if (c1 := (79, [.ref 63, .int x1, .int x2, mK, mK], [], S2, 0)) (c2 := (17, [.ref 63, .int x1, .int x2, mK, mK], [], S2, 0)) hf rfl rfl (fun _ hf => ?_) (fun _ hf => ?_)
    · refine ev_sts 1 (c2 := (80, [.ref 63, .int x1, .int x2, mK, mK], [.int x1], S2, 0)) rfl ?_
      exact ev_ret hf rfl rfl
    · refine ev_sts 2 (c2 := (19, [.ref 63, .int x1, .int x2, mK, mK], [.int x2, .ref 63], S2, 0)) rfl ?_
      refine ev_bI0 (d := d + 10) (M' := Mx231) (ct := (22, [.ref 63, .int x1, .int x2, mK, mK], [], S2, 0)) hf rfl rfl rfl rfl (fun r9 h9 => f_X10_canOf_ok (d := d) h9) (fun r5 S4 hf => ?_)
      show Ev (d + 11) Mx233 (22, [.ref 63, .int x1, .int x2, mK, mK], [.int r5], S4, 0) r
      refine ev_bI0 (d := d + 10) (M' := Mx284) (ct := (25, [.ref 63, .int x1, .int x2, mK, mK], [], S4, 0)) hf rfl rfl rfl rfl (fun r9 h9 => f_J6_bitCount_0f7a4_ok (d := d + 10) h9) (fun r7 S6 hf => ?_)
      show Ev (d + 11) Mx233 (25, [.ref 63, .int x1, .int x2, mK, mK], [.int r7], S6, 0) r
      refine ev_sts 2 (c2 := (27, [.ref 63, .int x1, .int x2, .int r7, mK], [.int x1], S6, 0)) rfl ?_
      refine ev_if (c1 := (34, [.ref 63, .int x1, .int x2, .int r7, mK], [], S6, 0)) (c2 := (30, [.ref 63, .int x1, .int x2, .int r7, mK], [], S6, 0)) hf rfl rfl (fun _ hf => ?_) (fun _ hf => ?_)
      · refine ev_sts 2 (c2 := (36, [.ref 63, .int x1, .int x2, .int r7, mK], [.int x1, .ref 63], S6, 0)) rfl ?_
        refine ev_bI0 (d := d + 10) (M' := Mx231) (ct := (39, [.ref 63, .int x1, .int x2, .int r7, mK], [], S6, 0)) hf rfl rfl rfl rfl (fun r9 h9 => f_X10_canOf_ok (d := d) h9) (fun r9 S8 hf => ?_)
        show Ev (d + 11) Mx233 (39, [.ref 63, .int x1, .int x2, .int r7, mK], [.int r9], S8, 0) r
        refine ev_bI0 (d := d + 10) (M' := Mx284) (ct := (42, [.ref 63, .int x1, .int x2, .int r7, mK], [], S8, 0)) hf rfl rfl rfl rfl (fun r9 h9 => f_J6_bitCount_0f7a4_ok (d := d + 10) h9) (fun r11 S10 hf => ?_)
        show Ev (d + 11) Mx233 (42, [.ref 63, .int x1, .int x2, .int r7, mK], [.int r11], S10, 0) r
        exact f_X10_who_b42_ok (fun h9 => ih h9) hf
      · exact ev_sts 2 (c2 := (42, [.ref 63, .int x1, .int x2, .int r7, mK], [.int ((-1 : Int32))], S6, 0)) rfl (f_X10_who_b42_ok (fun h9 => ih h9) hf)
theorem f_X10_who_ok {d F : Nat} {S : mS} {r : mR} (hf : f_X10_who F S = some r) : Ev (d + 11) Mx233 (entry Mx233 [.ref 63] S) r := by
  unfold f_X10_who at hf
  refine ev_sts 3 (c2 := (5, [.ref 63, mK, mK, mK, mK], [], (upS S 63 0 ((0 : Int32))), 0)) rfl ?_
  refine ev_let (P := fun S1 => Ev (d + 11) Mx233 (5, [.ref 63, mK, mK, mK, mK], [], S1, 0) r) (fun S1 hf => ?_) hf
  exact ev_sts 4 (c2 := (9, [.ref 63, .int ((-1 : Int32)), .int ((0 : Int32)), mK, mK], [], S1, 0)) rfl (f_X10_who_b9_ok _ hf)
