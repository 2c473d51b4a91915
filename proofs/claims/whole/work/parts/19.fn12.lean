def f_X10_law_b52 (F : Nat) : Nat → Int32 → Int32 → mS → Option mR
  | 0, _, _, _ => none
  | n + 1, x1, x2, S => (if ((849 : Int32)) ≤ x2 then gd (inb ((4 : Int32)) 2145) (bnd (upS S 64 ((4 : Int32)).toNatClampNeg ((1 : Int32))) (fun S7 => bnd (upS S7 63 7 ((0 : Int32))) (fun S8 => some (.inl (some (.int x1)), S8)))) else gd (inb (((1296 : Int32)) + x2) 2145) (gd (inb (((447 : Int32)) + x2) 2145) (bnd (upS S 64 (((447 : Int32)) + x2).toNatClampNeg (S 64 (((1296 : Int32)) + x2).toNatClampNeg)) (fun S9 => f_X10_law_b52 F n x1 (x2 + (1 : Int32)) S9))))
def f_X10_law_b32 (F : Nat) (x1 : Int32) (t1 : Int32) (S : mS) : Option mR := bI0 (f_X10_throwsIf t1 ((1 : Int32)) S) (fun r5 S4 => (if r5 = 0 then gd (inb ((1296 : Int32)) 2145) (bnd (upS S4 64 ((1296 : Int32)).toNatClampNeg x1) (fun S6 => f_X10_law_b52 F F x1 ((0 : Int32)) S6)) else some (.inl (some (.int ((0 : Int32)))), S4)))
def f_X10_law_b19 (F : Nat) (x1 : Int32) (t1 : Int32) (S : mS) : Option mR := bnd (upS S 63 14 t1) (fun S3 => (if 0 ≤ x1 then f_X10_law_b32 F x1 ((0 : Int32)) S3 else f_X10_law_b32 F x1 ((1 : Int32)) S3))
def f_X10_law (F : Nat) (S : mS) : Option mR := bI0 (f_X10_readAll F ((0 : Int32)) S) (fun r2 S1 => (if 0 ≤ r2 then f_X10_law_b19 F r2 ((-1 : Int32)) S1 else f_X10_law_b19 F r2 (S1 63 12) S1))
theorem f_X10_law_b52_ok {d F : Nat} : ∀ (n : Nat) {x1 : Int32} {x2 : Int32} {S : mS} {r : mR}, f_X10_law_b52 F n x1 x2 S = some r → Ev (d + 48) Mx202 (52, [.ref 63, .int x1, .int x2], [], S, 0) r := by
  intro n
  induction n with
  | zero => intro x1 x2 S r hf; cases hf
  | succ n ih =>
    intro x1 x2 S r hf
    rw [f_X10_law_b52] at hf
    refine ev_sts 2 (c2 := (56, [.ref 63, .int x1, .int x2], [.int ((849 : Int32)), .int x2], S, 0)) rfl ?_
    refine ev_if (c1 := (85, [.ref 63, .int x1, .int x2], [], S, 0)) (c2 := (59, [.ref 63, .int x1, .int x2], [], S, 0)) hf rfl rfl (fun _ hf => ?_) (fun _ hf => ?_)
    · refine ev_sts 4 (c2 := (91, [.ref 63, .int x1, .int x2], [.int ((1 : Int32)), .int ((4 : Int32)), .ref 64], S, 0)) rfl ?_
      refine ev_gd (c1 := (92, [.ref 63, .int x1, .int x2], [], (upS S 64 ((4 : Int32)).toNatClampNeg ((1 : Int32))), 0)) hf rfl rfl (fun hf => ?_)
      refine ev_let (P := fun S7 => Ev (d + 48) Mx202 (92, [.ref 63, .int x1, .int x2], [], S7, 0) r) (fun S7 hf => ?_) hf
      refine ev_sts 3 (c2 := (97, [.ref 63, .int x1, .int x2], [], (upS S7 63 7 ((0 : Int32))), 0)) rfl ?_
      refine ev_let (P := fun S8 => Ev (d + 48) Mx202 (97, [.ref 63, .int x1, .int x2], [], S8, 0) r) (fun S8 hf => ?_) hf
      refine ev_sts 1 (c2 := (98, [.ref 63, .int x1, .int x2], [.int x1], S8, 0)) rfl ?_
      exact ev_ret hf rfl rfl
    · refine ev_sts 10 (c2 := (77, [.ref 63, .int x1, .int x2], [.int (((1296 : Int32)) + x2), .ref 64, .int (((447 : Int32)) + x2), .ref 64], S, 0)) rfl ?_
      refine ev_gd (c1 := (78, [.ref 63, .int x1, .int x2], [.int (S 64 (((1296 : Int32)) + x2).toNatClampNeg), .int (((447 : Int32)) + x2), .ref 64], S, 0)) hf rfl rfl (fun hf => ?_)
      refine ev_gd (c1 := (79, [.ref 63, .int x1, .int x2], [], (upS S 64 (((447 : Int32)) + x2).toNatClampNeg (S 64 (((1296 : Int32)) + x2).toNatClampNeg)), 0)) hf rfl rfl (fun hf => ?_)
      refine ev_let (P := fun S9 => Ev (d + 48) Mx202 (79, [.ref 63, .int x1, .int x2], [], S9, 0) r) (fun S9 hf => ?_) hf
      exact ev_sts 2 (c2 := (52, [.ref 63, .int x1, .int (x2 + (1 : Int32))], [], S9, 0)) rfl (ih hf)
theorem f_X10_law_b32_ok {d F : Nat} {x1 : Int32} {t1 : Int32} {S : mS} {r : mR} (hf : f_X10_law_b32 F x1 t1 S = some r) : Ev (d + 48) Mx202 (32, [.ref 63, .int x1, mK], [.int t1, .ref 63], S, 0) r := by
  unfold f_X10_law_b32 at hf
  refine ev_sts 1 (c2 := (33, [.ref 63, .int x1, mK], [.int ((1 : Int32)), .int t1, .ref 63], S, 0)) rfl ?_
  refine ev_bI0 (d := d + 47) (M' := Mx155) (ct := (36, [.ref 63, .int x1, mK], [], S, 0)) hf rfl rfl rfl rfl (fun r9 h9 => f_X10_throwsIf_ok (d := d + 47) h9) (fun r5 S4 hf => ?_)
  show Ev (d + 48) Mx202 (36, [.ref 63, .int x1, mK], [.int r5], S4, 0) r
  refine ev_if (c1 := (41, [.ref 63, .int x1, mK], [], S4, 0)) (c2 := (39, [.ref 63, .int x1, mK], [], S4, 0)) hf rfl rfl (fun _ hf => ?_) (fun _ hf => ?_)
  · refine ev_sts 4 (c2 := (49, [.ref 63, .int x1, mK], [.int x1, .int ((1296 : Int32)), .ref 64], S4, 0)) rfl ?_
    refine ev_gd (c1 := (50, [.ref 63, .int x1, mK], [], (upS S4 64 ((1296 : Int32)).toNatClampNeg x1), 0)) hf rfl rfl (fun hf => ?_)
    refine ev_let (P := fun S6 => Ev (d + 48) Mx202 (50, [.ref 63, .int x1, mK], [], S6, 0) r) (fun S6 hf => ?_) hf
    exact ev_sts 2 (c2 := (52, [.ref 63, .int x1, .int ((0 : Int32))], [], S6, 0)) rfl (f_X10_law_b52_ok _ hf)
  · refine ev_sts 1 (c2 := (40, [.ref 63, .int x1, mK], [.int ((0 : Int32))], S4, 0)) rfl ?_
    exact ev_ret hf rfl rfl
theorem f_X10_law_b19_ok {d F : Nat} {x1 : Int32} {t1 : Int32} {S : mS} {r : mR} (hf : f_X10_law_b19 F x1 t1 S = some r) : Ev (d + 48) Mx202 (19, [.ref 63, .int x1, mK], [.int t1, .ref 63], S, 0) r := by
  unfold f_X10_law_b19 at hf
  refine ev_sts 1 (c2 := (22, [.ref 63, .int x1, mK], [], (upS S 63 14 t1), 0)) rfl ?_
  refine ev_let (P := fun S3 => Ev (d + 48) Mx202 (22, [.ref 63, .int x1, mK], [], S3, 0) r) (fun S3 hf => ?_) hf
  refine ev_sts 2 (c2 := (24, [.ref 63, .int x1, mK], [.int x1, .ref 63], S3, 0)) rfl ?_
  refine ev_if (c1 := (31, [.ref 63, .int x1, mK], [.ref 63], S3, 0)) (c2 := (27, [.ref 63, .int x1, mK], [.ref 63], S3, 0)) hf rfl rfl (fun _ hf => ?_) (fun _ hf => ?_)
  · exact ev_sts 1 (c2 := (32, [.ref 63, .int x1, mK], [.int ((0 : Int32)), .ref 63], S3, 0)) rfl (f_X10_law_b32_ok hf)
  · exact ev_sts 2 (c2 := (32, [.ref 63, .int x1, mK], [.int ((1 : Int32)), .ref 63], S3, 0)) rfl (f_X10_law_b32_ok hf)
theorem f_X10_law_ok {d F : Nat} {S : mS} {r : mR} (hf : f_X10_law F S = some r) : Ev (d + 48) Mx202 (entry Mx202 [.ref 63] S) r := by
  unfold f_X10_law at hf
  refine ev_sts 2 (c2 := (2, [.ref 63, mK, mK], [.int ((0 : Int32)), .ref 63], S, 0)) rfl ?_
  refine ev_bI0 (d := d + 47) (M' := Mx200) (ct := (5, [.ref 63, mK, mK], [], S, 0)) hf rfl rfl rfl rfl (fun r9 h9 => f_X10_readAll_ok (d := d) h9) (fun r2 S1 hf => ?_)
  show Ev (d + 48) Mx202 (5, [.ref 63, mK, mK], [.int r2], S1, 0) r
  refine ev_sts 3 (c2 := (8, [.ref 63, .int r2, mK], [.int r2, .ref 63], S1, 0)) rfl ?_
  refine ev_if (c1 := (18, [.ref 63, .int r2, mK], [.ref 63], S1, 0)) (c2 := (11, [.ref 63, .int r2, mK], [.ref 63], S1, 0)) hf rfl rfl (fun _ hf => ?_) (fun _ hf => ?_)
  · exact ev_sts 1 (c2 := (19, [.ref 63, .int r2, mK], [.int ((-1 : Int32)), .ref 63], S1, 0)) rfl (f_X10_law_b19_ok hf)
  · exact ev_sts 3 (c2 := (19, [.ref 63, .int r2, mK], [.int (S1 63 12), .ref 63], S1, 0)) rfl (f_X10_law_b19_ok hf)
def f_X10_leave_b73 (K34 : Int32 → Int32 → Int32 → mS → Option mR) (F : Nat) (x1 : Int32) (x2 : Int32) (x3 : Int32) (S : mS) : Option mR := K34 x1 x2 (x3 + (1 : Int32)) S
def f_X10_leave_b71 (K34 : Int32 → Int32 → Int32 → mS → Option mR) (F : Nat) (x1 : Int32) (x3 : Int32) (S : mS) : Option mR := f_X10_leave_b73 K34 F x1 x3 x3 S
def f_X10_leave_b34 (F : Nat) : Nat → Int32 → Int32 → Int32 → mS → Option mR
  | 0, _, _, _, _ => none
  | n + 1, x1, x2, x3, S => bI0 (f_X10_allLedges S) (fun r7 S6 => (if r7 < x3 then some (.inl (some (.int x2)), S6) else bI0 (f_X10_sumIn F x3 ((4 : Int32)) S6) (fun r9 S8 => (if r9 < x1 then f_X10_leave_b73 (fun x1 x2 x3 S => f_X10_leave_b34 F n x1 x2 x3 S) F x1 x2 x3 S8 else (if x2 < 0 then f_X10_leave_b71 (fun x1 x2 x3 S => f_X10_leave_b34 F n x1 x2 x3 S) F x1 x3 S8 else bI0 (f_X10_sumIn F x3 ((2 : Int32)) S8) (fun r11 S10 => bI0 (f_X10_sumIn F x2 ((2 : Int32)) S10) (fun r13 S12 => (if r13 ≤ r11 then f_X10_leave_b73 (fun x1 x2 x3 S => f_X10_leave_b34 F n x1 x2 x3 S) F x1 x2 x3 S12 else f_X10_leave_b71 (fun x1 x2 x3 S => f_X10_leave_b34 F n x1 x2 x3 S) F x1 x3 S12))))))))
def f_X10_leave_b21 (F : Nat) (x1 : Int32) (t1 : Int32) (S : mS) : Option mR := bI0 (f_X10_throwsIf t1 ((1 : Int32)) S) (fun r5 S4 => (if r5 = 0 then f_X10_leave_b34 F F x1 ((-1 : Int32)) ((0 : Int32)) S4 else some (.inl (some (.int ((0 : Int32)))), S4)))
def f_X10_leave (F : Nat) (p1 : Int32) (S : mS) : Option mR := bnd (upS S 63 0 ((0 : Int32))) (fun S1 => bI0 (f_X10_in p1 ((0 : Int32)) ((90 : Int32)) S1) (fun r3 S2 => (if ¬ r3 = 0 then f_X10_leave_b21 F p1 ((0 : Int32)) S2 else f_X10_leave_b21 F p1 ((1 : Int32)) S2)))
theorem f_X10_leave_b73_ok {d F : Nat} {K34 : Int32 → Int32 → Int32 → mS → Option mR} (hK34 : ∀ {x1 : Int32} {x2 : Int32} {x3 : Int32} {S : mS} {r : mR}, K34 x1 x2 x3 S = some r → Ev (d + 3) Mx262 (34, [.ref 63, .int x1, .int x2, .int x3], [], S, 0) r) {x1 : Int32} {x2 : Int32} {x3 : Int32} {S : mS} {r : mR} (hf : f_X10_leave_b73 K34 F x1 x2 x3 S = some r) : Ev (d + 3) Mx262 (73, [.ref 63, .int x1, .int x2, .int x3], [], S, 0) r := by
  unfold f_X10_leave_b73 at hf
  exact ev_sts 2 (c2 := (34, [.ref 63, .int x1, .int x2, .int (x3 + (1 : Int32))], [], S, 0)) rfl (hK34 hf)
theorem f_X10_leave_b71_ok {d F : Nat} {K34 : Int32 → Int32 → Int32 → mS → Option mR} (hK34 : ∀ {x1 : Int32} {x2 : Int32} {x3 : Int32} {S : mS} {r : mR}, K34 x1 x2 x3 S = some r → Ev (d + 3) Mx262 (34, [.ref 63, .int x1, .int x2, .int x3], [], S, 0) r) {x1 : Int32} {x3 : Int32} {S : mS} {r : mR} (hf : f_X10_leave_b71 K34 F x1 x3 S = some r) : Ev (d + 3) Mx262 (71, [.ref 63, .int x1, mK, .int x3], [], S, 0) r := by
  unfold f_X10_leave_b71 at hf
  exact ev_sts 2 (c2 := (73, [.ref 63, .int x1, .int x3, .int x3], [], S, 0)) rfl (f_X10_leave_b73_ok hK34 hf)
theorem f_X10_leave_b34_ok {d F : Nat} : ∀ (n : Nat) {x1 : Int32} {x2 : Int32} {x3 : Int32} {S : mS} {r : mR}, f_X10_leave_b34 F n x1 x2 x3 S = some r → Ev (d + 3) Mx262 (34, [.ref 63, .int x1, .int x2, .int x3], [], S, 0) r := by
  intro n
  induction n with
  | zero => intro x1 x2 x3 S r hf; cases hf
  | succ n ih =>
    intro x1 x2 x3 S r hf
    rw [f_X10_leave_b34] at hf
    refine ev_sts 2 (c2 := (36, [.ref 63, .int x1, .int x2, .int x3], [.ref 63, .int x3], S, 0)) rfl ?_
    refine ev_bI0 (d := d + 2) (M' := Mx261) (ct := (39, [.ref 63, .int x1, .int x2, .int x3], [.int x3], S, 0)) hf rfl rfl rfl rfl (fun r9 h9 => f_X10_allLedges_ok (d := d + 1) h9) (fun r7 S6 hf => ?_)
    show Ev (d + 3) Mx262 (39, [.ref 63, .int x1, .int x2, .int x3], [.int r7, .int x3], S6, 0) r
    refine ev_if (c1 := (79, [.ref 63, .int x1, .int x2, .int x3], [], S6, 0)) (c2 := (42, [.ref 63, .int x1, .int x2, .int x3], [], S6, 0)) hf rfl rfl (fun _ hf => ?_) (fun _ hf => ?_)
    · refine ev_sts 1 (c2 := (80, [.ref 63, .int x1, .int x2, .int x3], [.int x2], S6, 0)) rfl ?_
      exact ev_ret hf rfl rfl
    · refine ev_sts 3 (c2 := (45, [.ref 63, .int x1, .int x2, .int x3], [.int ((4 : Int32)), .int x3, .ref 63], S6, 0)) rfl ?_
      refine ev_bI0 (d := d + 2) (M' := Mx260) (ct := (48, [.ref 63, .int x1, .int x2, .int x3], [], S6, 0)) hf rfl rfl rfl rfl (fun r9 h9 => f_X10_sumIn_ok (d := d) h9) (fun r9 S8 hf => ?_)
      show Ev (d + 3) Mx262 (48, [.ref 63, .int x1, .int x2, .int x3], [.int r9], S8, 0) r
      refine ev_sts 1 (c2 := (49, [.ref 63, .int x1, .int x2, .int x3], [.int x1, .int r9], S8, 0)) rfl ?_
      refine ev_if (c1 := (73, [.ref 63, .int x1, .int x2, .int x3], [], S8, 0)) (c2 := (52, [.ref 63, .int x1, .int x2, .int x3], [], S8, 0)) hf rfl rfl (fun _ hf => ?_) (fun _ hf => ?_)
      · exact f_X10_leave_b73_ok (fun h9 => ih h9) hf
      · refine ev_sts 1 (c2 := (53, [.ref 63, .int x1, .int x2, .int x3], [.int x2], S8, 0)) rfl ?_
        refine ev_if (c1 := (71, [.ref 63, .int x1, mK, .int x3], [], S8, 0)) (c2 := (56, [.ref 63, .int x1, .int x2, .int x3], [], S8, 0)) hf rfl rfl (fun _ hf => ?_) (fun _ hf => ?_)
        · exact f_X10_leave_b71_ok (fun h9 => ih h9) hf
        · refine ev_sts 3 (c2 := (59, [.ref 63, .int x1, .int x2, .int x3], [.int ((2 : Int32)), .int x3, .ref 63], S8, 0)) rfl ?_
          refine ev_bI0 (d := d + 2) (M' := Mx260) (ct := (62, [.ref 63, .int x1, .int x2, .int x3], [], S8, 0)) hf rfl rfl rfl rfl (fun r9 h9 => f_X10_sumIn_ok (d := d) h9) (fun r11 S10 hf => ?_)
          show Ev (d + 3) Mx262 (62, [.ref 63, .int x1, .int x2, .int x3], [.int r11], S10, 0) r
          refine ev_sts 3 (c2 := (65, [.ref 63, .int x1, .int x2, .int x3], [.int ((2 : Int32)), .int x2, .ref 63, .int r11], S10, 0)) rfl ?_
          refine ev_bI0 (d := d + 2) (M' := Mx260) (ct := (68, [.ref 63, .int x1, .int x2, .int x3], [.int r11], S10, 0)) hf rfl rfl rfl rfl (fun r9 h9 => f_X10_sumIn_ok (d := d) h9) (fun r13 S12 hf => ?_)
          show Ev (d + 3) Mx262 (68, [.ref 63, .int x1, .int x2, .int x3], [.int r13, .int r11], S12, 0) r
          refine ev_if (c1 := (73, [.ref 63, .int x1, .int x2, .int x3], [], S12, 0)) (c2 := (71, [.ref 63, .int x1, mK, .int x3], [], S12, 0)) hf rfl rfl (fun _ hf => ?_) (fun _ hf => ?_)
          · exact f_X10_leave_b73_ok (fun h9 => ih h9) hf
          · exact f_X10_leave_b71_ok (fun h9 => ih h9) hf
theorem f_X10_leave_b21_ok {d F : Nat} {x1 : Int32} {t1 : Int32} {S : mS} {r : mR} (hf : f_X10_leave_b21 F x1 t1 S = some r) : Ev (d + 3) Mx262 (21, [.ref 63, .int x1, mK, mK], [.int t1, .ref 63], S, 0) r := by
  unfold f_X10_leave_b21 at hf
  refine ev_sts 1 (c2 := (22, [.ref 63, .int x1, mK, mK], [.int ((1 : Int32)), .int t1, .ref 63], S, 0)) rfl ?_
  refine ev_bI0 (d := d + 2) (M' := Mx155) (ct := (25, [.ref 63, .int x1, mK, mK], [], S, 0)) hf rfl rfl rfl rfl (fun r9 h9 => f_X10_throwsIf_ok (d := d + 2) h9) (fun r5 S4 hf => ?_)
  show Ev (d + 3) Mx262 (25, [.ref 63, .int x1, mK, mK], [.int r5], S4, 0) r
  refine ev_if (c1 := (30, [.ref 63, .int x1, mK, mK], [], S4, 0)) (c2 := (28, [.ref 63, .int x1, mK, mK], [], S4, 0)) hf rfl rfl (fun _ hf => ?_) (fun _ hf => ?_)
  · exact ev_sts 4 (c2 := (34, [.ref 63, .int x1, .int ((-1 : Int32)), .int ((0 : Int32))], [], S4, 0)) rfl (f_X10_leave_b34_ok _ hf)
  · refine ev_sts 1 (c2 := (29, [.ref 63, .int x1, mK, mK], [.int ((0 : Int32))], S4, 0)) rfl ?_
    exact ev_ret hf rfl rfl
theorem f_X10_leave_ok {d F : Nat} {p1 : Int32} {S : mS} {r : mR} (hf : f_X10_leave F p1 S = some r) : Ev (d + 3) Mx262 (entry Mx262 [.ref 63, .int p1] S) r := by
  unfold f_X10_leave at hf
  refine ev_sts 3 (c2 := (5, [.ref 63, .int p1, mK, mK], [], (upS S 63 0 ((0 : Int32))), 0)) rfl ?_
  refine ev_let (P := fun S1 => Ev (d + 3) Mx262 (5, [.ref 63, .int p1, mK, mK], [], S1, 0) r) (fun S1 hf => ?_) hf
  refine ev_sts 4 (c2 := (10, [.ref 63, .int p1, mK, mK], [.int ((90 : Int32)), .int ((0 : Int32)), .int p1, .ref 63], S1, 0)) rfl ?_
  refine ev_bI0 (d := d + 2) (M' := Mx156) (ct := (13, [.ref 63, .int p1, mK, mK], [.ref 63], S1, 0)) hf rfl rfl rfl rfl (fun r9 h9 => f_X10_in_ok (d := d + 2) h9) (fun r3 S2 hf => ?_)
  show Ev (d + 3) Mx262 (13, [.ref 63, .int p1, mK, mK], [.int r3, .ref 63], S2, 0) r
  refine ev_if (c1 := (20, [.ref 63, .int p1, mK, mK], [.ref 63], S2, 0)) (c2 := (16, [.ref 63, .int p1, mK, mK], [.ref 63], S2, 0)) hf rfl rfl (fun _ hf => ?_) (fun _ hf => ?_)
  · exact ev_sts 1 (c2 := (21, [.ref 63, .int p1, mK, mK], [.int ((0 : Int32)), .ref 63], S2, 0)) rfl (f_X10_leave_b21_ok hf)
  · exact ev_sts 2 (c2 := (21, [.ref 63, .int p1, mK, mK], [.int ((1 : Int32)), .ref 63], S2, 0)) rfl (f_X10_leave_b21_ok hf)
def f_X10_ofLog (p1 : Int32) (p2 : Int32) (S : mS) : Option mR := gd (inb ((((87 : Int32)) + (((6 : Int32)) * p1)) + p2) 2145) (some (.inl (some (.int (S 64 ((((87 : Int32)) + (((6 : Int32)) * p1)) + p2).toNatClampNeg))), S))
theorem f_X10_ofLog_ok {d : Nat} {p1 : Int32} {p2 : Int32} {S : mS} {r : mR} (hf : f_X10_ofLog p1 p2 S = some r) : Ev (d) Mx276 (entry Mx276 [.ref 63, .int p1, .int p2] S) r := by
  unfold f_X10_ofLog at hf
  refine ev_sts 9 (c2 := (13, [.ref 63, .int p1, .int p2], [.int ((((87 : Int32)) + (((6 : Int32)) * p1)) + p2), .ref 64], S, 0)) rfl ?_
  refine ev_gd (c1 := (14, [.ref 63, .int p1, .int p2], [.int (S 64 ((((87 : Int32)) + (((6 : Int32)) * p1)) + p2).toNatClampNeg)], S, 0)) hf rfl rfl (fun hf => ?_)
  exact ev_ret hf rfl rfl
def f_X10_loggedOf_b50 (K6 : Int32 → Int32 → Int32 → Int32 → Int32 → mS → Option mR) (F : Nat) (x1 : Int32) (x2 : Int32) (x3 : Int32) (x5 : Int32) (t1 : Int32) (t0 : Int32) (S : mS) : Option mR := bnd (t0 + t1 : Int32) (fun y3 => K6 x1 x2 x3 y3 (x5 + (1 : Int32)) S)
def f_X10_loggedOf_b6 (F : Nat) : Nat → Int32 → Int32 → Int32 → Int32 → Int32 → mS → Option mR
  | 0, _, _, _, _, _, _ => none
  | n + 1, x1, x2, x3, x4, x5, S => gd (inb ((15 : Int32)) 2145) ((if (S 64 ((15 : Int32)).toNatClampNeg) ≤ x5 then some (.inl (some (.int x4)), S) else bI0 (f_X10_ofLog x5 x1 S) (fun r2 S1 => (if r2 = x2 then (if x3 = 0 then f_X10_loggedOf_b50 (fun x1 x2 x3 x4 x5 S => f_X10_loggedOf_b6 F n x1 x2 x3 x4 x5 S) F x1 x2 x3 x5 ((1 : Int32)) x4 S1 else bI0 (f_X10_ofLog x5 ((3 : Int32)) S1) (fun r5 S4 => f_X10_loggedOf_b50 (fun x1 x2 x3 x4 x5 S => f_X10_loggedOf_b6 F n x1 x2 x3 x4 x5 S) F x1 x2 x3 x5 r5 x4 S4)) else f_X10_loggedOf_b50 (fun x1 x2 x3 x4 x5 S => f_X10_loggedOf_b6 F n x1 x2 x3 x4 x5 S) F x1 x2 x3 x5 ((0 : Int32)) x4 S1))))
def f_X10_loggedOf (F : Nat) (p1 : Int32) (p2 : Int32) (p3 : Int32) (S : mS) : Option mR := f_X10_loggedOf_b6 F F p1 p2 p3 ((0 : Int32)) ((0 : Int32)) S
theorem f_X10_loggedOf_b50_ok {d F : Nat} {K6 : Int32 → Int32 → Int32 → Int32 → Int32 → mS → Option mR} (hK6 : ∀ {x1 : Int32} {x2 : Int32} {x3 : Int32} {x4 : Int32} {x5 : Int32} {S : mS} {r : mR}, K6 x1 x2 x3 x4 x5 S = some r → Ev (d + 1) Mx277 (6, [.ref 63, .int x1, .int x2, .int x3, .int x4, .int x5], [], S, 0) r) {x1 : Int32} {x2 : Int32} {x3 : Int32} {x5 : Int32} {t1 : Int32} {t0 : Int32} {S : mS} {r : mR} (hf : f_X10_loggedOf_b50 K6 F x1 x2 x3 x5 t1 t0 S = some r) : Ev (d + 1) Mx277 (50, [.ref 63, .int x1, .int x2, .int x3, mK, .int x5], [.int t1, .int t0], S, 0) r := by
  unfold f_X10_loggedOf_b50 at hf
  refine ev_sts 2 (c2 := (53, [.ref 63, .int x1, .int x2, .int x3, .int (t0 + t1), .int x5], [], S, 0)) rfl ?_
  refine ev_let (P := fun y3 => Ev (d + 1) Mx277 (53, [.ref 63, .int x1, .int x2, .int x3, .int y3, .int x5], [], S, 0) r) (fun y3 hf => ?_) hf
  exact ev_sts 2 (c2 := (6, [.ref 63, .int x1, .int x2, .int x3, .int y3, .int (x5 + (1 : Int32))], [], S, 0)) rfl (hK6 hf)
theorem f_X10_loggedOf_b6_ok {d F : Nat} : ∀ (n : Nat) {x1 : Int32} {x2 : Int32} {x3 : Int32} {x4 : Int32} {x5 : Int32} {S : mS} {r : mR}, f_X10_loggedOf_b6 F n x1 x2 x3 x4 x5 S = some r → Ev (d + 1) Mx277 (6, [.ref 63, .int x1, .int x2, .int x3, .int x4, .int x5], [], S, 0) r := by
  intro n
  induction n with
  | zero => intro x1 x2 x3 x4 x5 S r hf; cases hf
  | succ n ih =>
    intro x1 x2 x3 x4 x5 S r hf
    rw [f_X10_loggedOf_b6] at hf
    refine ev_sts 4 (c2 := (14, [.ref 63, .int x1, .int x2, .int x3, .int x4, .int x5], [.int ((15 : Int32)), .ref 64, .int x5], S, 0)) rfl ?_
    refine ev_gd (c1 := (15, [.ref 63, .int x1, .int x2, .int x3, .int x4, .int x5], [.int (S 64 ((15 : Int32)).toNatClampNeg), .int x5], S, 0)) hf rfl rfl (fun hf => ?_)
    refine ev_if (c1 := (59, [.ref 63, .int x1, .int x2, .int x3, .int x4, .int x5], [], S, 0)) (c2 := (18, [.ref 63, .int x1, .int x2, .int x3, .int x4, .int x5], [], S, 0)) hf rfl rfl (fun _ hf => ?_) (fun _ hf => ?_)
    · refine ev_sts 1 (c2 := (61, [.ref 63, .int x1, .int x2, .int x3, .int x4, .int x5], [.int x4], S, 0)) rfl ?_
      exact ev_ret hf rfl rfl
    · refine ev_sts 4 (c2 := (24, [.ref 63, .int x1, .int x2, .int x3, .int x4, .int x5], [.int x1, .int x5, .ref 63, .int x4], S, 0)) rfl ?_
      refine ev_bI0 (d := d) (M' := Mx276) (ct := (27, [.ref 63, .int x1, .int x2, .int x3, .int x4, .int x5], [.int x4], S, 0)) hf rfl rfl rfl rfl (fun r9 h9 => f_X10_ofLog_ok (d := d) h9) (fun r2 S1 hf => ?_)
      show Ev (d + 1) Mx277 (27, [.ref 63, .int x1, .int x2, .int x3, .int x4, .int x5], [.int r2, .int x4], S1, 0) r
      refine ev_sts 1 (c2 := (28, [.ref 63, .int x1, .int x2, .int x3, .int x4, .int x5], [.int x2, .int r2, .int x4], S1, 0)) rfl ?_
      refine ev_if (c1 := (35, [.ref 63, .int x1, .int x2, .int x3, .int x4, .int x5], [.int x4], S1, 0)) (c2 := (31, [.ref 63, .int x1, .int x2, .int x3, .int x4, .int x5], [.int x4], S1, 0)) hf rfl rfl (fun _ hf => ?_) (fun _ hf => ?_)
      · refine ev_sts 1 (c2 := (36, [.ref 63, .int x1, .int x2, .int x3, .int x4, .int x5], [.int x3, .int x4], S1, 0)) rfl ?_
        refine ev_if (c1 := (49, [.ref 63, .int x1, .int x2, .int x3, .int x4, .int x5], [.int x4], S1, 0)) (c2 := (39, [.ref 63, .int x1, .int x2, .int x3, .int x4, .int x5], [.int x4], S1, 0)) hf rfl rfl (fun _ hf => ?_) (fun _ hf => ?_)
        · exact ev_sts 1 (c2 := (50, [.ref 63, .int x1, .int x2, .int x3, mK, .int x5], [.int ((1 : Int32)), .int x4], S1, 0)) rfl (f_X10_loggedOf_b50_ok (fun h9 => ih h9) hf)
        · refine ev_sts 3 (c2 := (43, [.ref 63, .int x1, .int x2, .int x3, .int x4, .int x5], [.int ((3 : Int32)), .int x5, .ref 63, .int x4], S1, 0)) rfl ?_
          refine ev_bI0 (d := d) (M' := Mx276) (ct := (46, [.ref 63, .int x1, .int x2, .int x3, .int x4, .int x5], [.int x4], S1, 0)) hf rfl rfl rfl rfl (fun r9 h9 => f_X10_ofLog_ok (d := d) h9) (fun r5 S4 hf => ?_)
          show Ev (d + 1) Mx277 (46, [.ref 63, .int x1, .int x2, .int x3, .int x4, .int x5], [.int r5, .int x4], S4, 0) r
          exact ev_sts 1 (c2 := (50, [.ref 63, .int x1, .int x2, .int x3, mK, .int x5], [.int r5, .int x4], S4, 0)) rfl (f_X10_loggedOf_b50_ok (fun h9 => ih h9) hf)
      · exact ev_sts 2 (c2 := (50, [.ref 63, .int x1, .int x2, .int x3, mK, .int x5], [.int ((0 : Int32)), .int x4], S1, 0)) rfl (f_X10_loggedOf_b50_ok (fun h9 => ih h9) hf)
theorem f_X10_loggedOf_ok {d F : Nat} {p1 : Int32} {p2 : Int32} {p3 : Int32} {S : mS} {r : mR} (hf : f_X10_loggedOf F p1 p2 p3 S = some r) : Ev (d + 1) Mx277 (entry Mx277 [.ref 63, .int p1, .int p2, .int p3] S) r := by
  unfold f_X10_loggedOf at hf
  exact ev_sts 4 (c2 := (6, [.ref 63, .int p1, .int p2, .int p3, .int ((0 : Int32)), .int ((0 : Int32))], [], S, 0)) rfl (f_X10_loggedOf_b6_ok _ hf)
def f_X10_led_b29 (F : Nat) (t0 : Int32) (S : mS) : Option mR := some (.inl (some (.int t0)), S)
def f_X10_led (F : Nat) (p1 : Int32) (p2 : Int32) (S : mS) : Option mR := bnd (upS S 63 0 ((0 : Int32))) (fun S1 => bI0 (f_X10_noLedge p1 S1) (fun r3 S2 => bI0 (f_X10_throwsIf r3 ((1 : Int32)) S2) (fun r5 S4 => (if r5 = 0 then bI0 (f_X10_loggedOf F ((2 : Int32)) p1 p2 S4) (fun r7 S6 => f_X10_led_b29 F r7 S6) else f_X10_led_b29 F ((0 : Int32)) S4))))
theorem f_X10_led_b29_ok {d F : Nat} {t0 : Int32} {S : mS} {r : mR} (hf : f_X10_led_b29 F t0 S = some r) : Ev (d + 2) Mx278 (29, [mK, mK, mK], [.int t0], S, 0) r := by
  unfold f_X10_led_b29 at hf
  exact ev_ret hf rfl rfl
theorem f_X10_led_ok {d F : Nat} {p1 : Int32} {p2 : Int32} {S : mS} {r : mR} (hf : f_X10_led F p1 p2 S = some r) : Ev (d + 2) Mx278 (entry Mx278 [.ref 63, .int p1, .int p2] S) r := by
  unfold f_X10_led at hf
  refine ev_sts 3 (c2 := (5, [.ref 63, .int p1, .int p2], [], (upS S 63 0 ((0 : Int32))), 0)) rfl ?_
  refine ev_let (P := fun S1 => Ev (d + 2) Mx278 (5, [.ref 63, .int p1, .int p2], [], S1, 0) r) (fun S1 hf => ?_) hf
  refine ev_sts 3 (c2 := (8, [.ref 63, .int p1, .int p2], [.int p1, .ref 63, .ref 63], S1, 0)) rfl ?_
  refine ev_bI0 (d := d + 1) (M' := Mx169) (ct := (11, [.ref 63, .int p1, .int p2], [.ref 63], S1, 0)) hf rfl rfl rfl rfl (fun r9 h9 => f_X10_noLedge_ok (d := d) h9) (fun r3 S2 hf => ?_)
  show Ev (d + 2) Mx278 (11, [.ref 63, .int p1, .int p2], [.int r3, .ref 63], S2, 0) r
  refine ev_sts 1 (c2 := (12, [.ref 63, .int p1, .int p2], [.int ((1 : Int32)), .int r3, .ref 63], S2, 0)) rfl ?_
  refine ev_bI0 (d := d + 1) (M' := Mx155) (ct := (15, [.ref 63, .int p1, .int p2], [], S2, 0)) hf rfl rfl rfl rfl (fun r9 h9 => f_X10_throwsIf_ok (d := d + 1) h9) (fun r5 S4 hf => ?_)
  show Ev (d + 2) Mx278 (15, [.ref 63, .int p1, .int p2], [.int r5], S4, 0) r
  refine ev_if (c1 := (22, [.ref 63, .int p1, .int p2], [], S4, 0)) (c2 := (18, [.ref 63, .int p1, .int p2], [], S4, 0)) hf rfl rfl (fun _ hf => ?_) (fun _ hf => ?_)
  · refine ev_sts 4 (c2 := (26, [.ref 63, .int p1, .int p2], [.int p2, .int p1, .int ((2 : Int32)), .ref 63], S4, 0)) rfl ?_
    refine ev_bI0 (d := d + 1) (M' := Mx277) (ct := (29, [mK, mK, mK], [], S4, 0)) hf rfl rfl rfl rfl (fun r9 h9 => f_X10_loggedOf_ok (d := d) h9) (fun r7 S6 hf => ?_)
    show Ev (d + 2) Mx278 (29, [mK, mK, mK], [.int r7], S6, 0) r
    exact f_X10_led_b29_ok hf
  · exact ev_sts 2 (c2 := (29, [mK, mK, mK], [.int ((0 : Int32))], S4, 0)) rfl (f_X10_led_b29_ok hf)
def f_X10_nextTo_b58 (K9 : Int32 → Int32 → Int32 → Int32 → mS → Option mR) (F : Nat) (x1 : Int32) (x2 : Int32) (x3 : Int32) (x4 : Int32) (S : mS) : Option mR := K9 x1 x2 x3 (x4 + (1 : Int32)) S
def f_X10_nextTo_b9 (F : Nat) : Nat → Int32 → Int32 → Int32 → Int32 → mS → Option mR
  | 0, _, _, _, _, _ => none
  | n + 1, x1, x2, x3, x4, S => bI0 (f_X10_ledges S) (fun r2 S1 => (if r2 ≤ x4 then some (.inl (some (.int x2)), S1) else bI0 (f_X10_of x4 ((0 : Int32)) S1) (fun r4 S3 => bI0 (f_X10_of x1 ((0 : Int32)) S3) (fun r6 S5 => bnd (if 0 ≤ (r4 - r6) then (r4 - r6) else 0 - (r4 - r6) : Int32) (fun y7 => (if x4 = x1 then f_X10_nextTo_b58 (fun x1 x2 x3 x4 S => f_X10_nextTo_b9 F n x1 x2 x3 x4 S) F x1 x2 x3 x4 S5 else (if y7 < x3 then f_X10_nextTo_b58 (fun x1 x2 x3 x4 S => f_X10_nextTo_b9 F n x1 x2 x3 x4 S) F x1 x4 y7 x4 S5 else f_X10_nextTo_b58 (fun x1 x2 x3 x4 S => f_X10_nextTo_b9 F n x1 x2 x3 x4 S) F x1 x2 x3 x4 S5)))))))
def f_X10_nextTo (F : Nat) (p1 : Int32) (S : mS) : Option mR := f_X10_nextTo_b9 F F p1 ((-1 : Int32)) ((1000000 : Int32)) ((0 : Int32)) S
theorem f_X10_nextTo_b58_ok {d F : Nat} {K9 : Int32 → Int32 → Int32 → Int32 → mS → Option mR} (hK9 : ∀ {x1 : Int32} {x2 : Int32} {x3 : Int32} {x4 : Int32} {S : mS} {r : mR}, K9 x1 x2 x3 x4 S = some r → Ev (d + 2) Mx213 (9, [.ref 63, .int x1, .int x2, .int x3, .int x4, mK], [], S, 0) r) {x1 : Int32} {x2 : Int32} {x3 : Int32} {x4 : Int32} {S : mS} {r : mR} (hf : f_X10_nextTo_b58 K9 F x1 x2 x3 x4 S = some r) : Ev (d + 2) Mx213 (58, [.ref 63, .int x1, .int x2, .int x3, .int x4, mK], [], S, 0) r := by
  unfold f_X10_nextTo_b58 at hf
  exact ev_sts 2 (c2 := (9, [.ref 63, .int x1, .int x2, .int x3, .int (x4 + (1 : Int32)), mK], [], S, 0)) rfl (hK9 hf)
theorem f_X10_nextTo_b9_ok {d F : Nat} : ∀ (n : Nat) {x1 : Int32} {x2 : Int32} {x3 : Int32} {x4 : Int32} {S : mS} {r : mR}, f_X10_nextTo_b9 F n x1 x2 x3 x4 S = some r → Ev (d + 2) Mx213 (9, [.ref 63, .int x1, .int x2, .int x3, .int x4, mK], [], S, 0) r := by
  intro n
  induction n with
  | zero => intro x1 x2 x3 x4 S r hf; cases hf
  | succ n ih =>
    intro x1 x2 x3 x4 S r hf
    rw [f_X10_nextTo_b9] at hf
    refine ev_sts 2 (c2 := (12, [.ref 63, .int x1, .int x2, .int x3, .int x4, mK], [.ref 63, .int x4], S, 0)) rfl ?_
    refine ev_bI0 (d := d + 1) (M' := Mx162) (ct := (15, [.ref 63, .int x1, .int x2, .int x3, .int x4, mK], [.int x4], S, 0)) hf rfl rfl rfl rfl (fun r9 h9 => f_X10_ledges_ok (d := d + 1) h9) (fun r2 S1 hf => ?_)
    show Ev (d + 2) Mx213 (15, [.ref 63, .int x1, .int x2, .int x3, .int x4, mK], [.int r2, .int x4], S1, 0) r
    refine ev_if (c1 := (64, [.ref 63, .int x1, .int x2, .int x3, .int x4, mK], [], S1, 0)) (c2 := (18, [.ref 63, .int x1, .int x2, .int x3, .int x4, mK], [], S1, 0)) hf rfl rfl (fun _ hf => ?_) (fun _ hf => ?_)
    · refine ev_sts 1 (c2 := (65, [.ref 63, .int x1, .int x2, .int x3, .int x4, mK], [.int x2], S1, 0)) rfl ?_
      exact ev_ret hf rfl rfl
    · refine ev_sts 3 (c2 := (22, [.ref 63, .int x1, .int x2, .int x3, .int x4, mK], [.int ((0 : Int32)), .int x4, .ref 63], S1, 0)) rfl ?_
      refine ev_bI0 (d := d + 1) (M' := Mx166) (ct := (25, [.ref 63, .int x1, .int x2, .int x3, .int x4, mK], [], S1, 0)) hf rfl rfl rfl rfl (fun r9 h9 => f_X10_of_ok (d := d) h9) (fun r4 S3 hf => ?_)
      show Ev (d + 2) Mx213 (25, [.ref 63, .int x1, .int x2, .int x3, .int x4, mK], [.int r4], S3, 0) r
      refine ev_sts 3 (c2 := (28, [.ref 63, .int x1, .int x2, .int x3, .int x4, mK], [.int ((0 : Int32)), .int x1, .ref 63, .int r4], S3, 0)) rfl ?_
      refine ev_bI0 (d := d + 1) (M' := Mx166) (ct := (31, [.ref 63, .int x1, .int x2, .int x3, .int x4, mK], [.int r4], S3, 0)) hf rfl rfl rfl rfl (fun r9 h9 => f_X10_of_ok (d := d) h9) (fun r6 S5 hf => ?_)
      show Ev (d + 2) Mx213 (31, [.ref 63, .int x1, .int x2, .int x3, .int x4, mK], [.int r6, .int r4], S5, 0) r
      refine ev_sts 3 (c2 := (37, [.ref 63, .int x1, .int x2, .int x3, .int x4, .int (if 0 ≤ (r4 - r6) then (r4 - r6) else 0 - (r4 - r6))], [], S5, 0)) rfl ?_
      refine ev_let (P := fun y7 => Ev (d + 2) Mx213 (37, [.ref 63, .int x1, .int x2, .int x3, .int x4, .int y7], [], S5, 0) r) (fun y7 hf => ?_) hf
      refine ev_sts 2 (c2 := (40, [.ref 63, .int x1, .int x2, .int x3, .int x4, .int y7], [.int x1, .int x4], S5, 0)) rfl ?_
      refine ev_if (c1 := (58, [.ref 63, .int x1, .int x2, .int x3, .int x4, mK], [], S5, 0)) (c2 := (43, [.ref 63, .int x1, .int x2, .int x3, .int x4, .int y7], [], S5, 0)) hf rfl rfl (fun _ hf => ?_) (fun _ hf => ?_)
      · exact f_X10_nextTo_b58_ok (fun h9 => ih h9) hf
      · refine ev_sts 2 (c2 := (46, [.ref 63, .int x1, .int x2, .int x3, .int x4, .int y7], [.int x3, .int y7], S5, 0)) rfl ?_
        refine ev_if (c1 := (52, [.ref 63, .int x1, .int x2, .int x3, .int x4, .int y7], [], S5, 0)) (c2 := (49, [.ref 63, .int x1, .int x2, .int x3, .int x4, .int y7], [], S5, 0)) hf rfl rfl (fun _ hf => ?_) (fun _ hf => ?_)
        · exact ev_sts 4 (c2 := (58, [.ref 63, .int x1, .int x4, .int y7, .int x4, mK], [], S5, 0)) rfl (f_X10_nextTo_b58_ok (fun h9 => ih h9) hf)
        · exact ev_sts 1 (c2 := (58, [.ref 63, .int x1, .int x2, .int x3, .int x4, mK], [], S5, 0)) rfl (f_X10_nextTo_b58_ok (fun h9 => ih h9) hf)
theorem f_X10_nextTo_ok {d F : Nat} {p1 : Int32} {S : mS} {r : mR} (hf : f_X10_nextTo F p1 S = some r) : Ev (d + 2) Mx213 (entry Mx213 [.ref 63, .int p1] S) r := by
  unfold f_X10_nextTo at hf
  exact ev_sts 6 (c2 := (9, [.ref 63, .int p1, .int ((-1 : Int32)), .int ((1000000 : Int32)), .int ((0 : Int32)), mK], [], S, 0)) rfl (f_X10_nextTo_b9_ok _ hf)
def f_X10_windsTo_b27 (K4 : Int32 → Int32 → Int32 → mS → Option mR) (F : Nat) (x1 : Int32) (x3 : Int32) (t1 : Int32) (t0 : Int32) (S : mS) : Option mR := bnd (t0 ||| t1 : Int32) (fun y3 => K4 x1 y3 (x3 + (1 : Int32)) S)
def f_X10_windsTo_b4 (F : Nat) : Nat → Int32 → Int32 → Int32 → mS → Option mR
  | 0, _, _, _, _ => none
  | n + 1, x1, x2, x3, S => (if ((10 : Int32)) ≤ x3 then some (.inl (some (.int x2)), S) else bI0 (f_X10_kicksTo F x1 x3 S) (fun r2 S1 => (if r2 < 0 then f_X10_windsTo_b27 (fun x1 x2 x3 S => f_X10_windsTo_b4 F n x1 x2 x3 S) F x1 x3 ((0 : Int32)) x2 S1 else f_X10_windsTo_b27 (fun x1 x2 x3 S => f_X10_windsTo_b4 F n x1 x2 x3 S) F x1 x3 (((1 : Int32)) <<< (x3 &&& 31)) x2 S1)))
def f_X10_windsTo (F : Nat) (p1 : Int32) (S : mS) : Option mR := f_X10_windsTo_b4 F F p1 ((0 : Int32)) ((0 : Int32)) S
theorem f_X10_windsTo_b27_ok {d F : Nat} {K4 : Int32 → Int32 → Int32 → mS → Option mR} (hK4 : ∀ {x1 : Int32} {x2 : Int32} {x3 : Int32} {S : mS} {r : mR}, K4 x1 x2 x3 S = some r → Ev (d + 9) Mx212 (4, [.ref 63, .int x1, .int x2, .int x3], [], S, 0) r) {x1 : Int32} {x3 : Int32} {t1 : Int32} {t0 : Int32} {S : mS} {r : mR} (hf : f_X10_windsTo_b27 K4 F x1 x3 t1 t0 S = some r) : Ev (d + 9) Mx212 (27, [.ref 63, .int x1, mK, .int x3], [.int t1, .int t0], S, 0) r := by
  unfold f_X10_windsTo_b27 at hf
  refine ev_sts 2 (c2 := (29, [.ref 63, .int x1, .int (t0 ||| t1), .int x3], [], S, 0)) rfl ?_
  refine ev_let (P := fun y3 => Ev (d + 9) Mx212 (29, [.ref 63, .int x1, .int y3, .int x3], [], S, 0) r) (fun y3 hf => ?_) hf
  exact ev_sts 2 (c2 := (4, [.ref 63, .int x1, .int y3, .int (x3 + (1 : Int32))], [], S, 0)) rfl (hK4 hf)
theorem f_X10_windsTo_b4_ok {d F : Nat} : ∀ (n : Nat) {x1 : Int32} {x2 : Int32} {x3 : Int32} {S : mS} {r : mR}, f_X10_windsTo_b4 F n x1 x2 x3 S = some r → Ev (d + 9) Mx212 (4, [.ref 63, .int x1, .int x2, .int x3], [], S, 0) r := by
  intro n
  induction n with
  | zero => intro x1 x2 x3 S r hf; cases hf
  | succ n ih =>
    intro x1 x2 x3 S r hf
    rw [f_X10_windsTo_b4] at hf
    refine ev_sts 2 (c2 := (7, [.ref 63, .int x1, .int x2, .int x3], [.int ((10 : Int32)), .int x3], S, 0)) rfl ?_
    refine ev_if (c1 := (35, [.ref 63, .int x1, .int x2, .int x3], [], S, 0)) (c2 := (10, [.ref 63, .int x1, .int x2, .int x3], [], S, 0)) hf rfl rfl (fun _ hf => ?_) (fun _ hf => ?_)
    · refine ev_sts 1 (c2 := (36, [.ref 63, .int x1, .int x2, .int x3], [.int x2], S, 0)) rfl ?_
      exact ev_ret hf rfl rfl
    · refine ev_sts 4 (c2 := (14, [.ref 63, .int x1, .int x2, .int x3], [.int x3, .int x1, .ref 63, .int x2], S, 0)) rfl ?_
      refine ev_bI0 (d := d + 8) (M' := Mx209) (ct := (17, [.ref 63, .int x1, .int x2, .int x3], [.int x2], S, 0)) hf rfl rfl rfl rfl (fun r9 h9 => f_X10_kicksTo_ok (d := d) h9) (fun r2 S1 hf => ?_)
      show Ev (d + 9) Mx212 (17, [.ref 63, .int x1, .int x2, .int x3], [.int r2, .int x2], S1, 0) r
      refine ev_if (c1 := (26, [.ref 63, .int x1, .int x2, .int x3], [.int x2], S1, 0)) (c2 := (20, [.ref 63, .int x1, .int x2, .int x3], [.int x2], S1, 0)) hf rfl rfl (fun _ hf => ?_) (fun _ hf => ?_)
      · exact ev_sts 1 (c2 := (27, [.ref 63, .int x1, mK, .int x3], [.int ((0 : Int32)), .int x2], S1, 0)) rfl (f_X10_windsTo_b27_ok (fun h9 => ih h9) hf)
      · exact ev_sts 4 (c2 := (27, [.ref 63, .int x1, mK, .int x3], [.int (((1 : Int32)) <<< (x3 &&& 31)), .int x2], S1, 0)) rfl (f_X10_windsTo_b27_ok (fun h9 => ih h9) hf)
theorem f_X10_windsTo_ok {d F : Nat} {p1 : Int32} {S : mS} {r : mR} (hf : f_X10_windsTo F p1 S = some r) : Ev (d + 9) Mx212 (entry Mx212 [.ref 63, .int p1] S) r := by
  unfold f_X10_windsTo at hf
  exact ev_sts 4 (c2 := (4, [.ref 63, .int p1, .int ((0 : Int32)), .int ((0 : Int32))], [], S, 0)) rfl (f_X10_windsTo_b4_ok _ hf)
def f_X10_ledge_b41 (F : Nat) (S : mS) : Option mR := some (.inl (some (.int ((0 : Int32)))), S)
def f_X10_ledge_b34 (F : Nat) (x1 : Int32) (x2 : Int32) (t1 : Int32) (S : mS) : Option mR := bI0 (f_X10_throwsIf t1 ((2 : Int32)) S) (fun r9 S8 => (if r9 = 0 then (if x2 = (5 : Int32) then gd (inb ((6 : Int32)) 2145) (bI0 (f_X10_laysOf F x1 (S8 64 ((6 : Int32)).toNatClampNeg) S8) (fun r12 S11 => some (.inl (some (.int r12)), S11))) else if x2 = (6 : Int32) then bI0 (f_X10_windsTo F x1 S8) (fun r15 S14 => some (.inl (some (.int r15)), S14)) else if x2 = (7 : Int32) then bI0 (f_X10_nextTo F x1 S8) (fun r18 S17 => some (.inl (some (.int r18)), S17)) else bI0 (f_X10_of x1 x2 S8) (fun r20 S19 => some (.inl (some (.int r20)), S19))) else f_X10_ledge_b41 F S8))
def f_X10_ledge (F : Nat) (p1 : Int32) (p2 : Int32) (S : mS) : Option mR := bnd (upS S 63 0 ((0 : Int32))) (fun S1 => bI0 (f_X10_noLedge p1 S1) (fun r3 S2 => bI0 (f_X10_throwsIf r3 ((1 : Int32)) S2) (fun r5 S4 => (if ¬ r5 = 0 then f_X10_ledge_b41 F S4 else bI0 (f_X10_in p2 ((0 : Int32)) ((7 : Int32)) S4) (fun r7 S6 => (if ¬ r7 = 0 then f_X10_ledge_b34 F p1 p2 ((0 : Int32)) S6 else f_X10_ledge_b34 F p1 p2 ((1 : Int32)) S6))))))
theorem f_X10_ledge_b41_ok {d F : Nat} {S : mS} {r : mR} (hf : f_X10_ledge_b41 F  S = some r) : Ev (d + 10) Mx214 (41, [mK, mK, mK], [], S, 0) r := by
  unfold f_X10_ledge_b41 at hf
  refine ev_sts 1 (c2 := (42, [mK, mK, mK], [.int ((0 : Int32))], S, 0)) rfl ?_
  exact ev_ret hf rfl rfl
theorem f_X10_ledge_b34_ok {d F : Nat} {x1 : Int32} {x2 : Int32} {t1 : Int32} {S : mS} {r : mR} (hf : f_X10_ledge_b34 F x1 x2 t1 S = some r) : Ev (d + 10) Mx214 (34, [.ref 63, .int x1, .int x2], [.int t1, .ref 63], S, 0) r := by
  unfold f_X10_ledge_b34 at hf
  refine ev_sts 1 (c2 := (35, [.ref 63, .int x1, .int x2], [.int ((2 : Int32)), .int t1, .ref 63], S, 0)) rfl ?_
  refine ev_bI0 (d := d + 9) (M' := Mx155) (ct := (38, [.ref 63, .int x1, .int x2], [], S, 0)) hf rfl rfl rfl rfl (fun r9 h9 => f_X10_throwsIf_ok (d := d + 9) h9) (fun r9 S8 hf => ?_)
  show Ev (d + 10) Mx214 (38, [.ref 63, .int x1, .int x2], [.int r9], S8, 0) r
  refine ev_if (c1 := (43, [.ref 63, .int x1, .int x2], [], S8, 0)) (c2 := (41, [mK, mK, mK], [], S8, 0)) hf rfl rfl (fun _ hf => ?_) (fun _ hf => ?_)
  · refine ev_sts 1 (c2 := (44, [.ref 63, .int x1, .int x2], [.int x2], S8, 0)) rfl ?_
    rcases ite_or hf with ⟨h9, hf⟩ | ⟨h9, hf⟩
    · refine ev_sw (l2 := [.ref 63, .int x1, .int x2]) (st2 := []) (msw_p h9) rfl rfl ?_
      show Ev (d + 10) Mx214 (72, [.ref 63, .int x1, .int x2], [], S8, 0) r
      refine ev_sts 5 (c2 := (80, [.ref 63, .int x1, .int x2], [.int ((6 : Int32)), .ref 64, .int x1, .ref 63], S8, 0)) rfl ?_
      refine ev_gd (c1 := (81, [.ref 63, .int x1, .int x2], [.int (S8 64 ((6 : Int32)).toNatClampNeg), .int x1, .ref 63], S8, 0)) hf rfl rfl (fun hf => ?_)
      refine ev_bI0 (d := d + 9) (M' := Mx211) (ct := (84, [.ref 63, .int x1, .int x2], [], S8, 0)) hf rfl rfl rfl rfl (fun r9 h9 => f_X10_laysOf_ok (d := d + 3) h9) (fun r12 S11 hf => ?_)
      show Ev (d + 10) Mx214 (84, [.ref 63, .int x1, .int x2], [.int r12], S11, 0) r
      exact ev_ret hf rfl rfl
    rcases ite_or hf with ⟨h12, hf⟩ | ⟨h12, hf⟩
    · refine ev_sw (l2 := [.ref 63, .int x1, .int x2]) (st2 := []) (msw_n h9 (msw_p h12)) rfl rfl ?_
      show Ev (d + 10) Mx214 (85, [.ref 63, .int x1, .int x2], [], S8, 0) r
      refine ev_sts 2 (c2 := (87, [.ref 63, .int x1, .int x2], [.int x1, .ref 63], S8, 0)) rfl ?_
      refine ev_bI0 (d := d + 9) (M' := Mx212) (ct := (90, [.ref 63, .int x1, .int x2], [], S8, 0)) hf rfl rfl rfl rfl (fun r9 h9 => f_X10_windsTo_ok (d := d) h9) (fun r15 S14 hf => ?_)
      show Ev (d + 10) Mx214 (90, [.ref 63, .int x1, .int x2], [.int r15], S14, 0) r
      exact ev_ret hf rfl rfl
    rcases ite_or hf with ⟨h15, hf⟩ | ⟨h15, hf⟩
    · refine ev_sw (l2 := [.ref 63, .int x1, .int x2]) (st2 := []) (msw_n h9 (msw_n h12 (msw_p h15))) rfl rfl ?_
      show Ev (d + 10) Mx214 (91, [.ref 63, .int x1, .int x2], [], S8, 0) r
      refine ev_sts 2 (c2 := (93, [.ref 63, .int x1, .int x2], [.int x1, .ref 63], S8, 0)) rfl ?_
      refine ev_bI0 (d := d + 9) (M' := Mx213) (ct := (96, [.ref 63, .int x1, .int x2], [], S8, 0)) hf rfl rfl rfl rfl (fun r9 h9 => f_X10_nextTo_ok (d := d + 7) h9) (fun r18 S17 hf => ?_)
      show Ev (d + 10) Mx214 (96, [.ref 63, .int x1, .int x2], [.int r18], S17, 0) r
      exact ev_ret hf rfl rfl
    refine ev_sw (l2 := [.ref 63, .int x1, .int x2]) (st2 := []) (msw_n h9 (msw_n h12 (msw_n h15 rfl))) rfl rfl ?_
    show Ev (d + 10) Mx214 (97, [.ref 63, .int x1, .int x2], [], S8, 0) r
    refine ev_sts 3 (c2 := (100, [.ref 63, .int x1, .int x2], [.int x2, .int x1, .ref 63], S8, 0)) rfl ?_
    refine ev_bI0 (d := d + 9) (M' := Mx166) (ct := (103, [.ref 63, .int x1, .int x2], [], S8, 0)) hf rfl rfl rfl rfl (fun r9 h9 => f_X10_of_ok (d := d + 8) h9) (fun r20 S19 hf => ?_)
    show Ev (d + 10) Mx214 (103, [.ref 63, .int x1, .int x2], [.int r20], S19, 0) r
    exact ev_ret hf rfl rfl
  · exact f_X10_ledge_b41_ok hf
theorem f_X10_ledge_ok {d F : Nat} {p1 : Int32} {p2 : Int32} {S : mS} {r : mR} (hf : f_X10_ledge F p1 p2 S = some r) : Ev (d + 10) Mx214 (entry Mx214 [.ref 63, .int p1, .int p2] S) r := by
  unfold f_X10_ledge at hf
  refine ev_sts 3 (c2 := (5, [.ref 63, .int p1, .int p2], [], (upS S 63 0 ((0 : Int32))), 0)) rfl ?_
  refine ev_let (P := fun S1 => Ev (d + 10) Mx214 (5, [.ref 63, .int p1, .int p2], [], S1, 0) r) (fun S1 hf => ?_) hf
  refine ev_sts 3 (c2 := (8, [.ref 63, .int p1, .int p2], [.int p1, .ref 63, .ref 63], S1, 0)) rfl ?_
  refine ev_bI0 (d := d + 9) (M' := Mx169) (ct := (11, [.ref 63, .int p1, .int p2], [.ref 63], S1, 0)) hf rfl rfl rfl rfl (fun r9 h9 => f_X10_noLedge_ok (d := d + 8) h9) (fun r3 S2 hf => ?_)
  show Ev (d + 10) Mx214 (11, [.ref 63, .int p1, .int p2], [.int r3, .ref 63], S2, 0) r
  refine ev_sts 1 (c2 := (12, [.ref 63, .int p1, .int p2], [.int ((1 : Int32)), .int r3, .ref 63], S2, 0)) rfl ?_
  refine ev_bI0 (d := d + 9) (M' := Mx155) (ct := (15, [.ref 63, .int p1, .int p2], [], S2, 0)) hf rfl rfl rfl rfl (fun r9 h9 => f_X10_throwsIf_ok (d := d + 9) h9) (fun r5 S4 hf => ?_)
  show Ev (d + 10) Mx214 (15, [.ref 63, .int p1, .int p2], [.int r5], S4, 0) r
  refine ev_if (c1 := (41, [mK, mK, mK], [], S4, 0)) (c2 := (18, [.ref 63, .int p1, .int p2], [], S4, 0)) hf rfl rfl (fun _ hf => ?_) (fun _ hf => ?_)
  · exact f_X10_ledge_b41_ok hf
  · refine ev_sts 4 (c2 := (23, [.ref 63, .int p1, .int p2], [.int ((7 : Int32)), .int ((0 : Int32)), .int p2, .ref 63], S4, 0)) rfl ?_
    refine ev_bI0 (d := d + 9) (M' := Mx156) (ct := (26, [.ref 63, .int p1, .int p2], [.ref 63], S4, 0)) hf rfl rfl rfl rfl (fun r9 h9 => f_X10_in_ok (d := d + 9) h9) (fun r7 S6 hf => ?_)
    show Ev (d + 10) Mx214 (26, [.ref 63, .int p1, .int p2], [.int r7, .ref 63], S6, 0) r
    refine ev_if (c1 := (33, [.ref 63, .int p1, .int p2], [.ref 63], S6, 0)) (c2 := (29, [.ref 63, .int p1, .int p2], [.ref 63], S6, 0)) hf rfl rfl (fun _ hf => ?_) (fun _ hf => ?_)
    · exact ev_sts 1 (c2 := (34, [.ref 63, .int p1, .int p2], [.int ((0 : Int32)), .ref 63], S6, 0)) rfl (f_X10_ledge_b34_ok hf)
    · exact ev_sts 2 (c2 := (34, [.ref 63, .int p1, .int p2], [.int ((1 : Int32)), .ref 63], S6, 0)) rfl (f_X10_ledge_b34_ok hf)
def f_X10_takes_b87 (S : mS) : Option mR := some (.inl none, S)
def f_X10_takes_b34 (x1 : Int32) (x2 : Int32) (x3 : Int32) (t3 : Int32) (t2 : Int32) (t1 : Int32) (S : mS) : Option mR := gd (inb t1 2145) (bnd (upS S 64 t1.toNatClampNeg (t2 + t3)) (fun S4 => gd (inb ((((79 : Int32)) + (((2 : Int32)) * x1)) + ((1 : Int32))) 2145) (gd (inb ((((79 : Int32)) + (((2 : Int32)) * x1)) + ((1 : Int32))) 2145) (bnd (upS S4 64 ((((79 : Int32)) + (((2 : Int32)) * x1)) + ((1 : Int32))).toNatClampNeg ((S4 64 ((((79 : Int32)) + (((2 : Int32)) * x1)) + ((1 : Int32))).toNatClampNeg) + x3)) (fun S5 => bI0 (f_X10_at x2 ((2 : Int32)) S5) (fun r7 S6 => gd (inb r7 2145) (gd (inb r7 2145) (bnd (upS S6 64 r7.toNatClampNeg ((S6 64 r7.toNatClampNeg) - x3)) (fun S8 => bI0 (f_X10_of x2 ((2 : Int32)) S8) (fun r10 S9 => (if ¬ r10 = 0 then f_X10_takes_b87 S9 else bI0 (f_X10_at x2 ((3 : Int32)) S9) (fun r12 S11 => gd (inb r12 2145) (bnd (upS S11 64 r12.toNatClampNeg ((0 : Int32))) (fun S13 => f_X10_takes_b87 S13))))))))))))))
def f_X10_takes (p1 : Int32) (p2 : Int32) (p3 : Int32) (S : mS) : Option mR := gd (inb ((10 : Int32)) 2145) (gd (inb ((10 : Int32)) 2145) (bnd (upS S 64 ((10 : Int32)).toNatClampNeg ((S 64 ((10 : Int32)).toNatClampNeg) + p3)) (fun S1 => gd (inb ((11 : Int32)) 2145) (bI0 (f_X10_of p2 ((3 : Int32)) S1) (fun r3 S2 => (if r3 ≤ ((3 : Int32)) then f_X10_takes_b34 p1 p2 p3 ((0 : Int32)) (S1 64 ((11 : Int32)).toNatClampNeg) ((11 : Int32)) S2 else f_X10_takes_b34 p1 p2 p3 p3 (S1 64 ((11 : Int32)).toNatClampNeg) ((11 : Int32)) S2))))))
theorem f_X10_takes_b87_ok {d : Nat} {S : mS} {r : mR} (hf : f_X10_takes_b87  S = some r) : Ev (d + 2) Mx238 (87, [mK, mK, mK, mK], [], S, 0) r := by
  unfold f_X10_takes_b87 at hf
  exact ev_ret hf rfl rfl
theorem f_X10_takes_b34_ok {d : Nat} {x1 : Int32} {x2 : Int32} {x3 : Int32} {t3 : Int32} {t2 : Int32} {t1 : Int32} {S : mS} {r : mR} (hf : f_X10_takes_b34 x1 x2 x3 t3 t2 t1 S = some r) : Ev (d + 2) Mx238 (34, [.ref 63, .int x1, .int x2, .int x3], [.int t3, .int t2, .int t1, .ref 64], S, 0) r := by
  unfold f_X10_takes_b34 at hf
  refine ev_sts 1 (c2 := (35, [.ref 63, .int x1, .int x2, .int x3], [.int (t2 + t3), .int t1, .ref 64], S, 0)) rfl ?_
  refine ev_gd (c1 := (36, [.ref 63, .int x1, .int x2, .int x3], [], (upS S 64 t1.toNatClampNeg (t2 + t3)), 0)) hf rfl rfl (fun hf => ?_)
  refine ev_let (P := fun S4 => Ev (d + 2) Mx238 (36, [.ref 63, .int x1, .int x2, .int x3], [], S4, 0) r) (fun S4 hf => ?_) hf
  refine ev_sts 10 (c2 := (49, [.ref 63, .int x1, .int x2, .int x3], [.int ((((79 : Int32)) + (((2 : Int32)) * x1)) + ((1 : Int32))), .ref 64, .int ((((79 : Int32)) + (((2 : Int32)) * x1)) + ((1 : Int32))), .ref 64], S4, 0)) rfl ?_
  refine ev_gd (c1 := (50, [.ref 63, .int x1, .int x2, .int x3], [.int (S4 64 ((((79 : Int32)) + (((2 : Int32)) * x1)) + ((1 : Int32))).toNatClampNeg), .int ((((79 : Int32)) + (((2 : Int32)) * x1)) + ((1 : Int32))), .ref 64], S4, 0)) hf rfl rfl (fun hf => ?_)
  refine ev_sts 2 (c2 := (52, [.ref 63, .int x1, .int x2, .int x3], [.int ((S4 64 ((((79 : Int32)) + (((2 : Int32)) * x1)) + ((1 : Int32))).toNatClampNeg) + x3), .int ((((79 : Int32)) + (((2 : Int32)) * x1)) + ((1 : Int32))), .ref 64], S4, 0)) rfl ?_
  refine ev_gd (c1 := (53, [.ref 63, .int x1, .int x2, .int x3], [], (upS S4 64 ((((79 : Int32)) + (((2 : Int32)) * x1)) + ((1 : Int32))).toNatClampNeg ((S4 64 ((((79 : Int32)) + (((2 : Int32)) * x1)) + ((1 : Int32))).toNatClampNeg) + x3)), 0)) hf rfl rfl (fun hf => ?_)
  refine ev_let (P := fun S5 => Ev (d + 2) Mx238 (53, [.ref 63, .int x1, .int x2, .int x3], [], S5, 0) r) (fun S5 hf => ?_) hf
  refine ev_sts 4 (c2 := (59, [.ref 63, .int x1, .int x2, .int x3], [.int ((2 : Int32)), .int x2, .ref 64], S5, 0)) rfl ?_
  refine ev_bI0 (d := d + 1) (M' := Mx165) (ct := (62, [.ref 63, .int x1, .int x2, .int x3], [.ref 64], S5, 0)) hf rfl rfl rfl rfl (fun r9 h9 => f_X10_at_ok (d := d + 1) h9) (fun r7 S6 hf => ?_)
  show Ev (d + 2) Mx238 (62, [.ref 63, .int x1, .int x2, .int x3], [.int r7, .ref 64], S6, 0) r
  refine ev_sts 1 (c2 := (63, [.ref 63, .int x1, .int x2, .int x3], [.int r7, .ref 64, .int r7, .ref 64], S6, 0)) rfl ?_
  refine ev_gd (c1 := (64, [.ref 63, .int x1, .int x2, .int x3], [.int (S6 64 r7.toNatClampNeg), .int r7, .ref 64], S6, 0)) hf rfl rfl (fun hf => ?_)
  refine ev_sts 2 (c2 := (66, [.ref 63, .int x1, .int x2, .int x3], [.int ((S6 64 r7.toNatClampNeg) - x3), .int r7, .ref 64], S6, 0)) rfl ?_
  refine ev_gd (c1 := (67, [.ref 63, .int x1, .int x2, .int x3], [], (upS S6 64 r7.toNatClampNeg ((S6 64 r7.toNatClampNeg) - x3)), 0)) hf rfl rfl (fun hf => ?_)
  refine ev_let (P := fun S8 => Ev (d + 2) Mx238 (67, [.ref 63, .int x1, .int x2, .int x3], [], S8, 0) r) (fun S8 hf => ?_) hf
  refine ev_sts 3 (c2 := (70, [.ref 63, .int x1, .int x2, .int x3], [.int ((2 : Int32)), .int x2, .ref 63], S8, 0)) rfl ?_
  refine ev_bI0 (d := d + 1) (M' := Mx166) (ct := (73, [.ref 63, .int x1, .int x2, .int x3], [], S8, 0)) hf rfl rfl rfl rfl (fun r9 h9 => f_X10_of_ok (d := d) h9) (fun r10 S9 hf => ?_)
  show Ev (d + 2) Mx238 (73, [.ref 63, .int x1, .int x2, .int x3], [.int r10], S9, 0) r
  refine ev_if (c1 := (87, [mK, mK, mK, mK], [], S9, 0)) (c2 := (76, [.ref 63, .int x1, .int x2, .int x3], [], S9, 0)) hf rfl rfl (fun _ hf => ?_) (fun _ hf => ?_)
  · exact f_X10_takes_b87_ok hf
  · refine ev_sts 4 (c2 := (82, [.ref 63, .int x1, .int x2, .int x3], [.int ((3 : Int32)), .int x2, .ref 64], S9, 0)) rfl ?_
    refine ev_bI0 (d := d + 1) (M' := Mx165) (ct := (85, [.ref 63, .int x1, .int x2, .int x3], [.ref 64], S9, 0)) hf rfl rfl rfl rfl (fun r9 h9 => f_X10_at_ok (d := d + 1) h9) (fun r12 S11 hf => ?_)
    show Ev (d + 2) Mx238 (85, [.ref 63, .int x1, .int x2, .int x3], [.int r12, .ref 64], S11, 0) r
    refine ev_sts 1 (c2 := (86, [.ref 63, .int x1, .int x2, .int x3], [.int ((0 : Int32)), .int r12, .ref 64], S11, 0)) rfl ?_
    refine ev_gd (c1 := (87, [mK, mK, mK, mK], [], (upS S11 64 r12.toNatClampNeg ((0 : Int32))), 0)) hf rfl rfl (fun hf => ?_)
    refine ev_let (P := fun S13 => Ev (d + 2) Mx238 (87, [mK, mK, mK, mK], [], S13, 0) r) (fun S13 hf => ?_) hf
    exact f_X10_takes_b87_ok hf
theorem f_X10_takes_ok {d : Nat} {p1 : Int32} {p2 : Int32} {p3 : Int32} {S : mS} {r : mR} (hf : f_X10_takes p1 p2 p3 S = some r) : Ev (d + 2) Mx238 (entry Mx238 [.ref 63, .int p1, .int p2, .int p3] S) r := by
  unfold f_X10_takes at hf
  refine ev_sts 4 (c2 := (7, [.ref 63, .int p1, .int p2, .int p3], [.int ((10 : Int32)), .ref 64, .int ((10 : Int32)), .ref 64], S, 0)) rfl ?_
  refine ev_gd (c1 := (8, [.ref 63, .int p1, .int p2, .int p3], [.int (S 64 ((10 : Int32)).toNatClampNeg), .int ((10 : Int32)), .ref 64], S, 0)) hf rfl rfl (fun hf => ?_)
  refine ev_sts 2 (c2 := (10, [.ref 63, .int p1, .int p2, .int p3], [.int ((S 64 ((10 : Int32)).toNatClampNeg) + p3), .int ((10 : Int32)), .ref 64], S, 0)) rfl ?_
  refine ev_gd (c1 := (11, [.ref 63, .int p1, .int p2, .int p3], [], (upS S 64 ((10 : Int32)).toNatClampNeg ((S 64 ((10 : Int32)).toNatClampNeg) + p3)), 0)) hf rfl rfl (fun hf => ?_)
  refine ev_let (P := fun S1 => Ev (d + 2) Mx238 (11, [.ref 63, .int p1, .int p2, .int p3], [], S1, 0) r) (fun S1 hf => ?_) hf
  refine ev_sts 4 (c2 := (18, [.ref 63, .int p1, .int p2, .int p3], [.int ((11 : Int32)), .ref 64, .int ((11 : Int32)), .ref 64], S1, 0)) rfl ?_
  refine ev_gd (c1 := (19, [.ref 63, .int p1, .int p2, .int p3], [.int (S1 64 ((11 : Int32)).toNatClampNeg), .int ((11 : Int32)), .ref 64], S1, 0)) hf rfl rfl (fun hf => ?_)
  refine ev_sts 3 (c2 := (22, [.ref 63, .int p1, .int p2, .int p3], [.int ((3 : Int32)), .int p2, .ref 63, .int (S1 64 ((11 : Int32)).toNatClampNeg), .int ((11 : Int32)), .ref 64], S1, 0)) rfl ?_
  refine ev_bI0 (d := d + 1) (M' := Mx166) (ct := (25, [.ref 63, .int p1, .int p2, .int p3], [.int (S1 64 ((11 : Int32)).toNatClampNeg), .int ((11 : Int32)), .ref 64], S1, 0)) hf rfl rfl rfl rfl (fun r9 h9 => f_X10_of_ok (d := d) h9) (fun r3 S2 hf => ?_)
  show Ev (d + 2) Mx238 (25, [.ref 63, .int p1, .int p2, .int p3], [.int r3, .int (S1 64 ((11 : Int32)).toNatClampNeg), .int ((11 : Int32)), .ref 64], S2, 0) r
  refine ev_sts 1 (c2 := (26, [.ref 63, .int p1, .int p2, .int p3], [.int ((3 : Int32)), .int r3, .int (S1 64 ((11 : Int32)).toNatClampNeg), .int ((11 : Int32)), .ref 64], S2, 0)) rfl ?_
  refine ev_if (c1 := (33, [.ref 63, .int p1, .int p2, .int p3], [.int (S1 64 ((11 : Int32)).toNatClampNeg), .int ((11 : Int32)), .ref 64], S2, 0)) (c2 := (29, [.ref 63, .int p1, .int p2, .int p3], [.int (S1 64 ((11 : Int32)).toNatClampNeg), .int ((11 : Int32)), .ref 64], S2, 0)) hf rfl rfl (fun _ hf => ?_) (fun _ hf => ?_)
  · exact ev_sts 1 (c2 := (34, [.ref 63, .int p1, .int p2, .int p3], [.int ((0 : Int32)), .int (S1 64 ((11 : Int32)).toNatClampNeg), .int ((11 : Int32)), .ref 64], S2, 0)) rfl (f_X10_takes_b34_ok hf)
  · exact ev_sts 2 (c2 := (34, [.ref 63, .int p1, .int p2, .int p3], [.int p3, .int (S1 64 ((11 : Int32)).toNatClampNeg), .int ((11 : Int32)), .ref 64], S2, 0)) rfl (f_X10_takes_b34_ok hf)
def f_X10_tells_b103 (F : Nat) (t2 : Int32) (t1 : Int32) (S : mS) : Option mR := gd (inb t1 2145) (bnd (upS S 64 t1.toNatClampNeg t2) (fun S6 => gd (inb ((15 : Int32)) 2145) (gd (inb ((15 : Int32)) 2145) (bnd (upS S6 64 ((15 : Int32)).toNatClampNeg (if ((S6 64 ((15 : Int32)).toNatClampNeg) + ((1 : Int32))) < ((60 : Int32)) then ((S6 64 ((15 : Int32)).toNatClampNeg) + ((1 : Int32))) else ((60 : Int32)))) (fun S7 => some (.inl none, S7))))))
def f_X10_tells_b5 (F : Nat) : Nat → Int32 → Int32 → Int32 → Int32 → Int32 → Int32 → mS → Option mR
  | 0, _, _, _, _, _, _, _ => none
  | n + 1, x1, x2, x3, x4, x5, x6, S => (if x6 < ((6 : Int32)) then gd (inb ((5 : Int32)) 2145) (gd (inb ((87 : Int32)) 2145) (bnd (upS S 64 ((87 : Int32)).toNatClampNeg (S 64 ((5 : Int32)).toNatClampNeg)) (fun S1 => gd (inb ((88 : Int32)) 2145) (bnd (upS S1 64 ((88 : Int32)).toNatClampNeg x1) (fun S2 => gd (inb ((89 : Int32)) 2145) (bnd (upS S2 64 ((89 : Int32)).toNatClampNeg x2) (fun S3 => gd (inb ((90 : Int32)) 2145) (bnd (upS S3 64 ((90 : Int32)).toNatClampNeg x3) (fun S4 => gd (inb ((91 : Int32)) 2145) (bnd (upS S4 64 ((91 : Int32)).toNatClampNeg x4) (fun S5 => (if x5 = 0 then f_X10_tells_b103 F ((0 : Int32)) ((92 : Int32)) S5 else f_X10_tells_b103 F ((1 : Int32)) ((92 : Int32)) S5)))))))))))) else gd (inb ((((87 : Int32)) + x6) - ((6 : Int32))) 2145) (gd (inb (((87 : Int32)) + x6) 2145) (bnd (upS S 64 (((87 : Int32)) + x6).toNatClampNeg (S 64 ((((87 : Int32)) + x6) - ((6 : Int32))).toNatClampNeg)) (fun S8 => f_X10_tells_b5 F n x1 x2 x3 x4 x5 (x6 + (-1 : Int32)) S8))))
def f_X10_tells (F : Nat) (p1 : Int32) (p2 : Int32) (p3 : Int32) (p4 : Int32) (p5 : Int32) (S : mS) : Option mR := f_X10_tells_b5 F F p1 p2 p3 p4 p5 ((359 : Int32)) S
theorem f_X10_tells_b103_ok {d F : Nat} {t2 : Int32} {t1 : Int32} {S : mS} {r : mR} (hf : f_X10_tells_b103 F t2 t1 S = some r) : Ev (d) Mx237 (103, [.ref 63, mK, mK, mK, mK, mK, mK], [.int t2, .int t1, .ref 64], S, 0) r := by
  unfold f_X10_tells_b103 at hf
  refine ev_gd (c1 := (104, [.ref 63, mK, mK, mK, mK, mK, mK], [], (upS S 64 t1.toNatClampNeg t2), 0)) hf rfl rfl (fun hf => ?_)
  refine ev_let (P := fun S6 => Ev (d) Mx237 (104, [.ref 63, mK, mK, mK, mK, mK, mK], [], S6, 0) r) (fun S6 hf => ?_) hf
  refine ev_sts 7 (c2 := (118, [.ref 63, mK, mK, mK, mK, mK, mK], [.int ((15 : Int32)), .ref 64, .int ((60 : Int32)), .int ((15 : Int32)), .ref 64], S6, 0)) rfl ?_
  refine ev_gd (c1 := (119, [.ref 63, mK, mK, mK, mK, mK, mK], [.int (S6 64 ((15 : Int32)).toNatClampNeg), .int ((60 : Int32)), .int ((15 : Int32)), .ref 64], S6, 0)) hf rfl rfl (fun hf => ?_)
  refine ev_sts 3 (c2 := (124, [.ref 63, mK, mK, mK, mK, mK, mK], [.int (if ((S6 64 ((15 : Int32)).toNatClampNeg) + ((1 : Int32))) < ((60 : Int32)) then ((S6 64 ((15 : Int32)).toNatClampNeg) + ((1 : Int32))) else ((60 : Int32))), .int ((15 : Int32)), .ref 64], S6, 0)) rfl ?_
  refine ev_gd (c1 := (125, [.ref 63, mK, mK, mK, mK, mK, mK], [], (upS S6 64 ((15 : Int32)).toNatClampNeg (if ((S6 64 ((15 : Int32)).toNatClampNeg) + ((1 : Int32))) < ((60 : Int32)) then ((S6 64 ((15 : Int32)).toNatClampNeg) + ((1 : Int32))) else ((60 : Int32)))), 0)) hf rfl rfl (fun hf => ?_)
  refine ev_let (P := fun S7 => Ev (d) Mx237 (125, [.ref 63, mK, mK, mK, mK, mK, mK], [], S7, 0) r) (fun S7 hf => ?_) hf
  exact ev_ret hf rfl rfl
theorem f_X10_tells_b5_ok {d F : Nat} : ∀ (n : Nat) {x1 : Int32} {x2 : Int32} {x3 : Int32} {x4 : Int32} {x5 : Int32} {x6 : Int32} {S : mS} {r : mR}, f_X10_tells_b5 F n x1 x2 x3 x4 x5 x6 S = some r → Ev (d) Mx237 (5, [.ref 63, .int x1, .int x2, .int x3, .int x4, .int x5, .int x6], [], S, 0) r := by
  intro n
  induction n with
  | zero => intro x1 x2 x3 x4 x5 x6 S r hf; cases hf
  | succ n ih =>
    intro x1 x2 x3 x4 x5 x6 S r hf
    rw [f_X10_tells_b5] at hf
    refine ev_sts 2 (c2 := (9, [.ref 63, .int x1, .int x2, .int x3, .int x4, .int x5, .int x6], [.int ((6 : Int32)), .int x6], S, 0)) rfl ?_
    refine ev_if (c1 := (41, [.ref 63, .int x1, .int x2, .int x3, .int x4, .int x5, .int x6], [], S, 0)) (c2 := (12, [.ref 63, .int x1, .int x2, .int x3, .int x4, .int x5, .int x6], [], S, 0)) hf rfl rfl (fun _ hf => ?_) (fun _ hf => ?_)
    · refine ev_sts 6 (c2 := (52, [.ref 63, .int x1, .int x2, .int x3, .int x4, .int x5, .int x6], [.int ((5 : Int32)), .ref 64, .int ((87 : Int32)), .ref 64], S, 0)) rfl ?_
      refine ev_gd (c1 := (53, [.ref 63, .int x1, .int x2, .int x3, .int x4, .int x5, .int x6], [.int (S 64 ((5 : Int32)).toNatClampNeg), .int ((87 : Int32)), .ref 64], S, 0)) hf rfl rfl (fun hf => ?_)
      refine ev_gd (c1 := (54, [.ref 63, .int x1, .int x2, .int x3, .int x4, .int x5, .int x6], [], (upS S 64 ((87 : Int32)).toNatClampNeg (S 64 ((5 : Int32)).toNatClampNeg)), 0)) hf rfl rfl (fun hf => ?_)
      refine ev_let (P := fun S1 => Ev (d) Mx237 (54, [.ref 63, .int x1, .int x2, .int x3, .int x4, .int x5, .int x6], [], S1, 0) r) (fun S1 hf => ?_) hf
      refine ev_sts 4 (c2 := (61, [.ref 63, .int x1, .int x2, .int x3, .int x4, .int x5, .int x6], [.int x1, .int ((88 : Int32)), .ref 64], S1, 0)) rfl ?_
      refine ev_gd (c1 := (62, [.ref 63, .int x1, .int x2, .int x3, .int x4, .int x5, .int x6], [], (upS S1 64 ((88 : Int32)).toNatClampNeg x1), 0)) hf rfl rfl (fun hf => ?_)
      refine ev_let (P := fun S2 => Ev (d) Mx237 (62, [.ref 63, .int x1, .int x2, .int x3, .int x4, .int x5, .int x6], [], S2, 0) r) (fun S2 hf => ?_) hf
      refine ev_sts 4 (c2 := (69, [.ref 63, .int x1, .int x2, .int x3, .int x4, .int x5, .int x6], [.int x2, .int ((89 : Int32)), .ref 64], S2, 0)) rfl ?_
      refine ev_gd (c1 := (70, [.ref 63, .int x1, .int x2, .int x3, .int x4, .int x5, .int x6], [], (upS S2 64 ((89 : Int32)).toNatClampNeg x2), 0)) hf rfl rfl (fun hf => ?_)
      refine ev_let (P := fun S3 => Ev (d) Mx237 (70, [.ref 63, .int x1, .int x2, .int x3, .int x4, .int x5, .int x6], [], S3, 0) r) (fun S3 hf => ?_) hf
      refine ev_sts 4 (c2 := (77, [.ref 63, .int x1, .int x2, .int x3, .int x4, .int x5, .int x6], [.int x3, .int ((90 : Int32)), .ref 64], S3, 0)) rfl ?_
      refine ev_gd (c1 := (78, [.ref 63, .int x1, .int x2, .int x3, .int x4, .int x5, .int x6], [], (upS S3 64 ((90 : Int32)).toNatClampNeg x3), 0)) hf rfl rfl (fun hf => ?_)
      refine ev_let (P := fun S4 => Ev (d) Mx237 (78, [.ref 63, .int x1, .int x2, .int x3, .int x4, .int x5, .int x6], [], S4, 0) r) (fun S4 hf => ?_) hf
      refine ev_sts 4 (c2 := (86, [.ref 63, .int x1, .int x2, .int x3, .int x4, .int x5, .int x6], [.int x4, .int ((91 : Int32)), .ref 64], S4, 0)) rfl ?_
      refine ev_gd (c1 := (87, [.ref 63, .int x1, .int x2, .int x3, .int x4, .int x5, .int x6], [], (upS S4 64 ((91 : Int32)).toNatClampNeg x4), 0)) hf rfl rfl (fun hf => ?_)
      refine ev_let (P := fun S5 => Ev (d) Mx237 (87, [.ref 63, .int x1, .int x2, .int x3, .int x4, .int x5, .int x6], [], S5, 0) r) (fun S5 hf => ?_) hf
      refine ev_sts 4 (c2 := (95, [.ref 63, .int x1, .int x2, .int x3, .int x4, .int x5, .int x6], [.int x5, .int ((92 : Int32)), .ref 64], S5, 0)) rfl ?_
      refine ev_if (c1 := (102, [.ref 63, .int x1, .int x2, .int x3, .int x4, .int x5, .int x6], [.int ((92 : Int32)), .ref 64], S5, 0)) (c2 := (98, [.ref 63, .int x1, .int x2, .int x3, .int x4, .int x5, .int x6], [.int ((92 : Int32)), .ref 64], S5, 0)) hf rfl rfl (fun _ hf => ?_) (fun _ hf => ?_)
      · exact ev_sts 1 (c2 := (103, [.ref 63, mK, mK, mK, mK, mK, mK], [.int ((0 : Int32)), .int ((92 : Int32)), .ref 64], S5, 0)) rfl (f_X10_tells_b103_ok hf)
      · exact ev_sts 2 (c2 := (103, [.ref 63, mK, mK, mK, mK, mK, mK], [.int ((1 : Int32)), .int ((92 : Int32)), .ref 64], S5, 0)) rfl (f_X10_tells_b103_ok hf)
    · refine ev_sts 12 (c2 := (33, [.ref 63, .int x1, .int x2, .int x3, .int x4, .int x5, .int x6], [.int ((((87 : Int32)) + x6) - ((6 : Int32))), .ref 64, .int (((87 : Int32)) + x6), .ref 64], S, 0)) rfl ?_
      refine ev_gd (c1 := (34, [.ref 63, .int x1, .int x2, .int x3, .int x4, .int x5, .int x6], [.int (S 64 ((((87 : Int32)) + x6) - ((6 : Int32))).toNatClampNeg), .int (((87 : Int32)) + x6), .ref 64], S, 0)) hf rfl rfl (fun hf => ?_)
      refine ev_gd (c1 := (35, [.ref 63, .int x1, .int x2, .int x3, .int x4, .int x5, .int x6], [], (upS S 64 (((87 : Int32)) + x6).toNatClampNeg (S 64 ((((87 : Int32)) + x6) - ((6 : Int32))).toNatClampNeg)), 0)) hf rfl rfl (fun hf => ?_)
      refine ev_let (P := fun S8 => Ev (d) Mx237 (35, [.ref 63, .int x1, .int x2, .int x3, .int x4, .int x5, .int x6], [], S8, 0) r) (fun S8 hf => ?_) hf
      exact ev_sts 2 (c2 := (5, [.ref 63, .int x1, .int x2, .int x3, .int x4, .int x5, .int (x6 + (-1 : Int32))], [], S8, 0)) rfl (ih hf)
theorem f_X10_tells_ok {d F : Nat} {p1 : Int32} {p2 : Int32} {p3 : Int32} {p4 : Int32} {p5 : Int32} {S : mS} {r : mR} (hf : f_X10_tells F p1 p2 p3 p4 p5 S = some r) : Ev (d) Mx237 (entry Mx237 [.ref 63, .int p1, .int p2, .int p3, .int p4, .int p5] S) r := by
  unfold f_X10_tells at hf
  exact ev_sts 2 (c2 := (5, [.ref 63, .int p1, .int p2, .int p3, .int p4, .int p5, .int ((359 : Int32))], [], S, 0)) rfl (f_X10_tells_b5_ok _ hf)
def f_X10_tires_b2 (F : Nat) : Nat → Int32 → mS → Option mR
  | 0, _, _ => none
  | n + 1, x1, S => bI0 (f_X10_holders S) (fun r2 S1 => (if r2 ≤ x1 then some (.inl none, S1) else bI0 (f_X10_ofHolder x1 ((1 : Int32)) S1) (fun r4 S3 => gd (inb ((((67 : Int32)) + (((2 : Int32)) * x1)) + ((1 : Int32))) 2145) (bnd (upS S3 64 ((((67 : Int32)) + (((2 : Int32)) * x1)) + ((1 : Int32))).toNatClampNeg (if (r4 + ((1 : Int32))) < ((9 : Int32)) then (r4 + ((1 : Int32))) else ((9 : Int32)))) (fun S5 => f_X10_tires_b2 F n (x1 + (1 : Int32)) S5)))))
def f_X10_tires (F : Nat) (S : mS) : Option mR := f_X10_tires_b2 F F ((0 : Int32)) S
theorem f_X10_tires_b2_ok {d F : Nat} : ∀ (n : Nat) {x1 : Int32} {S : mS} {r : mR}, f_X10_tires_b2 F n x1 S = some r → Ev (d + 1) Mx235 (2, [.ref 63, .int x1], [], S, 0) r := by
  intro n
  induction n with
  | zero => intro x1 S r hf; cases hf
  | succ n ih =>
    intro x1 S r hf
    rw [f_X10_tires_b2] at hf
    refine ev_sts 2 (c2 := (4, [.ref 63, .int x1], [.ref 63, .int x1], S, 0)) rfl ?_
    refine ev_bI0 (d := d) (M' := Mx163) (ct := (7, [.ref 63, .int x1], [.int x1], S, 0)) hf rfl rfl rfl rfl (fun r9 h9 => f_X10_holders_ok (d := d) h9) (fun r2 S1 hf => ?_)
    show Ev (d + 1) Mx235 (7, [.ref 63, .int x1], [.int r2, .int x1], S1, 0) r
    refine ev_if (c1 := (42, [.ref 63, .int x1], [], S1, 0)) (c2 := (10, [.ref 63, .int x1], [], S1, 0)) hf rfl rfl (fun _ hf => ?_) (fun _ hf => ?_)
    · exact ev_ret hf rfl rfl
    · refine ev_sts 13 (c2 := (27, [.ref 63, .int x1], [.int ((1 : Int32)), .int x1, .ref 63, .int ((9 : Int32)), .int ((((67 : Int32)) + (((2 : Int32)) * x1)) + ((1 : Int32))), .ref 64], S1, 0)) rfl ?_
      refine ev_bI0 (d := d) (M' := Mx167) (ct := (30, [.ref 63, .int x1], [.int ((9 : Int32)), .int ((((67 : Int32)) + (((2 : Int32)) * x1)) + ((1 : Int32))), .ref 64], S1, 0)) hf rfl rfl rfl rfl (fun r9 h9 => f_X10_ofHolder_ok (d := d) h9) (fun r4 S3 hf => ?_)
      show Ev (d + 1) Mx235 (30, [.ref 63, .int x1], [.int r4, .int ((9 : Int32)), .int ((((67 : Int32)) + (((2 : Int32)) * x1)) + ((1 : Int32))), .ref 64], S3, 0) r
      refine ev_sts 3 (c2 := (35, [.ref 63, .int x1], [.int (if (r4 + ((1 : Int32))) < ((9 : Int32)) then (r4 + ((1 : Int32))) else ((9 : Int32))), .int ((((67 : Int32)) + (((2 : Int32)) * x1)) + ((1 : Int32))), .ref 64], S3, 0)) rfl ?_
      refine ev_gd (c1 := (36, [.ref 63, .int x1], [], (upS S3 64 ((((67 : Int32)) + (((2 : Int32)) * x1)) + ((1 : Int32))).toNatClampNeg (if (r4 + ((1 : Int32))) < ((9 : Int32)) then (r4 + ((1 : Int32))) else ((9 : Int32)))), 0)) hf rfl rfl (fun hf => ?_)
      refine ev_let (P := fun S5 => Ev (d + 1) Mx235 (36, [.ref 63, .int x1], [], S5, 0) r) (fun S5 hf => ?_) hf
      exact ev_sts 2 (c2 := (2, [.ref 63, .int (x1 + (1 : Int32))], [], S5, 0)) rfl (ih hf)
theorem f_X10_tires_ok {d F : Nat} {S : mS} {r : mR} (hf : f_X10_tires F S = some r) : Ev (d + 1) Mx235 (entry Mx235 [.ref 63] S) r := by
  unfold f_X10_tires at hf
  exact ev_sts 2 (c2 := (2, [.ref 63, .int ((0 : Int32))], [], S, 0)) rfl (f_X10_tires_b2_ok _ hf)
def f_X10_let_b64 (F : Nat) (S : mS) : Option mR := some (.inl (some (.int ((0 : Int32)))), S)
def f_X10_let_b154 (F : Nat) (x1 : Int32) (x2 : Int32) (x4 : Int32) (x5 : Int32) (x6 : Int32) (t3 : Int32) (t2 : Int32) (t1 : Int32) (S : mS) : Option mR := gd (inb t1 2145) (bnd (upS S 64 t1.toNatClampNeg (t2 + t3)) (fun S25 => bV0 (f_X10_tells F x1 x2 x4 x5 x6 S25) (fun S26 => some (.inl (some (.int x4)), S26))))
def f_X10_let_b134 (F : Nat) (x1 : Int32) (x2 : Int32) (x4 : Int32) (x5 : Int32) (t0 : Int32) (S : mS) : Option mR := gd (inb ((12 : Int32)) 2145) ((if t0 = 0 then f_X10_let_b154 F x1 x2 x4 x5 t0 ((0 : Int32)) (S 64 ((12 : Int32)).toNatClampNeg) ((12 : Int32)) S else f_X10_let_b154 F x1 x2 x4 x5 t0 ((1 : Int32)) (S 64 ((12 : Int32)).toNatClampNeg) ((12 : Int32)) S))
def f_X10_let_b57 (F : Nat) (x1 : Int32) (x2 : Int32) (x3 : Int32) (t1 : Int32) (S : mS) : Option mR := bI0 (f_X10_throwsIf t1 ((3 : Int32)) S) (fun r13 S12 => (if r13 = 0 then bV0 (f_X10_remembers F S12) (fun S14 => bI0 (f_X10_of x2 ((2 : Int32)) S14) (fun r16 S15 => bnd (if r16 < x3 then r16 else x3 : Int32) (fun y17 => gd (inb ((6 : Int32)) 2145) (bI0 (f_X10_kicksTo F x2 (S15 64 ((6 : Int32)).toNatClampNeg) S15) (fun r19 S18 => bV0 (f_X10_frays F x2 S18) (fun S20 => bV0 (f_X10_takes x1 x2 y17 S20) (fun S21 => bV0 (f_X10_tires F S21) (fun S22 => bI0 (f_X10_draw ((100 : Int32)) S22) (fun r24 S23 => gd (inb ((14 : Int32)) 2145) ((if (S23 64 ((14 : Int32)).toNatClampNeg) ≤ r24 then f_X10_let_b134 F x1 x2 y17 r19 ((0 : Int32)) S23 else f_X10_let_b134 F x1 x2 y17 r19 ((1 : Int32)) S23))))))))))) else f_X10_let_b64 F S12))
def f_X10_let_b35 (F : Nat) (x1 : Int32) (x2 : Int32) (x3 : Int32) (t1 : Int32) (S : mS) : Option mR := bI0 (f_X10_throwsIf t1 ((2 : Int32)) S) (fun r9 S8 => (if ¬ r9 = 0 then f_X10_let_b64 F S8 else bI0 (f_X10_canLet F x1 x2 S8) (fun r11 S10 => (if ¬ r11 = 0 then f_X10_let_b57 F x1 x2 x3 ((0 : Int32)) S10 else f_X10_let_b57 F x1 x2 x3 ((1 : Int32)) S10))))
def f_X10_let (F : Nat) (p1 : Int32) (p2 : Int32) (p3 : Int32) (S : mS) : Option mR := bnd (upS S 63 0 ((0 : Int32))) (fun S1 => bI0 (f_X10_noBoth p1 p2 S1) (fun r3 S2 => bI0 (f_X10_throwsIf r3 ((1 : Int32)) S2) (fun r5 S4 => (if ¬ r5 = 0 then f_X10_let_b64 F S4 else bI0 (f_X10_in p3 ((0 : Int32)) ((20 : Int32)) S4) (fun r7 S6 => (if ¬ r7 = 0 then f_X10_let_b35 F p1 p2 p3 ((0 : Int32)) S6 else f_X10_let_b35 F p1 p2 p3 ((1 : Int32)) S6))))))
theorem f_X10_let_b64_ok {d F : Nat} {S : mS} {r : mR} (hf : f_X10_let_b64 F  S = some r) : Ev (d + 10) Mx239 (64, [mK, mK, mK, mK, mK, mK, mK], [], S, 0) r := by
  unfold f_X10_let_b64 at hf
  refine ev_sts 1 (c2 := (65, [mK, mK, mK, mK, mK, mK, mK], [.int ((0 : Int32))], S, 0)) rfl ?_
  exact ev_ret hf rfl rfl
theorem f_X10_let_b154_ok {d F : Nat} {x1 : Int32} {x2 : Int32} {x4 : Int32} {x5 : Int32} {x6 : Int32} {t3 : Int32} {t2 : Int32} {t1 : Int32} {S : mS} {r : mR} (hf : f_X10_let_b154 F x1 x2 x4 x5 x6 t3 t2 t1 S = some r) : Ev (d + 10) Mx239 (154, [.ref 63, .int x1, .int x2, mK, .int x4, .int x5, .int x6], [.int t3, .int t2, .int t1, .ref 64], S, 0) r := by
  unfold f_X10_let_b154 at hf
  refine ev_sts 1 (c2 := (155, [.ref 63, .int x1, .int x2, mK, .int x4, .int x5, .int x6], [.int (t2 + t3), .int t1, .ref 64], S, 0)) rfl ?_
  refine ev_gd (c1 := (156, [.ref 63, .int x1, .int x2, mK, .int x4, .int x5, .int x6], [], (upS S 64 t1.toNatClampNeg (t2 + t3)), 0)) hf rfl rfl (fun hf => ?_)
  refine ev_let (P := fun S25 => Ev (d + 10) Mx239 (156, [.ref 63, .int x1, .int x2, mK, .int x4, .int x5, .int x6], [], S25, 0) r) (fun S25 hf => ?_) hf
  refine ev_sts 6 (c2 := (165, [.ref 63, .int x1, .int x2, mK, .int x4, .int x5, .int x6], [.int x6, .int x5, .int x4, .int x2, .int x1, .ref 63], S25, 0)) rfl ?_
  refine ev_bV0 (d := d + 9) (M' := Mx237) (ct := (168, [.ref 63, .int x1, .int x2, mK, .int x4, .int x5, .int x6], [], S25, 0)) hf rfl rfl rfl rfl (fun r9 h9 => f_X10_tells_ok (d := d + 9) h9) (fun S26 hf => ?_)
  show Ev (d + 10) Mx239 (168, [.ref 63, .int x1, .int x2, mK, .int x4, .int x5, .int x6], [], S26, 0) r
  refine ev_sts 1 (c2 := (170, [.ref 63, .int x1, .int x2, mK, .int x4, .int x5, .int x6], [.int x4], S26, 0)) rfl ?_
  exact ev_ret hf rfl rfl
theorem f_X10_let_b134_ok {d F : Nat} {x1 : Int32} {x2 : Int32} {x4 : Int32} {x5 : Int32} {t0 : Int32} {S : mS} {r : mR} (hf : f_X10_let_b134 F x1 x2 x4 x5 t0 S = some r) : Ev (d + 10) Mx239 (134, [.ref 63, .int x1, .int x2, mK, .int x4, .int x5, mK], [.int t0], S, 0) r := by
  unfold f_X10_let_b134 at hf
  refine ev_sts 5 (c2 := (143, [.ref 63, .int x1, .int x2, mK, .int x4, .int x5, .int t0], [.int ((12 : Int32)), .ref 64, .int ((12 : Int32)), .ref 64], S, 0)) rfl ?_
  refine ev_gd (c1 := (144, [.ref 63, .int x1, .int x2, mK, .int x4, .int x5, .int t0], [.int (S 64 ((12 : Int32)).toNatClampNeg), .int ((12 : Int32)), .ref 64], S, 0)) hf rfl rfl (fun hf => ?_)
  refine ev_sts 1 (c2 := (146, [.ref 63, .int x1, .int x2, mK, .int x4, .int x5, .int t0], [.int t0, .int (S 64 ((12 : Int32)).toNatClampNeg), .int ((12 : Int32)), .ref 64], S, 0)) rfl ?_
  refine ev_if (c1 := (153, [.ref 63, .int x1, .int x2, mK, .int x4, .int x5, .int t0], [.int (S 64 ((12 : Int32)).toNatClampNeg), .int ((12 : Int32)), .ref 64], S, 0)) (c2 := (149, [.ref 63, .int x1, .int x2, mK, .int x4, .int x5, .int t0], [.int (S 64 ((12 : Int32)).toNatClampNeg), .int ((12 : Int32)), .ref 64], S, 0)) hf rfl rfl (fun _ hf => ?_) (fun _ hf => ?_)
  · exact ev_sts 1 (c2 := (154, [.ref 63, .int x1, .int x2, mK, .int x4, .int x5, .int t0], [.int ((0 : Int32)), .int (S 64 ((12 : Int32)).toNatClampNeg), .int ((12 : Int32)), .ref 64], S, 0)) rfl (f_X10_let_b154_ok hf)
  · exact ev_sts 2 (c2 := (154, [.ref 63, .int x1, .int x2, mK, .int x4, .int x5, .int t0], [.int ((1 : Int32)), .int (S 64 ((12 : Int32)).toNatClampNeg), .int ((12 : Int32)), .ref 64], S, 0)) rfl (f_X10_let_b154_ok hf)
theorem f_X10_let_b57_ok {d F : Nat} {x1 : Int32} {x2 : Int32} {x3 : Int32} {t1 : Int32} {S : mS} {r : mR} (hf : f_X10_let_b57 F x1 x2 x3 t1 S = some r) : Ev (d + 10) Mx239 (57, [.ref 63, .int x1, .int x2, .int x3, mK, mK, mK], [.int t1, .ref 63], S, 0) r := by
  unfold f_X10_let_b57 at hf
  refine ev_sts 1 (c2 := (58, [.ref 63, .int x1, .int x2, .int x3, mK, mK, mK], [.int ((3 : Int32)), .int t1, .ref 63], S, 0)) rfl ?_
  refine ev_bI0 (d := d + 9) (M' := Mx155) (ct := (61, [.ref 63, .int x1, .int x2, .int x3, mK, mK, mK], [], S, 0)) hf rfl rfl rfl rfl (fun r9 h9 => f_X10_throwsIf_ok (d := d + 9) h9) (fun r13 S12 hf => ?_)
  show Ev (d + 10) Mx239 (61, [.ref 63, .int x1, .int x2, .int x3, mK, mK, mK], [.int r13], S12, 0) r
  refine ev_if (c1 := (66, [.ref 63, .int x1, .int x2, .int x3, mK, mK, mK], [], S12, 0)) (c2 := (64, [mK, mK, mK, mK, mK, mK, mK], [], S12, 0)) hf rfl rfl (fun _ hf => ?_) (fun _ hf => ?_)
  · refine ev_sts 1 (c2 := (67, [.ref 63, .int x1, .int x2, .int x3, mK, mK, mK], [.ref 63], S12, 0)) rfl ?_
    refine ev_bV0 (d := d + 9) (M' := Mx160) (ct := (70, [.ref 63, .int x1, .int x2, .int x3, mK, mK, mK], [], S12, 0)) hf rfl rfl rfl rfl (fun r9 h9 => f_X10_remembers_ok (d := d + 9) h9) (fun S14 hf => ?_)
    show Ev (d + 10) Mx239 (70, [.ref 63, .int x1, .int x2, .int x3, mK, mK, mK], [], S14, 0) r
    refine ev_sts 4 (c2 := (74, [.ref 63, .int x1, .int x2, .int x3, mK, mK, mK], [.int ((2 : Int32)), .int x2, .ref 63, .int x3], S14, 0)) rfl ?_
    refine ev_bI0 (d := d + 9) (M' := Mx166) (ct := (77, [.ref 63, .int x1, .int x2, .int x3, mK, mK, mK], [.int x3], S14, 0)) hf rfl rfl rfl rfl (fun r9 h9 => f_X10_of_ok (d := d + 8) h9) (fun r16 S15 hf => ?_)
    show Ev (d + 10) Mx239 (77, [.ref 63, .int x1, .int x2, .int x3, mK, mK, mK], [.int r16, .int x3], S15, 0) r
    refine ev_sts 2 (c2 := (82, [.ref 63, .int x1, .int x2, .int x3, .int (if r16 < x3 then r16 else x3), mK, mK], [], S15, 0)) rfl ?_
    refine ev_let (P := fun y17 => Ev (d + 10) Mx239 (82, [.ref 63, .int x1, .int x2, .int x3, .int y17, mK, mK], [], S15, 0) r) (fun y17 hf => ?_) hf
    refine ev_sts 5 (c2 := (90, [.ref 63, .int x1, .int x2, .int x3, .int y17, mK, mK], [.int ((6 : Int32)), .ref 64, .int x2, .ref 63], S15, 0)) rfl ?_
    refine ev_gd (c1 := (91, [.ref 63, .int x1, .int x2, .int x3, .int y17, mK, mK], [.int (S15 64 ((6 : Int32)).toNatClampNeg), .int x2, .ref 63], S15, 0)) hf rfl rfl (fun hf => ?_)
    refine ev_bI0 (d := d + 9) (M' := Mx209) (ct := (94, [.ref 63, .int x1, .int x2, .int x3, .int y17, mK, mK], [], S15, 0)) hf rfl rfl rfl rfl (fun r9 h9 => f_X10_kicksTo_ok (d := d + 1) h9) (fun r19 S18 hf => ?_)
    show Ev (d + 10) Mx239 (94, [.ref 63, .int x1, .int x2, .int x3, .int y17, mK, mK], [.int r19], S18, 0) r
    refine ev_sts 3 (c2 := (98, [.ref 63, .int x1, .int x2, .int x3, .int y17, .int r19, mK], [.int x2, .ref 63], S18, 0)) rfl ?_
    refine ev_bV0 (d := d + 9) (M' := Mx236) (ct := (101, [.ref 63, .int x1, .int x2, .int x3, .int y17, .int r19, mK], [], S18, 0)) hf rfl rfl rfl rfl (fun r9 h9 => f_X10_frays_ok (d := d) h9) (fun S20 hf => ?_)
    show Ev (d + 10) Mx239 (101, [.ref 63, .int x1, .int x2, .int x3, .int y17, .int r19, mK], [], S20, 0) r
    refine ev_sts 4 (c2 := (106, [.ref 63, .int x1, .int x2, .int x3, .int y17, .int r19, mK], [.int y17, .int x2, .int x1, .ref 63], S20, 0)) rfl ?_
    refine ev_bV0 (d := d + 9) (M' := Mx238) (ct := (109, [.ref 63, .int x1, .int x2, .int x3, .int y17, .int r19, mK], [], S20, 0)) hf rfl rfl rfl rfl (fun r9 h9 => f_X10_takes_ok (d := d + 7) h9) (fun S21 hf => ?_)
    show Ev (d + 10) Mx239 (109, [.ref 63, .int x1, .int x2, .int x3, .int y17, .int r19, mK], [], S21, 0) r
    refine ev_sts 1 (c2 := (110, [.ref 63, .int x1, .int x2, .int x3, .int y17, .int r19, mK], [.ref 63], S21, 0)) rfl ?_
    refine ev_bV0 (d := d + 9) (M' := Mx235) (ct := (113, [.ref 63, .int x1, .int x2, .int x3, .int y17, .int r19, mK], [], S21, 0)) hf rfl rfl rfl rfl (fun r9 h9 => f_X10_tires_ok (d := d + 8) h9) (fun S22 hf => ?_)
    show Ev (d + 10) Mx239 (113, [.ref 63, .int x1, .int x2, .int x3, .int y17, .int r19, mK], [], S22, 0) r
    refine ev_sts 2 (c2 := (116, [.ref 63, .int x1, .int x2, .int x3, .int y17, .int r19, mK], [.int ((100 : Int32)), .ref 63], S22, 0)) rfl ?_
    refine ev_bI0 (d := d + 9) (M' := Mx173) (ct := (119, [.ref 63, .int x1, .int x2, .int x3, .int y17, .int r19, mK], [], S22, 0)) hf rfl rfl rfl rfl (fun r9 h9 => f_X10_draw_ok (d := d + 9) h9) (fun r24 S23 hf => ?_)
    show Ev (d + 10) Mx239 (119, [.ref 63, .int x1, .int x2, .int x3, .int y17, .int r19, mK], [.int r24], S23, 0) r
    refine ev_sts 3 (c2 := (125, [.ref 63, .int x1, .int x2, .int x3, .int y17, .int r19, mK], [.int ((14 : Int32)), .ref 64, .int r24], S23, 0)) rfl ?_
    refine ev_gd (c1 := (126, [.ref 63, .int x1, .int x2, .int x3, .int y17, .int r19, mK], [.int (S23 64 ((14 : Int32)).toNatClampNeg), .int r24], S23, 0)) hf rfl rfl (fun hf => ?_)
    refine ev_if (c1 := (133, [.ref 63, .int x1, .int x2, .int x3, .int y17, .int r19, mK], [], S23, 0)) (c2 := (129, [.ref 63, .int x1, .int x2, .int x3, .int y17, .int r19, mK], [], S23, 0)) hf rfl rfl (fun _ hf => ?_) (fun _ hf => ?_)
    · exact ev_sts 1 (c2 := (134, [.ref 63, .int x1, .int x2, mK, .int y17, .int r19, mK], [.int ((0 : Int32))], S23, 0)) rfl (f_X10_let_b134_ok hf)
    · exact ev_sts 2 (c2 := (134, [.ref 63, .int x1, .int x2, mK, .int y17, .int r19, mK], [.int ((1 : Int32))], S23, 0)) rfl (f_X10_let_b134_ok hf)
  · exact f_X10_let_b64_ok hf
theorem f_X10_let_b35_ok {d F : Nat} {x1 : Int32} {x2 : Int32} {x3 : Int32} {t1 : Int32} {S : mS} {r : mR} (hf : f_X10_let_b35 F x1 x2 x3 t1 S = some r) : Ev (d + 10) Mx239 (35, [.ref 63, .int x1, .int x2, .int x3, mK, mK, mK], [.int t1, .ref 63], S, 0) r := by
  unfold f_X10_let_b35 at hf
  refine ev_sts 1 (c2 := (36, [.ref 63, .int x1, .int x2, .int x3, mK, mK, mK], [.int ((2 : Int32)), .int t1, .ref 63], S, 0)) rfl ?_
  refine ev_bI0 (d := d + 9) (M' := Mx155) (ct := (39, [.ref 63, .int x1, .int x2, .int x3, mK, mK, mK], [], S, 0)) hf rfl rfl rfl rfl (fun r9 h9 => f_X10_throwsIf_ok (d := d + 9) h9) (fun r9 S8 hf => ?_)
  show Ev (d + 10) Mx239 (39, [.ref 63, .int x1, .int x2, .int x3, mK, mK, mK], [.int r9], S8, 0) r
  refine ev_if (c1 := (64, [mK, mK, mK, mK, mK, mK, mK], [], S8, 0)) (c2 := (42, [.ref 63, .int x1, .int x2, .int x3, mK, mK, mK], [], S8, 0)) hf rfl rfl (fun _ hf => ?_) (fun _ hf => ?_)
  · exact f_X10_let_b64_ok hf
  · refine ev_sts 4 (c2 := (46, [.ref 63, .int x1, .int x2, .int x3, mK, mK, mK], [.int x2, .int x1, .ref 63, .ref 63], S8, 0)) rfl ?_
    refine ev_bI0 (d := d + 9) (M' := Mx230) (ct := (49, [.ref 63, .int x1, .int x2, .int x3, mK, mK, mK], [.ref 63], S8, 0)) hf rfl rfl rfl rfl (fun r9 h9 => f_X10_canLet_ok (d := d) h9) (fun r11 S10 hf => ?_)
    show Ev (d + 10) Mx239 (49, [.ref 63, .int x1, .int x2, .int x3, mK, mK, mK], [.int r11, .ref 63], S10, 0) r
    refine ev_if (c1 := (56, [.ref 63, .int x1, .int x2, .int x3, mK, mK, mK], [.ref 63], S10, 0)) (c2 := (52, [.ref 63, .int x1, .int x2, .int x3, mK, mK, mK], [.ref 63], S10, 0)) hf rfl rfl (fun _ hf => ?_) (fun _ hf => ?_)
    · exact ev_sts 1 (c2 := (57, [.ref 63, .int x1, .int x2, .int x3, mK, mK, mK], [.int ((0 : Int32)), .ref 63], S10, 0)) rfl (f_X10_let_b57_ok hf)
    · exact ev_sts 2 (c2 := (57, [.ref 63, .int x1, .int x2, .int x3, mK, mK, mK], [.int ((1 : Int32)), .ref 63], S10, 0)) rfl (f_X10_let_b57_ok hf)
theorem f_X10_let_ok {d F : Nat} {p1 : Int32} {p2 : Int32} {p3 : Int32} {S : mS} {r : mR} (hf : f_X10_let F p1 p2 p3 S = some r) : Ev (d + 10) Mx239 (entry Mx239 [.ref 63, .int p1, .int p2, .int p3] S) r := by
  unfold f_X10_let at hf
  refine ev_sts 3 (c2 := (5, [.ref 63, .int p1, .int p2, .int p3, mK, mK, mK], [], (upS S 63 0 ((0 : Int32))), 0)) rfl ?_
  refine ev_let (P := fun S1 => Ev (d + 10) Mx239 (5, [.ref 63, .int p1, .int p2, .int p3, mK, mK, mK], [], S1, 0) r) (fun S1 hf => ?_) hf
  refine ev_sts 4 (c2 := (9, [.ref 63, .int p1, .int p2, .int p3, mK, mK, mK], [.int p2, .int p1, .ref 63, .ref 63], S1, 0)) rfl ?_
  refine ev_bI0 (d := d + 9) (M' := Mx224) (ct := (12, [.ref 63, .int p1, .int p2, .int p3, mK, mK, mK], [.ref 63], S1, 0)) hf rfl rfl rfl rfl (fun r9 h9 => f_X10_noBoth_ok (d := d + 7) h9) (fun r3 S2 hf => ?_)
  show Ev (d + 10) Mx239 (12, [.ref 63, .int p1, .int p2, .int p3, mK, mK, mK], [.int r3, .ref 63], S2, 0) r
  refine ev_sts 1 (c2 := (13, [.ref 63, .int p1, .int p2, .int p3, mK, mK, mK], [.int ((1 : Int32)), .int r3, .ref 63], S2, 0)) rfl ?_
  refine ev_bI0 (d := d + 9) (M' := Mx155) (ct := (16, [.ref 63, .int p1, .int p2, .int p3, mK, mK, mK], [], S2, 0)) hf rfl rfl rfl rfl (fun r9 h9 => f_X10_throwsIf_ok (d := d + 9) h9) (fun r5 S4 hf => ?_)
  show Ev (d + 10) Mx239 (16, [.ref 63, .int p1, .int p2, .int p3, mK, mK, mK], [.int r5], S4, 0) r
  refine ev_if (c1 := (64, [mK, mK, mK, mK, mK, mK, mK], [], S4, 0)) (c2 := (19, [.ref 63, .int p1, .int p2, .int p3, mK, mK, mK], [], S4, 0)) hf rfl rfl (fun _ hf => ?_) (fun _ hf => ?_)
  · exact f_X10_let_b64_ok hf
  · refine ev_sts 4 (c2 := (24, [.ref 63, .int p1, .int p2, .int p3, mK, mK, mK], [.int ((20 : Int32)), .int ((0 : Int32)), .int p3, .ref 63], S4, 0)) rfl ?_
    refine ev_bI0 (d := d + 9) (M' := Mx156) (ct := (27, [.ref 63, .int p1, .int p2, .int p3, mK, mK, mK], [.ref 63], S4, 0)) hf rfl rfl rfl rfl (fun r9 h9 => f_X10_in_ok (d := d + 9) h9) (fun r7 S6 hf => ?_)
    show Ev (d + 10) Mx239 (27, [.ref 63, .int p1, .int p2, .int p3, mK, mK, mK], [.int r7, .ref 63], S6, 0) r
    refine ev_if (c1 := (34, [.ref 63, .int p1, .int p2, .int p3, mK, mK, mK], [.ref 63], S6, 0)) (c2 := (30, [.ref 63, .int p1, .int p2, .int p3, mK, mK, mK], [.ref 63], S6, 0)) hf rfl rfl (fun _ hf => ?_) (fun _ hf => ?_)
    · exact ev_sts 1 (c2 := (35, [.ref 63, .int p1, .int p2, .int p3, mK, mK, mK], [.int ((0 : Int32)), .ref 63], S6, 0)) rfl (f_X10_let_b35_ok hf)
    · exact ev_sts 2 (c2 := (35, [.ref 63, .int p1, .int p2, .int p3, mK, mK, mK], [.int ((1 : Int32)), .ref 63], S6, 0)) rfl (f_X10_let_b35_ok hf)
def f_X10_lightest_b38 (K9 : Int32 → Int32 → mS → Option mR) (F : Nat) (x1 : Int32) (x2 : Int32) (S : mS) : Option mR := K9 x1 (x2 + (1 : Int32)) S
def f_X10_lightest_b36 (K9 : Int32 → Int32 → mS → Option mR) (F : Nat) (x2 : Int32) (S : mS) : Option mR := f_X10_lightest_b38 K9 F x2 x2 S
def f_X10_lightest_b9 (F : Nat) : Nat → Int32 → Int32 → mS → Option mR
  | 0, _, _, _ => none
  | n + 1, x1, x2, S => bI0 (f_X10_climbers S) (fun r3 S2 => (if r3 ≤ x2 then some (.inl (some (.int x1)), S2) else (if x1 < 0 then f_X10_lightest_b36 (fun x1 x2 S => f_X10_lightest_b9 F n x1 x2 S) F x2 S2 else bI0 (f_X10_ofClimber x2 ((0 : Int32)) S2) (fun r5 S4 => bI0 (f_X10_ofClimber x1 ((0 : Int32)) S4) (fun r7 S6 => (if r7 ≤ r5 then f_X10_lightest_b38 (fun x1 x2 S => f_X10_lightest_b9 F n x1 x2 S) F x1 x2 S6 else f_X10_lightest_b36 (fun x1 x2 S => f_X10_lightest_b9 F n x1 x2 S) F x2 S6))))))
def f_X10_lightest (F : Nat) (S : mS) : Option mR := bnd (upS S 63 0 ((0 : Int32))) (fun S1 => f_X10_lightest_b9 F F ((-1 : Int32)) ((0 : Int32)) S1)
theorem f_X10_lightest_b38_ok {d F : Nat} {K9 : Int32 → Int32 → mS → Option mR} (hK9 : ∀ {x1 : Int32} {x2 : Int32} {S : mS} {r : mR}, K9 x1 x2 S = some r → Ev (d + 1) Mx234 (9, [.ref 63, .int x1, .int x2], [], S, 0) r) {x1 : Int32} {x2 : Int32} {S : mS} {r : mR} (hf : f_X10_lightest_b38 K9 F x1 x2 S = some r) : Ev (d + 1) Mx234 (38, [.ref 63, .int x1, .int x2], [], S, 0) r := by
  unfold f_X10_lightest_b38 at hf
  exact ev_sts 2 (c2 := (9, [.ref 63, .int x1, .int (x2 + (1 : Int32))], [], S, 0)) rfl (hK9 hf)
theorem f_X10_lightest_b36_ok {d F : Nat} {K9 : Int32 → Int32 → mS → Option mR} (hK9 : ∀ {x1 : Int32} {x2 : Int32} {S : mS} {r : mR}, K9 x1 x2 S = some r → Ev (d + 1) Mx234 (9, [.ref 63, .int x1, .int x2], [], S, 0) r) {x2 : Int32} {S : mS} {r : mR} (hf : f_X10_lightest_b36 K9 F x2 S = some r) : Ev (d + 1) Mx234 (36, [.ref 63, mK, .int x2], [], S, 0) r := by
  unfold f_X10_lightest_b36 at hf
  exact ev_sts 2 (c2 := (38, [.ref 63, .int x2, .int x2], [], S, 0)) rfl (f_X10_lightest_b38_ok hK9 hf)
theorem f_X10_lightest_b9_ok {d F : Nat} : ∀ (n : Nat) {x1 : Int32} {x2 : Int32} {S : mS} {r : mR}, f_X10_lightest_b9 F n x1 x2 S = some r → Ev (d + 1) Mx234 (9, [.ref 63, .int x1, .int x2], [], S, 0) r := by
  intro n
  induction n with
  | zero => intro x1 x2 S r hf; cases hf
  | succ n ih =>
    intro x1 x2 S r hf
    rw [f_X10_lightest_b9] at hf
    refine ev_sts 2 (c2 := (11, [.ref 63, .int x1, .int x2], [.ref 63, .int x2], S, 0)) rfl ?_
    refine ev_bI0 (d := d) (M' := Mx164) (ct := (14, [.ref 63, .int x1, .int x2], [.int x2], S, 0)) hf rfl rfl rfl rfl (fun r9 h9 => f_X10_climbers_ok (d := d) h9) (fun r3 S2 hf => ?_)
    show Ev (d + 1) Mx234 (14, [.ref 63, .int x1, .int x2], [.int r3, .int x2], S2, 0) r
    refine ev_if (c1 := (44, [.ref 63, .int x1, .int x2], [], S2, 0)) (c2 := (17, [.ref 63, .int x1, .int x2], [], S2, 0)) hf rfl rfl (fun _ hf => ?_) (fun _ hf => ?_)
    · refine ev_sts 1 (c2 := (45, [.ref 63, .int x1, .int x2], [.int x1], S2, 0)) rfl ?_
      exact ev_ret hf rfl rfl
    · refine ev_sts 1 (c2 := (18, [.ref 63, .int x1, .int x2], [.int x1], S2, 0)) rfl ?_
      refine ev_if (c1 := (36, [.ref 63, mK, .int x2], [], S2, 0)) (c2 := (21, [.ref 63, .int x1, .int x2], [], S2, 0)) hf rfl rfl (fun _ hf => ?_) (fun _ hf => ?_)
      · exact f_X10_lightest_b36_ok (fun h9 => ih h9) hf
      · refine ev_sts 3 (c2 := (24, [.ref 63, .int x1, .int x2], [.int ((0 : Int32)), .int x2, .ref 63], S2, 0)) rfl ?_
        refine ev_bI0 (d := d) (M' := Mx168) (ct := (27, [.ref 63, .int x1, .int x2], [], S2, 0)) hf rfl rfl rfl rfl (fun r9 h9 => f_X10_ofClimber_ok (d := d) h9) (fun r5 S4 hf => ?_)
        show Ev (d + 1) Mx234 (27, [.ref 63, .int x1, .int x2], [.int r5], S4, 0) r
        refine ev_sts 3 (c2 := (30, [.ref 63, .int x1, .int x2], [.int ((0 : Int32)), .int x1, .ref 63, .int r5], S4, 0)) rfl ?_
        refine ev_bI0 (d := d) (M' := Mx168) (ct := (33, [.ref 63, .int x1, .int x2], [.int r5], S4, 0)) hf rfl rfl rfl rfl (fun r9 h9 => f_X10_ofClimber_ok (d := d) h9) (fun r7 S6 hf => ?_)
        show Ev (d + 1) Mx234 (33, [.ref 63, .int x1, .int x2], [.int r7, .int r5], S6, 0) r
        refine ev_if (c1 := (38, [.ref 63, .int x1, .int x2], [], S6, 0)) (c2 := (36, [.ref 63, mK, .int x2], [], S6, 0)) hf rfl rfl (fun _ hf => ?_) (fun _ hf => ?_)
        · exact f_X10_lightest_b38_ok (fun h9 => ih h9) hf
        · exact f_X10_lightest_b36_ok (fun h9 => ih h9) hf
theorem f_X10_lightest_ok {d F : Nat} {S : mS} {r : mR} (hf : f_X10_lightest F S = some r) : Ev (d + 1) Mx234 (entry Mx234 [.ref 63] S) r := by
  unfold f_X10_lightest at hf
  refine ev_sts 3 (c2 := (5, [.ref 63, mK, mK], [], (upS S 63 0 ((0 : Int32))), 0)) rfl ?_
  refine ev_let (P := fun S1 => Ev (d + 1) Mx234 (5, [.ref 63, mK, mK], [], S1, 0) r) (fun S1 hf => ?_) hf
  exact ev_sts 4 (c2 := (9, [.ref 63, .int ((-1 : Int32)), .int ((0 : Int32))], [], S1, 0)) rfl (f_X10_lightest_b9_ok _ hf)
def f_X10_load_b29 (t0 : Int32) (S : mS) : Option mR := some (.inl (some (.int t0)), S)
def f_X10_load (p1 : Int32) (p2 : Int32) (S : mS) : Option mR := bnd (upS S 63 0 ((0 : Int32))) (fun S1 => bI0 (f_X10_noBoth p1 p2 S1) (fun r3 S2 => bI0 (f_X10_throwsIf r3 ((1 : Int32)) S2) (fun r5 S4 => (if r5 = 0 then bI0 (f_X10_loadOf p1 p2 S4) (fun r7 S6 => f_X10_load_b29 r7 S6) else f_X10_load_b29 ((0 : Int32)) S4))))
theorem f_X10_load_b29_ok {d : Nat} {t0 : Int32} {S : mS} {r : mR} (hf : f_X10_load_b29 t0 S = some r) : Ev (d + 3) Mx225 (29, [mK, mK, mK], [.int t0], S, 0) r := by
  unfold f_X10_load_b29 at hf
  exact ev_ret hf rfl rfl
theorem f_X10_load_ok {d : Nat} {p1 : Int32} {p2 : Int32} {S : mS} {r : mR} (hf : f_X10_load p1 p2 S = some r) : Ev (d + 3) Mx225 (entry Mx225 [.ref 63, .int p1, .int p2] S) r := by
  unfold f_X10_load at hf
  refine ev_sts 3 (c2 := (5, [.ref 63, .int p1, .int p2], [], (upS S 63 0 ((0 : Int32))), 0)) rfl ?_
  refine ev_let (P := fun S1 => Ev (d + 3) Mx225 (5, [.ref 63, .int p1, .int p2], [], S1, 0) r) (fun S1 hf => ?_) hf
  refine ev_sts 4 (c2 := (9, [.ref 63, .int p1, .int p2], [.int p2, .int p1, .ref 63, .ref 63], S1, 0)) rfl ?_
  refine ev_bI0 (d := d + 2) (M' := Mx224) (ct := (12, [.ref 63, .int p1, .int p2], [.ref 63], S1, 0)) hf rfl rfl rfl rfl (fun r9 h9 => f_X10_noBoth_ok (d := d) h9) (fun r3 S2 hf => ?_)
  show Ev (d + 3) Mx225 (12, [.ref 63, .int p1, .int p2], [.int r3, .ref 63], S2, 0) r
  refine ev_sts 1 (c2 := (13, [.ref 63, .int p1, .int p2], [.int ((1 : Int32)), .int r3, .ref 63], S2, 0)) rfl ?_
  refine ev_bI0 (d := d + 2) (M' := Mx155) (ct := (16, [.ref 63, .int p1, .int p2], [], S2, 0)) hf rfl rfl rfl rfl (fun r9 h9 => f_X10_throwsIf_ok (d := d + 2) h9) (fun r5 S4 hf => ?_)
  show Ev (d + 3) Mx225 (16, [.ref 63, .int p1, .int p2], [.int r5], S4, 0) r
  refine ev_if (c1 := (23, [.ref 63, .int p1, .int p2], [], S4, 0)) (c2 := (19, [.ref 63, .int p1, .int p2], [], S4, 0)) hf rfl rfl (fun _ hf => ?_) (fun _ hf => ?_)
  · refine ev_sts 3 (c2 := (26, [.ref 63, .int p1, .int p2], [.int p2, .int p1, .ref 63], S4, 0)) rfl ?_
    refine ev_bI0 (d := d + 2) (M' := Mx220) (ct := (29, [mK, mK, mK], [], S4, 0)) hf rfl rfl rfl rfl (fun r9 h9 => f_X10_loadOf_ok (d := d) h9) (fun r7 S6 hf => ?_)
    show Ev (d + 3) Mx225 (29, [mK, mK, mK], [.int r7], S6, 0) r
    exact f_X10_load_b29_ok hf
  · exact ev_sts 2 (c2 := (29, [mK, mK, mK], [.int ((0 : Int32))], S4, 0)) rfl (f_X10_load_b29_ok hf)
def f_X10_log_b56 (t0 : Int32) (S : mS) : Option mR := some (.inl (some (.int t0)), S)
def f_X10_log_b20 (x1 : Int32) (x2 : Int32) (t1 : Int32) (S : mS) : Option mR := bI0 (f_X10_throwsIf t1 ((1 : Int32)) S) (fun r5 S4 => (if r5 = 0 then gd (inb ((15 : Int32)) 2145) (bI0 (f_X10_in x1 ((0 : Int32)) ((S4 64 ((15 : Int32)).toNatClampNeg) - ((1 : Int32))) S4) (fun r7 S6 => (if r7 = 0 then f_X10_log_b56 ((-1 : Int32)) S6 else bI0 (f_X10_ofLog x1 x2 S6) (fun r9 S8 => f_X10_log_b56 r9 S8)))) else some (.inl (some (.int ((0 : Int32)))), S4)))
def f_X10_log (p1 : Int32) (p2 : Int32) (S : mS) : Option mR := bnd (upS S 63 0 ((0 : Int32))) (fun S1 => bI0 (f_X10_in p2 ((0 : Int32)) ((5 : Int32)) S1) (fun r3 S2 => (if ¬ r3 = 0 then f_X10_log_b20 p1 p2 ((0 : Int32)) S2 else f_X10_log_b20 p1 p2 ((1 : Int32)) S2)))
theorem f_X10_log_b56_ok {d : Nat} {t0 : Int32} {S : mS} {r : mR} (hf : f_X10_log_b56 t0 S = some r) : Ev (d + 1) Mx280 (56, [mK, mK, mK], [.int t0], S, 0) r := by
  unfold f_X10_log_b56 at hf
  exact ev_ret hf rfl rfl
theorem f_X10_log_b20_ok {d : Nat} {x1 : Int32} {x2 : Int32} {t1 : Int32} {S : mS} {r : mR} (hf : f_X10_log_b20 x1 x2 t1 S = some r) : Ev (d + 1) Mx280 (20, [.ref 63, .int x1, .int x2], [.int t1, .ref 63], S, 0) r := by
  unfold f_X10_log_b20 at hf
  refine ev_sts 1 (c2 := (21, [.ref 63, .int x1, .int x2], [.int ((1 : Int32)), .int t1, .ref 63], S, 0)) rfl ?_
  refine ev_bI0 (d := d) (M' := Mx155) (ct := (24, [.ref 63, .int x1, .int x2], [], S, 0)) hf rfl rfl rfl rfl (fun r9 h9 => f_X10_throwsIf_ok (d := d) h9) (fun r5 S4 hf => ?_)
  show Ev (d + 1) Mx280 (24, [.ref 63, .int x1, .int x2], [.int r5], S4, 0) r
  refine ev_if (c1 := (29, [.ref 63, .int x1, .int x2], [], S4, 0)) (c2 := (27, [.ref 63, .int x1, .int x2], [], S4, 0)) hf rfl rfl (fun _ hf => ?_) (fun _ hf => ?_)
  · refine ev_sts 5 (c2 := (37, [.ref 63, .int x1, .int x2], [.int ((15 : Int32)), .ref 64, .int ((0 : Int32)), .int x1], S4, 0)) rfl ?_
    refine ev_gd (c1 := (38, [.ref 63, .int x1, .int x2], [.int (S4 64 ((15 : Int32)).toNatClampNeg), .int ((0 : Int32)), .int x1], S4, 0)) hf rfl rfl (fun hf => ?_)
    refine ev_sts 2 (c2 := (40, [.ref 63, .int x1, .int x2], [.int ((S4 64 ((15 : Int32)).toNatClampNeg) - ((1 : Int32))), .int ((0 : Int32)), .int x1], S4, 0)) rfl ?_
    refine ev_bI0 (d := d) (M' := Mx156) (ct := (43, [.ref 63, .int x1, .int x2], [], S4, 0)) hf rfl rfl rfl rfl (fun r9 h9 => f_X10_in_ok (d := d) h9) (fun r7 S6 hf => ?_)
    show Ev (d + 1) Mx280 (43, [.ref 63, .int x1, .int x2], [.int r7], S6, 0) r
    refine ev_if (c1 := (55, [.ref 63, .int x1, .int x2], [], S6, 0)) (c2 := (46, [.ref 63, .int x1, .int x2], [], S6, 0)) hf rfl rfl (fun _ hf => ?_) (fun _ hf => ?_)
    · exact ev_sts 1 (c2 := (56, [mK, mK, mK], [.int ((-1 : Int32))], S6, 0)) rfl (f_X10_log_b56_ok hf)
    · refine ev_sts 3 (c2 := (49, [.ref 63, .int x1, .int x2], [.int x2, .int x1, .ref 63], S6, 0)) rfl ?_
      refine ev_bI0 (d := d) (M' := Mx276) (ct := (52, [.ref 63, .int x1, .int x2], [], S6, 0)) hf rfl rfl rfl rfl (fun r9 h9 => f_X10_ofLog_ok (d := d) h9) (fun r9 S8 hf => ?_)
      show Ev (d + 1) Mx280 (52, [.ref 63, .int x1, .int x2], [.int r9], S8, 0) r
      exact ev_sts 1 (c2 := (56, [mK, mK, mK], [.int r9], S8, 0)) rfl (f_X10_log_b56_ok hf)
  · refine ev_sts 1 (c2 := (28, [.ref 63, .int x1, .int x2], [.int ((0 : Int32))], S4, 0)) rfl ?_
    exact ev_ret hf rfl rfl
theorem f_X10_log_ok {d : Nat} {p1 : Int32} {p2 : Int32} {S : mS} {r : mR} (hf : f_X10_log p1 p2 S = some r) : Ev (d + 1) Mx280 (entry Mx280 [.ref 63, .int p1, .int p2] S) r := by
  unfold f_X10_log at hf
  refine ev_sts 3 (c2 := (5, [.ref 63, .int p1, .int p2], [], (upS S 63 0 ((0 : Int32))), 0)) rfl ?_
  refine ev_let (P := fun S1 => Ev (d + 1) Mx280 (5, [.ref 63, .int p1, .int p2], [], S1, 0) r) (fun S1 hf => ?_) hf
  refine ev_sts 4 (c2 := (9, [.ref 63, .int p1, .int p2], [.int ((5 : Int32)), .int ((0 : Int32)), .int p2, .ref 63], S1, 0)) rfl ?_
  refine ev_bI0 (d := d) (M' := Mx156) (ct := (12, [.ref 63, .int p1, .int p2], [.ref 63], S1, 0)) hf rfl rfl rfl rfl (fun r9 h9 => f_X10_in_ok (d := d) h9) (fun r3 S2 hf => ?_)
  show Ev (d + 1) Mx280 (12, [.ref 63, .int p1, .int p2], [.int r3, .ref 63], S2, 0) r
  refine ev_if (c1 := (19, [.ref 63, .int p1, .int p2], [.ref 63], S2, 0)) (c2 := (15, [.ref 63, .int p1, .int p2], [.ref 63], S2, 0)) hf rfl rfl (fun _ hf => ?_) (fun _ hf => ?_)
  · exact ev_sts 1 (c2 := (20, [.ref 63, .int p1, .int p2], [.int ((0 : Int32)), .ref 63], S2, 0)) rfl (f_X10_log_b20_ok hf)
  · exact ev_sts 2 (c2 := (20, [.ref 63, .int p1, .int p2], [.int ((1 : Int32)), .ref 63], S2, 0)) rfl (f_X10_log_b20_ok hf)
def f_X10_loss_b140 (K42 : Int32 → Int32 → Int32 → Int32 → mS → Option mR) (F : Nat) (x1 : Int32) (x3 : Int32) (x4 : Int32) (t1 : Int32) (t0 : Int32) (S : mS) : Option mR := bnd (t0 ||| t1 : Int32) (fun y12 => K42 x1 y12 x3 (x4 + (1 : Int32)) S)
def f_X10_loss_b115 (K42 : Int32 → Int32 → Int32 → Int32 → mS → Option mR) (K57 : Int32 → Int32 → Int32 → Int32 → Int32 → Int32 → Int32 → mS → Option mR) (F : Nat) (x1 : Int32) (x2 : Int32) (x3 : Int32) (x4 : Int32) (x5 : Int32) (x6 : Int32) (x7 : Int32) (S : mS) : Option mR := K57 x1 x2 x3 x4 x5 x6 (x7 + (1 : Int32)) S
def f_X10_loss_b57 (K42 : Int32 → Int32 → Int32 → Int32 → mS → Option mR) (F : Nat) : Nat → Int32 → Int32 → Int32 → Int32 → Int32 → Int32 → Int32 → mS → Option mR
  | 0, _, _, _, _, _, _, _, _ => none
  | n + 1, x1, x2, x3, x4, x5, x6, x7, S => bI0 (f_X10_ledges S) (fun r10 S9 => (if r10 ≤ x7 then bnd (x3 + x6 : Int32) (fun y11 => (if 0 ≤ x5 then f_X10_loss_b140 K42 F x1 y11 x4 (((1 : Int32)) <<< (x5 &&& 31)) x2 S9 else f_X10_loss_b140 K42 F x1 y11 x4 ((0 : Int32)) x2 S9)) else bI0 (f_X10_has x2 x7 S9) (fun r14 S13 => (if ¬ r14 = 0 then f_X10_loss_b115 K42 (fun x1 x2 x3 x4 x5 x6 x7 S => f_X10_loss_b57 K42 F n x1 x2 x3 x4 x5 x6 x7 S) F x1 x2 x3 x4 x5 x6 x7 S13 else gd (inb ((((10 : Int32)) * x4) + x7) 100) ((if x6 < (S13 73 ((((10 : Int32)) * x4) + x7).toNatClampNeg) then gd (inb ((((10 : Int32)) * x4) + x7) 100) (bnd (S13 73 ((((10 : Int32)) * x4) + x7).toNatClampNeg : Int32) (fun y15 => f_X10_loss_b115 K42 (fun x1 x2 x3 x4 x5 x6 x7 S => f_X10_loss_b57 K42 F n x1 x2 x3 x4 x5 x6 x7 S) F x1 x2 x3 x4 x7 y15 x7 S13)) else f_X10_loss_b115 K42 (fun x1 x2 x3 x4 x5 x6 x7 S => f_X10_loss_b57 K42 F n x1 x2 x3 x4 x5 x6 x7 S) F x1 x2 x3 x4 x5 x6 x7 S13))))))
def f_X10_loss_b42 (F : Nat) : Nat → Int32 → Int32 → Int32 → Int32 → mS → Option mR
  | 0, _, _, _, _, _ => none
  | n + 1, x1, x2, x3, x4, S => (if x1 ≤ x4 then bI0 (f_X10_mostAt ((0 : Int32)) ((0 : Int32)) S) (fun r8 S7 => gd (inb r8 11264) (some (.inl (some (.int ((S7 74 r8.toNatClampNeg) - x3))), S7))) else f_X10_loss_b57 (fun x1 x2 x3 x4 S => f_X10_loss_b42 F n x1 x2 x3 x4 S) F F x1 x2 x3 x4 ((-1 : Int32)) ((0 : Int32)) ((0 : Int32)) S)
def f_X10_loss_b21 (F : Nat) (x1 : Int32) (t1 : Int32) (S : mS) : Option mR := bI0 (f_X10_throwsIf t1 ((1 : Int32)) S) (fun r5 S4 => (if r5 = 0 then bV0 (f_X10_laysMost F x1 S4) (fun S6 => f_X10_loss_b42 F F x1 ((0 : Int32)) ((0 : Int32)) ((0 : Int32)) S6) else some (.inl (some (.int ((0 : Int32)))), S4)))
def f_X10_loss (F : Nat) (p1 : Int32) (S : mS) : Option mR := bnd (upS S 63 0 ((0 : Int32))) (fun S1 => bI0 (f_X10_in p1 ((1 : Int32)) ((10 : Int32)) S1) (fun r3 S2 => (if ¬ r3 = 0 then f_X10_loss_b21 F p1 ((0 : Int32)) S2 else f_X10_loss_b21 F p1 ((1 : Int32)) S2)))
theorem f_X10_loss_b140_ok {d F : Nat} {K42 : Int32 → Int32 → Int32 → Int32 → mS → Option mR} (hK42 : ∀ {x1 : Int32} {x2 : Int32} {x3 : Int32} {x4 : Int32} {S : mS} {r : mR}, K42 x1 x2 x3 x4 S = some r → Ev (d + 11) Mx259 (42, [.ref 63, .int x1, .int x2, .int x3, .int x4, mK, mK, mK], [], S, 0) r) {x1 : Int32} {x3 : Int32} {x4 : Int32} {t1 : Int32} {t0 : Int32} {S : mS} {r : mR} (hf : f_X10_loss_b140 K42 F x1 x3 x4 t1 t0 S = some r) : Ev (d + 11) Mx259 (140, [.ref 63, .int x1, mK, .int x3, .int x4, mK, mK, mK], [.int t1, .int t0], S, 0) r := by
  unfold f_X10_loss_b140 at hf
  refine ev_sts 2 (c2 := (142, [.ref 63, .int x1, .int (t0 ||| t1), .int x3, .int x4, mK, mK, mK], [], S, 0)) rfl ?_
  refine ev_let (P := fun y12 => Ev (d + 11) Mx259 (142, [.ref 63, .int x1, .int y12, .int x3, .int x4, mK, mK, mK], [], S, 0) r) (fun y12 hf => ?_) hf
  exact ev_sts 2 (c2 := (42, [.ref 63, .int x1, .int y12, .int x3, .int (x4 + (1 : Int32)), mK, mK, mK], [], S, 0)) rfl (hK42 hf)
theorem f_X10_loss_b115_ok {d F : Nat} {K42 : Int32 → Int32 → Int32 → Int32 → mS → Option mR} (hK42 : ∀ {x1 : Int32} {x2 : Int32} {x3 : Int32} {x4 : Int32} {S : mS} {r : mR}, K42 x1 x2 x3 x4 S = some r → Ev (d + 11) Mx259 (42, [.ref 63, .int x1, .int x2, .int x3, .int x4, mK, mK, mK], [], S, 0) r) {K57 : Int32 → Int32 → Int32 → Int32 → Int32 → Int32 → Int32 → mS → Option mR} (hK57 : ∀ {x1 : Int32} {x2 : Int32} {x3 : Int32} {x4 : Int32} {x5 : Int32} {x6 : Int32} {x7 : Int32} {S : mS} {r : mR}, K57 x1 x2 x3 x4 x5 x6 x7 S = some r → Ev (d + 11) Mx259 (57, [.ref 63, .int x1, .int x2, .int x3, .int x4, .int x5, .int x6, .int x7], [], S, 0) r) {x1 : Int32} {x2 : Int32} {x3 : Int32} {x4 : Int32} {x5 : Int32} {x6 : Int32} {x7 : Int32} {S : mS} {r : mR} (hf : f_X10_loss_b115 K42 K57 F x1 x2 x3 x4 x5 x6 x7 S = some r) : Ev (d + 11) Mx259 (115, [.ref 63, .int x1, .int x2, .int x3, .int x4, .int x5, .int x6, .int x7], [], S, 0) r := by
  unfold f_X10_loss_b115 at hf
  exact ev_sts 2 (c2 := (57, [.ref 63, .int x1, .int x2, .int x3, .int x4, .int x5, .int x6, .int (x7 + (1 : Int32))], [], S, 0)) rfl (hK57 hf)
theorem f_X10_loss_b57_ok {d F : Nat} {K42 : Int32 → Int32 → Int32 → Int32 → mS → Option mR} (hK42 : ∀ {x1 : Int32} {x2 : Int32} {x3 : Int32} {x4 : Int32} {S : mS} {r : mR}, K42 x1 x2 x3 x4 S = some r → Ev (d + 11) Mx259 (42, [.ref 63, .int x1, .int x2, .int x3, .int x4, mK, mK, mK], [], S, 0) r) : ∀ (n : Nat) {x1 : Int32} {x2 : Int32} {x3 : Int32} {x4 : Int32} {x5 : Int32} {x6 : Int32} {x7 : Int32} {S : mS} {r : mR}, f_X10_loss_b57 K42 F n x1 x2 x3 x4 x5 x6 x7 S = some r → Ev (d + 11) Mx259 (57, [.ref 63, .int x1, .int x2, .int x3, .int x4, .int x5, .int x6, .int x7], [], S, 0) r := by
  intro n
  induction n with
  | zero => intro x1 x2 x3 x4 x5 x6 x7 S r hf; cases hf
  | succ n ih =>
    intro x1 x2 x3 x4 x5 x6 x7 S r hf
    rw [f_X10_loss_b57] at hf
    refine ev_sts 2 (c2 := (60, [.ref 63, .int x1, .int x2, .int x3, .int x4, .int x5, .int x6, .int x7], [.ref 63, .int x7], S, 0)) rfl ?_
    refine ev_bI0 (d := d + 10) (M' := Mx162) (ct := (63, [.ref 63, .int x1, .int x2, .int x3, .int x4, .int x5, .int x6, .int x7], [.int x7], S, 0)) hf rfl rfl rfl rfl (fun r9 h9 => f_X10_ledges_ok (d := d + 10) h9) (fun r10 S9 hf => ?_)
    show Ev (d + 11) Mx259 (63, [.ref 63, .int x1, .int x2, .int x3, .int x4, .int x5, .int x6, .int x7], [.int r10, .int x7], S9, 0) r
    refine ev_if (c1 := (121, [.ref 63, .int x1, .int x2, .int x3, .int x4, .int x5, .int x6, .int x7], [], S9, 0)) (c2 := (66, [.ref 63, .int x1, .int x2, .int x3, .int x4, .int x5, .int x6, .int x7], [], S9, 0)) hf rfl rfl (fun _ hf => ?_) (fun _ hf => ?_)
    · refine ev_sts 4 (c2 := (126, [.ref 63, .int x1, .int x2, .int (x3 + x6), .int x4, .int x5, .int x6, .int x7], [], S9, 0)) rfl ?_
      refine ev_let (P := fun y11 => Ev (d + 11) Mx259 (126, [.ref 63, .int x1, .int x2, .int y11, .int x4, .int x5, .int x6, .int x7], [], S9, 0) r) (fun y11 hf => ?_) hf
      refine ev_sts 2 (c2 := (129, [.ref 63, .int x1, .int x2, .int y11, .int x4, .int x5, .int x6, .int x7], [.int x5, .int x2], S9, 0)) rfl ?_
      refine ev_if (c1 := (136, [.ref 63, .int x1, .int x2, .int y11, .int x4, .int x5, .int x6, .int x7], [.int x2], S9, 0)) (c2 := (132, [.ref 63, .int x1, .int x2, .int y11, .int x4, .int x5, .int x6, .int x7], [.int x2], S9, 0)) hf rfl rfl (fun _ hf => ?_) (fun _ hf => ?_)
      · exact ev_sts 3 (c2 := (140, [.ref 63, .int x1, mK, .int y11, .int x4, mK, mK, mK], [.int (((1 : Int32)) <<< (x5 &&& 31)), .int x2], S9, 0)) rfl (f_X10_loss_b140_ok hK42 hf)
      · exact ev_sts 2 (c2 := (140, [.ref 63, .int x1, mK, .int y11, .int x4, mK, mK, mK], [.int ((0 : Int32)), .int x2], S9, 0)) rfl (f_X10_loss_b140_ok hK42 hf)
    · refine ev_sts 2 (c2 := (69, [.ref 63, .int x1, .int x2, .int x3, .int x4, .int x5, .int x6, .int x7], [.int x7, .int x2], S9, 0)) rfl ?_
      refine ev_bI0 (d := d + 10) (M' := Mx157) (ct := (72, [.ref 63, .int x1, .int x2, .int x3, .int x4, .int x5, .int x6, .int x7], [], S9, 0)) hf rfl rfl rfl rfl (fun r9 h9 => f_X10_has_ok (d := d + 10) h9) (fun r14 S13 hf => ?_)
      show Ev (d + 11) Mx259 (72, [.ref 63, .int x1, .int x2, .int x3, .int x4, .int x5, .int x6, .int x7], [.int r14], S13, 0) r
      refine ev_if (c1 := (115, [.ref 63, .int x1, .int x2, .int x3, .int x4, .int x5, .int x6, .int x7], [], S13, 0)) (c2 := (75, [.ref 63, .int x1, .int x2, .int x3, .int x4, .int x5, .int x6, .int x7], [], S13, 0)) hf rfl rfl (fun _ hf => ?_) (fun _ hf => ?_)
      · exact f_X10_loss_b115_ok hK42 (fun h9 => ih h9) hf
      · refine ev_sts 7 (c2 := (87, [.ref 63, .int x1, .int x2, .int x3, .int x4, .int x5, .int x6, .int x7], [.int ((((10 : Int32)) * x4) + x7), .ref 73], S13, 0)) rfl ?_
        refine ev_gd (c1 := (88, [.ref 63, .int x1, .int x2, .int x3, .int x4, .int x5, .int x6, .int x7], [.int (S13 73 ((((10 : Int32)) * x4) + x7).toNatClampNeg)], S13, 0)) hf rfl rfl (fun hf => ?_)
        refine ev_sts 1 (c2 := (90, [.ref 63, .int x1, .int x2, .int x3, .int x4, .int x5, .int x6, .int x7], [.int x6, .int (S13 73 ((((10 : Int32)) * x4) + x7).toNatClampNeg)], S13, 0)) rfl ?_
        refine ev_if (c1 := (96, [.ref 63, .int x1, .int x2, .int x3, .int x4, .int x5, .int x6, .int x7], [], S13, 0)) (c2 := (93, [.ref 63, .int x1, .int x2, .int x3, .int x4, .int x5, .int x6, .int x7], [], S13, 0)) hf rfl rfl (fun _ hf => ?_) (fun _ hf => ?_)
        · refine ev_sts 9 (c2 := (112, [.ref 63, .int x1, .int x2, .int x3, .int x4, .int x7, .int x6, .int x7], [.int ((((10 : Int32)) * x4) + x7), .ref 73], S13, 0)) rfl ?_
          refine ev_gd (c1 := (113, [.ref 63, .int x1, .int x2, .int x3, .int x4, .int x7, .int x6, .int x7], [.int (S13 73 ((((10 : Int32)) * x4) + x7).toNatClampNeg)], S13, 0)) hf rfl rfl (fun hf => ?_)
          refine ev_sts 1 (c2 := (115, [.ref 63, .int x1, .int x2, .int x3, .int x4, .int x7, .int (S13 73 ((((10 : Int32)) * x4) + x7).toNatClampNeg), .int x7], [], S13, 0)) rfl ?_
          refine ev_let (P := fun y15 => Ev (d + 11) Mx259 (115, [.ref 63, .int x1, .int x2, .int x3, .int x4, .int x7, .int y15, .int x7], [], S13, 0) r) (fun y15 hf => ?_) hf
          exact f_X10_loss_b115_ok hK42 (fun h9 => ih h9) hf
        · exact ev_sts 1 (c2 := (115, [.ref 63, .int x1, .int x2, .int x3, .int x4, .int x5, .int x6, .int x7], [], S13, 0)) rfl (f_X10_loss_b115_ok hK42 (fun h9 => ih h9) hf)
theorem f_X10_loss_b42_ok {d F : Nat} : ∀ (n : Nat) {x1 : Int32} {x2 : Int32} {x3 : Int32} {x4 : Int32} {S : mS} {r : mR}, f_X10_loss_b42 F n x1 x2 x3 x4 S = some r → Ev (d + 11) Mx259 (42, [.ref 63, .int x1, .int x2, .int x3, .int x4, mK, mK, mK], [], S, 0) r := by
  intro n
  induction n with
  | zero => intro x1 x2 x3 x4 S r hf; cases hf
  | succ n ih =>
    intro x1 x2 x3 x4 S r hf
    rw [f_X10_loss_b42] at hf
    refine ev_sts 2 (c2 := (45, [.ref 63, .int x1, .int x2, .int x3, .int x4, mK, mK, mK], [.int x1, .int x4], S, 0)) rfl ?_
    refine ev_if (c1 := (148, [.ref 63, .int x1, .int x2, .int x3, .int x4, mK, mK, mK], [], S, 0)) (c2 := (48, [.ref 63, .int x1, .int x2, .int x3, .int x4, mK, mK, mK], [], S, 0)) hf rfl rfl (fun _ hf => ?_) (fun _ hf => ?_)
    · refine ev_sts 4 (c2 := (154, [.ref 63, .int x1, .int x2, .int x3, .int x4, mK, mK, mK], [.int ((0 : Int32)), .int ((0 : Int32)), .ref 74], S, 0)) rfl ?_
      refine ev_bI0 (d := d + 10) (M' := Mx255) (ct := (157, [.ref 63, .int x1, .int x2, .int x3, .int x4, mK, mK, mK], [.ref 74], S, 0)) hf rfl rfl rfl rfl (fun r9 h9 => f_X10_mostAt_ok (d := d + 10) h9) (fun r8 S7 hf => ?_)
      show Ev (d + 11) Mx259 (157, [.ref 63, .int x1, .int x2, .int x3, .int x4, mK, mK, mK], [.int r8, .ref 74], S7, 0) r
      refine ev_gd (c1 := (158, [.ref 63, .int x1, .int x2, .int x3, .int x4, mK, mK, mK], [.int (S7 74 r8.toNatClampNeg)], S7, 0)) hf rfl rfl (fun hf => ?_)
      refine ev_sts 2 (c2 := (160, [.ref 63, .int x1, .int x2, .int x3, .int x4, mK, mK, mK], [.int ((S7 74 r8.toNatClampNeg) - x3)], S7, 0)) rfl ?_
      exact ev_ret hf rfl rfl
    · exact ev_sts 6 (c2 := (57, [.ref 63, .int x1, .int x2, .int x3, .int x4, .int ((-1 : Int32)), .int ((0 : Int32)), .int ((0 : Int32))], [], S, 0)) rfl (f_X10_loss_b57_ok (fun h9 => ih h9) _ hf)
theorem f_X10_loss_b21_ok {d F : Nat} {x1 : Int32} {t1 : Int32} {S : mS} {r : mR} (hf : f_X10_loss_b21 F x1 t1 S = some r) : Ev (d + 11) Mx259 (21, [.ref 63, .int x1, mK, mK, mK, mK, mK, mK], [.int t1, .ref 63], S, 0) r := by
  unfold f_X10_loss_b21 at hf
  refine ev_sts 1 (c2 := (22, [.ref 63, .int x1, mK, mK, mK, mK, mK, mK], [.int ((1 : Int32)), .int t1, .ref 63], S, 0)) rfl ?_
  refine ev_bI0 (d := d + 10) (M' := Mx155) (ct := (25, [.ref 63, .int x1, mK, mK, mK, mK, mK, mK], [], S, 0)) hf rfl rfl rfl rfl (fun r9 h9 => f_X10_throwsIf_ok (d := d + 10) h9) (fun r5 S4 hf => ?_)
  show Ev (d + 11) Mx259 (25, [.ref 63, .int x1, mK, mK, mK, mK, mK, mK], [.int r5], S4, 0) r
  refine ev_if (c1 := (30, [.ref 63, .int x1, mK, mK, mK, mK, mK, mK], [], S4, 0)) (c2 := (28, [.ref 63, .int x1, mK, mK, mK, mK, mK, mK], [], S4, 0)) hf rfl rfl (fun _ hf => ?_) (fun _ hf => ?_)
  · refine ev_sts 2 (c2 := (32, [.ref 63, .int x1, mK, mK, mK, mK, mK, mK], [.int x1, .ref 63], S4, 0)) rfl ?_
    refine ev_bV0 (d := d + 10) (M' := Mx257) (ct := (35, [.ref 63, .int x1, mK, mK, mK, mK, mK, mK], [], S4, 0)) hf rfl rfl rfl rfl (fun r9 h9 => f_X10_laysMost_ok (d := d) h9) (fun S6 hf => ?_)
    show Ev (d + 11) Mx259 (35, [.ref 63, .int x1, mK, mK, mK, mK, mK, mK], [], S6, 0) r
    exact ev_sts 6 (c2 := (42, [.ref 63, .int x1, .int ((0 : Int32)), .int ((0 : Int32)), .int ((0 : Int32)), mK, mK, mK], [], S6, 0)) rfl (f_X10_loss_b42_ok _ hf)
  · refine ev_sts 1 (c2 := (29, [.ref 63, .int x1, mK, mK, mK, mK, mK, mK], [.int ((0 : Int32))], S4, 0)) rfl ?_
    exact ev_ret hf rfl rfl
theorem f_X10_loss_ok {d F : Nat} {p1 : Int32} {S : mS} {r : mR} (hf : f_X10_loss F p1 S = some r) : Ev (d + 11) Mx259 (entry Mx259 [.ref 63, .int p1] S) r := by
  unfold f_X10_loss at hf
  refine ev_sts 3 (c2 := (5, [.ref 63, .int p1, mK, mK, mK, mK, mK, mK], [], (upS S 63 0 ((0 : Int32))), 0)) rfl ?_
  refine ev_let (P := fun S1 => Ev (d + 11) Mx259 (5, [.ref 63, .int p1, mK, mK, mK, mK, mK, mK], [], S1, 0) r) (fun S1 hf => ?_) hf
  refine ev_sts 4 (c2 := (10, [.ref 63, .int p1, mK, mK, mK, mK, mK, mK], [.int ((10 : Int32)), .int ((1 : Int32)), .int p1, .ref 63], S1, 0)) rfl ?_
  refine ev_bI0 (d := d + 10) (M' := Mx156) (ct := (13, [.ref 63, .int p1, mK, mK, mK, mK, mK, mK], [.ref 63], S1, 0)) hf rfl rfl rfl rfl (fun r9 h9 => f_X10_in_ok (d := d + 10) h9) (fun r3 S2 hf => ?_)
  show Ev (d + 11) Mx259 (13, [.ref 63, .int p1, mK, mK, mK, mK, mK, mK], [.int r3, .ref 63], S2, 0) r
  refine ev_if (c1 := (20, [.ref 63, .int p1, mK, mK, mK, mK, mK, mK], [.ref 63], S2, 0)) (c2 := (16, [.ref 63, .int p1, mK, mK, mK, mK, mK, mK], [.ref 63], S2, 0)) hf rfl rfl (fun _ hf => ?_) (fun _ hf => ?_)
  · exact ev_sts 1 (c2 := (21, [.ref 63, .int p1, mK, mK, mK, mK, mK, mK], [.int ((0 : Int32)), .ref 63], S2, 0)) rfl (f_X10_loss_b21_ok hf)
  · exact ev_sts 2 (c2 := (21, [.ref 63, .int p1, mK, mK, mK, mK, mK, mK], [.int ((1 : Int32)), .ref 63], S2, 0)) rfl (f_X10_loss_b21_ok hf)
def f_X10_lucky_b42 (K11 : Int32 → Int32 → Int32 → mS → Option mR) (F : Nat) (x1 : Int32) (x2 : Int32) (x3 : Int32) (S : mS) : Option mR := K11 x1 x2 (x3 + (1 : Int32)) S
def f_X10_lucky_b11 (F : Nat) : Nat → Int32 → Int32 → Int32 → mS → Option mR
  | 0, _, _, _, _ => none
  | n + 1, x1, x2, x3, S => bI0 (f_X10_climbers S) (fun r3 S2 => (if r3 ≤ x3 then some (.inl (some (.int x1)), S2) else bI0 (f_X10_loggedOf F ((1 : Int32)) x3 ((1 : Int32)) S2) (fun r5 S4 => (if x2 < r5 then f_X10_lucky_b42 (fun x1 x2 x3 S => f_X10_lucky_b11 F n x1 x2 x3 S) F x3 r5 x3 S4 else f_X10_lucky_b42 (fun x1 x2 x3 S => f_X10_lucky_b11 F n x1 x2 x3 S) F x1 x2 x3 S4))))
def f_X10_lucky (F : Nat) (S : mS) : Option mR := bnd (upS S 63 0 ((0 : Int32))) (fun S1 => f_X10_lucky_b11 F F ((-1 : Int32)) ((0 : Int32)) ((0 : Int32)) S1)
theorem f_X10_lucky_b42_ok {d F : Nat} {K11 : Int32 → Int32 → Int32 → mS → Option mR} (hK11 : ∀ {x1 : Int32} {x2 : Int32} {x3 : Int32} {S : mS} {r : mR}, K11 x1 x2 x3 S = some r → Ev (d + 2) Mx279 (11, [.ref 63, .int x1, .int x2, .int x3, mK], [], S, 0) r) {x1 : Int32} {x2 : Int32} {x3 : Int32} {S : mS} {r : mR} (hf : f_X10_lucky_b42 K11 F x1 x2 x3 S = some r) : Ev (d + 2) Mx279 (42, [.ref 63, .int x1, .int x2, .int x3, mK], [], S, 0) r := by
  unfold f_X10_lucky_b42 at hf
  exact ev_sts 2 (c2 := (11, [.ref 63, .int x1, .int x2, .int (x3 + (1 : Int32)), mK], [], S, 0)) rfl (hK11 hf)
theorem f_X10_lucky_b11_ok {d F : Nat} : ∀ (n : Nat) {x1 : Int32} {x2 : Int32} {x3 : Int32} {S : mS} {r : mR}, f_X10_lucky_b11 F n x1 x2 x3 S = some r → Ev (d + 2) Mx279 (11, [.ref 63, .int x1, .int x2, .int x3, mK], [], S, 0) r := by
  intro n
  induction n with
  | zero => intro x1 x2 x3 S r hf; cases hf
  | succ n ih =>
    intro x1 x2 x3 S r hf
    rw [f_X10_lucky_b11] at hf
    refine ev_sts 2 (c2 := (13, [.ref 63, .int x1, .int x2, .int x3, mK], [.ref 63, .int x3], S, 0)) rfl ?_
    refine ev_bI0 (d := d + 1) (M' := Mx164) (ct := (16, [.ref 63, .int x1, .int x2, .int x3, mK], [.int x3], S, 0)) hf rfl rfl rfl rfl (fun r9 h9 => f_X10_climbers_ok (d := d + 1) h9) (fun r3 S2 hf => ?_)
    show Ev (d + 2) Mx279 (16, [.ref 63, .int x1, .int x2, .int x3, mK], [.int r3, .int x3], S2, 0) r
    refine ev_if (c1 := (48, [.ref 63, .int x1, .int x2, .int x3, mK], [], S2, 0)) (c2 := (19, [.ref 63, .int x1, .int x2, .int x3, mK], [], S2, 0)) hf rfl rfl (fun _ hf => ?_) (fun _ hf => ?_)
    · refine ev_sts 1 (c2 := (49, [.ref 63, .int x1, .int x2, .int x3, mK], [.int x1], S2, 0)) rfl ?_
      exact ev_ret hf rfl rfl
    · refine ev_sts 4 (c2 := (23, [.ref 63, .int x1, .int x2, .int x3, mK], [.int ((1 : Int32)), .int x3, .int ((1 : Int32)), .ref 63], S2, 0)) rfl ?_
      refine ev_bI0 (d := d + 1) (M' := Mx277) (ct := (26, [.ref 63, .int x1, .int x2, .int x3, mK], [], S2, 0)) hf rfl rfl rfl rfl (fun r9 h9 => f_X10_loggedOf_ok (d := d) h9) (fun r5 S4 hf => ?_)
      show Ev (d + 2) Mx279 (26, [.ref 63, .int x1, .int x2, .int x3, mK], [.int r5], S4, 0) r
      refine ev_sts 3 (c2 := (31, [.ref 63, .int x1, .int x2, .int x3, .int r5], [.int x2, .int r5], S4, 0)) rfl ?_
      refine ev_if (c1 := (37, [.ref 63, .int x1, .int x2, .int x3, .int r5], [], S4, 0)) (c2 := (34, [.ref 63, .int x1, .int x2, .int x3, .int r5], [], S4, 0)) hf rfl rfl (fun _ hf => ?_) (fun _ hf => ?_)
      · exact ev_sts 4 (c2 := (42, [.ref 63, .int x3, .int r5, .int x3, mK], [], S4, 0)) rfl (f_X10_lucky_b42_ok (fun h9 => ih h9) hf)
      · exact ev_sts 1 (c2 := (42, [.ref 63, .int x1, .int x2, .int x3, mK], [], S4, 0)) rfl (f_X10_lucky_b42_ok (fun h9 => ih h9) hf)
theorem f_X10_lucky_ok {d F : Nat} {S : mS} {r : mR} (hf : f_X10_lucky F S = some r) : Ev (d + 2) Mx279 (entry Mx279 [.ref 63] S) r := by
  unfold f_X10_lucky at hf
  refine ev_sts 3 (c2 := (5, [.ref 63, mK, mK, mK, mK], [], (upS S 63 0 ((0 : Int32))), 0)) rfl ?_
  refine ev_let (P := fun S1 => Ev (d + 2) Mx279 (5, [.ref 63, mK, mK, mK, mK], [], S1, 0) r) (fun S1 hf => ?_) hf
  exact ev_sts 6 (c2 := (11, [.ref 63, .int ((-1 : Int32)), .int ((0 : Int32)), .int ((0 : Int32)), mK], [], S1, 0)) rfl (f_X10_lucky_b11_ok _ hf)
def f_X10_pairs_b78 (K34 : Int32 → Int32 → Int32 → mS → Option mR) (K45 : Int32 → Int32 → Int32 → Int32 → mS → Option mR) (F : Nat) (x1 : Int32) (x3 : Int32) (x4 : Int32) (t1 : Int32) (t0 : Int32) (S : mS) : Option mR := bnd (t0 + t1 : Int32) (fun y12 => K45 x1 y12 x3 (x4 + (1 : Int32)) S)
def f_X10_pairs_b45 (K34 : Int32 → Int32 → Int32 → mS → Option mR) (F : Nat) : Nat → Int32 → Int32 → Int32 → Int32 → mS → Option mR
  | 0, _, _, _, _, _ => none
  | n + 1, x1, x2, x3, x4, S => (if x3 ≤ x4 then K34 x1 x2 (x3 + (1 : Int32)) S else bI0 (f_X10_of x3 ((0 : Int32)) S) (fun r9 S8 => bI0 (f_X10_of x4 ((0 : Int32)) S8) (fun r11 S10 => (if x1 < (if 0 ≤ (r9 - r11) then (r9 - r11) else 0 - (r9 - r11)) then f_X10_pairs_b78 K34 (fun x1 x2 x3 x4 S => f_X10_pairs_b45 K34 F n x1 x2 x3 x4 S) F x1 x3 x4 ((0 : Int32)) x2 S10 else f_X10_pairs_b78 K34 (fun x1 x2 x3 x4 S => f_X10_pairs_b45 K34 F n x1 x2 x3 x4 S) F x1 x3 x4 ((1 : Int32)) x2 S10))))
def f_X10_pairs_b34 (F : Nat) : Nat → Int32 → Int32 → Int32 → mS → Option mR
  | 0, _, _, _, _ => none
  | n + 1, x1, x2, x3, S => bI0 (f_X10_ledges S) (fun r7 S6 => (if r7 ≤ x3 then some (.inl (some (.int x2)), S6) else f_X10_pairs_b45 (fun x1 x2 x3 S => f_X10_pairs_b34 F n x1 x2 x3 S) F F x1 x2 x3 ((0 : Int32)) S6))
def f_X10_pairs_b21 (F : Nat) (x1 : Int32) (t1 : Int32) (S : mS) : Option mR := bI0 (f_X10_throwsIf t1 ((1 : Int32)) S) (fun r5 S4 => (if r5 = 0 then f_X10_pairs_b34 F F x1 ((0 : Int32)) ((0 : Int32)) S4 else some (.inl (some (.int ((0 : Int32)))), S4)))
def f_X10_pairs (F : Nat) (p1 : Int32) (S : mS) : Option mR := bnd (upS S 63 0 ((0 : Int32))) (fun S1 => bI0 (f_X10_in p1 ((0 : Int32)) ((39 : Int32)) S1) (fun r3 S2 => (if ¬ r3 = 0 then f_X10_pairs_b21 F p1 ((0 : Int32)) S2 else f_X10_pairs_b21 F p1 ((1 : Int32)) S2)))
theorem f_X10_pairs_b78_ok {d F : Nat} {K34 : Int32 → Int32 → Int32 → mS → Option mR} (hK34 : ∀ {x1 : Int32} {x2 : Int32} {x3 : Int32} {S : mS} {r : mR}, K34 x1 x2 x3 S = some r → Ev (d + 2) Mx263 (34, [.ref 63, .int x1, .int x2, .int x3, mK], [], S, 0) r) {K45 : Int32 → Int32 → Int32 → Int32 → mS → Option mR} (hK45 : ∀ {x1 : Int32} {x2 : Int32} {x3 : Int32} {x4 : Int32} {S : mS} {r : mR}, K45 x1 x2 x3 x4 S = some r → Ev (d + 2) Mx263 (45, [.ref 63, .int x1, .int x2, .int x3, .int x4], [], S, 0) r) {x1 : Int32} {x3 : Int32} {x4 : Int32} {t1 : Int32} {t0 : Int32} {S : mS} {r : mR} (hf : f_X10_pairs_b78 K34 K45 F x1 x3 x4 t1 t0 S = some r) : Ev (d + 2) Mx263 (78, [.ref 63, .int x1, mK, .int x3, .int x4], [.int t1, .int t0], S, 0) r := by
  unfold f_X10_pairs_b78 at hf
  refine ev_sts 2 (c2 := (80, [.ref 63, .int x1, .int (t0 + t1), .int x3, .int x4], [], S, 0)) rfl ?_
  refine ev_let (P := fun y12 => Ev (d + 2) Mx263 (80, [.ref 63, .int x1, .int y12, .int x3, .int x4], [], S, 0) r) (fun y12 hf => ?_) hf
  exact ev_sts 2 (c2 := (45, [.ref 63, .int x1, .int y12, .int x3, .int (x4 + (1 : Int32))], [], S, 0)) rfl (hK45 hf)
theorem f_X10_pairs_b45_ok {d F : Nat} {K34 : Int32 → Int32 → Int32 → mS → Option mR} (hK34 : ∀ {x1 : Int32} {x2 : Int32} {x3 : Int32} {S : mS} {r : mR}, K34 x1 x2 x3 S = some r → Ev (d + 2) Mx263 (34, [.ref 63, .int x1, .int x2, .int x3, mK], [], S, 0) r) : ∀ (n : Nat) {x1 : Int32} {x2 : Int32} {x3 : Int32} {x4 : Int32} {S : mS} {r : mR}, f_X10_pairs_b45 K34 F n x1 x2 x3 x4 S = some r → Ev (d + 2) Mx263 (45, [.ref 63, .int x1, .int x2, .int x3, .int x4], [], S, 0) r := by
  intro n
  induction n with
  | zero => intro x1 x2 x3 x4 S r hf; cases hf
  | succ n ih =>
    intro x1 x2 x3 x4 S r hf
    rw [f_X10_pairs_b45] at hf
    refine ev_sts 2 (c2 := (48, [.ref 63, .int x1, .int x2, .int x3, .int x4], [.int x3, .int x4], S, 0)) rfl ?_
    refine ev_if (c1 := (86, [.ref 63, .int x1, .int x2, .int x3, .int x4], [], S, 0)) (c2 := (51, [.ref 63, .int x1, .int x2, .int x3, .int x4], [], S, 0)) hf rfl rfl (fun _ hf => ?_) (fun _ hf => ?_)
    · exact ev_sts 2 (c2 := (34, [.ref 63, .int x1, .int x2, .int (x3 + (1 : Int32)), mK], [], S, 0)) rfl (hK34 hf)
    · refine ev_sts 4 (c2 := (55, [.ref 63, .int x1, .int x2, .int x3, .int x4], [.int ((0 : Int32)), .int x3, .ref 63, .int x2], S, 0)) rfl ?_
      refine ev_bI0 (d := d + 1) (M' := Mx166) (ct := (58, [.ref 63, .int x1, .int x2, .int x3, .int x4], [.int x2], S, 0)) hf rfl rfl rfl rfl (fun r9 h9 => f_X10_of_ok (d := d) h9) (fun r9 S8 hf => ?_)
      show Ev (d + 2) Mx263 (58, [.ref 63, .int x1, .int x2, .int x3, .int x4], [.int r9, .int x2], S8, 0) r
      refine ev_sts 3 (c2 := (62, [.ref 63, .int x1, .int x2, .int x3, .int x4], [.int ((0 : Int32)), .int x4, .ref 63, .int r9, .int x2], S8, 0)) rfl ?_
      refine ev_bI0 (d := d + 1) (M' := Mx166) (ct := (65, [.ref 63, .int x1, .int x2, .int x3, .int x4], [.int r9, .int x2], S8, 0)) hf rfl rfl rfl rfl (fun r9 h9 => f_X10_of_ok (d := d) h9) (fun r11 S10 hf => ?_)
      show Ev (d + 2) Mx263 (65, [.ref 63, .int x1, .int x2, .int x3, .int x4], [.int r11, .int r9, .int x2], S10, 0) r
      refine ev_sts 3 (c2 := (70, [.ref 63, .int x1, .int x2, .int x3, .int x4], [.int x1, .int (if 0 ≤ (r9 - r11) then (r9 - r11) else 0 - (r9 - r11)), .int x2], S10, 0)) rfl ?_
      refine ev_if (c1 := (77, [.ref 63, .int x1, .int x2, .int x3, .int x4], [.int x2], S10, 0)) (c2 := (73, [.ref 63, .int x1, .int x2, .int x3, .int x4], [.int x2], S10, 0)) hf rfl rfl (fun _ hf => ?_) (fun _ hf => ?_)
      · exact ev_sts 1 (c2 := (78, [.ref 63, .int x1, mK, .int x3, .int x4], [.int ((0 : Int32)), .int x2], S10, 0)) rfl (f_X10_pairs_b78_ok hK34 (fun h9 => ih h9) hf)
      · exact ev_sts 2 (c2 := (78, [.ref 63, .int x1, mK, .int x3, .int x4], [.int ((1 : Int32)), .int x2], S10, 0)) rfl (f_X10_pairs_b78_ok hK34 (fun h9 => ih h9) hf)
theorem f_X10_pairs_b34_ok {d F : Nat} : ∀ (n : Nat) {x1 : Int32} {x2 : Int32} {x3 : Int32} {S : mS} {r : mR}, f_X10_pairs_b34 F n x1 x2 x3 S = some r → Ev (d + 2) Mx263 (34, [.ref 63, .int x1, .int x2, .int x3, mK], [], S, 0) r := by
  intro n
  induction n with
  | zero => intro x1 x2 x3 S r hf; cases hf
  | succ n ih =>
    intro x1 x2 x3 S r hf
    rw [f_X10_pairs_b34] at hf
    refine ev_sts 2 (c2 := (36, [.ref 63, .int x1, .int x2, .int x3, mK], [.ref 63, .int x3], S, 0)) rfl ?_
    refine ev_bI0 (d := d + 1) (M' := Mx162) (ct := (39, [.ref 63, .int x1, .int x2, .int x3, mK], [.int x3], S, 0)) hf rfl rfl rfl rfl (fun r9 h9 => f_X10_ledges_ok (d := d + 1) h9) (fun r7 S6 hf => ?_)
    show Ev (d + 2) Mx263 (39, [.ref 63, .int x1, .int x2, .int x3, mK], [.int r7, .int x3], S6, 0) r
    refine ev_if (c1 := (92, [.ref 63, .int x1, .int x2, .int x3, mK], [], S6, 0)) (c2 := (42, [.ref 63, .int x1, .int x2, .int x3, mK], [], S6, 0)) hf rfl rfl (fun _ hf => ?_) (fun _ hf => ?_)
    · refine ev_sts 1 (c2 := (93, [.ref 63, .int x1, .int x2, .int x3, mK], [.int x2], S6, 0)) rfl ?_
      exact ev_ret hf rfl rfl
    · exact ev_sts 2 (c2 := (45, [.ref 63, .int x1, .int x2, .int x3, .int ((0 : Int32))], [], S6, 0)) rfl (f_X10_pairs_b45_ok (fun h9 => ih h9) _ hf)
theorem f_X10_pairs_b21_ok {d F : Nat} {x1 : Int32} {t1 : Int32} {S : mS} {r : mR} (hf : f_X10_pairs_b21 F x1 t1 S = some r) : Ev (d + 2) Mx263 (21, [.ref 63, .int x1, mK, mK, mK], [.int t1, .ref 63], S, 0) r := by
  unfold f_X10_pairs_b21 at hf
  refine ev_sts 1 (c2 := (22, [.ref 63, .int x1, mK, mK, mK], [.int ((1 : Int32)), .int t1, .ref 63], S, 0)) rfl ?_
  refine ev_bI0 (d := d + 1) (M' := Mx155) (ct := (25, [.ref 63, .int x1, mK, mK, mK], [], S, 0)) hf rfl rfl rfl rfl (fun r9 h9 => f_X10_throwsIf_ok (d := d + 1) h9) (fun r5 S4 hf => ?_)
  show Ev (d + 2) Mx263 (25, [.ref 63, .int x1, mK, mK, mK], [.int r5], S4, 0) r
  refine ev_if (c1 := (30, [.ref 63, .int x1, mK, mK, mK], [], S4, 0)) (c2 := (28, [.ref 63, .int x1, mK, mK, mK], [], S4, 0)) hf rfl rfl (fun _ hf => ?_) (fun _ hf => ?_)
  · exact ev_sts 4 (c2 := (34, [.ref 63, .int x1, .int ((0 : Int32)), .int ((0 : Int32)), mK], [], S4, 0)) rfl (f_X10_pairs_b34_ok _ hf)
  · refine ev_sts 1 (c2 := (29, [.ref 63, .int x1, mK, mK, mK], [.int ((0 : Int32))], S4, 0)) rfl ?_
    exact ev_ret hf rfl rfl
theorem f_X10_pairs_ok {d F : Nat} {p1 : Int32} {S : mS} {r : mR} (hf : f_X10_pairs F p1 S = some r) : Ev (d + 2) Mx263 (entry Mx263 [.ref 63, .int p1] S) r := by
  unfold f_X10_pairs at hf
  refine ev_sts 3 (c2 := (5, [.ref 63, .int p1, mK, mK, mK], [], (upS S 63 0 ((0 : Int32))), 0)) rfl ?_
  refine ev_let (P := fun S1 => Ev (d + 2) Mx263 (5, [.ref 63, .int p1, mK, mK, mK], [], S1, 0) r) (fun S1 hf => ?_) hf
  refine ev_sts 4 (c2 := (10, [.ref 63, .int p1, mK, mK, mK], [.int ((39 : Int32)), .int ((0 : Int32)), .int p1, .ref 63], S1, 0)) rfl ?_
  refine ev_bI0 (d := d + 1) (M' := Mx156) (ct := (13, [.ref 63, .int p1, mK, mK, mK], [.ref 63], S1, 0)) hf rfl rfl rfl rfl (fun r9 h9 => f_X10_in_ok (d := d + 1) h9) (fun r3 S2 hf => ?_)
  show Ev (d + 2) Mx263 (13, [.ref 63, .int p1, mK, mK, mK], [.int r3, .ref 63], S2, 0) r
  refine ev_if (c1 := (20, [.ref 63, .int p1, mK, mK, mK], [.ref 63], S2, 0)) (c2 := (16, [.ref 63, .int p1, mK, mK, mK], [.ref 63], S2, 0)) hf rfl rfl (fun _ hf => ?_) (fun _ hf => ?_)
  · exact ev_sts 1 (c2 := (21, [.ref 63, .int p1, mK, mK, mK], [.int ((0 : Int32)), .ref 63], S2, 0)) rfl (f_X10_pairs_b21_ok hf)
  · exact ev_sts 2 (c2 := (21, [.ref 63, .int p1, mK, mK, mK], [.int ((1 : Int32)), .ref 63], S2, 0)) rfl (f_X10_pairs_b21_ok hf)
