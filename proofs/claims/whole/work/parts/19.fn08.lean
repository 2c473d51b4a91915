def f_X10_blanks_b0 (F : Nat) : Nat → mS → Option mR
  | 0, _ => none
  | n + 1, S => bI0 (f_X10_isAt ((32 : Int32)) ((32 : Int32)) S) (fun r2 S1 => (if r2 = 0 then bnd (upS S1 63 12 (S1 63 10)) (fun S3 => some (.inl none, S3)) else bnd (upS S1 63 10 ((S1 63 10) + ((1 : Int32)))) (fun S4 => f_X10_blanks_b0 F n S4)))
def f_X10_blanks (F : Nat) (S : mS) : Option mR := f_X10_blanks_b0 F F S
theorem f_X10_blanks_b0_ok {d F : Nat} : ∀ (n : Nat) {S : mS} {r : mR}, f_X10_blanks_b0 F n  S = some r → Ev (d + 1) Mx177 (0, [.ref 63], [], S, 0) r := by
  intro n
  induction n with
  | zero => intro  S r hf; cases hf
  | succ n ih =>
    intro  S r hf
    rw [f_X10_blanks_b0] at hf
    refine ev_sts 3 (c2 := (5, [.ref 63], [.int ((32 : Int32)), .int ((32 : Int32)), .ref 63], S, 0)) rfl ?_
    refine ev_bI0 (d := d) (M' := Mx176) (ct := (8, [.ref 63], [], S, 0)) hf rfl rfl rfl rfl (fun r9 h9 => f_X10_isAt_ok (d := d) h9) (fun r2 S1 hf => ?_)
    show Ev (d + 1) Mx177 (8, [.ref 63], [.int r2], S1, 0) r
    refine ev_if (c1 := (24, [.ref 63], [], S1, 0)) (c2 := (11, [.ref 63], [], S1, 0)) hf rfl rfl (fun _ hf => ?_) (fun _ hf => ?_)
    · refine ev_sts 4 (c2 := (32, [.ref 63], [], (upS S1 63 12 (S1 63 10)), 0)) rfl ?_
      refine ev_let (P := fun S3 => Ev (d + 1) Mx177 (32, [.ref 63], [], S3, 0) r) (fun S3 hf => ?_) hf
      exact ev_ret hf rfl rfl
    · refine ev_sts 6 (c2 := (21, [.ref 63], [], (upS S1 63 10 ((S1 63 10) + ((1 : Int32)))), 0)) rfl ?_
      refine ev_let (P := fun S4 => Ev (d + 1) Mx177 (21, [.ref 63], [], S4, 0) r) (fun S4 hf => ?_) hf
      exact ev_sts 1 (c2 := (0, [.ref 63], [], S4, 0)) rfl (ih hf)
theorem f_X10_blanks_ok {d F : Nat} {S : mS} {r : mR} (hf : f_X10_blanks F S = some r) : Ev (d + 1) Mx177 (entry Mx177 [.ref 63] S) r := by
  unfold f_X10_blanks at hf
  exact f_X10_blanks_b0_ok _ hf
def f_X10_letters_b4 (F : Nat) : Nat → mS → Option mR
  | 0, _ => none
  | n + 1, S => bI0 (f_X10_isAt ((97 : Int32)) ((122 : Int32)) S) (fun r3 S2 => (if r3 = 0 then some (.inl none, S2) else bnd (upS S2 63 10 ((S2 63 10) + ((1 : Int32)))) (fun S4 => f_X10_letters_b4 F n S4)))
def f_X10_letters (F : Nat) (S : mS) : Option mR := bV0 (f_X10_blanks F S) (fun S1 => f_X10_letters_b4 F F S1)
theorem f_X10_letters_b4_ok {d F : Nat} : ∀ (n : Nat) {S : mS} {r : mR}, f_X10_letters_b4 F n  S = some r → Ev (d + 2) Mx178 (4, [.ref 63], [], S, 0) r := by
  intro n
  induction n with
  | zero => intro  S r hf; cases hf
  | succ n ih =>
    intro  S r hf
    rw [f_X10_letters_b4] at hf
    refine ev_sts 3 (c2 := (9, [.ref 63], [.int ((122 : Int32)), .int ((97 : Int32)), .ref 63], S, 0)) rfl ?_
    refine ev_bI0 (d := d + 1) (M' := Mx176) (ct := (12, [.ref 63], [], S, 0)) hf rfl rfl rfl rfl (fun r9 h9 => f_X10_isAt_ok (d := d + 1) h9) (fun r3 S2 hf => ?_)
    show Ev (d + 2) Mx178 (12, [.ref 63], [.int r3], S2, 0) r
    refine ev_if (c1 := (28, [.ref 63], [], S2, 0)) (c2 := (15, [.ref 63], [], S2, 0)) hf rfl rfl (fun _ hf => ?_) (fun _ hf => ?_)
    · exact ev_ret hf rfl rfl
    · refine ev_sts 6 (c2 := (25, [.ref 63], [], (upS S2 63 10 ((S2 63 10) + ((1 : Int32)))), 0)) rfl ?_
      refine ev_let (P := fun S4 => Ev (d + 2) Mx178 (25, [.ref 63], [], S4, 0) r) (fun S4 hf => ?_) hf
      exact ev_sts 1 (c2 := (4, [.ref 63], [], S4, 0)) rfl (ih hf)
theorem f_X10_letters_ok {d F : Nat} {S : mS} {r : mR} (hf : f_X10_letters F S = some r) : Ev (d + 2) Mx178 (entry Mx178 [.ref 63] S) r := by
  unfold f_X10_letters at hf
  refine ev_sts 1 (c2 := (1, [.ref 63], [.ref 63], S, 0)) rfl ?_
  refine ev_bV0 (d := d + 1) (M' := Mx177) (ct := (4, [.ref 63], [], S, 0)) hf rfl rfl rfl rfl (fun r9 h9 => f_X10_blanks_ok (d := d) h9) (fun S1 hf => ?_)
  show Ev (d + 2) Mx178 (4, [.ref 63], [], S1, 0) r
  exact f_X10_letters_b4_ok _ hf
def f_X10_number_b104 (F : Nat) (t0 : Int32) (S : mS) : Option mR := some (.inl (some (.int t0)), S)
def f_X10_number_b99 (F : Nat) (S : mS) : Option mR := f_X10_number_b104 F ((-1 : Int32)) S
def f_X10_number_b51 (K6 : Int32 → Int32 → Int32 → mS → Option mR) (F : Nat) (x1 : Int32) (x2 : Int32) (t0 : Int32) (S : mS) : Option mR := bnd (upS S 63 10 ((S 63 10) + ((1 : Int32)))) (fun S4 => K6 x1 x2 t0 S4)
def f_X10_number_b6 (F : Nat) : Nat → Int32 → Int32 → Int32 → mS → Option mR
  | 0, _, _, _, _ => none
  | n + 1, x1, x2, x3, S => bI0 (f_X10_isAt ((48 : Int32)) ((57 : Int32)) S) (fun r3 S2 => (if r3 = 0 then (if (S2 63 10) = (S2 63 12) then f_X10_number_b99 F S2 else (if ((3 : Int32)) < ((S2 63 10) - (S2 63 12)) then f_X10_number_b99 F S2 else (if x3 < x1 then f_X10_number_b99 F S2 else (if x3 ≤ x2 then f_X10_number_b104 F x3 S2 else f_X10_number_b99 F S2)))) else (if ((3 : Int32)) ≤ ((S2 63 10) - (S2 63 12)) then f_X10_number_b51 (fun x1 x2 x3 S => f_X10_number_b6 F n x1 x2 x3 S) F x1 x2 x3 S2 else gd (inb (S2 63 10) 400) (f_X10_number_b51 (fun x1 x2 x3 S => f_X10_number_b6 F n x1 x2 x3 S) F x1 x2 (((((10 : Int32)) * x3) + (S2 69 (S2 63 10).toNatClampNeg)) - ((48 : Int32))) S2))))
def f_X10_number (F : Nat) (p1 : Int32) (p2 : Int32) (S : mS) : Option mR := bV0 (f_X10_blanks F S) (fun S1 => f_X10_number_b6 F F p1 p2 ((0 : Int32)) S1)
theorem f_X10_number_b104_ok {d F : Nat} {t0 : Int32} {S : mS} {r : mR} (hf : f_X10_number_b104 F t0 S = some r) : Ev (d + 2) Mx182 (104, [mK, mK, mK, mK], [.int t0], S, 0) r := by
  unfold f_X10_number_b104 at hf
  exact ev_ret hf rfl rfl
theorem f_X10_number_b99_ok {d F : Nat} {S : mS} {r : mR} (hf : f_X10_number_b99 F  S = some r) : Ev (d + 2) Mx182 (99, [mK, mK, mK, mK], [], S, 0) r := by
  unfold f_X10_number_b99 at hf
  exact ev_sts 2 (c2 := (104, [mK, mK, mK, mK], [.int ((-1 : Int32))], S, 0)) rfl (f_X10_number_b104_ok hf)
theorem f_X10_number_b51_ok {d F : Nat} {K6 : Int32 → Int32 → Int32 → mS → Option mR} (hK6 : ∀ {x1 : Int32} {x2 : Int32} {x3 : Int32} {S : mS} {r : mR}, K6 x1 x2 x3 S = some r → Ev (d + 2) Mx182 (6, [.ref 63, .int x1, .int x2, .int x3], [], S, 0) r) {x1 : Int32} {x2 : Int32} {t0 : Int32} {S : mS} {r : mR} (hf : f_X10_number_b51 K6 F x1 x2 t0 S = some r) : Ev (d + 2) Mx182 (51, [.ref 63, .int x1, .int x2, mK], [.int t0], S, 0) r := by
  unfold f_X10_number_b51 at hf
  refine ev_sts 7 (c2 := (62, [.ref 63, .int x1, .int x2, .int t0], [], (upS S 63 10 ((S 63 10) + ((1 : Int32)))), 0)) rfl ?_
  refine ev_let (P := fun S4 => Ev (d + 2) Mx182 (62, [.ref 63, .int x1, .int x2, .int t0], [], S4, 0) r) (fun S4 hf => ?_) hf
  exact ev_sts 1 (c2 := (6, [.ref 63, .int x1, .int x2, .int t0], [], S4, 0)) rfl (hK6 hf)
theorem f_X10_number_b6_ok {d F : Nat} : ∀ (n : Nat) {x1 : Int32} {x2 : Int32} {x3 : Int32} {S : mS} {r : mR}, f_X10_number_b6 F n x1 x2 x3 S = some r → Ev (d + 2) Mx182 (6, [.ref 63, .int x1, .int x2, .int x3], [], S, 0) r := by
  intro n
  induction n with
  | zero => intro x1 x2 x3 S r hf; cases hf
  | succ n ih =>
    intro x1 x2 x3 S r hf
    rw [f_X10_number_b6] at hf
    refine ev_sts 3 (c2 := (11, [.ref 63, .int x1, .int x2, .int x3], [.int ((57 : Int32)), .int ((48 : Int32)), .ref 63], S, 0)) rfl ?_
    refine ev_bI0 (d := d + 1) (M' := Mx176) (ct := (14, [.ref 63, .int x1, .int x2, .int x3], [], S, 0)) hf rfl rfl rfl rfl (fun r9 h9 => f_X10_isAt_ok (d := d + 1) h9) (fun r3 S2 hf => ?_)
    show Ev (d + 2) Mx182 (14, [.ref 63, .int x1, .int x2, .int x3], [.int r3], S2, 0) r
    refine ev_if (c1 := (65, [.ref 63, .int x1, .int x2, .int x3], [], S2, 0)) (c2 := (17, [.ref 63, .int x1, .int x2, .int x3], [], S2, 0)) hf rfl rfl (fun _ hf => ?_) (fun _ hf => ?_)
    · refine ev_sts 4 (c2 := (73, [.ref 63, .int x1, .int x2, .int x3], [.int (S2 63 12), .int (S2 63 10)], S2, 0)) rfl ?_
      refine ev_if (c1 := (99, [mK, mK, mK, mK], [], S2, 0)) (c2 := (76, [.ref 63, .int x1, .int x2, .int x3], [], S2, 0)) hf rfl rfl (fun _ hf => ?_) (fun _ hf => ?_)
      · exact f_X10_number_b99_ok hf
      · refine ev_sts 6 (c2 := (86, [.ref 63, .int x1, .int x2, .int x3], [.int ((3 : Int32)), .int ((S2 63 10) - (S2 63 12))], S2, 0)) rfl ?_
        refine ev_if (c1 := (99, [mK, mK, mK, mK], [], S2, 0)) (c2 := (89, [.ref 63, .int x1, .int x2, .int x3], [], S2, 0)) hf rfl rfl (fun _ hf => ?_) (fun _ hf => ?_)
        · exact f_X10_number_b99_ok hf
        · refine ev_sts 2 (c2 := (91, [.ref 63, .int x1, .int x2, .int x3], [.int x1, .int x3], S2, 0)) rfl ?_
          refine ev_if (c1 := (99, [mK, mK, mK, mK], [], S2, 0)) (c2 := (94, [.ref 63, .int x1, .int x2, .int x3], [], S2, 0)) hf rfl rfl (fun _ hf => ?_) (fun _ hf => ?_)
          · exact f_X10_number_b99_ok hf
          · refine ev_sts 2 (c2 := (96, [.ref 63, .int x1, .int x2, .int x3], [.int x2, .int x3], S2, 0)) rfl ?_
            refine ev_if (c1 := (103, [.ref 63, .int x1, .int x2, .int x3], [], S2, 0)) (c2 := (99, [mK, mK, mK, mK], [], S2, 0)) hf rfl rfl (fun _ hf => ?_) (fun _ hf => ?_)
            · exact ev_sts 1 (c2 := (104, [mK, mK, mK, mK], [.int x3], S2, 0)) rfl (f_X10_number_b104_ok hf)
            · exact f_X10_number_b99_ok hf
    · refine ev_sts 6 (c2 := (27, [.ref 63, .int x1, .int x2, .int x3], [.int ((3 : Int32)), .int ((S2 63 10) - (S2 63 12))], S2, 0)) rfl ?_
      refine ev_if (c1 := (50, [.ref 63, .int x1, .int x2, .int x3], [], S2, 0)) (c2 := (30, [.ref 63, .int x1, .int x2, .int x3], [], S2, 0)) hf rfl rfl (fun _ hf => ?_) (fun _ hf => ?_)
      · exact ev_sts 1 (c2 := (51, [.ref 63, .int x1, .int x2, mK], [.int x3], S2, 0)) rfl (f_X10_number_b51_ok (fun h9 => ih h9) hf)
      · refine ev_sts 7 (c2 := (42, [.ref 63, .int x1, .int x2, .int x3], [.int (S2 63 10), .ref 69, .int (((10 : Int32)) * x3)], S2, 0)) rfl ?_
        refine ev_gd (c1 := (43, [.ref 63, .int x1, .int x2, .int x3], [.int (S2 69 (S2 63 10).toNatClampNeg), .int (((10 : Int32)) * x3)], S2, 0)) hf rfl rfl (fun hf => ?_)
        exact ev_sts 4 (c2 := (51, [.ref 63, .int x1, .int x2, mK], [.int (((((10 : Int32)) * x3) + (S2 69 (S2 63 10).toNatClampNeg)) - ((48 : Int32)))], S2, 0)) rfl (f_X10_number_b51_ok (fun h9 => ih h9) hf)
theorem f_X10_number_ok {d F : Nat} {p1 : Int32} {p2 : Int32} {S : mS} {r : mR} (hf : f_X10_number F p1 p2 S = some r) : Ev (d + 2) Mx182 (entry Mx182 [.ref 63, .int p1, .int p2] S) r := by
  unfold f_X10_number at hf
  refine ev_sts 1 (c2 := (1, [.ref 63, .int p1, .int p2, mK], [.ref 63], S, 0)) rfl ?_
  refine ev_bV0 (d := d + 1) (M' := Mx177) (ct := (4, [.ref 63, .int p1, .int p2, mK], [], S, 0)) hf rfl rfl rfl rfl (fun r9 h9 => f_X10_blanks_ok (d := d) h9) (fun S1 hf => ?_)
  show Ev (d + 2) Mx182 (4, [.ref 63, .int p1, .int p2, mK], [], S1, 0) r
  exact ev_sts 2 (c2 := (6, [.ref 63, .int p1, .int p2, .int ((0 : Int32))], [], S1, 0)) rfl (f_X10_number_b6_ok _ hf)
def f_X10_after_b22 (F : Nat) (w1 : Nat) (t0 : Int32) (S : mS) : Option mR := some (.inl (some (.int t0)), S)
def f_X10_after (F : Nat) (w1 : Nat) (p2 : Int32) (p3 : Int32) (S : mS) : Option mR := bV0 (f_X10_letters F S) (fun S1 => bI0 (f_X10_isWord F w1 S1) (fun r3 S2 => (if r3 = 0 then f_X10_after_b22 F w1 ((-1 : Int32)) S2 else bI0 (f_X10_number F p2 p3 S2) (fun r5 S4 => f_X10_after_b22 F w1 r5 S4))))
theorem f_X10_after_b22_ok_1004 {d F : Nat} {t0 : Int32} {S : mS} {r : mR} (hf : f_X10_after_b22 F 4 t0 S = some r) : Ev (d + 3) Mx183 (22, [mK, mK, mK, mK], [.int t0], S, 0) r := by
  unfold f_X10_after_b22 at hf
  exact ev_ret hf rfl rfl
theorem f_X10_after_ok_1004 {d F : Nat} {p2 : Int32} {p3 : Int32} {S : mS} {r : mR} (hf : f_X10_after F 4 p2 p3 S = some r) : Ev (d + 3) Mx183 (entry Mx183 [.ref 63, .ref 1004, .int p2, .int p3] S) r := by
  unfold f_X10_after at hf
  refine ev_sts 1 (c2 := (1, [.ref 63, .ref 1004, .int p2, .int p3], [.ref 63], S, 0)) rfl ?_
  refine ev_bV0 (d := d + 2) (M' := Mx178) (ct := (4, [.ref 63, .ref 1004, .int p2, .int p3], [], S, 0)) hf rfl rfl rfl rfl (fun r9 h9 => f_X10_letters_ok (d := d) h9) (fun S1 hf => ?_)
  show Ev (d + 3) Mx183 (4, [.ref 63, .ref 1004, .int p2, .int p3], [], S1, 0) r
  refine ev_sts 2 (c2 := (6, [.ref 63, .ref 1004, .int p2, .int p3], [.ref 1004, .ref 63], S1, 0)) rfl ?_
  refine ev_bI0 (d := d + 2) (M' := Mx179) (ct := (9, [.ref 63, .ref 1004, .int p2, .int p3], [], S1, 0)) hf rfl rfl rfl rfl (fun r9 h9 => f_X10_isWord_ok_1004 (d := d + 2) h9) (fun r3 S2 hf => ?_)
  show Ev (d + 3) Mx183 (9, [.ref 63, .ref 1004, .int p2, .int p3], [.int r3], S2, 0) r
  refine ev_if (c1 := (21, [.ref 63, .ref 1004, .int p2, .int p3], [], S2, 0)) (c2 := (12, [.ref 63, .ref 1004, .int p2, .int p3], [], S2, 0)) hf rfl rfl (fun _ hf => ?_) (fun _ hf => ?_)
  · exact ev_sts 1 (c2 := (22, [mK, mK, mK, mK], [.int ((-1 : Int32))], S2, 0)) rfl (f_X10_after_b22_ok_1004 hf)
  · refine ev_sts 3 (c2 := (15, [.ref 63, .ref 1004, .int p2, .int p3], [.int p3, .int p2, .ref 63], S2, 0)) rfl ?_
    refine ev_bI0 (d := d + 2) (M' := Mx182) (ct := (18, [.ref 63, .ref 1004, .int p2, .int p3], [], S2, 0)) hf rfl rfl rfl rfl (fun r9 h9 => f_X10_number_ok (d := d) h9) (fun r5 S4 hf => ?_)
    show Ev (d + 3) Mx183 (18, [.ref 63, .ref 1004, .int p2, .int p3], [.int r5], S4, 0) r
    exact ev_sts 1 (c2 := (22, [mK, mK, mK, mK], [.int r5], S4, 0)) rfl (f_X10_after_b22_ok_1004 hf)
theorem f_X10_after_b22_ok_1003 {d F : Nat} {t0 : Int32} {S : mS} {r : mR} (hf : f_X10_after_b22 F 3 t0 S = some r) : Ev (d + 3) Mx183 (22, [mK, mK, mK, mK], [.int t0], S, 0) r := by
  unfold f_X10_after_b22 at hf
  exact ev_ret hf rfl rfl
theorem f_X10_after_ok_1003 {d F : Nat} {p2 : Int32} {p3 : Int32} {S : mS} {r : mR} (hf : f_X10_after F 3 p2 p3 S = some r) : Ev (d + 3) Mx183 (entry Mx183 [.ref 63, .ref 1003, .int p2, .int p3] S) r := by
  unfold f_X10_after at hf
  refine ev_sts 1 (c2 := (1, [.ref 63, .ref 1003, .int p2, .int p3], [.ref 63], S, 0)) rfl ?_
  refine ev_bV0 (d := d + 2) (M' := Mx178) (ct := (4, [.ref 63, .ref 1003, .int p2, .int p3], [], S, 0)) hf rfl rfl rfl rfl (fun r9 h9 => f_X10_letters_ok (d := d) h9) (fun S1 hf => ?_)
  show Ev (d + 3) Mx183 (4, [.ref 63, .ref 1003, .int p2, .int p3], [], S1, 0) r
  refine ev_sts 2 (c2 := (6, [.ref 63, .ref 1003, .int p2, .int p3], [.ref 1003, .ref 63], S1, 0)) rfl ?_
  refine ev_bI0 (d := d + 2) (M' := Mx179) (ct := (9, [.ref 63, .ref 1003, .int p2, .int p3], [], S1, 0)) hf rfl rfl rfl rfl (fun r9 h9 => f_X10_isWord_ok_1003 (d := d + 2) h9) (fun r3 S2 hf => ?_)
  show Ev (d + 3) Mx183 (9, [.ref 63, .ref 1003, .int p2, .int p3], [.int r3], S2, 0) r
  refine ev_if (c1 := (21, [.ref 63, .ref 1003, .int p2, .int p3], [], S2, 0)) (c2 := (12, [.ref 63, .ref 1003, .int p2, .int p3], [], S2, 0)) hf rfl rfl (fun _ hf => ?_) (fun _ hf => ?_)
  · exact ev_sts 1 (c2 := (22, [mK, mK, mK, mK], [.int ((-1 : Int32))], S2, 0)) rfl (f_X10_after_b22_ok_1003 hf)
  · refine ev_sts 3 (c2 := (15, [.ref 63, .ref 1003, .int p2, .int p3], [.int p3, .int p2, .ref 63], S2, 0)) rfl ?_
    refine ev_bI0 (d := d + 2) (M' := Mx182) (ct := (18, [.ref 63, .ref 1003, .int p2, .int p3], [], S2, 0)) hf rfl rfl rfl rfl (fun r9 h9 => f_X10_number_ok (d := d) h9) (fun r5 S4 hf => ?_)
    show Ev (d + 3) Mx183 (18, [.ref 63, .ref 1003, .int p2, .int p3], [.int r5], S4, 0) r
    exact ev_sts 1 (c2 := (22, [mK, mK, mK, mK], [.int r5], S4, 0)) rfl (f_X10_after_b22_ok_1003 hf)
theorem f_X10_after_b22_ok_1002 {d F : Nat} {t0 : Int32} {S : mS} {r : mR} (hf : f_X10_after_b22 F 2 t0 S = some r) : Ev (d + 3) Mx183 (22, [mK, mK, mK, mK], [.int t0], S, 0) r := by
  unfold f_X10_after_b22 at hf
  exact ev_ret hf rfl rfl
theorem f_X10_after_ok_1002 {d F : Nat} {p2 : Int32} {p3 : Int32} {S : mS} {r : mR} (hf : f_X10_after F 2 p2 p3 S = some r) : Ev (d + 3) Mx183 (entry Mx183 [.ref 63, .ref 1002, .int p2, .int p3] S) r := by
  unfold f_X10_after at hf
  refine ev_sts 1 (c2 := (1, [.ref 63, .ref 1002, .int p2, .int p3], [.ref 63], S, 0)) rfl ?_
  refine ev_bV0 (d := d + 2) (M' := Mx178) (ct := (4, [.ref 63, .ref 1002, .int p2, .int p3], [], S, 0)) hf rfl rfl rfl rfl (fun r9 h9 => f_X10_letters_ok (d := d) h9) (fun S1 hf => ?_)
  show Ev (d + 3) Mx183 (4, [.ref 63, .ref 1002, .int p2, .int p3], [], S1, 0) r
  refine ev_sts 2 (c2 := (6, [.ref 63, .ref 1002, .int p2, .int p3], [.ref 1002, .ref 63], S1, 0)) rfl ?_
  refine ev_bI0 (d := d + 2) (M' := Mx179) (ct := (9, [.ref 63, .ref 1002, .int p2, .int p3], [], S1, 0)) hf rfl rfl rfl rfl (fun r9 h9 => f_X10_isWord_ok_1002 (d := d + 2) h9) (fun r3 S2 hf => ?_)
  show Ev (d + 3) Mx183 (9, [.ref 63, .ref 1002, .int p2, .int p3], [.int r3], S2, 0) r
  refine ev_if (c1 := (21, [.ref 63, .ref 1002, .int p2, .int p3], [], S2, 0)) (c2 := (12, [.ref 63, .ref 1002, .int p2, .int p3], [], S2, 0)) hf rfl rfl (fun _ hf => ?_) (fun _ hf => ?_)
  · exact ev_sts 1 (c2 := (22, [mK, mK, mK, mK], [.int ((-1 : Int32))], S2, 0)) rfl (f_X10_after_b22_ok_1002 hf)
  · refine ev_sts 3 (c2 := (15, [.ref 63, .ref 1002, .int p2, .int p3], [.int p3, .int p2, .ref 63], S2, 0)) rfl ?_
    refine ev_bI0 (d := d + 2) (M' := Mx182) (ct := (18, [.ref 63, .ref 1002, .int p2, .int p3], [], S2, 0)) hf rfl rfl rfl rfl (fun r9 h9 => f_X10_number_ok (d := d) h9) (fun r5 S4 hf => ?_)
    show Ev (d + 3) Mx183 (18, [.ref 63, .ref 1002, .int p2, .int p3], [.int r5], S4, 0) r
    exact ev_sts 1 (c2 := (22, [mK, mK, mK, mK], [.int r5], S4, 0)) rfl (f_X10_after_b22_ok_1002 hf)
theorem f_X10_after_b22_ok_1001 {d F : Nat} {t0 : Int32} {S : mS} {r : mR} (hf : f_X10_after_b22 F 1 t0 S = some r) : Ev (d + 3) Mx183 (22, [mK, mK, mK, mK], [.int t0], S, 0) r := by
  unfold f_X10_after_b22 at hf
  exact ev_ret hf rfl rfl
theorem f_X10_after_ok_1001 {d F : Nat} {p2 : Int32} {p3 : Int32} {S : mS} {r : mR} (hf : f_X10_after F 1 p2 p3 S = some r) : Ev (d + 3) Mx183 (entry Mx183 [.ref 63, .ref 1001, .int p2, .int p3] S) r := by
  unfold f_X10_after at hf
  refine ev_sts 1 (c2 := (1, [.ref 63, .ref 1001, .int p2, .int p3], [.ref 63], S, 0)) rfl ?_
  refine ev_bV0 (d := d + 2) (M' := Mx178) (ct := (4, [.ref 63, .ref 1001, .int p2, .int p3], [], S, 0)) hf rfl rfl rfl rfl (fun r9 h9 => f_X10_letters_ok (d := d) h9) (fun S1 hf => ?_)
  show Ev (d + 3) Mx183 (4, [.ref 63, .ref 1001, .int p2, .int p3], [], S1, 0) r
  refine ev_sts 2 (c2 := (6, [.ref 63, .ref 1001, .int p2, .int p3], [.ref 1001, .ref 63], S1, 0)) rfl ?_
  refine ev_bI0 (d := d + 2) (M' := Mx179) (ct := (9, [.ref 63, .ref 1001, .int p2, .int p3], [], S1, 0)) hf rfl rfl rfl rfl (fun r9 h9 => f_X10_isWord_ok_1001 (d := d + 2) h9) (fun r3 S2 hf => ?_)
  show Ev (d + 3) Mx183 (9, [.ref 63, .ref 1001, .int p2, .int p3], [.int r3], S2, 0) r
  refine ev_if (c1 := (21, [.ref 63, .ref 1001, .int p2, .int p3], [], S2, 0)) (c2 := (12, [.ref 63, .ref 1001, .int p2, .int p3], [], S2, 0)) hf rfl rfl (fun _ hf => ?_) (fun _ hf => ?_)
  · exact ev_sts 1 (c2 := (22, [mK, mK, mK, mK], [.int ((-1 : Int32))], S2, 0)) rfl (f_X10_after_b22_ok_1001 hf)
  · refine ev_sts 3 (c2 := (15, [.ref 63, .ref 1001, .int p2, .int p3], [.int p3, .int p2, .ref 63], S2, 0)) rfl ?_
    refine ev_bI0 (d := d + 2) (M' := Mx182) (ct := (18, [.ref 63, .ref 1001, .int p2, .int p3], [], S2, 0)) hf rfl rfl rfl rfl (fun r9 h9 => f_X10_number_ok (d := d) h9) (fun r5 S4 hf => ?_)
    show Ev (d + 3) Mx183 (18, [.ref 63, .ref 1001, .int p2, .int p3], [.int r5], S4, 0) r
    exact ev_sts 1 (c2 := (22, [mK, mK, mK, mK], [.int r5], S4, 0)) rfl (f_X10_after_b22_ok_1001 hf)
theorem f_X10_after_b22_ok_1006 {d F : Nat} {t0 : Int32} {S : mS} {r : mR} (hf : f_X10_after_b22 F 6 t0 S = some r) : Ev (d + 3) Mx183 (22, [mK, mK, mK, mK], [.int t0], S, 0) r := by
  unfold f_X10_after_b22 at hf
  exact ev_ret hf rfl rfl
theorem f_X10_after_ok_1006 {d F : Nat} {p2 : Int32} {p3 : Int32} {S : mS} {r : mR} (hf : f_X10_after F 6 p2 p3 S = some r) : Ev (d + 3) Mx183 (entry Mx183 [.ref 63, .ref 1006, .int p2, .int p3] S) r := by
  unfold f_X10_after at hf
  refine ev_sts 1 (c2 := (1, [.ref 63, .ref 1006, .int p2, .int p3], [.ref 63], S, 0)) rfl ?_
  refine ev_bV0 (d := d + 2) (M' := Mx178) (ct := (4, [.ref 63, .ref 1006, .int p2, .int p3], [], S, 0)) hf rfl rfl rfl rfl (fun r9 h9 => f_X10_letters_ok (d := d) h9) (fun S1 hf => ?_)
  show Ev (d + 3) Mx183 (4, [.ref 63, .ref 1006, .int p2, .int p3], [], S1, 0) r
  refine ev_sts 2 (c2 := (6, [.ref 63, .ref 1006, .int p2, .int p3], [.ref 1006, .ref 63], S1, 0)) rfl ?_
  refine ev_bI0 (d := d + 2) (M' := Mx179) (ct := (9, [.ref 63, .ref 1006, .int p2, .int p3], [], S1, 0)) hf rfl rfl rfl rfl (fun r9 h9 => f_X10_isWord_ok_1006 (d := d + 2) h9) (fun r3 S2 hf => ?_)
  show Ev (d + 3) Mx183 (9, [.ref 63, .ref 1006, .int p2, .int p3], [.int r3], S2, 0) r
  refine ev_if (c1 := (21, [.ref 63, .ref 1006, .int p2, .int p3], [], S2, 0)) (c2 := (12, [.ref 63, .ref 1006, .int p2, .int p3], [], S2, 0)) hf rfl rfl (fun _ hf => ?_) (fun _ hf => ?_)
  · exact ev_sts 1 (c2 := (22, [mK, mK, mK, mK], [.int ((-1 : Int32))], S2, 0)) rfl (f_X10_after_b22_ok_1006 hf)
  · refine ev_sts 3 (c2 := (15, [.ref 63, .ref 1006, .int p2, .int p3], [.int p3, .int p2, .ref 63], S2, 0)) rfl ?_
    refine ev_bI0 (d := d + 2) (M' := Mx182) (ct := (18, [.ref 63, .ref 1006, .int p2, .int p3], [], S2, 0)) hf rfl rfl rfl rfl (fun r9 h9 => f_X10_number_ok (d := d) h9) (fun r5 S4 hf => ?_)
    show Ev (d + 3) Mx183 (18, [.ref 63, .ref 1006, .int p2, .int p3], [.int r5], S4, 0) r
    exact ev_sts 1 (c2 := (22, [mK, mK, mK, mK], [.int r5], S4, 0)) rfl (f_X10_after_b22_ok_1006 hf)
def f_X10_bringsBack_b2 (F : Nat) : Nat → Int32 → mS → Option mR
  | 0, _, _ => none
  | n + 1, x1, S => (if ((447 : Int32)) ≤ x1 then some (.inl none, S) else gd (inb x1 447) (gd (inb x1 2145) (bnd (upS S 64 x1.toNatClampNeg (S 67 x1.toNatClampNeg)) (fun S1 => f_X10_bringsBack_b2 F n (x1 + (1 : Int32)) S1))))
def f_X10_bringsBack (F : Nat) (S : mS) : Option mR := f_X10_bringsBack_b2 F F ((0 : Int32)) S
theorem f_X10_bringsBack_b2_ok {d F : Nat} : ∀ (n : Nat) {x1 : Int32} {S : mS} {r : mR}, f_X10_bringsBack_b2 F n x1 S = some r → Ev (d) Mx248 (2, [.ref 63, .int x1], [], S, 0) r := by
  intro n
  induction n with
  | zero => intro x1 S r hf; cases hf
  | succ n ih =>
    intro x1 S r hf
    rw [f_X10_bringsBack_b2] at hf
    refine ev_sts 2 (c2 := (6, [.ref 63, .int x1], [.int ((447 : Int32)), .int x1], S, 0)) rfl ?_
    refine ev_if (c1 := (27, [.ref 63, .int x1], [], S, 0)) (c2 := (9, [.ref 63, .int x1], [], S, 0)) hf rfl rfl (fun _ hf => ?_) (fun _ hf => ?_)
    · exact ev_ret hf rfl rfl
    · refine ev_sts 6 (c2 := (19, [.ref 63, .int x1], [.int x1, .ref 67, .int x1, .ref 64], S, 0)) rfl ?_
      refine ev_gd (c1 := (20, [.ref 63, .int x1], [.int (S 67 x1.toNatClampNeg), .int x1, .ref 64], S, 0)) hf rfl rfl (fun hf => ?_)
      refine ev_gd (c1 := (21, [.ref 63, .int x1], [], (upS S 64 x1.toNatClampNeg (S 67 x1.toNatClampNeg)), 0)) hf rfl rfl (fun hf => ?_)
      refine ev_let (P := fun S1 => Ev (d) Mx248 (21, [.ref 63, .int x1], [], S1, 0) r) (fun S1 hf => ?_) hf
      exact ev_sts 2 (c2 := (2, [.ref 63, .int (x1 + (1 : Int32))], [], S1, 0)) rfl (ih hf)
theorem f_X10_bringsBack_ok {d F : Nat} {S : mS} {r : mR} (hf : f_X10_bringsBack F S = some r) : Ev (d) Mx248 (entry Mx248 [.ref 63] S) r := by
  unfold f_X10_bringsBack at hf
  exact ev_sts 2 (c2 := (2, [.ref 63, .int ((0 : Int32))], [], S, 0)) rfl (f_X10_bringsBack_b2_ok _ hf)
def f_X10_in_b15 (t0 : Int32) (S : mS) : Option mR := some (.inl (some (.int (t0 &&& 1))), S)
def f_X10_in_b14 (S : mS) : Option mR := f_X10_in_b15 ((0 : Int32)) S
def f_X10_in (p0 : Int32) (p1 : Int32) (p2 : Int32) (S : mS) : Option mR := (if p0 < p1 then f_X10_in_b14 S else (if p2 < p0 then f_X10_in_b14 S else f_X10_in_b15 ((1 : Int32)) S))
theorem f_X10_in_b15_ok {d : Nat} {t0 : Int32} {S : mS} {r : mR} (hf : f_X10_in_b15 t0 S = some r) : Ev (d) Mx156 (15, [mK, mK, mK], [.int t0], S, 0) r := by
  unfold f_X10_in_b15 at hf
  exact ev_ret hf rfl rfl
theorem f_X10_in_b14_ok {d : Nat} {S : mS} {r : mR} (hf : f_X10_in_b14  S = some r) : Ev (d) Mx156 (14, [mK, mK, mK], [], S, 0) r := by
  unfold f_X10_in_b14 at hf
  exact ev_sts 1 (c2 := (15, [mK, mK, mK], [.int ((0 : Int32))], S, 0)) rfl (f_X10_in_b15_ok hf)
theorem f_X10_in_ok {d : Nat} {p0 : Int32} {p1 : Int32} {p2 : Int32} {S : mS} {r : mR} (hf : f_X10_in p0 p1 p2 S = some r) : Ev (d) Mx156 (entry Mx156 [.int p0, .int p1, .int p2] S) r := by
  unfold f_X10_in at hf
  refine ev_sts 2 (c2 := (2, [.int p0, .int p1, .int p2], [.int p1, .int p0], S, 0)) rfl ?_
  refine ev_if (c1 := (14, [mK, mK, mK], [], S, 0)) (c2 := (5, [.int p0, .int p1, .int p2], [], S, 0)) hf rfl rfl (fun _ hf => ?_) (fun _ hf => ?_)
  · exact f_X10_in_b14_ok hf
  · refine ev_sts 2 (c2 := (7, [.int p0, .int p1, .int p2], [.int p2, .int p0], S, 0)) rfl ?_
    refine ev_if (c1 := (14, [mK, mK, mK], [], S, 0)) (c2 := (10, [.int p0, .int p1, .int p2], [], S, 0)) hf rfl rfl (fun _ hf => ?_) (fun _ hf => ?_)
    · exact f_X10_in_b14_ok hf
    · exact ev_sts 2 (c2 := (15, [mK, mK, mK], [.int ((1 : Int32))], S, 0)) rfl (f_X10_in_b15_ok hf)
def f_X10_keepsAll_b2 (F : Nat) : Nat → Int32 → mS → Option mR
  | 0, _, _ => none
  | n + 1, x1, S => (if ((447 : Int32)) ≤ x1 then some (.inl none, S) else gd (inb x1 2145) (gd (inb x1 447) (bnd (upS S 67 x1.toNatClampNeg (S 64 x1.toNatClampNeg)) (fun S1 => f_X10_keepsAll_b2 F n (x1 + (1 : Int32)) S1))))
def f_X10_keepsAll (F : Nat) (S : mS) : Option mR := f_X10_keepsAll_b2 F F ((0 : Int32)) S
theorem f_X10_keepsAll_b2_ok {d F : Nat} : ∀ (n : Nat) {x1 : Int32} {S : mS} {r : mR}, f_X10_keepsAll_b2 F n x1 S = some r → Ev (d) Mx247 (2, [.ref 63, .int x1], [], S, 0) r := by
  intro n
  induction n with
  | zero => intro x1 S r hf; cases hf
  | succ n ih =>
    intro x1 S r hf
    rw [f_X10_keepsAll_b2] at hf
    refine ev_sts 2 (c2 := (6, [.ref 63, .int x1], [.int ((447 : Int32)), .int x1], S, 0)) rfl ?_
    refine ev_if (c1 := (27, [.ref 63, .int x1], [], S, 0)) (c2 := (9, [.ref 63, .int x1], [], S, 0)) hf rfl rfl (fun _ hf => ?_) (fun _ hf => ?_)
    · exact ev_ret hf rfl rfl
    · refine ev_sts 6 (c2 := (19, [.ref 63, .int x1], [.int x1, .ref 64, .int x1, .ref 67], S, 0)) rfl ?_
      refine ev_gd (c1 := (20, [.ref 63, .int x1], [.int (S 64 x1.toNatClampNeg), .int x1, .ref 67], S, 0)) hf rfl rfl (fun hf => ?_)
      refine ev_gd (c1 := (21, [.ref 63, .int x1], [], (upS S 67 x1.toNatClampNeg (S 64 x1.toNatClampNeg)), 0)) hf rfl rfl (fun hf => ?_)
      refine ev_let (P := fun S1 => Ev (d) Mx247 (21, [.ref 63, .int x1], [], S1, 0) r) (fun S1 hf => ?_) hf
      exact ev_sts 2 (c2 := (2, [.ref 63, .int (x1 + (1 : Int32))], [], S1, 0)) rfl (ih hf)
theorem f_X10_keepsAll_ok {d F : Nat} {S : mS} {r : mR} (hf : f_X10_keepsAll F S = some r) : Ev (d) Mx247 (entry Mx247 [.ref 63] S) r := by
  unfold f_X10_keepsAll at hf
  exact ev_sts 2 (c2 := (2, [.ref 63, .int ((0 : Int32))], [], S, 0)) rfl (f_X10_keepsAll_b2_ok _ hf)
def f_X10_ledges (S : mS) : Option mR := gd (inb ((0 : Int32)) 2145) (some (.inl (some (.int (S 64 ((0 : Int32)).toNatClampNeg))), S))
theorem f_X10_ledges_ok {d : Nat} {S : mS} {r : mR} (hf : f_X10_ledges S = some r) : Ev (d) Mx162 (entry Mx162 [.ref 63] S) r := by
  unfold f_X10_ledges at hf
  refine ev_sts 3 (c2 := (5, [.ref 63], [.int ((0 : Int32)), .ref 64], S, 0)) rfl ?_
  refine ev_gd (c1 := (6, [.ref 63], [.int (S 64 ((0 : Int32)).toNatClampNeg)], S, 0)) hf rfl rfl (fun hf => ?_)
  exact ev_ret hf rfl rfl
def f_X10_noLedge_b19 (t0 : Int32) (S : mS) : Option mR := some (.inl (some (.int (t0 &&& 1))), S)
def f_X10_noLedge (p1 : Int32) (S : mS) : Option mR := bI0 (f_X10_ledges S) (fun r2 S1 => bI0 (f_X10_in p1 ((0 : Int32)) (r2 - ((1 : Int32))) S1) (fun r4 S3 => (if ¬ r4 = 0 then f_X10_noLedge_b19 ((0 : Int32)) S3 else f_X10_noLedge_b19 ((1 : Int32)) S3)))
theorem f_X10_noLedge_b19_ok {d : Nat} {t0 : Int32} {S : mS} {r : mR} (hf : f_X10_noLedge_b19 t0 S = some r) : Ev (d + 1) Mx169 (19, [mK, mK], [.int t0], S, 0) r := by
  unfold f_X10_noLedge_b19 at hf
  exact ev_ret hf rfl rfl
theorem f_X10_noLedge_ok {d : Nat} {p1 : Int32} {S : mS} {r : mR} (hf : f_X10_noLedge p1 S = some r) : Ev (d + 1) Mx169 (entry Mx169 [.ref 63, .int p1] S) r := by
  unfold f_X10_noLedge at hf
  refine ev_sts 3 (c2 := (3, [.ref 63, .int p1], [.ref 63, .int ((0 : Int32)), .int p1], S, 0)) rfl ?_
  refine ev_bI0 (d := d) (M' := Mx162) (ct := (6, [.ref 63, .int p1], [.int ((0 : Int32)), .int p1], S, 0)) hf rfl rfl rfl rfl (fun r9 h9 => f_X10_ledges_ok (d := d) h9) (fun r2 S1 hf => ?_)
  show Ev (d + 1) Mx169 (6, [.ref 63, .int p1], [.int r2, .int ((0 : Int32)), .int p1], S1, 0) r
  refine ev_sts 2 (c2 := (8, [.ref 63, .int p1], [.int (r2 - ((1 : Int32))), .int ((0 : Int32)), .int p1], S1, 0)) rfl ?_
  refine ev_bI0 (d := d) (M' := Mx156) (ct := (11, [.ref 63, .int p1], [], S1, 0)) hf rfl rfl rfl rfl (fun r9 h9 => f_X10_in_ok (d := d) h9) (fun r4 S3 hf => ?_)
  show Ev (d + 1) Mx169 (11, [.ref 63, .int p1], [.int r4], S3, 0) r
  refine ev_if (c1 := (18, [.ref 63, .int p1], [], S3, 0)) (c2 := (14, [.ref 63, .int p1], [], S3, 0)) hf rfl rfl (fun _ hf => ?_) (fun _ hf => ?_)
  · exact ev_sts 1 (c2 := (19, [mK, mK], [.int ((0 : Int32))], S3, 0)) rfl (f_X10_noLedge_b19_ok hf)
  · exact ev_sts 2 (c2 := (19, [mK, mK], [.int ((1 : Int32))], S3, 0)) rfl (f_X10_noLedge_b19_ok hf)
def f_X10_at (p0 : Int32) (p1 : Int32) (S : mS) : Option mR := some (.inl (some (.int ((((17 : Int32)) + (((5 : Int32)) * p0)) + p1))), S)
theorem f_X10_at_ok {d : Nat} {p0 : Int32} {p1 : Int32} {S : mS} {r : mR} (hf : f_X10_at p0 p1 S = some r) : Ev (d) Mx165 (entry Mx165 [.int p0, .int p1] S) r := by
  unfold f_X10_at at hf
  refine ev_sts 7 (c2 := (8, [.int p0, .int p1], [.int ((((17 : Int32)) + (((5 : Int32)) * p0)) + p1)], S, 0)) rfl ?_
  exact ev_ret hf rfl rfl
def f_X10_of (p1 : Int32) (p2 : Int32) (S : mS) : Option mR := bI0 (f_X10_at p1 p2 S) (fun r2 S1 => gd (inb r2 2145) (some (.inl (some (.int (S1 64 r2.toNatClampNeg))), S1)))
theorem f_X10_of_ok {d : Nat} {p1 : Int32} {p2 : Int32} {S : mS} {r : mR} (hf : f_X10_of p1 p2 S = some r) : Ev (d + 1) Mx166 (entry Mx166 [.ref 63, .int p1, .int p2] S) r := by
  unfold f_X10_of at hf
  refine ev_sts 4 (c2 := (6, [.ref 63, .int p1, .int p2], [.int p2, .int p1, .ref 64], S, 0)) rfl ?_
  refine ev_bI0 (d := d) (M' := Mx165) (ct := (9, [.ref 63, .int p1, .int p2], [.ref 64], S, 0)) hf rfl rfl rfl rfl (fun r9 h9 => f_X10_at_ok (d := d) h9) (fun r2 S1 hf => ?_)
  show Ev (d + 1) Mx166 (9, [.ref 63, .int p1, .int p2], [.int r2, .ref 64], S1, 0) r
  refine ev_gd (c1 := (10, [.ref 63, .int p1, .int p2], [.int (S1 64 r2.toNatClampNeg)], S1, 0)) hf rfl rfl (fun hf => ?_)
  exact ev_ret hf rfl rfl
def f_X10_draw (p1 : Int32) (S : mS) : Option mR := gd (inb ((16 : Int32)) 2145) (gd (inb ((16 : Int32)) 2145) (bnd (upS S 64 ((16 : Int32)).toNatClampNeg ((((1103515245 : Int32)) * (S 64 ((16 : Int32)).toNatClampNeg)) + ((12345 : Int32)))) (fun S1 => gd (inb ((16 : Int32)) 2145) (gd (decide (¬ p1 = 0)) (some (.inl (some (.int ((((S1 64 ((16 : Int32)).toNatClampNeg) >>> (((16 : Int32)) &&& 31)) &&& ((32767 : Int32))) - (((S1 64 ((16 : Int32)).toNatClampNeg) >>> (((16 : Int32)) &&& 31)) &&& ((32767 : Int32))) / p1 * p1))), S1))))))
theorem f_X10_draw_ok {d : Nat} {p1 : Int32} {S : mS} {r : mR} (hf : f_X10_draw p1 S = some r) : Ev (d) Mx173 (entry Mx173 [.ref 63, .int p1] S) r := by
  unfold f_X10_draw at hf
  refine ev_sts 7 (c2 := (14, [.ref 63, .int p1], [.int ((16 : Int32)), .ref 64, .int ((1103515245 : Int32)), .int ((16 : Int32)), .ref 64], S, 0)) rfl ?_
  refine ev_gd (c1 := (15, [.ref 63, .int p1], [.int (S 64 ((16 : Int32)).toNatClampNeg), .int ((1103515245 : Int32)), .int ((16 : Int32)), .ref 64], S, 0)) hf rfl rfl (fun hf => ?_)
  refine ev_sts 3 (c2 := (20, [.ref 63, .int p1], [.int ((((1103515245 : Int32)) * (S 64 ((16 : Int32)).toNatClampNeg)) + ((12345 : Int32))), .int ((16 : Int32)), .ref 64], S, 0)) rfl ?_
  refine ev_gd (c1 := (21, [.ref 63, .int p1], [], (upS S 64 ((16 : Int32)).toNatClampNeg ((((1103515245 : Int32)) * (S 64 ((16 : Int32)).toNatClampNeg)) + ((12345 : Int32)))), 0)) hf rfl rfl (fun hf => ?_)
  refine ev_let (P := fun S1 => Ev (d) Mx173 (21, [.ref 63, .int p1], [], S1, 0) r) (fun S1 hf => ?_) hf
  refine ev_sts 3 (c2 := (27, [.ref 63, .int p1], [.int ((16 : Int32)), .ref 64], S1, 0)) rfl ?_
  refine ev_gd (c1 := (28, [.ref 63, .int p1], [.int (S1 64 ((16 : Int32)).toNatClampNeg)], S1, 0)) hf rfl rfl (fun hf => ?_)
  refine ev_sts 5 (c2 := (36, [.ref 63, .int p1], [.int p1, .int (((S1 64 ((16 : Int32)).toNatClampNeg) >>> (((16 : Int32)) &&& 31)) &&& ((32767 : Int32)))], S1, 0)) rfl ?_
  refine ev_gd (c1 := (37, [.ref 63, .int p1], [.int ((((S1 64 ((16 : Int32)).toNatClampNeg) >>> (((16 : Int32)) &&& 31)) &&& ((32767 : Int32))) - (((S1 64 ((16 : Int32)).toNatClampNeg) >>> (((16 : Int32)) &&& 31)) &&& ((32767 : Int32))) / p1 * p1)], S1, 0)) hf rfl rfl (fun hf => ?_)
  exact ev_ret hf rfl rfl
def f_X10_isFresh_b24 (t0 : Int32) (S : mS) : Option mR := some (.inl (some (.int (t0 &&& 1))), S)
def f_X10_isFresh_b23 (S : mS) : Option mR := f_X10_isFresh_b24 ((0 : Int32)) S
def f_X10_isFresh (p1 : Int32) (S : mS) : Option mR := bI0 (f_X10_of p1 ((2 : Int32)) S) (fun r2 S1 => (if r2 ≤ 0 then f_X10_isFresh_b23 S1 else bI0 (f_X10_of p1 ((3 : Int32)) S1) (fun r4 S3 => (if ((3 : Int32)) < r4 then f_X10_isFresh_b23 S3 else f_X10_isFresh_b24 ((1 : Int32)) S3))))
theorem f_X10_isFresh_b24_ok {d : Nat} {t0 : Int32} {S : mS} {r : mR} (hf : f_X10_isFresh_b24 t0 S = some r) : Ev (d + 2) Mx203 (24, [mK, mK], [.int t0], S, 0) r := by
  unfold f_X10_isFresh_b24 at hf
  exact ev_ret hf rfl rfl
theorem f_X10_isFresh_b23_ok {d : Nat} {S : mS} {r : mR} (hf : f_X10_isFresh_b23  S = some r) : Ev (d + 2) Mx203 (23, [mK, mK], [], S, 0) r := by
  unfold f_X10_isFresh_b23 at hf
  exact ev_sts 1 (c2 := (24, [mK, mK], [.int ((0 : Int32))], S, 0)) rfl (f_X10_isFresh_b24_ok hf)
theorem f_X10_isFresh_ok {d : Nat} {p1 : Int32} {S : mS} {r : mR} (hf : f_X10_isFresh p1 S = some r) : Ev (d + 2) Mx203 (entry Mx203 [.ref 63, .int p1] S) r := by
  unfold f_X10_isFresh at hf
  refine ev_sts 3 (c2 := (3, [.ref 63, .int p1], [.int ((2 : Int32)), .int p1, .ref 63], S, 0)) rfl ?_
  refine ev_bI0 (d := d + 1) (M' := Mx166) (ct := (6, [.ref 63, .int p1], [], S, 0)) hf rfl rfl rfl rfl (fun r9 h9 => f_X10_of_ok (d := d) h9) (fun r2 S1 hf => ?_)
  show Ev (d + 2) Mx203 (6, [.ref 63, .int p1], [.int r2], S1, 0) r
  refine ev_if (c1 := (23, [mK, mK], [], S1, 0)) (c2 := (9, [.ref 63, .int p1], [], S1, 0)) hf rfl rfl (fun _ hf => ?_) (fun _ hf => ?_)
  · exact f_X10_isFresh_b23_ok hf
  · refine ev_sts 3 (c2 := (12, [.ref 63, .int p1], [.int ((3 : Int32)), .int p1, .ref 63], S1, 0)) rfl ?_
    refine ev_bI0 (d := d + 1) (M' := Mx166) (ct := (15, [.ref 63, .int p1], [], S1, 0)) hf rfl rfl rfl rfl (fun r9 h9 => f_X10_of_ok (d := d) h9) (fun r4 S3 hf => ?_)
    show Ev (d + 2) Mx203 (15, [.ref 63, .int p1], [.int r4], S3, 0) r
    refine ev_sts 1 (c2 := (16, [.ref 63, .int p1], [.int ((3 : Int32)), .int r4], S3, 0)) rfl ?_
    refine ev_if (c1 := (23, [mK, mK], [], S3, 0)) (c2 := (19, [.ref 63, .int p1], [], S3, 0)) hf rfl rfl (fun _ hf => ?_) (fun _ hf => ?_)
    · exact f_X10_isFresh_b23_ok hf
    · exact ev_sts 2 (c2 := (24, [mK, mK], [.int ((1 : Int32))], S3, 0)) rfl (f_X10_isFresh_b24_ok hf)
def f_X10_factOf_b117 (t0 : Int32) (S : mS) : Option mR := some (.inl (some (.int t0)), S)
def f_X10_factOf (p1 : Int32) (p2 : Int32) (p3 : Int32) (S : mS) : Option mR := (if p1 = (0 : Int32) then some (.inl (some (.int (S 63 18))), S) else if p1 = (1 : Int32) then bI0 (f_X10_of p3 ((0 : Int32)) S) (fun r4 S3 => some (.inl (some (.int r4)), S3)) else if p1 = (2 : Int32) then bI0 (f_X10_of p3 ((1 : Int32)) S) (fun r7 S6 => some (.inl (some (.int r7)), S6)) else if p1 = (3 : Int32) then some (.inl (some (.int (S 63 19))), S) else if p1 = (4 : Int32) then bI0 (f_X10_of p3 ((2 : Int32)) S) (fun r11 S10 => some (.inl (some (.int r11)), S10)) else if p1 = (5 : Int32) then bI0 (f_X10_of p3 ((3 : Int32)) S) (fun r14 S13 => some (.inl (some (.int r14)), S13)) else if p1 = (6 : Int32) then bI0 (f_X10_of p3 ((4 : Int32)) S) (fun r17 S16 => some (.inl (some (.int r17)), S16)) else if p1 = (7 : Int32) then gd (inb ((5 : Int32)) 2145) (some (.inl (some (.int (S 64 ((5 : Int32)).toNatClampNeg))), S)) else if p1 = (8 : Int32) then bI0 (f_X10_isFresh p3 S) (fun r21 S20 => (if r21 = 0 then f_X10_factOf_b117 ((0 : Int32)) S20 else f_X10_factOf_b117 ((1 : Int32)) S20)) else some (.inl (some (.int p2)), S))
theorem f_X10_factOf_b117_ok {d : Nat} {t0 : Int32} {S : mS} {r : mR} (hf : f_X10_factOf_b117 t0 S = some r) : Ev (d + 3) Mx204 (117, [mK, mK, mK, mK], [.int t0], S, 0) r := by
  unfold f_X10_factOf_b117 at hf
  exact ev_ret hf rfl rfl
theorem f_X10_factOf_ok {d : Nat} {p1 : Int32} {p2 : Int32} {p3 : Int32} {S : mS} {r : mR} (hf : f_X10_factOf p1 p2 p3 S = some r) : Ev (d + 3) Mx204 (entry Mx204 [.ref 63, .int p1, .int p2, .int p3] S) r := by
  unfold f_X10_factOf at hf
  refine ev_sts 1 (c2 := (1, [.ref 63, .int p1, .int p2, .int p3], [.int p1], S, 0)) rfl ?_
  rcases ite_or hf with ⟨h0, hf⟩ | ⟨h0, hf⟩
  · refine ev_sw (l2 := [.ref 63, .int p1, .int p2, .int p3]) (st2 := []) (msw_p h0) rfl rfl ?_
    show Ev (d + 3) Mx204 (52, [.ref 63, .int p1, .int p2, .int p3], [], S, 0) r
    refine ev_sts 2 (c2 := (56, [.ref 63, .int p1, .int p2, .int p3], [.int (S 63 18)], S, 0)) rfl ?_
    exact ev_ret hf rfl rfl
  rcases ite_or hf with ⟨h1, hf⟩ | ⟨h1, hf⟩
  · refine ev_sw (l2 := [.ref 63, .int p1, .int p2, .int p3]) (st2 := []) (msw_n h0 (msw_p h1)) rfl rfl ?_
    show Ev (d + 3) Mx204 (57, [.ref 63, .int p1, .int p2, .int p3], [], S, 0) r
    refine ev_sts 3 (c2 := (60, [.ref 63, .int p1, .int p2, .int p3], [.int ((0 : Int32)), .int p3, .ref 63], S, 0)) rfl ?_
    refine ev_bI0 (d := d + 2) (M' := Mx166) (ct := (63, [.ref 63, .int p1, .int p2, .int p3], [], S, 0)) hf rfl rfl rfl rfl (fun r9 h9 => f_X10_of_ok (d := d + 1) h9) (fun r4 S3 hf => ?_)
    show Ev (d + 3) Mx204 (63, [.ref 63, .int p1, .int p2, .int p3], [.int r4], S3, 0) r
    exact ev_ret hf rfl rfl
  rcases ite_or hf with ⟨h4, hf⟩ | ⟨h4, hf⟩
  · refine ev_sw (l2 := [.ref 63, .int p1, .int p2, .int p3]) (st2 := []) (msw_n h0 (msw_n h1 (msw_p h4))) rfl rfl ?_
    show Ev (d + 3) Mx204 (64, [.ref 63, .int p1, .int p2, .int p3], [], S, 0) r
    refine ev_sts 3 (c2 := (67, [.ref 63, .int p1, .int p2, .int p3], [.int ((1 : Int32)), .int p3, .ref 63], S, 0)) rfl ?_
    refine ev_bI0 (d := d + 2) (M' := Mx166) (ct := (70, [.ref 63, .int p1, .int p2, .int p3], [], S, 0)) hf rfl rfl rfl rfl (fun r9 h9 => f_X10_of_ok (d := d + 1) h9) (fun r7 S6 hf => ?_)
    show Ev (d + 3) Mx204 (70, [.ref 63, .int p1, .int p2, .int p3], [.int r7], S6, 0) r
    exact ev_ret hf rfl rfl
  rcases ite_or hf with ⟨h7, hf⟩ | ⟨h7, hf⟩
  · refine ev_sw (l2 := [.ref 63, .int p1, .int p2, .int p3]) (st2 := []) (msw_n h0 (msw_n h1 (msw_n h4 (msw_p h7)))) rfl rfl ?_
    show Ev (d + 3) Mx204 (71, [.ref 63, .int p1, .int p2, .int p3], [], S, 0) r
    refine ev_sts 2 (c2 := (75, [.ref 63, .int p1, .int p2, .int p3], [.int (S 63 19)], S, 0)) rfl ?_
    exact ev_ret hf rfl rfl
  rcases ite_or hf with ⟨h8, hf⟩ | ⟨h8, hf⟩
  · refine ev_sw (l2 := [.ref 63, .int p1, .int p2, .int p3]) (st2 := []) (msw_n h0 (msw_n h1 (msw_n h4 (msw_n h7 (msw_p h8))))) rfl rfl ?_
    show Ev (d + 3) Mx204 (76, [.ref 63, .int p1, .int p2, .int p3], [], S, 0) r
    refine ev_sts 3 (c2 := (79, [.ref 63, .int p1, .int p2, .int p3], [.int ((2 : Int32)), .int p3, .ref 63], S, 0)) rfl ?_
    refine ev_bI0 (d := d + 2) (M' := Mx166) (ct := (82, [.ref 63, .int p1, .int p2, .int p3], [], S, 0)) hf rfl rfl rfl rfl (fun r9 h9 => f_X10_of_ok (d := d + 1) h9) (fun r11 S10 hf => ?_)
    show Ev (d + 3) Mx204 (82, [.ref 63, .int p1, .int p2, .int p3], [.int r11], S10, 0) r
    exact ev_ret hf rfl rfl
  rcases ite_or hf with ⟨h11, hf⟩ | ⟨h11, hf⟩
  · refine ev_sw (l2 := [.ref 63, .int p1, .int p2, .int p3]) (st2 := []) (msw_n h0 (msw_n h1 (msw_n h4 (msw_n h7 (msw_n h8 (msw_p h11)))))) rfl rfl ?_
    show Ev (d + 3) Mx204 (83, [.ref 63, .int p1, .int p2, .int p3], [], S, 0) r
    refine ev_sts 3 (c2 := (86, [.ref 63, .int p1, .int p2, .int p3], [.int ((3 : Int32)), .int p3, .ref 63], S, 0)) rfl ?_
    refine ev_bI0 (d := d + 2) (M' := Mx166) (ct := (89, [.ref 63, .int p1, .int p2, .int p3], [], S, 0)) hf rfl rfl rfl rfl (fun r9 h9 => f_X10_of_ok (d := d + 1) h9) (fun r14 S13 hf => ?_)
    show Ev (d + 3) Mx204 (89, [.ref 63, .int p1, .int p2, .int p3], [.int r14], S13, 0) r
    exact ev_ret hf rfl rfl
  rcases ite_or hf with ⟨h14, hf⟩ | ⟨h14, hf⟩
  · refine ev_sw (l2 := [.ref 63, .int p1, .int p2, .int p3]) (st2 := []) (msw_n h0 (msw_n h1 (msw_n h4 (msw_n h7 (msw_n h8 (msw_n h11 (msw_p h14))))))) rfl rfl ?_
    show Ev (d + 3) Mx204 (90, [.ref 63, .int p1, .int p2, .int p3], [], S, 0) r
    refine ev_sts 3 (c2 := (93, [.ref 63, .int p1, .int p2, .int p3], [.int ((4 : Int32)), .int p3, .ref 63], S, 0)) rfl ?_
    refine ev_bI0 (d := d + 2) (M' := Mx166) (ct := (96, [.ref 63, .int p1, .int p2, .int p3], [], S, 0)) hf rfl rfl rfl rfl (fun r9 h9 => f_X10_of_ok (d := d + 1) h9) (fun r17 S16 hf => ?_)
    show Ev (d + 3) Mx204 (96, [.ref 63, .int p1, .int p2, .int p3], [.int r17], S16, 0) r
    exact ev_ret hf rfl rfl
  rcases ite_or hf with ⟨h17, hf⟩ | ⟨h17, hf⟩
  · refine ev_sw (l2 := [.ref 63, .int p1, .int p2, .int p3]) (st2 := []) (msw_n h0 (msw_n h1 (msw_n h4 (msw_n h7 (msw_n h8 (msw_n h11 (msw_n h14 (msw_p h17)))))))) rfl rfl ?_
    show Ev (d + 3) Mx204 (97, [.ref 63, .int p1, .int p2, .int p3], [], S, 0) r
    refine ev_sts 3 (c2 := (102, [.ref 63, .int p1, .int p2, .int p3], [.int ((5 : Int32)), .ref 64], S, 0)) rfl ?_
    refine ev_gd (c1 := (103, [.ref 63, .int p1, .int p2, .int p3], [.int (S 64 ((5 : Int32)).toNatClampNeg)], S, 0)) hf rfl rfl (fun hf => ?_)
    exact ev_ret hf rfl rfl
  rcases ite_or hf with ⟨h18, hf⟩ | ⟨h18, hf⟩
  · refine ev_sw (l2 := [.ref 63, .int p1, .int p2, .int p3]) (st2 := []) (msw_n h0 (msw_n h1 (msw_n h4 (msw_n h7 (msw_n h8 (msw_n h11 (msw_n h14 (msw_n h17 (msw_p h18))))))))) rfl rfl ?_
    show Ev (d + 3) Mx204 (104, [.ref 63, .int p1, .int p2, .int p3], [], S, 0) r
    refine ev_sts 2 (c2 := (106, [.ref 63, .int p1, .int p2, .int p3], [.int p3, .ref 63], S, 0)) rfl ?_
    refine ev_bI0 (d := d + 2) (M' := Mx203) (ct := (109, [.ref 63, .int p1, .int p2, .int p3], [], S, 0)) hf rfl rfl rfl rfl (fun r9 h9 => f_X10_isFresh_ok (d := d) h9) (fun r21 S20 hf => ?_)
    show Ev (d + 3) Mx204 (109, [.ref 63, .int p1, .int p2, .int p3], [.int r21], S20, 0) r
    refine ev_if (c1 := (116, [.ref 63, .int p1, .int p2, .int p3], [], S20, 0)) (c2 := (112, [.ref 63, .int p1, .int p2, .int p3], [], S20, 0)) hf rfl rfl (fun _ hf => ?_) (fun _ hf => ?_)
    · exact ev_sts 1 (c2 := (117, [mK, mK, mK, mK], [.int ((0 : Int32))], S20, 0)) rfl (f_X10_factOf_b117_ok hf)
    · exact ev_sts 2 (c2 := (117, [mK, mK, mK, mK], [.int ((1 : Int32))], S20, 0)) rfl (f_X10_factOf_b117_ok hf)
  refine ev_sw (l2 := [.ref 63, .int p1, .int p2, .int p3]) (st2 := []) (msw_n h0 (msw_n h1 (msw_n h4 (msw_n h7 (msw_n h8 (msw_n h11 (msw_n h14 (msw_n h17 (msw_n h18 rfl))))))))) rfl rfl ?_
  show Ev (d + 3) Mx204 (118, [.ref 63, .int p1, .int p2, .int p3], [], S, 0) r
  refine ev_sts 1 (c2 := (119, [.ref 63, .int p1, .int p2, .int p3], [.int p2], S, 0)) rfl ?_
  exact ev_ret hf rfl rfl
def f_X10_holdsLine_b282 (F : Nat) (t0 : Int32) (S : mS) : Option mR := some (.inl (some (.int (t0 &&& 1))), S)
def f_X10_holdsLine_b277 (F : Nat) (S : mS) : Option mR := f_X10_holdsLine_b282 F ((1 : Int32)) S
def f_X10_holdsLine_b257 (K22 : Int32 → Int32 → Int32 → Int32 → mS → Option mR) (F : Nat) (x2 : Int32) (x3 : Int32) (x4 : Int32) (x5 : Int32) (S : mS) : Option mR := K22 x2 x3 x4 (x5 + (1 : Int32)) S
def f_X10_holdsLine_b256 (K22 : Int32 → Int32 → Int32 → Int32 → mS → Option mR) (F : Nat) (x2 : Int32) (x3 : Int32) (x4 : Int32) (x5 : Int32) (t2 : Int32) (t1 : Int32) (S : mS) : Option mR := gd (inb t1 400) (bnd (upS S 71 t1.toNatClampNeg t2) (fun S6 => f_X10_holdsLine_b257 K22 F x2 x3 x4 x5 S6))
def f_X10_holdsLine_b222 (K22 : Int32 → Int32 → Int32 → Int32 → mS → Option mR) (F : Nat) (x2 : Int32) (x3 : Int32) (x4 : Int32) (x5 : Int32) (x6 : Int32) (x7 : Int32) (x8 : Int32) (t0 : Int32) (S : mS) : Option mR := (if ¬ x6 = ((10 : Int32)) then (if t0 = 0 then f_X10_holdsLine_b256 K22 F x2 x3 x4 x5 ((0 : Int32)) (x3 - ((1 : Int32))) S else f_X10_holdsLine_b256 K22 F x2 x3 x4 x5 ((1 : Int32)) (x3 - ((1 : Int32))) S) else f_X10_holdsLine_b256 K22 F x2 x3 x4 x5 (x7 + x8) (x3 - ((1 : Int32))) S)
def f_X10_holdsLine_b22 (F : Nat) : Nat → Int32 → Int32 → Int32 → Int32 → mS → Option mR
  | 0, _, _, _, _, _ => none
  | n + 1, x2, x3, x4, x5, S => gd (inb (x4 + ((3 : Int32))) 2145) ((if (S 64 (x4 + ((3 : Int32))).toNatClampNeg) ≤ x5 then (if x3 = 0 then f_X10_holdsLine_b277 F S else gd (inb ((0 : Int32)) 400) ((if ¬ (S 71 ((0 : Int32)).toNatClampNeg) = ((1 : Int32)) then f_X10_holdsLine_b282 F ((0 : Int32)) S else f_X10_holdsLine_b277 F S))) else gd (inb (((496 : Int32)) + (((2 : Int32)) * x5)) 2145) (bnd (S 64 (((496 : Int32)) + (((2 : Int32)) * x5)).toNatClampNeg : Int32) (fun y3 => (if ((9 : Int32)) < y3 then (if ¬ y3 = ((13 : Int32)) then gd (inb ((x3 + (-1 : Int32)) - ((1 : Int32))) 400) (bnd (S 71 ((x3 + (-1 : Int32)) - ((1 : Int32))).toNatClampNeg : Int32) (fun y4 => gd (inb (x3 + (-1 : Int32)) 400) (bnd (S 71 (x3 + (-1 : Int32)).toNatClampNeg : Int32) (fun y5 => (if ¬ y3 = ((11 : Int32)) then (if ¬ y3 = ((12 : Int32)) then (if ¬ y3 = ((14 : Int32)) then (if (y4 + y5) ≤ 0 then f_X10_holdsLine_b222 (fun x2 x3 x4 x5 S => f_X10_holdsLine_b22 F n x2 x3 x4 x5 S) F x2 (x3 + (-1 : Int32)) x4 x5 y3 y4 y5 ((0 : Int32)) S else f_X10_holdsLine_b222 (fun x2 x3 x4 x5 S => f_X10_holdsLine_b22 F n x2 x3 x4 x5 S) F x2 (x3 + (-1 : Int32)) x4 x5 y3 y4 y5 ((1 : Int32)) S) else (if ¬ (y4 + y5) = ((2 : Int32)) then f_X10_holdsLine_b222 (fun x2 x3 x4 x5 S => f_X10_holdsLine_b22 F n x2 x3 x4 x5 S) F x2 (x3 + (-1 : Int32)) x4 x5 y3 y4 y5 ((0 : Int32)) S else f_X10_holdsLine_b222 (fun x2 x3 x4 x5 S => f_X10_holdsLine_b22 F n x2 x3 x4 x5 S) F x2 (x3 + (-1 : Int32)) x4 x5 y3 y4 y5 ((1 : Int32)) S)) else (if y4 ≤ y5 then f_X10_holdsLine_b222 (fun x2 x3 x4 x5 S => f_X10_holdsLine_b22 F n x2 x3 x4 x5 S) F x2 (x3 + (-1 : Int32)) x4 x5 y3 y4 y5 ((0 : Int32)) S else f_X10_holdsLine_b222 (fun x2 x3 x4 x5 S => f_X10_holdsLine_b22 F n x2 x3 x4 x5 S) F x2 (x3 + (-1 : Int32)) x4 x5 y3 y4 y5 ((1 : Int32)) S)) else (if y5 ≤ y4 then f_X10_holdsLine_b222 (fun x2 x3 x4 x5 S => f_X10_holdsLine_b22 F n x2 x3 x4 x5 S) F x2 (x3 + (-1 : Int32)) x4 x5 y3 y4 y5 ((0 : Int32)) S else f_X10_holdsLine_b222 (fun x2 x3 x4 x5 S => f_X10_holdsLine_b22 F n x2 x3 x4 x5 S) F x2 (x3 + (-1 : Int32)) x4 x5 y3 y4 y5 ((1 : Int32)) S)))))) else gd (inb (x3 - ((1 : Int32))) 400) (gd (inb (x3 - ((1 : Int32))) 400) (bnd (upS S 71 (x3 - ((1 : Int32))).toNatClampNeg (((1 : Int32)) - (S 71 (x3 - ((1 : Int32))).toNatClampNeg))) (fun S7 => f_X10_holdsLine_b257 (fun x2 x3 x4 x5 S => f_X10_holdsLine_b22 F n x2 x3 x4 x5 S) F x2 x3 x4 x5 S7)))) else gd (inb ((((496 : Int32)) + (((2 : Int32)) * x5)) + ((1 : Int32))) 2145) (bI0 (f_X10_factOf y3 (S 64 ((((496 : Int32)) + (((2 : Int32)) * x5)) + ((1 : Int32))).toNatClampNeg) x2 S) (fun r9 S8 => gd (inb x3 400) (bnd (upS S8 71 x3.toNatClampNeg r9) (fun S10 => f_X10_holdsLine_b257 (fun x2 x3 x4 x5 S => f_X10_holdsLine_b22 F n x2 x3 x4 x5 S) F x2 (x3 + (1 : Int32)) x4 x5 S10)))))))))
def f_X10_holdsLine (F : Nat) (p1 : Int32) (p2 : Int32) (S : mS) : Option mR := bnd (((448 : Int32)) + (((4 : Int32)) * p1) : Int32) (fun y1 => gd (inb (y1 + ((2 : Int32))) 2145) (bnd (S 64 (y1 + ((2 : Int32))).toNatClampNeg : Int32) (fun y2 => f_X10_holdsLine_b22 F F p2 ((0 : Int32)) y1 y2 S)))
theorem f_X10_holdsLine_b282_ok {d F : Nat} {t0 : Int32} {S : mS} {r : mR} (hf : f_X10_holdsLine_b282 F t0 S = some r) : Ev (d + 4) Mx205 (282, [mK, mK, mK, mK, mK, mK, mK, mK, mK, mK], [.int t0], S, 0) r := by
  unfold f_X10_holdsLine_b282 at hf
  exact ev_ret hf rfl rfl
theorem f_X10_holdsLine_b277_ok {d F : Nat} {S : mS} {r : mR} (hf : f_X10_holdsLine_b277 F  S = some r) : Ev (d + 4) Mx205 (277, [mK, mK, mK, mK, mK, mK, mK, mK, mK, mK], [], S, 0) r := by
  unfold f_X10_holdsLine_b277 at hf
  exact ev_sts 2 (c2 := (282, [mK, mK, mK, mK, mK, mK, mK, mK, mK, mK], [.int ((1 : Int32))], S, 0)) rfl (f_X10_holdsLine_b282_ok hf)
theorem f_X10_holdsLine_b257_ok {d F : Nat} {K22 : Int32 → Int32 → Int32 → Int32 → mS → Option mR} (hK22 : ∀ {x2 : Int32} {x3 : Int32} {x4 : Int32} {x5 : Int32} {S : mS} {r : mR}, K22 x2 x3 x4 x5 S = some r → Ev (d + 4) Mx205 (22, [.ref 63, mK, .int x2, .int x3, .int x4, .int x5, mK, mK, mK, mK], [], S, 0) r) {x2 : Int32} {x3 : Int32} {x4 : Int32} {x5 : Int32} {S : mS} {r : mR} (hf : f_X10_holdsLine_b257 K22 F x2 x3 x4 x5 S = some r) : Ev (d + 4) Mx205 (257, [.ref 63, mK, .int x2, .int x3, .int x4, .int x5, mK, mK, mK, mK], [], S, 0) r := by
  unfold f_X10_holdsLine_b257 at hf
  exact ev_sts 2 (c2 := (22, [.ref 63, mK, .int x2, .int x3, .int x4, .int (x5 + (1 : Int32)), mK, mK, mK, mK], [], S, 0)) rfl (hK22 hf)
theorem f_X10_holdsLine_b256_ok {d F : Nat} {K22 : Int32 → Int32 → Int32 → Int32 → mS → Option mR} (hK22 : ∀ {x2 : Int32} {x3 : Int32} {x4 : Int32} {x5 : Int32} {S : mS} {r : mR}, K22 x2 x3 x4 x5 S = some r → Ev (d + 4) Mx205 (22, [.ref 63, mK, .int x2, .int x3, .int x4, .int x5, mK, mK, mK, mK], [], S, 0) r) {x2 : Int32} {x3 : Int32} {x4 : Int32} {x5 : Int32} {t2 : Int32} {t1 : Int32} {S : mS} {r : mR} (hf : f_X10_holdsLine_b256 K22 F x2 x3 x4 x5 t2 t1 S = some r) : Ev (d + 4) Mx205 (256, [.ref 63, mK, .int x2, .int x3, .int x4, .int x5, mK, mK, mK, mK], [.int t2, .int t1, .ref 71], S, 0) r := by
  unfold f_X10_holdsLine_b256 at hf
  refine ev_gd (c1 := (257, [.ref 63, mK, .int x2, .int x3, .int x4, .int x5, mK, mK, mK, mK], [], (upS S 71 t1.toNatClampNeg t2), 0)) hf rfl rfl (fun hf => ?_)
  refine ev_let (P := fun S6 => Ev (d + 4) Mx205 (257, [.ref 63, mK, .int x2, .int x3, .int x4, .int x5, mK, mK, mK, mK], [], S6, 0) r) (fun S6 hf => ?_) hf
  exact f_X10_holdsLine_b257_ok hK22 hf
theorem f_X10_holdsLine_b222_ok {d F : Nat} {K22 : Int32 → Int32 → Int32 → Int32 → mS → Option mR} (hK22 : ∀ {x2 : Int32} {x3 : Int32} {x4 : Int32} {x5 : Int32} {S : mS} {r : mR}, K22 x2 x3 x4 x5 S = some r → Ev (d + 4) Mx205 (22, [.ref 63, mK, .int x2, .int x3, .int x4, .int x5, mK, mK, mK, mK], [], S, 0) r) {x2 : Int32} {x3 : Int32} {x4 : Int32} {x5 : Int32} {x6 : Int32} {x7 : Int32} {x8 : Int32} {t0 : Int32} {S : mS} {r : mR} (hf : f_X10_holdsLine_b222 K22 F x2 x3 x4 x5 x6 x7 x8 t0 S = some r) : Ev (d + 4) Mx205 (222, [.ref 63, mK, .int x2, .int x3, .int x4, .int x5, .int x6, .int x7, .int x8, mK], [.int t0], S, 0) r := by
  unfold f_X10_holdsLine_b222 at hf
  refine ev_sts 8 (c2 := (235, [.ref 63, mK, .int x2, .int x3, .int x4, .int x5, .int x6, .int x7, .int x8, .int t0], [.int ((10 : Int32)), .int x6, .int (x3 - ((1 : Int32))), .ref 71], S, 0)) rfl ?_
  refine ev_if (c1 := (246, [.ref 63, mK, .int x2, .int x3, .int x4, .int x5, .int x6, .int x7, .int x8, .int t0], [.int (x3 - ((1 : Int32))), .ref 71], S, 0)) (c2 := (238, [.ref 63, mK, .int x2, .int x3, .int x4, .int x5, .int x6, .int x7, .int x8, .int t0], [.int (x3 - ((1 : Int32))), .ref 71], S, 0)) hf rfl rfl (fun _ hf => ?_) (fun _ hf => ?_)
  · refine ev_sts 1 (c2 := (248, [.ref 63, mK, .int x2, .int x3, .int x4, .int x5, .int x6, .int x7, .int x8, .int t0], [.int t0, .int (x3 - ((1 : Int32))), .ref 71], S, 0)) rfl ?_
    refine ev_if (c1 := (255, [.ref 63, mK, .int x2, .int x3, .int x4, .int x5, .int x6, .int x7, .int x8, .int t0], [.int (x3 - ((1 : Int32))), .ref 71], S, 0)) (c2 := (251, [.ref 63, mK, .int x2, .int x3, .int x4, .int x5, .int x6, .int x7, .int x8, .int t0], [.int (x3 - ((1 : Int32))), .ref 71], S, 0)) hf rfl rfl (fun _ hf => ?_) (fun _ hf => ?_)
    · exact ev_sts 1 (c2 := (256, [.ref 63, mK, .int x2, .int x3, .int x4, .int x5, mK, mK, mK, mK], [.int ((0 : Int32)), .int (x3 - ((1 : Int32))), .ref 71], S, 0)) rfl (f_X10_holdsLine_b256_ok hK22 hf)
    · exact ev_sts 2 (c2 := (256, [.ref 63, mK, .int x2, .int x3, .int x4, .int x5, mK, mK, mK, mK], [.int ((1 : Int32)), .int (x3 - ((1 : Int32))), .ref 71], S, 0)) rfl (f_X10_holdsLine_b256_ok hK22 hf)
  · exact ev_sts 4 (c2 := (256, [.ref 63, mK, .int x2, .int x3, .int x4, .int x5, mK, mK, mK, mK], [.int (x7 + x8), .int (x3 - ((1 : Int32))), .ref 71], S, 0)) rfl (f_X10_holdsLine_b256_ok hK22 hf)
theorem f_X10_holdsLine_b22_ok {d F : Nat} : ∀ (n : Nat) {x2 : Int32} {x3 : Int32} {x4 : Int32} {x5 : Int32} {S : mS} {r : mR}, f_X10_holdsLine_b22 F n x2 x3 x4 x5 S = some r → Ev (d + 4) Mx205 (22, [.ref 63, mK, .int x2, .int x3, .int x4, .int x5, mK, mK, mK, mK], [], S, 0) r := by
  intro n
  induction n with
  | zero => intro x2 x3 x4 x5 S r hf; cases hf
  | succ n ih =>
    intro x2 x3 x4 x5 S r hf
    rw [f_X10_holdsLine_b22] at hf
    refine ev_sts 6 (c2 := (32, [.ref 63, mK, .int x2, .int x3, .int x4, .int x5, mK, mK, mK, mK], [.int (x4 + ((3 : Int32))), .ref 64, .int x5], S, 0)) rfl ?_
    refine ev_gd (c1 := (33, [.ref 63, mK, .int x2, .int x3, .int x4, .int x5, mK, mK, mK, mK], [.int (S 64 (x4 + ((3 : Int32))).toNatClampNeg), .int x5], S, 0)) hf rfl rfl (fun hf => ?_)
    refine ev_if (c1 := (263, [.ref 63, mK, .int x2, .int x3, .int x4, .int x5, mK, mK, mK, mK], [], S, 0)) (c2 := (36, [.ref 63, mK, .int x2, .int x3, .int x4, .int x5, mK, mK, mK, mK], [], S, 0)) hf rfl rfl (fun _ hf => ?_) (fun _ hf => ?_)
    · refine ev_sts 1 (c2 := (264, [.ref 63, mK, .int x2, .int x3, .int x4, .int x5, mK, mK, mK, mK], [.int x3], S, 0)) rfl ?_
      refine ev_if (c1 := (277, [mK, mK, mK, mK, mK, mK, mK, mK, mK, mK], [], S, 0)) (c2 := (267, [.ref 63, mK, .int x2, .int x3, .int x4, .int x5, mK, mK, mK, mK], [], S, 0)) hf rfl rfl (fun _ hf => ?_) (fun _ hf => ?_)
      · exact f_X10_holdsLine_b277_ok hf
      · refine ev_sts 3 (c2 := (272, [.ref 63, mK, .int x2, .int x3, .int x4, .int x5, mK, mK, mK, mK], [.int ((0 : Int32)), .ref 71], S, 0)) rfl ?_
        refine ev_gd (c1 := (273, [.ref 63, mK, .int x2, .int x3, .int x4, .int x5, mK, mK, mK, mK], [.int (S 71 ((0 : Int32)).toNatClampNeg)], S, 0)) hf rfl rfl (fun hf => ?_)
        refine ev_sts 1 (c2 := (274, [.ref 63, mK, .int x2, .int x3, .int x4, .int x5, mK, mK, mK, mK], [.int ((1 : Int32)), .int (S 71 ((0 : Int32)).toNatClampNeg)], S, 0)) rfl ?_
        refine ev_if (c1 := (281, [.ref 63, mK, .int x2, .int x3, .int x4, .int x5, mK, mK, mK, mK], [], S, 0)) (c2 := (277, [mK, mK, mK, mK, mK, mK, mK, mK, mK, mK], [], S, 0)) hf rfl rfl (fun _ hf => ?_) (fun _ hf => ?_)
        · exact ev_sts 1 (c2 := (282, [mK, mK, mK, mK, mK, mK, mK, mK, mK, mK], [.int ((0 : Int32))], S, 0)) rfl (f_X10_holdsLine_b282_ok hf)
        · exact f_X10_holdsLine_b277_ok hf
    · refine ev_sts 7 (c2 := (48, [.ref 63, mK, .int x2, .int x3, .int x4, .int x5, mK, mK, mK, mK], [.int (((496 : Int32)) + (((2 : Int32)) * x5)), .ref 64], S, 0)) rfl ?_
      refine ev_gd (c1 := (49, [.ref 63, mK, .int x2, .int x3, .int x4, .int x5, mK, mK, mK, mK], [.int (S 64 (((496 : Int32)) + (((2 : Int32)) * x5)).toNatClampNeg)], S, 0)) hf rfl rfl (fun hf => ?_)
      refine ev_sts 1 (c2 := (51, [.ref 63, mK, .int x2, .int x3, .int x4, .int x5, .int (S 64 (((496 : Int32)) + (((2 : Int32)) * x5)).toNatClampNeg), mK, mK, mK], [], S, 0)) rfl ?_
      refine ev_let (P := fun y3 => Ev (d + 4) Mx205 (51, [.ref 63, mK, .int x2, .int x3, .int x4, .int x5, .int y3, mK, mK, mK], [], S, 0) r) (fun y3 hf => ?_) hf
      refine ev_sts 2 (c2 := (55, [.ref 63, mK, .int x2, .int x3, .int x4, .int x5, .int y3, mK, mK, mK], [.int ((9 : Int32)), .int y3], S, 0)) rfl ?_
      refine ev_if (c1 := (92, [.ref 63, mK, .int x2, .int x3, .int x4, .int x5, .int y3, mK, mK, mK], [], S, 0)) (c2 := (58, [.ref 63, mK, .int x2, .int x3, .int x4, .int x5, .int y3, mK, mK, mK], [], S, 0)) hf rfl rfl (fun _ hf => ?_) (fun _ hf => ?_)
      · refine ev_sts 2 (c2 := (96, [.ref 63, mK, .int x2, .int x3, .int x4, .int x5, .int y3, mK, mK, mK], [.int ((13 : Int32)), .int y3], S, 0)) rfl ?_
        refine ev_if (c1 := (120, [.ref 63, mK, .int x2, .int x3, .int x4, .int x5, .int y3, mK, mK, mK], [], S, 0)) (c2 := (99, [.ref 63, mK, .int x2, .int x3, .int x4, .int x5, .int y3, mK, mK, mK], [], S, 0)) hf rfl rfl (fun _ hf => ?_) (fun _ hf => ?_)
        · refine ev_sts 6 (c2 := (130, [.ref 63, mK, .int x2, .int (x3 + (-1 : Int32)), .int x4, .int x5, .int y3, mK, mK, mK], [.int ((x3 + (-1 : Int32)) - ((1 : Int32))), .ref 71], S, 0)) rfl ?_
          refine ev_gd (c1 := (131, [.ref 63, mK, .int x2, .int (x3 + (-1 : Int32)), .int x4, .int x5, .int y3, mK, mK, mK], [.int (S 71 ((x3 + (-1 : Int32)) - ((1 : Int32))).toNatClampNeg)], S, 0)) hf rfl rfl (fun hf => ?_)
          refine ev_sts 1 (c2 := (133, [.ref 63, mK, .int x2, .int (x3 + (-1 : Int32)), .int x4, .int x5, .int y3, .int (S 71 ((x3 + (-1 : Int32)) - ((1 : Int32))).toNatClampNeg), mK, mK], [], S, 0)) rfl ?_
          refine ev_let (P := fun y4 => Ev (d + 4) Mx205 (133, [.ref 63, mK, .int x2, .int (x3 + (-1 : Int32)), .int x4, .int x5, .int y3, .int y4, mK, mK], [], S, 0) r) (fun y4 hf => ?_) hf
          refine ev_sts 3 (c2 := (138, [.ref 63, mK, .int x2, .int (x3 + (-1 : Int32)), .int x4, .int x5, .int y3, .int y4, mK, mK], [.int (x3 + (-1 : Int32)), .ref 71], S, 0)) rfl ?_
          refine ev_gd (c1 := (139, [.ref 63, mK, .int x2, .int (x3 + (-1 : Int32)), .int x4, .int x5, .int y3, .int y4, mK, mK], [.int (S 71 (x3 + (-1 : Int32)).toNatClampNeg)], S, 0)) hf rfl rfl (fun hf => ?_)
          refine ev_sts 1 (c2 := (141, [.ref 63, mK, .int x2, .int (x3 + (-1 : Int32)), .int x4, .int x5, .int y3, .int y4, .int (S 71 (x3 + (-1 : Int32)).toNatClampNeg), mK], [], S, 0)) rfl ?_
          refine ev_let (P := fun y5 => Ev (d + 4) Mx205 (141, [.ref 63, mK, .int x2, .int (x3 + (-1 : Int32)), .int x4, .int x5, .int y3, .int y4, .int y5, mK], [], S, 0) r) (fun y5 hf => ?_) hf
          refine ev_sts 2 (c2 := (145, [.ref 63, mK, .int x2, .int (x3 + (-1 : Int32)), .int x4, .int x5, .int y3, .int y4, .int y5, mK], [.int ((11 : Int32)), .int y3], S, 0)) rfl ?_
          refine ev_if (c1 := (163, [.ref 63, mK, .int x2, .int (x3 + (-1 : Int32)), .int x4, .int x5, .int y3, .int y4, .int y5, mK], [], S, 0)) (c2 := (148, [.ref 63, mK, .int x2, .int (x3 + (-1 : Int32)), .int x4, .int x5, .int y3, .int y4, .int y5, mK], [], S, 0)) hf rfl rfl (fun _ hf => ?_) (fun _ hf => ?_)
          · refine ev_sts 2 (c2 := (167, [.ref 63, mK, .int x2, .int (x3 + (-1 : Int32)), .int x4, .int x5, .int y3, .int y4, .int y5, mK], [.int ((12 : Int32)), .int y3], S, 0)) rfl ?_
            refine ev_if (c1 := (185, [.ref 63, mK, .int x2, .int (x3 + (-1 : Int32)), .int x4, .int x5, .int y3, .int y4, .int y5, mK], [], S, 0)) (c2 := (170, [.ref 63, mK, .int x2, .int (x3 + (-1 : Int32)), .int x4, .int x5, .int y3, .int y4, .int y5, mK], [], S, 0)) hf rfl rfl (fun _ hf => ?_) (fun _ hf => ?_)
            · refine ev_sts 2 (c2 := (189, [.ref 63, mK, .int x2, .int (x3 + (-1 : Int32)), .int x4, .int x5, .int y3, .int y4, .int y5, mK], [.int ((14 : Int32)), .int y3], S, 0)) rfl ?_
              refine ev_if (c1 := (209, [.ref 63, mK, .int x2, .int (x3 + (-1 : Int32)), .int x4, .int x5, .int y3, .int y4, .int y5, mK], [], S, 0)) (c2 := (192, [.ref 63, mK, .int x2, .int (x3 + (-1 : Int32)), .int x4, .int x5, .int y3, .int y4, .int y5, mK], [], S, 0)) hf rfl rfl (fun _ hf => ?_) (fun _ hf => ?_)
              · refine ev_sts 3 (c2 := (214, [.ref 63, mK, .int x2, .int (x3 + (-1 : Int32)), .int x4, .int x5, .int y3, .int y4, .int y5, mK], [.int (y4 + y5)], S, 0)) rfl ?_
                refine ev_if (c1 := (221, [.ref 63, mK, .int x2, .int (x3 + (-1 : Int32)), .int x4, .int x5, .int y3, .int y4, .int y5, mK], [], S, 0)) (c2 := (217, [.ref 63, mK, .int x2, .int (x3 + (-1 : Int32)), .int x4, .int x5, .int y3, .int y4, .int y5, mK], [], S, 0)) hf rfl rfl (fun _ hf => ?_) (fun _ hf => ?_)
                · exact ev_sts 1 (c2 := (222, [.ref 63, mK, .int x2, .int (x3 + (-1 : Int32)), .int x4, .int x5, .int y3, .int y4, .int y5, mK], [.int ((0 : Int32))], S, 0)) rfl (f_X10_holdsLine_b222_ok (fun h9 => ih h9) hf)
                · exact ev_sts 2 (c2 := (222, [.ref 63, mK, .int x2, .int (x3 + (-1 : Int32)), .int x4, .int x5, .int y3, .int y4, .int y5, mK], [.int ((1 : Int32))], S, 0)) rfl (f_X10_holdsLine_b222_ok (fun h9 => ih h9) hf)
              · refine ev_sts 4 (c2 := (198, [.ref 63, mK, .int x2, .int (x3 + (-1 : Int32)), .int x4, .int x5, .int y3, .int y4, .int y5, mK], [.int ((2 : Int32)), .int (y4 + y5)], S, 0)) rfl ?_
                refine ev_if (c1 := (205, [.ref 63, mK, .int x2, .int (x3 + (-1 : Int32)), .int x4, .int x5, .int y3, .int y4, .int y5, mK], [], S, 0)) (c2 := (201, [.ref 63, mK, .int x2, .int (x3 + (-1 : Int32)), .int x4, .int x5, .int y3, .int y4, .int y5, mK], [], S, 0)) hf rfl rfl (fun _ hf => ?_) (fun _ hf => ?_)
                · exact ev_sts 2 (c2 := (222, [.ref 63, mK, .int x2, .int (x3 + (-1 : Int32)), .int x4, .int x5, .int y3, .int y4, .int y5, mK], [.int ((0 : Int32))], S, 0)) rfl (f_X10_holdsLine_b222_ok (fun h9 => ih h9) hf)
                · exact ev_sts 2 (c2 := (222, [.ref 63, mK, .int x2, .int (x3 + (-1 : Int32)), .int x4, .int x5, .int y3, .int y4, .int y5, mK], [.int ((1 : Int32))], S, 0)) rfl (f_X10_holdsLine_b222_ok (fun h9 => ih h9) hf)
            · refine ev_sts 2 (c2 := (174, [.ref 63, mK, .int x2, .int (x3 + (-1 : Int32)), .int x4, .int x5, .int y3, .int y4, .int y5, mK], [.int y5, .int y4], S, 0)) rfl ?_
              refine ev_if (c1 := (181, [.ref 63, mK, .int x2, .int (x3 + (-1 : Int32)), .int x4, .int x5, .int y3, .int y4, .int y5, mK], [], S, 0)) (c2 := (177, [.ref 63, mK, .int x2, .int (x3 + (-1 : Int32)), .int x4, .int x5, .int y3, .int y4, .int y5, mK], [], S, 0)) hf rfl rfl (fun _ hf => ?_) (fun _ hf => ?_)
              · exact ev_sts 2 (c2 := (222, [.ref 63, mK, .int x2, .int (x3 + (-1 : Int32)), .int x4, .int x5, .int y3, .int y4, .int y5, mK], [.int ((0 : Int32))], S, 0)) rfl (f_X10_holdsLine_b222_ok (fun h9 => ih h9) hf)
              · exact ev_sts 2 (c2 := (222, [.ref 63, mK, .int x2, .int (x3 + (-1 : Int32)), .int x4, .int x5, .int y3, .int y4, .int y5, mK], [.int ((1 : Int32))], S, 0)) rfl (f_X10_holdsLine_b222_ok (fun h9 => ih h9) hf)
          · refine ev_sts 2 (c2 := (152, [.ref 63, mK, .int x2, .int (x3 + (-1 : Int32)), .int x4, .int x5, .int y3, .int y4, .int y5, mK], [.int y5, .int y4], S, 0)) rfl ?_
            refine ev_if (c1 := (159, [.ref 63, mK, .int x2, .int (x3 + (-1 : Int32)), .int x4, .int x5, .int y3, .int y4, .int y5, mK], [], S, 0)) (c2 := (155, [.ref 63, mK, .int x2, .int (x3 + (-1 : Int32)), .int x4, .int x5, .int y3, .int y4, .int y5, mK], [], S, 0)) hf rfl rfl (fun _ hf => ?_) (fun _ hf => ?_)
            · exact ev_sts 2 (c2 := (222, [.ref 63, mK, .int x2, .int (x3 + (-1 : Int32)), .int x4, .int x5, .int y3, .int y4, .int y5, mK], [.int ((0 : Int32))], S, 0)) rfl (f_X10_holdsLine_b222_ok (fun h9 => ih h9) hf)
            · exact ev_sts 2 (c2 := (222, [.ref 63, mK, .int x2, .int (x3 + (-1 : Int32)), .int x4, .int x5, .int y3, .int y4, .int y5, mK], [.int ((1 : Int32))], S, 0)) rfl (f_X10_holdsLine_b222_ok (fun h9 => ih h9) hf)
        · refine ev_sts 11 (c2 := (114, [.ref 63, mK, .int x2, .int x3, .int x4, .int x5, .int y3, mK, mK, mK], [.int (x3 - ((1 : Int32))), .ref 71, .int ((1 : Int32)), .int (x3 - ((1 : Int32))), .ref 71], S, 0)) rfl ?_
          refine ev_gd (c1 := (115, [.ref 63, mK, .int x2, .int x3, .int x4, .int x5, .int y3, mK, mK, mK], [.int (S 71 (x3 - ((1 : Int32))).toNatClampNeg), .int ((1 : Int32)), .int (x3 - ((1 : Int32))), .ref 71], S, 0)) hf rfl rfl (fun hf => ?_)
          refine ev_sts 1 (c2 := (116, [.ref 63, mK, .int x2, .int x3, .int x4, .int x5, .int y3, mK, mK, mK], [.int (((1 : Int32)) - (S 71 (x3 - ((1 : Int32))).toNatClampNeg)), .int (x3 - ((1 : Int32))), .ref 71], S, 0)) rfl ?_
          refine ev_gd (c1 := (117, [.ref 63, mK, .int x2, .int x3, .int x4, .int x5, .int y3, mK, mK, mK], [], (upS S 71 (x3 - ((1 : Int32))).toNatClampNeg (((1 : Int32)) - (S 71 (x3 - ((1 : Int32))).toNatClampNeg))), 0)) hf rfl rfl (fun hf => ?_)
          refine ev_let (P := fun S7 => Ev (d + 4) Mx205 (117, [.ref 63, mK, .int x2, .int x3, .int x4, .int x5, .int y3, mK, mK, mK], [], S7, 0) r) (fun S7 hf => ?_) hf
          exact ev_sts 1 (c2 := (257, [.ref 63, mK, .int x2, .int x3, .int x4, .int x5, mK, mK, mK, mK], [], S7, 0)) rfl (f_X10_holdsLine_b257_ok (fun h9 => ih h9) hf)
      · refine ev_sts 14 (c2 := (80, [.ref 63, mK, .int x2, .int x3, .int x4, .int x5, .int y3, mK, mK, mK], [.int ((((496 : Int32)) + (((2 : Int32)) * x5)) + ((1 : Int32))), .ref 64, .int y3, .ref 63, .int x3, .ref 71], S, 0)) rfl ?_
        refine ev_gd (c1 := (81, [.ref 63, mK, .int x2, .int x3, .int x4, .int x5, .int y3, mK, mK, mK], [.int (S 64 ((((496 : Int32)) + (((2 : Int32)) * x5)) + ((1 : Int32))).toNatClampNeg), .int y3, .ref 63, .int x3, .ref 71], S, 0)) hf rfl rfl (fun hf => ?_)
        refine ev_sts 1 (c2 := (82, [.ref 63, mK, .int x2, .int x3, .int x4, .int x5, .int y3, mK, mK, mK], [.int x2, .int (S 64 ((((496 : Int32)) + (((2 : Int32)) * x5)) + ((1 : Int32))).toNatClampNeg), .int y3, .ref 63, .int x3, .ref 71], S, 0)) rfl ?_
        refine ev_bI0 (d := d + 3) (M' := Mx204) (ct := (85, [.ref 63, mK, .int x2, .int x3, .int x4, .int x5, .int y3, mK, mK, mK], [.int x3, .ref 71], S, 0)) hf rfl rfl rfl rfl (fun r9 h9 => f_X10_factOf_ok (d := d) h9) (fun r9 S8 hf => ?_)
        show Ev (d + 4) Mx205 (85, [.ref 63, mK, .int x2, .int x3, .int x4, .int x5, .int y3, mK, mK, mK], [.int r9, .int x3, .ref 71], S8, 0) r
        refine ev_gd (c1 := (86, [.ref 63, mK, .int x2, .int x3, .int x4, .int x5, .int y3, mK, mK, mK], [], (upS S8 71 x3.toNatClampNeg r9), 0)) hf rfl rfl (fun hf => ?_)
        refine ev_let (P := fun S10 => Ev (d + 4) Mx205 (86, [.ref 63, mK, .int x2, .int x3, .int x4, .int x5, .int y3, mK, mK, mK], [], S10, 0) r) (fun S10 hf => ?_) hf
        exact ev_sts 2 (c2 := (257, [.ref 63, mK, .int x2, .int (x3 + (1 : Int32)), .int x4, .int x5, mK, mK, mK, mK], [], S10, 0)) rfl (f_X10_holdsLine_b257_ok (fun h9 => ih h9) hf)
theorem f_X10_holdsLine_ok {d F : Nat} {p1 : Int32} {p2 : Int32} {S : mS} {r : mR} (hf : f_X10_holdsLine F p1 p2 S = some r) : Ev (d + 4) Mx205 (entry Mx205 [.ref 63, .int p1, .int p2] S) r := by
  unfold f_X10_holdsLine at hf
  refine ev_sts 8 (c2 := (11, [.ref 63, .int p1, .int p2, .int ((0 : Int32)), .int (((448 : Int32)) + (((4 : Int32)) * p1)), mK, mK, mK, mK, mK], [], S, 0)) rfl ?_
  refine ev_let (P := fun y1 => Ev (d + 4) Mx205 (11, [.ref 63, .int p1, .int p2, .int ((0 : Int32)), .int y1, mK, mK, mK, mK, mK], [], S, 0) r) (fun y1 hf => ?_) hf
  refine ev_sts 5 (c2 := (19, [.ref 63, .int p1, .int p2, .int ((0 : Int32)), .int y1, mK, mK, mK, mK, mK], [.int (y1 + ((2 : Int32))), .ref 64], S, 0)) rfl ?_
  refine ev_gd (c1 := (20, [.ref 63, .int p1, .int p2, .int ((0 : Int32)), .int y1, mK, mK, mK, mK, mK], [.int (S 64 (y1 + ((2 : Int32))).toNatClampNeg)], S, 0)) hf rfl rfl (fun hf => ?_)
  refine ev_sts 1 (c2 := (22, [.ref 63, mK, .int p2, .int ((0 : Int32)), .int y1, .int (S 64 (y1 + ((2 : Int32))).toNatClampNeg), mK, mK, mK, mK], [], S, 0)) rfl ?_
  refine ev_let (P := fun y2 => Ev (d + 4) Mx205 (22, [.ref 63, mK, .int p2, .int ((0 : Int32)), .int y1, .int y2, mK, mK, mK, mK], [], S, 0) r) (fun y2 hf => ?_) hf
  exact f_X10_holdsLine_b22_ok _ hf
def f_X10_sumOf_b93 (F : Nat) (x5 : Int32) (S : mS) : Option mR := some (.inl (some (.int x5)), S)
def f_X10_sumOf_b87 (K17 : Int32 → Int32 → Int32 → Int32 → mS → Option mR) (F : Nat) (x1 : Int32) (x2 : Int32) (x5 : Int32) (x6 : Int32) (S : mS) : Option mR := K17 x1 x2 x5 (x6 + (1 : Int32)) S
def f_X10_sumOf_b17 (F : Nat) : Nat → Int32 → Int32 → Int32 → Int32 → mS → Option mR
  | 0, _, _, _, _, _ => none
  | n + 1, x1, x2, x5, x6, S => gd (inb ((4 : Int32)) 2145) ((if ¬ (S 64 ((4 : Int32)).toNatClampNeg) = ((1 : Int32)) then f_X10_sumOf_b93 F x5 S else gd (inb ((447 : Int32)) 2145) ((if (S 64 ((447 : Int32)).toNatClampNeg) ≤ x6 then f_X10_sumOf_b93 F x5 S else gd (inb (((448 : Int32)) + (((4 : Int32)) * x6)) 2145) ((if ¬ (S 64 (((448 : Int32)) + (((4 : Int32)) * x6)).toNatClampNeg) = x1 then f_X10_sumOf_b87 (fun x1 x2 x5 x6 S => f_X10_sumOf_b17 F n x1 x2 x5 x6 S) F x1 x2 x5 x6 S else bI0 (f_X10_holdsLine F x6 x2 S) (fun r4 S3 => (if r4 = 0 then f_X10_sumOf_b87 (fun x1 x2 x5 x6 S => f_X10_sumOf_b17 F n x1 x2 x5 x6 S) F x1 x2 x5 x6 S3 else gd (inb ((((448 : Int32)) + (((4 : Int32)) * x6)) + ((1 : Int32))) 2145) (bnd (x5 + (S3 64 ((((448 : Int32)) + (((4 : Int32)) * x6)) + ((1 : Int32))).toNatClampNeg) : Int32) (fun y5 => f_X10_sumOf_b87 (fun x1 x2 x5 x6 S => f_X10_sumOf_b17 F n x1 x2 x5 x6 S) F x1 x2 y5 x6 S3))))))))))
def f_X10_sumOf (F : Nat) (p1 : Int32) (p2 : Int32) (p3 : Int32) (p4 : Int32) (S : mS) : Option mR := bnd (upS S 63 18 p3) (fun S1 => bnd (upS S1 63 19 p4) (fun S2 => f_X10_sumOf_b17 F F p1 p2 ((0 : Int32)) ((0 : Int32)) S2))
theorem f_X10_sumOf_b93_ok {d F : Nat} {x5 : Int32} {S : mS} {r : mR} (hf : f_X10_sumOf_b93 F x5 S = some r) : Ev (d + 5) Mx206 (93, [mK, mK, mK, mK, mK, .int x5, mK], [], S, 0) r := by
  unfold f_X10_sumOf_b93 at hf
  refine ev_sts 1 (c2 := (95, [mK, mK, mK, mK, mK, .int x5, mK], [.int x5], S, 0)) rfl ?_
  exact ev_ret hf rfl rfl
theorem f_X10_sumOf_b87_ok {d F : Nat} {K17 : Int32 → Int32 → Int32 → Int32 → mS → Option mR} (hK17 : ∀ {x1 : Int32} {x2 : Int32} {x5 : Int32} {x6 : Int32} {S : mS} {r : mR}, K17 x1 x2 x5 x6 S = some r → Ev (d + 5) Mx206 (17, [.ref 63, .int x1, .int x2, mK, mK, .int x5, .int x6], [], S, 0) r) {x1 : Int32} {x2 : Int32} {x5 : Int32} {x6 : Int32} {S : mS} {r : mR} (hf : f_X10_sumOf_b87 K17 F x1 x2 x5 x6 S = some r) : Ev (d + 5) Mx206 (87, [.ref 63, .int x1, .int x2, mK, mK, .int x5, .int x6], [], S, 0) r := by
  unfold f_X10_sumOf_b87 at hf
  exact ev_sts 2 (c2 := (17, [.ref 63, .int x1, .int x2, mK, mK, .int x5, .int (x6 + (1 : Int32))], [], S, 0)) rfl (hK17 hf)
theorem f_X10_sumOf_b17_ok {d F : Nat} : ∀ (n : Nat) {x1 : Int32} {x2 : Int32} {x5 : Int32} {x6 : Int32} {S : mS} {r : mR}, f_X10_sumOf_b17 F n x1 x2 x5 x6 S = some r → Ev (d + 5) Mx206 (17, [.ref 63, .int x1, .int x2, mK, mK, .int x5, .int x6], [], S, 0) r := by
  intro n
  induction n with
  | zero => intro x1 x2 x5 x6 S r hf; cases hf
  | succ n ih =>
    intro x1 x2 x5 x6 S r hf
    rw [f_X10_sumOf_b17] at hf
    refine ev_sts 3 (c2 := (22, [.ref 63, .int x1, .int x2, mK, mK, .int x5, .int x6], [.int ((4 : Int32)), .ref 64], S, 0)) rfl ?_
    refine ev_gd (c1 := (23, [.ref 63, .int x1, .int x2, mK, mK, .int x5, .int x6], [.int (S 64 ((4 : Int32)).toNatClampNeg)], S, 0)) hf rfl rfl (fun hf => ?_)
    refine ev_sts 1 (c2 := (24, [.ref 63, .int x1, .int x2, mK, mK, .int x5, .int x6], [.int ((1 : Int32)), .int (S 64 ((4 : Int32)).toNatClampNeg)], S, 0)) rfl ?_
    refine ev_if (c1 := (93, [mK, mK, mK, mK, mK, .int x5, mK], [], S, 0)) (c2 := (27, [.ref 63, .int x1, .int x2, mK, mK, .int x5, .int x6], [], S, 0)) hf rfl rfl (fun _ hf => ?_) (fun _ hf => ?_)
    · exact f_X10_sumOf_b93_ok hf
    · refine ev_sts 4 (c2 := (36, [.ref 63, .int x1, .int x2, mK, mK, .int x5, .int x6], [.int ((447 : Int32)), .ref 64, .int x6], S, 0)) rfl ?_
      refine ev_gd (c1 := (37, [.ref 63, .int x1, .int x2, mK, mK, .int x5, .int x6], [.int (S 64 ((447 : Int32)).toNatClampNeg), .int x6], S, 0)) hf rfl rfl (fun hf => ?_)
      refine ev_if (c1 := (93, [mK, mK, mK, mK, mK, .int x5, mK], [], S, 0)) (c2 := (40, [.ref 63, .int x1, .int x2, mK, mK, .int x5, .int x6], [], S, 0)) hf rfl rfl (fun _ hf => ?_) (fun _ hf => ?_)
      · exact f_X10_sumOf_b93_ok hf
      · refine ev_sts 7 (c2 := (52, [.ref 63, .int x1, .int x2, mK, mK, .int x5, .int x6], [.int (((448 : Int32)) + (((4 : Int32)) * x6)), .ref 64], S, 0)) rfl ?_
        refine ev_gd (c1 := (53, [.ref 63, .int x1, .int x2, mK, mK, .int x5, .int x6], [.int (S 64 (((448 : Int32)) + (((4 : Int32)) * x6)).toNatClampNeg)], S, 0)) hf rfl rfl (fun hf => ?_)
        refine ev_sts 1 (c2 := (54, [.ref 63, .int x1, .int x2, mK, mK, .int x5, .int x6], [.int x1, .int (S 64 (((448 : Int32)) + (((4 : Int32)) * x6)).toNatClampNeg)], S, 0)) rfl ?_
        refine ev_if (c1 := (87, [.ref 63, .int x1, .int x2, mK, mK, .int x5, .int x6], [], S, 0)) (c2 := (57, [.ref 63, .int x1, .int x2, mK, mK, .int x5, .int x6], [], S, 0)) hf rfl rfl (fun _ hf => ?_) (fun _ hf => ?_)
        · exact f_X10_sumOf_b87_ok (fun h9 => ih h9) hf
        · refine ev_sts 3 (c2 := (61, [.ref 63, .int x1, .int x2, mK, mK, .int x5, .int x6], [.int x2, .int x6, .ref 63], S, 0)) rfl ?_
          refine ev_bI0 (d := d + 4) (M' := Mx205) (ct := (64, [.ref 63, .int x1, .int x2, mK, mK, .int x5, .int x6], [], S, 0)) hf rfl rfl rfl rfl (fun r9 h9 => f_X10_holdsLine_ok (d := d) h9) (fun r4 S3 hf => ?_)
          show Ev (d + 5) Mx206 (64, [.ref 63, .int x1, .int x2, mK, mK, .int x5, .int x6], [.int r4], S3, 0) r
          refine ev_if (c1 := (87, [.ref 63, .int x1, .int x2, mK, mK, .int x5, .int x6], [], S3, 0)) (c2 := (67, [.ref 63, .int x1, .int x2, mK, mK, .int x5, .int x6], [], S3, 0)) hf rfl rfl (fun _ hf => ?_) (fun _ hf => ?_)
          · exact f_X10_sumOf_b87_ok (fun h9 => ih h9) hf
          · refine ev_sts 10 (c2 := (83, [.ref 63, .int x1, .int x2, mK, mK, .int x5, .int x6], [.int ((((448 : Int32)) + (((4 : Int32)) * x6)) + ((1 : Int32))), .ref 64, .int x5], S3, 0)) rfl ?_
            refine ev_gd (c1 := (84, [.ref 63, .int x1, .int x2, mK, mK, .int x5, .int x6], [.int (S3 64 ((((448 : Int32)) + (((4 : Int32)) * x6)) + ((1 : Int32))).toNatClampNeg), .int x5], S3, 0)) hf rfl rfl (fun hf => ?_)
            refine ev_sts 2 (c2 := (87, [.ref 63, .int x1, .int x2, mK, mK, .int (x5 + (S3 64 ((((448 : Int32)) + (((4 : Int32)) * x6)) + ((1 : Int32))).toNatClampNeg)), .int x6], [], S3, 0)) rfl ?_
            refine ev_let (P := fun y5 => Ev (d + 5) Mx206 (87, [.ref 63, .int x1, .int x2, mK, mK, .int y5, .int x6], [], S3, 0) r) (fun y5 hf => ?_) hf
            exact f_X10_sumOf_b87_ok (fun h9 => ih h9) hf
theorem f_X10_sumOf_ok {d F : Nat} {p1 : Int32} {p2 : Int32} {p3 : Int32} {p4 : Int32} {S : mS} {r : mR} (hf : f_X10_sumOf F p1 p2 p3 p4 S = some r) : Ev (d + 5) Mx206 (entry Mx206 [.ref 63, .int p1, .int p2, .int p3, .int p4] S) r := by
  unfold f_X10_sumOf at hf
  refine ev_sts 3 (c2 := (5, [.ref 63, .int p1, .int p2, .int p3, .int p4, mK, mK], [], (upS S 63 18 p3), 0)) rfl ?_
  refine ev_let (P := fun S1 => Ev (d + 5) Mx206 (5, [.ref 63, .int p1, .int p2, .int p3, .int p4, mK, mK], [], S1, 0) r) (fun S1 hf => ?_) hf
  refine ev_sts 3 (c2 := (11, [.ref 63, .int p1, .int p2, .int p3, .int p4, mK, mK], [], (upS S1 63 19 p4), 0)) rfl ?_
  refine ev_let (P := fun S2 => Ev (d + 5) Mx206 (11, [.ref 63, .int p1, .int p2, .int p3, .int p4, mK, mK], [], S2, 0) r) (fun S2 hf => ?_) hf
  exact ev_sts 4 (c2 := (17, [.ref 63, .int p1, .int p2, mK, mK, .int ((0 : Int32)), .int ((0 : Int32))], [], S2, 0)) rfl (f_X10_sumOf_b17_ok _ hf)
def f_X10_laysOf (F : Nat) (p1 : Int32) (p2 : Int32) (S : mS) : Option mR := bI0 (f_X10_of p1 ((4 : Int32)) S) (fun r2 S1 => bI0 (f_X10_sumOf F ((2 : Int32)) p1 ((0 : Int32)) p2 S1) (fun r4 S3 => some (.inl (some (.int (if r4 < r2 then r4 else r2))), S3)))
theorem f_X10_laysOf_ok {d F : Nat} {p1 : Int32} {p2 : Int32} {S : mS} {r : mR} (hf : f_X10_laysOf F p1 p2 S = some r) : Ev (d + 6) Mx211 (entry Mx211 [.ref 63, .int p1, .int p2] S) r := by
  unfold f_X10_laysOf at hf
  refine ev_sts 3 (c2 := (3, [.ref 63, .int p1, .int p2], [.int ((4 : Int32)), .int p1, .ref 63], S, 0)) rfl ?_
  refine ev_bI0 (d := d + 5) (M' := Mx166) (ct := (6, [.ref 63, .int p1, .int p2], [], S, 0)) hf rfl rfl rfl rfl (fun r9 h9 => f_X10_of_ok (d := d + 4) h9) (fun r2 S1 hf => ?_)
  show Ev (d + 6) Mx211 (6, [.ref 63, .int p1, .int p2], [.int r2], S1, 0) r
  refine ev_sts 5 (c2 := (11, [.ref 63, .int p1, .int p2], [.int p2, .int ((0 : Int32)), .int p1, .int ((2 : Int32)), .ref 63, .int r2], S1, 0)) rfl ?_
  refine ev_bI0 (d := d + 5) (M' := Mx206) (ct := (14, [.ref 63, .int p1, .int p2], [.int r2], S1, 0)) hf rfl rfl rfl rfl (fun r9 h9 => f_X10_sumOf_ok (d := d) h9) (fun r4 S3 hf => ?_)
  show Ev (d + 6) Mx211 (14, [.ref 63, .int p1, .int p2], [.int r4, .int r2], S3, 0) r
  refine ev_sts 1 (c2 := (17, [.ref 63, .int p1, .int p2], [.int (if r4 < r2 then r4 else r2)], S3, 0)) rfl ?_
  exact ev_ret hf rfl rfl
def f_X10_goesOn_b60 (F : Nat) (x1 : Int32) (x2 : Int32) (t2 : Int32) (t1 : Int32) (S : mS) : Option mR := gd (inb t1 2145) (bnd (upS S 64 t1.toNatClampNeg t2) (fun S10 => bI0 (f_X10_at x1 ((2 : Int32)) S10) (fun r12 S11 => gd (inb r12 2145) (gd (inb r12 2145) (bnd (upS S11 64 r12.toNatClampNeg ((S11 64 r12.toNatClampNeg) + x2)) (fun S13 => some (.inl (some (.int x2)), S13)))))))
def f_X10_goesOn (F : Nat) (p1 : Int32) (S : mS) : Option mR := gd (inb ((6 : Int32)) 2145) (bI0 (f_X10_laysOf F p1 (S 64 ((6 : Int32)).toNatClampNeg) S) (fun r2 S1 => bI0 (f_X10_of p1 ((2 : Int32)) S1) (fun r4 S3 => bnd (if (((20 : Int32)) - r4) < r2 then (((20 : Int32)) - r4) else r2 : Int32) (fun y5 => bI0 (f_X10_at p1 ((3 : Int32)) S3) (fun r7 S6 => bI0 (f_X10_of p1 ((2 : Int32)) S6) (fun r9 S8 => (if r9 ≤ 0 then f_X10_goesOn_b60 F p1 y5 ((0 : Int32)) r7 S8 else bI0 (f_X10_of p1 ((3 : Int32)) S8) (fun r15 S14 => f_X10_goesOn_b60 F p1 y5 (if (r15 + ((1 : Int32))) < ((99 : Int32)) then (r15 + ((1 : Int32))) else ((99 : Int32))) r7 S14))))))))
theorem f_X10_goesOn_b60_ok {d F : Nat} {x1 : Int32} {x2 : Int32} {t2 : Int32} {t1 : Int32} {S : mS} {r : mR} (hf : f_X10_goesOn_b60 F x1 x2 t2 t1 S = some r) : Ev (d + 7) Mx245 (60, [.ref 63, .int x1, .int x2], [.int t2, .int t1, .ref 64], S, 0) r := by
  unfold f_X10_goesOn_b60 at hf
  refine ev_gd (c1 := (61, [.ref 63, .int x1, .int x2], [], (upS S 64 t1.toNatClampNeg t2), 0)) hf rfl rfl (fun hf => ?_)
  refine ev_let (P := fun S10 => Ev (d + 7) Mx245 (61, [.ref 63, .int x1, .int x2], [], S10, 0) r) (fun S10 hf => ?_) hf
  refine ev_sts 4 (c2 := (67, [.ref 63, .int x1, .int x2], [.int ((2 : Int32)), .int x1, .ref 64], S10, 0)) rfl ?_
  refine ev_bI0 (d := d + 6) (M' := Mx165) (ct := (70, [.ref 63, .int x1, .int x2], [.ref 64], S10, 0)) hf rfl rfl rfl rfl (fun r9 h9 => f_X10_at_ok (d := d + 6) h9) (fun r12 S11 hf => ?_)
  show Ev (d + 7) Mx245 (70, [.ref 63, .int x1, .int x2], [.int r12, .ref 64], S11, 0) r
  refine ev_sts 1 (c2 := (71, [.ref 63, .int x1, .int x2], [.int r12, .ref 64, .int r12, .ref 64], S11, 0)) rfl ?_
  refine ev_gd (c1 := (72, [.ref 63, .int x1, .int x2], [.int (S11 64 r12.toNatClampNeg), .int r12, .ref 64], S11, 0)) hf rfl rfl (fun hf => ?_)
  refine ev_sts 2 (c2 := (74, [.ref 63, .int x1, .int x2], [.int ((S11 64 r12.toNatClampNeg) + x2), .int r12, .ref 64], S11, 0)) rfl ?_
  refine ev_gd (c1 := (75, [.ref 63, .int x1, .int x2], [], (upS S11 64 r12.toNatClampNeg ((S11 64 r12.toNatClampNeg) + x2)), 0)) hf rfl rfl (fun hf => ?_)
  refine ev_let (P := fun S13 => Ev (d + 7) Mx245 (75, [.ref 63, .int x1, .int x2], [], S13, 0) r) (fun S13 hf => ?_) hf
  refine ev_sts 1 (c2 := (76, [.ref 63, .int x1, .int x2], [.int x2], S13, 0)) rfl ?_
  exact ev_ret hf rfl rfl
theorem f_X10_goesOn_ok {d F : Nat} {p1 : Int32} {S : mS} {r : mR} (hf : f_X10_goesOn F p1 S = some r) : Ev (d + 7) Mx245 (entry Mx245 [.ref 63, .int p1] S) r := by
  unfold f_X10_goesOn at hf
  refine ev_sts 5 (c2 := (8, [.ref 63, .int p1, mK], [.int ((6 : Int32)), .ref 64, .int p1, .ref 63], S, 0)) rfl ?_
  refine ev_gd (c1 := (9, [.ref 63, .int p1, mK], [.int (S 64 ((6 : Int32)).toNatClampNeg), .int p1, .ref 63], S, 0)) hf rfl rfl (fun hf => ?_)
  refine ev_bI0 (d := d + 6) (M' := Mx211) (ct := (12, [.ref 63, .int p1, mK], [], S, 0)) hf rfl rfl rfl rfl (fun r9 h9 => f_X10_laysOf_ok (d := d) h9) (fun r2 S1 hf => ?_)
  show Ev (d + 7) Mx245 (12, [.ref 63, .int p1, mK], [.int r2], S1, 0) r
  refine ev_sts 4 (c2 := (17, [.ref 63, .int p1, mK], [.int ((2 : Int32)), .int p1, .ref 63, .int ((20 : Int32)), .int r2], S1, 0)) rfl ?_
  refine ev_bI0 (d := d + 6) (M' := Mx166) (ct := (20, [.ref 63, .int p1, mK], [.int ((20 : Int32)), .int r2], S1, 0)) hf rfl rfl rfl rfl (fun r9 h9 => f_X10_of_ok (d := d + 5) h9) (fun r4 S3 hf => ?_)
  show Ev (d + 7) Mx245 (20, [.ref 63, .int p1, mK], [.int r4, .int ((20 : Int32)), .int r2], S3, 0) r
  refine ev_sts 3 (c2 := (25, [.ref 63, .int p1, .int (if (((20 : Int32)) - r4) < r2 then (((20 : Int32)) - r4) else r2)], [], S3, 0)) rfl ?_
  refine ev_let (P := fun y5 => Ev (d + 7) Mx245 (25, [.ref 63, .int p1, .int y5], [], S3, 0) r) (fun y5 hf => ?_) hf
  refine ev_sts 4 (c2 := (31, [.ref 63, .int p1, .int y5], [.int ((3 : Int32)), .int p1, .ref 64], S3, 0)) rfl ?_
  refine ev_bI0 (d := d + 6) (M' := Mx165) (ct := (34, [.ref 63, .int p1, .int y5], [.ref 64], S3, 0)) hf rfl rfl rfl rfl (fun r9 h9 => f_X10_at_ok (d := d + 6) h9) (fun r7 S6 hf => ?_)
  show Ev (d + 7) Mx245 (34, [.ref 63, .int p1, .int y5], [.int r7, .ref 64], S6, 0) r
  refine ev_sts 3 (c2 := (37, [.ref 63, .int p1, .int y5], [.int ((2 : Int32)), .int p1, .ref 63, .int r7, .ref 64], S6, 0)) rfl ?_
  refine ev_bI0 (d := d + 6) (M' := Mx166) (ct := (40, [.ref 63, .int p1, .int y5], [.int r7, .ref 64], S6, 0)) hf rfl rfl rfl rfl (fun r9 h9 => f_X10_of_ok (d := d + 5) h9) (fun r9 S8 hf => ?_)
  show Ev (d + 7) Mx245 (40, [.ref 63, .int p1, .int y5], [.int r9, .int r7, .ref 64], S8, 0) r
  refine ev_if (c1 := (59, [.ref 63, .int p1, .int y5], [.int r7, .ref 64], S8, 0)) (c2 := (43, [.ref 63, .int p1, .int y5], [.int r7, .ref 64], S8, 0)) hf rfl rfl (fun _ hf => ?_) (fun _ hf => ?_)
  · exact ev_sts 1 (c2 := (60, [.ref 63, .int p1, .int y5], [.int ((0 : Int32)), .int r7, .ref 64], S8, 0)) rfl (f_X10_goesOn_b60_ok hf)
  · refine ev_sts 4 (c2 := (48, [.ref 63, .int p1, .int y5], [.int ((3 : Int32)), .int p1, .ref 63, .int ((99 : Int32)), .int r7, .ref 64], S8, 0)) rfl ?_
    refine ev_bI0 (d := d + 6) (M' := Mx166) (ct := (51, [.ref 63, .int p1, .int y5], [.int ((99 : Int32)), .int r7, .ref 64], S8, 0)) hf rfl rfl rfl rfl (fun r9 h9 => f_X10_of_ok (d := d + 5) h9) (fun r15 S14 hf => ?_)
    show Ev (d + 7) Mx245 (51, [.ref 63, .int p1, .int y5], [.int r15, .int ((99 : Int32)), .int r7, .ref 64], S14, 0) r
    exact ev_sts 4 (c2 := (60, [.ref 63, .int p1, .int y5], [.int (if (r15 + ((1 : Int32))) < ((99 : Int32)) then (r15 + ((1 : Int32))) else ((99 : Int32))), .int r7, .ref 64], S14, 0)) rfl (f_X10_goesOn_b60_ok hf)
def f_X10_holders (S : mS) : Option mR := gd (inb ((1 : Int32)) 2145) (some (.inl (some (.int (S 64 ((1 : Int32)).toNatClampNeg))), S))
theorem f_X10_holders_ok {d : Nat} {S : mS} {r : mR} (hf : f_X10_holders S = some r) : Ev (d) Mx163 (entry Mx163 [.ref 63] S) r := by
  unfold f_X10_holders at hf
  refine ev_sts 3 (c2 := (5, [.ref 63], [.int ((1 : Int32)), .ref 64], S, 0)) rfl ?_
  refine ev_gd (c1 := (6, [.ref 63], [.int (S 64 ((1 : Int32)).toNatClampNeg)], S, 0)) hf rfl rfl (fun hf => ?_)
  exact ev_ret hf rfl rfl
def f_X10_ofHolder (p1 : Int32) (p2 : Int32) (S : mS) : Option mR := gd (inb ((((67 : Int32)) + (((2 : Int32)) * p1)) + p2) 2145) (some (.inl (some (.int (S 64 ((((67 : Int32)) + (((2 : Int32)) * p1)) + p2).toNatClampNeg))), S))
theorem f_X10_ofHolder_ok {d : Nat} {p1 : Int32} {p2 : Int32} {S : mS} {r : mR} (hf : f_X10_ofHolder p1 p2 S = some r) : Ev (d) Mx167 (entry Mx167 [.ref 63, .int p1, .int p2] S) r := by
  unfold f_X10_ofHolder at hf
  refine ev_sts 9 (c2 := (12, [.ref 63, .int p1, .int p2], [.int ((((67 : Int32)) + (((2 : Int32)) * p1)) + p2), .ref 64], S, 0)) rfl ?_
  refine ev_gd (c1 := (13, [.ref 63, .int p1, .int p2], [.int (S 64 ((((67 : Int32)) + (((2 : Int32)) * p1)) + p2).toNatClampNeg)], S, 0)) hf rfl rfl (fun hf => ?_)
  exact ev_ret hf rfl rfl
def f_X10_oneDay_b70 (F : Nat) : Nat → Int32 → Int32 → mS → Option mR
  | 0, _, _, _ => none
  | n + 1, x2, x3, S => bI0 (f_X10_holders S) (fun r4 S3 => (if r4 ≤ x3 then gd (inb ((5 : Int32)) 2145) (gd (inb ((5 : Int32)) 2145) (bnd (upS S3 64 ((5 : Int32)).toNatClampNeg (if ((S3 64 ((5 : Int32)).toNatClampNeg) + ((1 : Int32))) < ((9999 : Int32)) then ((S3 64 ((5 : Int32)).toNatClampNeg) + ((1 : Int32))) else ((9999 : Int32)))) (fun S5 => some (.inl (some (.int x2)), S5)))) else bI0 (f_X10_ofHolder x3 ((1 : Int32)) S3) (fun r7 S6 => gd (inb ((((67 : Int32)) + (((2 : Int32)) * x3)) + ((1 : Int32))) 2145) (bnd (upS S6 64 ((((67 : Int32)) + (((2 : Int32)) * x3)) + ((1 : Int32))).toNatClampNeg (if ((0 : Int32)) < (r7 - ((2 : Int32))) then (r7 - ((2 : Int32))) else ((0 : Int32)))) (fun S8 => f_X10_oneDay_b70 F n x2 (x3 + (1 : Int32)) S8)))))
def f_X10_oneDay_b46 (F : Nat) : Nat → Int32 → Int32 → mS → Option mR
  | 0, _, _, _ => none
  | n + 1, x2, x3, S => bI0 (f_X10_ledges S) (fun r2 S1 => (if r2 ≤ x3 then f_X10_oneDay_b70 F F x2 ((0 : Int32)) S1 else bI0 (f_X10_goesOn F x3 S1) (fun r10 S9 => bnd (x2 + r10 : Int32) (fun y11 => f_X10_oneDay_b46 F n y11 (x3 + (1 : Int32)) S9))))
def f_X10_oneDay_b42 (F : Nat) (S : mS) : Option mR := f_X10_oneDay_b46 F F ((0 : Int32)) ((0 : Int32)) S
def f_X10_oneDay (F : Nat) (p1 : Int32) (S : mS) : Option mR := (if ¬ p1 = 0 then f_X10_oneDay_b42 F S else bI0 (f_X10_draw ((10 : Int32)) S) (fun r13 S12 => gd (inb ((6 : Int32)) 2145) (bnd (upS S12 64 ((6 : Int32)).toNatClampNeg r13) (fun S14 => bI0 (f_X10_draw ((100 : Int32)) S14) (fun r16 S15 => gd (inb ((13 : Int32)) 2145) ((if (S15 64 ((13 : Int32)).toNatClampNeg) ≤ r16 then f_X10_oneDay_b42 F S15 else gd (inb ((6 : Int32)) 2145) (bnd (upS S15 64 ((6 : Int32)).toNatClampNeg ((9 : Int32))) (fun S17 => f_X10_oneDay_b42 F S17)))))))))
theorem f_X10_oneDay_b70_ok {d F : Nat} : ∀ (n : Nat) {x2 : Int32} {x3 : Int32} {S : mS} {r : mR}, f_X10_oneDay_b70 F n x2 x3 S = some r → Ev (d + 8) Mx246 (70, [.ref 63, mK, .int x2, .int x3], [], S, 0) r := by
  intro n
  induction n with
  | zero => intro x2 x3 S r hf; cases hf
  | succ n ih =>
    intro x2 x3 S r hf
    rw [f_X10_oneDay_b70] at hf
    refine ev_sts 2 (c2 := (72, [.ref 63, mK, .int x2, .int x3], [.ref 63, .int x3], S, 0)) rfl ?_
    refine ev_bI0 (d := d + 7) (M' := Mx163) (ct := (75, [.ref 63, mK, .int x2, .int x3], [.int x3], S, 0)) hf rfl rfl rfl rfl (fun r9 h9 => f_X10_holders_ok (d := d + 7) h9) (fun r4 S3 hf => ?_)
    show Ev (d + 8) Mx246 (75, [.ref 63, mK, .int x2, .int x3], [.int r4, .int x3], S3, 0) r
    refine ev_if (c1 := (109, [.ref 63, mK, .int x2, .int x3], [], S3, 0)) (c2 := (78, [.ref 63, mK, .int x2, .int x3], [], S3, 0)) hf rfl rfl (fun _ hf => ?_) (fun _ hf => ?_)
    · refine ev_sts 7 (c2 := (122, [.ref 63, mK, .int x2, .int x3], [.int ((5 : Int32)), .ref 64, .int ((9999 : Int32)), .int ((5 : Int32)), .ref 64], S3, 0)) rfl ?_
      refine ev_gd (c1 := (123, [.ref 63, mK, .int x2, .int x3], [.int (S3 64 ((5 : Int32)).toNatClampNeg), .int ((9999 : Int32)), .int ((5 : Int32)), .ref 64], S3, 0)) hf rfl rfl (fun hf => ?_)
      refine ev_sts 3 (c2 := (128, [.ref 63, mK, .int x2, .int x3], [.int (if ((S3 64 ((5 : Int32)).toNatClampNeg) + ((1 : Int32))) < ((9999 : Int32)) then ((S3 64 ((5 : Int32)).toNatClampNeg) + ((1 : Int32))) else ((9999 : Int32))), .int ((5 : Int32)), .ref 64], S3, 0)) rfl ?_
      refine ev_gd (c1 := (129, [.ref 63, mK, .int x2, .int x3], [], (upS S3 64 ((5 : Int32)).toNatClampNeg (if ((S3 64 ((5 : Int32)).toNatClampNeg) + ((1 : Int32))) < ((9999 : Int32)) then ((S3 64 ((5 : Int32)).toNatClampNeg) + ((1 : Int32))) else ((9999 : Int32)))), 0)) hf rfl rfl (fun hf => ?_)
      refine ev_let (P := fun S5 => Ev (d + 8) Mx246 (129, [.ref 63, mK, .int x2, .int x3], [], S5, 0) r) (fun S5 hf => ?_) hf
      refine ev_sts 1 (c2 := (130, [.ref 63, mK, .int x2, .int x3], [.int x2], S5, 0)) rfl ?_
      exact ev_ret hf rfl rfl
    · refine ev_sts 13 (c2 := (94, [.ref 63, mK, .int x2, .int x3], [.int ((1 : Int32)), .int x3, .ref 63, .int ((0 : Int32)), .int ((((67 : Int32)) + (((2 : Int32)) * x3)) + ((1 : Int32))), .ref 64], S3, 0)) rfl ?_
      refine ev_bI0 (d := d + 7) (M' := Mx167) (ct := (97, [.ref 63, mK, .int x2, .int x3], [.int ((0 : Int32)), .int ((((67 : Int32)) + (((2 : Int32)) * x3)) + ((1 : Int32))), .ref 64], S3, 0)) hf rfl rfl rfl rfl (fun r9 h9 => f_X10_ofHolder_ok (d := d + 7) h9) (fun r7 S6 hf => ?_)
      show Ev (d + 8) Mx246 (97, [.ref 63, mK, .int x2, .int x3], [.int r7, .int ((0 : Int32)), .int ((((67 : Int32)) + (((2 : Int32)) * x3)) + ((1 : Int32))), .ref 64], S6, 0) r
      refine ev_sts 3 (c2 := (102, [.ref 63, mK, .int x2, .int x3], [.int (if ((0 : Int32)) < (r7 - ((2 : Int32))) then (r7 - ((2 : Int32))) else ((0 : Int32))), .int ((((67 : Int32)) + (((2 : Int32)) * x3)) + ((1 : Int32))), .ref 64], S6, 0)) rfl ?_
      refine ev_gd (c1 := (103, [.ref 63, mK, .int x2, .int x3], [], (upS S6 64 ((((67 : Int32)) + (((2 : Int32)) * x3)) + ((1 : Int32))).toNatClampNeg (if ((0 : Int32)) < (r7 - ((2 : Int32))) then (r7 - ((2 : Int32))) else ((0 : Int32)))), 0)) hf rfl rfl (fun hf => ?_)
      refine ev_let (P := fun S8 => Ev (d + 8) Mx246 (103, [.ref 63, mK, .int x2, .int x3], [], S8, 0) r) (fun S8 hf => ?_) hf
      exact ev_sts 2 (c2 := (70, [.ref 63, mK, .int x2, .int (x3 + (1 : Int32))], [], S8, 0)) rfl (ih hf)
theorem f_X10_oneDay_b46_ok {d F : Nat} : ∀ (n : Nat) {x2 : Int32} {x3 : Int32} {S : mS} {r : mR}, f_X10_oneDay_b46 F n x2 x3 S = some r → Ev (d + 8) Mx246 (46, [.ref 63, mK, .int x2, .int x3], [], S, 0) r := by
  intro n
  induction n with
  | zero => intro x2 x3 S r hf; cases hf
  | succ n ih =>
    intro x2 x3 S r hf
    rw [f_X10_oneDay_b46] at hf
    refine ev_sts 2 (c2 := (48, [.ref 63, mK, .int x2, .int x3], [.ref 63, .int x3], S, 0)) rfl ?_
    refine ev_bI0 (d := d + 7) (M' := Mx162) (ct := (51, [.ref 63, mK, .int x2, .int x3], [.int x3], S, 0)) hf rfl rfl rfl rfl (fun r9 h9 => f_X10_ledges_ok (d := d + 7) h9) (fun r2 S1 hf => ?_)
    show Ev (d + 8) Mx246 (51, [.ref 63, mK, .int x2, .int x3], [.int r2, .int x3], S1, 0) r
    refine ev_if (c1 := (68, [.ref 63, mK, .int x2, .int x3], [], S1, 0)) (c2 := (54, [.ref 63, mK, .int x2, .int x3], [], S1, 0)) hf rfl rfl (fun _ hf => ?_) (fun _ hf => ?_)
    · exact ev_sts 2 (c2 := (70, [.ref 63, mK, .int x2, .int ((0 : Int32))], [], S1, 0)) rfl (f_X10_oneDay_b70_ok _ hf)
    · refine ev_sts 3 (c2 := (57, [.ref 63, mK, .int x2, .int x3], [.int x3, .ref 63, .int x2], S1, 0)) rfl ?_
      refine ev_bI0 (d := d + 7) (M' := Mx245) (ct := (60, [.ref 63, mK, .int x2, .int x3], [.int x2], S1, 0)) hf rfl rfl rfl rfl (fun r9 h9 => f_X10_goesOn_ok (d := d) h9) (fun r10 S9 hf => ?_)
      show Ev (d + 8) Mx246 (60, [.ref 63, mK, .int x2, .int x3], [.int r10, .int x2], S9, 0) r
      refine ev_sts 2 (c2 := (62, [.ref 63, mK, .int (x2 + r10), .int x3], [], S9, 0)) rfl ?_
      refine ev_let (P := fun y11 => Ev (d + 8) Mx246 (62, [.ref 63, mK, .int y11, .int x3], [], S9, 0) r) (fun y11 hf => ?_) hf
      exact ev_sts 2 (c2 := (46, [.ref 63, mK, .int y11, .int (x3 + (1 : Int32))], [], S9, 0)) rfl (ih hf)
theorem f_X10_oneDay_b42_ok {d F : Nat} {S : mS} {r : mR} (hf : f_X10_oneDay_b42 F  S = some r) : Ev (d + 8) Mx246 (42, [.ref 63, mK, mK, mK], [], S, 0) r := by
  unfold f_X10_oneDay_b42 at hf
  exact ev_sts 4 (c2 := (46, [.ref 63, mK, .int ((0 : Int32)), .int ((0 : Int32))], [], S, 0)) rfl (f_X10_oneDay_b46_ok _ hf)
theorem f_X10_oneDay_ok {d F : Nat} {p1 : Int32} {S : mS} {r : mR} (hf : f_X10_oneDay F p1 S = some r) : Ev (d + 8) Mx246 (entry Mx246 [.ref 63, .int p1] S) r := by
  unfold f_X10_oneDay at hf
  refine ev_sts 1 (c2 := (1, [.ref 63, .int p1, mK, mK], [.int p1], S, 0)) rfl ?_
  refine ev_if (c1 := (42, [.ref 63, mK, mK, mK], [], S, 0)) (c2 := (4, [.ref 63, .int p1, mK, mK], [], S, 0)) hf rfl rfl (fun _ hf => ?_) (fun _ hf => ?_)
  · exact f_X10_oneDay_b42_ok hf
  · refine ev_sts 5 (c2 := (13, [.ref 63, .int p1, mK, mK], [.int ((10 : Int32)), .ref 63, .int ((6 : Int32)), .ref 64], S, 0)) rfl ?_
    refine ev_bI0 (d := d + 7) (M' := Mx173) (ct := (16, [.ref 63, .int p1, mK, mK], [.int ((6 : Int32)), .ref 64], S, 0)) hf rfl rfl rfl rfl (fun r9 h9 => f_X10_draw_ok (d := d + 7) h9) (fun r13 S12 hf => ?_)
    show Ev (d + 8) Mx246 (16, [.ref 63, .int p1, mK, mK], [.int r13, .int ((6 : Int32)), .ref 64], S12, 0) r
    refine ev_gd (c1 := (17, [.ref 63, .int p1, mK, mK], [], (upS S12 64 ((6 : Int32)).toNatClampNeg r13), 0)) hf rfl rfl (fun hf => ?_)
    refine ev_let (P := fun S14 => Ev (d + 8) Mx246 (17, [.ref 63, .int p1, mK, mK], [], S14, 0) r) (fun S14 hf => ?_) hf
    refine ev_sts 2 (c2 := (20, [.ref 63, .int p1, mK, mK], [.int ((100 : Int32)), .ref 63], S14, 0)) rfl ?_
    refine ev_bI0 (d := d + 7) (M' := Mx173) (ct := (23, [.ref 63, .int p1, mK, mK], [], S14, 0)) hf rfl rfl rfl rfl (fun r9 h9 => f_X10_draw_ok (d := d + 7) h9) (fun r16 S15 hf => ?_)
    show Ev (d + 8) Mx246 (23, [.ref 63, .int p1, mK, mK], [.int r16], S15, 0) r
    refine ev_sts 3 (c2 := (29, [.ref 63, .int p1, mK, mK], [.int ((13 : Int32)), .ref 64, .int r16], S15, 0)) rfl ?_
    refine ev_gd (c1 := (30, [.ref 63, .int p1, mK, mK], [.int (S15 64 ((13 : Int32)).toNatClampNeg), .int r16], S15, 0)) hf rfl rfl (fun hf => ?_)
    refine ev_if (c1 := (42, [.ref 63, mK, mK, mK], [], S15, 0)) (c2 := (33, [.ref 63, .int p1, mK, mK], [], S15, 0)) hf rfl rfl (fun _ hf => ?_) (fun _ hf => ?_)
    · exact f_X10_oneDay_b42_ok hf
    · refine ev_sts 4 (c2 := (41, [.ref 63, .int p1, mK, mK], [.int ((9 : Int32)), .int ((6 : Int32)), .ref 64], S15, 0)) rfl ?_
      refine ev_gd (c1 := (42, [.ref 63, mK, mK, mK], [], (upS S15 64 ((6 : Int32)).toNatClampNeg ((9 : Int32))), 0)) hf rfl rfl (fun hf => ?_)
      refine ev_let (P := fun S17 => Ev (d + 8) Mx246 (42, [.ref 63, mK, mK, mK], [], S17, 0) r) (fun S17 hf => ?_) hf
      exact f_X10_oneDay_b42_ok hf
def f_X10_throwsIf_b9 (x1 : Int32) (S : mS) : Option mR := some (.inl (some (.int (x1 &&& 1))), S)
def f_X10_throwsIf (p1 : Int32) (p2 : Int32) (S : mS) : Option mR := (if p1 = 0 then f_X10_throwsIf_b9 p1 S else bnd (upS S 63 0 p2) (fun S1 => f_X10_throwsIf_b9 p1 S1))
theorem f_X10_throwsIf_b9_ok {d : Nat} {x1 : Int32} {S : mS} {r : mR} (hf : f_X10_throwsIf_b9 x1 S = some r) : Ev (d) Mx155 (9, [mK, .int x1, mK], [], S, 0) r := by
  unfold f_X10_throwsIf_b9 at hf
  refine ev_sts 1 (c2 := (10, [mK, .int x1, mK], [.int x1], S, 0)) rfl ?_
  exact ev_ret hf rfl rfl
theorem f_X10_throwsIf_ok {d : Nat} {p1 : Int32} {p2 : Int32} {S : mS} {r : mR} (hf : f_X10_throwsIf p1 p2 S = some r) : Ev (d) Mx155 (entry Mx155 [.ref 63, .int p1, .int p2] S) r := by
  unfold f_X10_throwsIf at hf
  refine ev_sts 1 (c2 := (1, [.ref 63, .int p1, .int p2], [.int p1], S, 0)) rfl ?_
  refine ev_if (c1 := (9, [mK, .int p1, mK], [], S, 0)) (c2 := (4, [.ref 63, .int p1, .int p2], [], S, 0)) hf rfl rfl (fun _ hf => ?_) (fun _ hf => ?_)
  · exact f_X10_throwsIf_b9_ok hf
  · refine ev_sts 3 (c2 := (9, [mK, .int p1, mK], [], (upS S 63 0 p2), 0)) rfl ?_
    refine ev_let (P := fun S1 => Ev (d) Mx155 (9, [mK, .int p1, mK], [], S1, 0) r) (fun S1 hf => ?_) hf
    exact f_X10_throwsIf_b9_ok hf
def f_X10_ahead_b41 (F : Nat) (S : mS) : Option mR := some (.inl (some (.int ((0 : Int32)))), S)
def f_X10_ahead_b79 (F : Nat) (t2 : Int32) (t1 : Int32) (S : mS) : Option mR := bI0 (f_X10_of t1 t2 S) (fun r12 S11 => bV0 (f_X10_bringsBack F S11) (fun S13 => some (.inl (some (.int r12)), S13)))
def f_X10_ahead_b50 (F : Nat) : Nat → Int32 → Int32 → Int32 → Int32 → mS → Option mR
  | 0, _, _, _, _, _ => none
  | n + 1, x1, x2, x3, x4, S => (if x2 ≤ x4 then (if x3 = 0 then f_X10_ahead_b79 F ((2 : Int32)) x1 S else f_X10_ahead_b79 F ((3 : Int32)) x1 S) else bI0 (f_X10_oneDay F ((1 : Int32)) S) (fun r15 S14 => f_X10_ahead_b50 F n x1 x2 x3 (x4 + (1 : Int32)) S14))
def f_X10_ahead_b34 (F : Nat) (x1 : Int32) (x2 : Int32) (x3 : Int32) (t1 : Int32) (S : mS) : Option mR := bI0 (f_X10_throwsIf t1 ((2 : Int32)) S) (fun r9 S8 => (if r9 = 0 then bV0 (f_X10_keepsAll F S8) (fun S10 => f_X10_ahead_b50 F F x1 x2 x3 ((0 : Int32)) S10) else f_X10_ahead_b41 F S8))
def f_X10_ahead (F : Nat) (p1 : Int32) (p2 : Int32) (p3 : Int32) (S : mS) : Option mR := bnd (upS S 63 0 ((0 : Int32))) (fun S1 => bI0 (f_X10_noLedge p1 S1) (fun r3 S2 => bI0 (f_X10_throwsIf r3 ((1 : Int32)) S2) (fun r5 S4 => (if ¬ r5 = 0 then f_X10_ahead_b41 F S4 else bI0 (f_X10_in p2 ((0 : Int32)) ((40 : Int32)) S4) (fun r7 S6 => (if ¬ r7 = 0 then f_X10_ahead_b34 F p1 p2 p3 ((0 : Int32)) S6 else f_X10_ahead_b34 F p1 p2 p3 ((1 : Int32)) S6))))))
theorem f_X10_ahead_b41_ok {d F : Nat} {S : mS} {r : mR} (hf : f_X10_ahead_b41 F  S = some r) : Ev (d + 9) Mx250 (41, [mK, mK, mK, mK, mK], [], S, 0) r := by
  unfold f_X10_ahead_b41 at hf
  refine ev_sts 1 (c2 := (42, [mK, mK, mK, mK, mK], [.int ((0 : Int32))], S, 0)) rfl ?_
  exact ev_ret hf rfl rfl
theorem f_X10_ahead_b79_ok {d F : Nat} {t2 : Int32} {t1 : Int32} {S : mS} {r : mR} (hf : f_X10_ahead_b79 F t2 t1 S = some r) : Ev (d + 9) Mx250 (79, [.ref 63, mK, mK, mK, mK], [.int t2, .int t1, .ref 63], S, 0) r := by
  unfold f_X10_ahead_b79 at hf
  refine ev_bI0 (d := d + 8) (M' := Mx166) (ct := (82, [.ref 63, mK, mK, mK, mK], [], S, 0)) hf rfl rfl rfl rfl (fun r9 h9 => f_X10_of_ok (d := d + 7) h9) (fun r12 S11 hf => ?_)
  show Ev (d + 9) Mx250 (82, [.ref 63, mK, mK, mK, mK], [.int r12], S11, 0) r
  refine ev_sts 2 (c2 := (85, [.ref 63, mK, mK, mK, .int r12], [.ref 63], S11, 0)) rfl ?_
  refine ev_bV0 (d := d + 8) (M' := Mx248) (ct := (88, [.ref 63, mK, mK, mK, .int r12], [], S11, 0)) hf rfl rfl rfl rfl (fun r9 h9 => f_X10_bringsBack_ok (d := d + 8) h9) (fun S13 hf => ?_)
  show Ev (d + 9) Mx250 (88, [.ref 63, mK, mK, mK, .int r12], [], S13, 0) r
  refine ev_sts 1 (c2 := (90, [.ref 63, mK, mK, mK, .int r12], [.int r12], S13, 0)) rfl ?_
  exact ev_ret hf rfl rfl
theorem f_X10_ahead_b50_ok {d F : Nat} : ∀ (n : Nat) {x1 : Int32} {x2 : Int32} {x3 : Int32} {x4 : Int32} {S : mS} {r : mR}, f_X10_ahead_b50 F n x1 x2 x3 x4 S = some r → Ev (d + 9) Mx250 (50, [.ref 63, .int x1, .int x2, .int x3, .int x4], [], S, 0) r := by
  intro n
  induction n with
  | zero => intro x1 x2 x3 x4 S r hf; cases hf
  | succ n ih =>
    intro x1 x2 x3 x4 S r hf
    rw [f_X10_ahead_b50] at hf
    refine ev_sts 2 (c2 := (53, [.ref 63, .int x1, .int x2, .int x3, .int x4], [.int x2, .int x4], S, 0)) rfl ?_
    refine ev_if (c1 := (68, [.ref 63, .int x1, .int x2, .int x3, .int x4], [], S, 0)) (c2 := (56, [.ref 63, .int x1, .int x2, .int x3, .int x4], [], S, 0)) hf rfl rfl (fun _ hf => ?_) (fun _ hf => ?_)
    · refine ev_sts 3 (c2 := (71, [.ref 63, .int x1, .int x2, .int x3, .int x4], [.int x3, .int x1, .ref 63], S, 0)) rfl ?_
      refine ev_if (c1 := (78, [.ref 63, .int x1, .int x2, .int x3, .int x4], [.int x1, .ref 63], S, 0)) (c2 := (74, [.ref 63, .int x1, .int x2, .int x3, .int x4], [.int x1, .ref 63], S, 0)) hf rfl rfl (fun _ hf => ?_) (fun _ hf => ?_)
      · exact ev_sts 1 (c2 := (79, [.ref 63, mK, mK, mK, mK], [.int ((2 : Int32)), .int x1, .ref 63], S, 0)) rfl (f_X10_ahead_b79_ok hf)
      · exact ev_sts 2 (c2 := (79, [.ref 63, mK, mK, mK, mK], [.int ((3 : Int32)), .int x1, .ref 63], S, 0)) rfl (f_X10_ahead_b79_ok hf)
    · refine ev_sts 2 (c2 := (58, [.ref 63, .int x1, .int x2, .int x3, .int x4], [.int ((1 : Int32)), .ref 63], S, 0)) rfl ?_
      refine ev_bI0 (d := d + 8) (M' := Mx246) (ct := (61, [.ref 63, .int x1, .int x2, .int x3, .int x4], [], S, 0)) hf rfl rfl rfl rfl (fun r9 h9 => f_X10_oneDay_ok (d := d) h9) (fun r15 S14 hf => ?_)
      show Ev (d + 9) Mx250 (61, [.ref 63, .int x1, .int x2, .int x3, .int x4], [.int r15], S14, 0) r
      exact ev_sts 3 (c2 := (50, [.ref 63, .int x1, .int x2, .int x3, .int (x4 + (1 : Int32))], [], S14, 0)) rfl (ih hf)
theorem f_X10_ahead_b34_ok {d F : Nat} {x1 : Int32} {x2 : Int32} {x3 : Int32} {t1 : Int32} {S : mS} {r : mR} (hf : f_X10_ahead_b34 F x1 x2 x3 t1 S = some r) : Ev (d + 9) Mx250 (34, [.ref 63, .int x1, .int x2, .int x3, mK], [.int t1, .ref 63], S, 0) r := by
  unfold f_X10_ahead_b34 at hf
  refine ev_sts 1 (c2 := (35, [.ref 63, .int x1, .int x2, .int x3, mK], [.int ((2 : Int32)), .int t1, .ref 63], S, 0)) rfl ?_
  refine ev_bI0 (d := d + 8) (M' := Mx155) (ct := (38, [.ref 63, .int x1, .int x2, .int x3, mK], [], S, 0)) hf rfl rfl rfl rfl (fun r9 h9 => f_X10_throwsIf_ok (d := d + 8) h9) (fun r9 S8 hf => ?_)
  show Ev (d + 9) Mx250 (38, [.ref 63, .int x1, .int x2, .int x3, mK], [.int r9], S8, 0) r
  refine ev_if (c1 := (43, [.ref 63, .int x1, .int x2, .int x3, mK], [], S8, 0)) (c2 := (41, [mK, mK, mK, mK, mK], [], S8, 0)) hf rfl rfl (fun _ hf => ?_) (fun _ hf => ?_)
  · refine ev_sts 1 (c2 := (44, [.ref 63, .int x1, .int x2, .int x3, mK], [.ref 63], S8, 0)) rfl ?_
    refine ev_bV0 (d := d + 8) (M' := Mx247) (ct := (47, [.ref 63, .int x1, .int x2, .int x3, mK], [], S8, 0)) hf rfl rfl rfl rfl (fun r9 h9 => f_X10_keepsAll_ok (d := d + 8) h9) (fun S10 hf => ?_)
    show Ev (d + 9) Mx250 (47, [.ref 63, .int x1, .int x2, .int x3, mK], [], S10, 0) r
    exact ev_sts 2 (c2 := (50, [.ref 63, .int x1, .int x2, .int x3, .int ((0 : Int32))], [], S10, 0)) rfl (f_X10_ahead_b50_ok _ hf)
  · exact f_X10_ahead_b41_ok hf
theorem f_X10_ahead_ok {d F : Nat} {p1 : Int32} {p2 : Int32} {p3 : Int32} {S : mS} {r : mR} (hf : f_X10_ahead F p1 p2 p3 S = some r) : Ev (d + 9) Mx250 (entry Mx250 [.ref 63, .int p1, .int p2, .int p3] S) r := by
  unfold f_X10_ahead at hf
  refine ev_sts 3 (c2 := (5, [.ref 63, .int p1, .int p2, .int p3, mK], [], (upS S 63 0 ((0 : Int32))), 0)) rfl ?_
  refine ev_let (P := fun S1 => Ev (d + 9) Mx250 (5, [.ref 63, .int p1, .int p2, .int p3, mK], [], S1, 0) r) (fun S1 hf => ?_) hf
  refine ev_sts 3 (c2 := (8, [.ref 63, .int p1, .int p2, .int p3, mK], [.int p1, .ref 63, .ref 63], S1, 0)) rfl ?_
  refine ev_bI0 (d := d + 8) (M' := Mx169) (ct := (11, [.ref 63, .int p1, .int p2, .int p3, mK], [.ref 63], S1, 0)) hf rfl rfl rfl rfl (fun r9 h9 => f_X10_noLedge_ok (d := d + 7) h9) (fun r3 S2 hf => ?_)
  show Ev (d + 9) Mx250 (11, [.ref 63, .int p1, .int p2, .int p3, mK], [.int r3, .ref 63], S2, 0) r
  refine ev_sts 1 (c2 := (12, [.ref 63, .int p1, .int p2, .int p3, mK], [.int ((1 : Int32)), .int r3, .ref 63], S2, 0)) rfl ?_
  refine ev_bI0 (d := d + 8) (M' := Mx155) (ct := (15, [.ref 63, .int p1, .int p2, .int p3, mK], [], S2, 0)) hf rfl rfl rfl rfl (fun r9 h9 => f_X10_throwsIf_ok (d := d + 8) h9) (fun r5 S4 hf => ?_)
  show Ev (d + 9) Mx250 (15, [.ref 63, .int p1, .int p2, .int p3, mK], [.int r5], S4, 0) r
  refine ev_if (c1 := (41, [mK, mK, mK, mK, mK], [], S4, 0)) (c2 := (18, [.ref 63, .int p1, .int p2, .int p3, mK], [], S4, 0)) hf rfl rfl (fun _ hf => ?_) (fun _ hf => ?_)
  · exact f_X10_ahead_b41_ok hf
  · refine ev_sts 4 (c2 := (23, [.ref 63, .int p1, .int p2, .int p3, mK], [.int ((40 : Int32)), .int ((0 : Int32)), .int p2, .ref 63], S4, 0)) rfl ?_
    refine ev_bI0 (d := d + 8) (M' := Mx156) (ct := (26, [.ref 63, .int p1, .int p2, .int p3, mK], [.ref 63], S4, 0)) hf rfl rfl rfl rfl (fun r9 h9 => f_X10_in_ok (d := d + 8) h9) (fun r7 S6 hf => ?_)
    show Ev (d + 9) Mx250 (26, [.ref 63, .int p1, .int p2, .int p3, mK], [.int r7, .ref 63], S6, 0) r
    refine ev_if (c1 := (33, [.ref 63, .int p1, .int p2, .int p3, mK], [.ref 63], S6, 0)) (c2 := (29, [.ref 63, .int p1, .int p2, .int p3, mK], [.ref 63], S6, 0)) hf rfl rfl (fun _ hf => ?_) (fun _ hf => ?_)
    · exact ev_sts 1 (c2 := (34, [.ref 63, .int p1, .int p2, .int p3, mK], [.int ((0 : Int32)), .ref 63], S6, 0)) rfl (f_X10_ahead_b34_ok hf)
    · exact ev_sts 2 (c2 := (34, [.ref 63, .int p1, .int p2, .int p3, mK], [.int ((1 : Int32)), .ref 63], S6, 0)) rfl (f_X10_ahead_b34_ok hf)
def f_X10_allHolders (S : mS) : Option mR := bI0 (f_X10_holders S) (fun r2 S1 => some (.inl (some (.int ((((1 : Int32)) <<< (r2 &&& 31)) - ((1 : Int32))))), S1))
theorem f_X10_allHolders_ok {d : Nat} {S : mS} {r : mR} (hf : f_X10_allHolders S = some r) : Ev (d + 1) Mx221 (entry Mx221 [.ref 63] S) r := by
  unfold f_X10_allHolders at hf
  refine ev_sts 2 (c2 := (2, [.ref 63], [.ref 63, .int ((1 : Int32))], S, 0)) rfl ?_
  refine ev_bI0 (d := d) (M' := Mx163) (ct := (5, [.ref 63], [.int ((1 : Int32))], S, 0)) hf rfl rfl rfl rfl (fun r9 h9 => f_X10_holders_ok (d := d) h9) (fun r2 S1 hf => ?_)
  show Ev (d + 1) Mx221 (5, [.ref 63], [.int r2, .int ((1 : Int32))], S1, 0) r
  refine ev_sts 3 (c2 := (8, [.ref 63], [.int ((((1 : Int32)) <<< (r2 &&& 31)) - ((1 : Int32)))], S1, 0)) rfl ?_
  exact ev_ret hf rfl rfl
def f_X10_allLedges (S : mS) : Option mR := bI0 (f_X10_ledges S) (fun r2 S1 => some (.inl (some (.int ((((1 : Int32)) <<< (r2 &&& 31)) - ((1 : Int32))))), S1))
theorem f_X10_allLedges_ok {d : Nat} {S : mS} {r : mR} (hf : f_X10_allLedges S = some r) : Ev (d + 1) Mx261 (entry Mx261 [.ref 63] S) r := by
  unfold f_X10_allLedges at hf
  refine ev_sts 2 (c2 := (2, [.ref 63], [.ref 63, .int ((1 : Int32))], S, 0)) rfl ?_
  refine ev_bI0 (d := d) (M' := Mx162) (ct := (5, [.ref 63], [.int ((1 : Int32))], S, 0)) hf rfl rfl rfl rfl (fun r9 h9 => f_X10_ledges_ok (d := d) h9) (fun r2 S1 hf => ?_)
  show Ev (d + 1) Mx261 (5, [.ref 63], [.int r2, .int ((1 : Int32))], S1, 0) r
  refine ev_sts 3 (c2 := (8, [.ref 63], [.int ((((1 : Int32)) <<< (r2 &&& 31)) - ((1 : Int32)))], S1, 0)) rfl ?_
  exact ev_ret hf rfl rfl
def f_X10_back_b16 (F : Nat) : Nat → Int32 → mS → Option mR
  | 0, _, _ => none
  | n + 1, x1, S => (if ((1296 : Int32)) ≤ x1 then bnd (upS S 63 7 ((0 : Int32))) (fun S2 => some (.inl (some (.int (((1 : Int32)) &&& 1))), S2)) else gd (inb x1 1296) (gd (inb x1 2145) (bnd (upS S 64 x1.toNatClampNeg (S 65 x1.toNatClampNeg)) (fun S3 => f_X10_back_b16 F n (x1 + (1 : Int32)) S3))))
def f_X10_back (F : Nat) (S : mS) : Option mR := bnd (upS S 63 0 ((0 : Int32))) (fun S1 => (if ¬ (S1 63 6) = 0 then f_X10_back_b16 F F ((0 : Int32)) S1 else some (.inl (some (.int (((0 : Int32)) &&& 1))), S1)))
theorem f_X10_back_b16_ok {d F : Nat} : ∀ (n : Nat) {x1 : Int32} {S : mS} {r : mR}, f_X10_back_b16 F n x1 S = some r → Ev (d) Mx159 (16, [.ref 63, .int x1], [], S, 0) r := by
  intro n
  induction n with
  | zero => intro x1 S r hf; cases hf
  | succ n ih =>
    intro x1 S r hf
    rw [f_X10_back_b16] at hf
    refine ev_sts 2 (c2 := (20, [.ref 63, .int x1], [.int ((1296 : Int32)), .int x1], S, 0)) rfl ?_
    refine ev_if (c1 := (41, [.ref 63, .int x1], [], S, 0)) (c2 := (23, [.ref 63, .int x1], [], S, 0)) hf rfl rfl (fun _ hf => ?_) (fun _ hf => ?_)
    · refine ev_sts 3 (c2 := (46, [.ref 63, .int x1], [], (upS S 63 7 ((0 : Int32))), 0)) rfl ?_
      refine ev_let (P := fun S2 => Ev (d) Mx159 (46, [.ref 63, .int x1], [], S2, 0) r) (fun S2 hf => ?_) hf
      refine ev_sts 1 (c2 := (47, [.ref 63, .int x1], [.int ((1 : Int32))], S2, 0)) rfl ?_
      exact ev_ret hf rfl rfl
    · refine ev_sts 6 (c2 := (33, [.ref 63, .int x1], [.int x1, .ref 65, .int x1, .ref 64], S, 0)) rfl ?_
      refine ev_gd (c1 := (34, [.ref 63, .int x1], [.int (S 65 x1.toNatClampNeg), .int x1, .ref 64], S, 0)) hf rfl rfl (fun hf => ?_)
      refine ev_gd (c1 := (35, [.ref 63, .int x1], [], (upS S 64 x1.toNatClampNeg (S 65 x1.toNatClampNeg)), 0)) hf rfl rfl (fun hf => ?_)
      refine ev_let (P := fun S3 => Ev (d) Mx159 (35, [.ref 63, .int x1], [], S3, 0) r) (fun S3 hf => ?_) hf
      exact ev_sts 2 (c2 := (16, [.ref 63, .int (x1 + (1 : Int32))], [], S3, 0)) rfl (ih hf)
theorem f_X10_back_ok {d F : Nat} {S : mS} {r : mR} (hf : f_X10_back F S = some r) : Ev (d) Mx159 (entry Mx159 [.ref 63] S) r := by
  unfold f_X10_back at hf
  refine ev_sts 3 (c2 := (5, [.ref 63, mK], [], (upS S 63 0 ((0 : Int32))), 0)) rfl ?_
  refine ev_let (P := fun S1 => Ev (d) Mx159 (5, [.ref 63, mK], [], S1, 0) r) (fun S1 hf => ?_) hf
  refine ev_sts 2 (c2 := (9, [.ref 63, mK], [.int (S1 63 6)], S1, 0)) rfl ?_
  refine ev_if (c1 := (14, [.ref 63, mK], [], S1, 0)) (c2 := (12, [.ref 63, mK], [], S1, 0)) hf rfl rfl (fun _ hf => ?_) (fun _ hf => ?_)
  · exact ev_sts 2 (c2 := (16, [.ref 63, .int ((0 : Int32))], [], S1, 0)) rfl (f_X10_back_b16_ok _ hf)
  · refine ev_sts 1 (c2 := (13, [.ref 63, mK], [.int ((0 : Int32))], S1, 0)) rfl ?_
    exact ev_ret hf rfl rfl
def f_X10_swingOf (F : Nat) (p1 : Int32) (p2 : Int32) (p3 : Int32) (S : mS) : Option mR := bI0 (f_X10_sumOf F ((0 : Int32)) p1 p2 p3 S) (fun r2 S1 => some (.inl (some (.int (((1 : Int32)) + r2))), S1))
theorem f_X10_swingOf_ok {d F : Nat} {p1 : Int32} {p2 : Int32} {p3 : Int32} {S : mS} {r : mR} (hf : f_X10_swingOf F p1 p2 p3 S = some r) : Ev (d + 6) Mx207 (entry Mx207 [.ref 63, .int p1, .int p2, .int p3] S) r := by
  unfold f_X10_swingOf at hf
  refine ev_sts 6 (c2 := (6, [.ref 63, .int p1, .int p2, .int p3], [.int p3, .int p2, .int p1, .int ((0 : Int32)), .ref 63, .int ((1 : Int32))], S, 0)) rfl ?_
  refine ev_bI0 (d := d + 5) (M' := Mx206) (ct := (9, [.ref 63, .int p1, .int p2, .int p3], [.int ((1 : Int32))], S, 0)) hf rfl rfl rfl rfl (fun r9 h9 => f_X10_sumOf_ok (d := d) h9) (fun r2 S1 hf => ?_)
  show Ev (d + 6) Mx207 (9, [.ref 63, .int p1, .int p2, .int p3], [.int r2, .int ((1 : Int32))], S1, 0) r
  refine ev_sts 1 (c2 := (10, [.ref 63, .int p1, .int p2, .int p3], [.int (((1 : Int32)) + r2)], S1, 0)) rfl ?_
  exact ev_ret hf rfl rfl
def f_X10_swings_b6 (F : Nat) : Nat → Int32 → Int32 → Int32 → Int32 → Int32 → mS → Option mR
  | 0, _, _, _, _, _, _ => none
  | n + 1, x1, x2, x3, x4, x5, S => (if x2 < x5 then some (.inl (some (.int x4)), S) else bI0 (f_X10_swingOf F x1 x5 x3 S) (fun r2 S1 => bnd (x4 + r2 : Int32) (fun y3 => f_X10_swings_b6 F n x1 x2 x3 y3 (x5 + (1 : Int32)) S1)))
def f_X10_swings (F : Nat) (p1 : Int32) (p2 : Int32) (p3 : Int32) (S : mS) : Option mR := f_X10_swings_b6 F F p1 p2 p3 ((0 : Int32)) ((1 : Int32)) S
theorem f_X10_swings_b6_ok {d F : Nat} : ∀ (n : Nat) {x1 : Int32} {x2 : Int32} {x3 : Int32} {x4 : Int32} {x5 : Int32} {S : mS} {r : mR}, f_X10_swings_b6 F n x1 x2 x3 x4 x5 S = some r → Ev (d + 7) Mx208 (6, [.ref 63, .int x1, .int x2, .int x3, .int x4, .int x5], [], S, 0) r := by
  intro n
  induction n with
  | zero => intro x1 x2 x3 x4 x5 S r hf; cases hf
  | succ n ih =>
    intro x1 x2 x3 x4 x5 S r hf
    rw [f_X10_swings_b6] at hf
    refine ev_sts 2 (c2 := (9, [.ref 63, .int x1, .int x2, .int x3, .int x4, .int x5], [.int x2, .int x5], S, 0)) rfl ?_
    refine ev_if (c1 := (31, [.ref 63, .int x1, .int x2, .int x3, .int x4, .int x5], [], S, 0)) (c2 := (12, [.ref 63, .int x1, .int x2, .int x3, .int x4, .int x5], [], S, 0)) hf rfl rfl (fun _ hf => ?_) (fun _ hf => ?_)
    · refine ev_sts 1 (c2 := (33, [.ref 63, .int x1, .int x2, .int x3, .int x4, .int x5], [.int x4], S, 0)) rfl ?_
      exact ev_ret hf rfl rfl
    · refine ev_sts 5 (c2 := (19, [.ref 63, .int x1, .int x2, .int x3, .int x4, .int x5], [.int x3, .int x5, .int x1, .ref 63, .int x4], S, 0)) rfl ?_
      refine ev_bI0 (d := d + 6) (M' := Mx207) (ct := (22, [.ref 63, .int x1, .int x2, .int x3, .int x4, .int x5], [.int x4], S, 0)) hf rfl rfl rfl rfl (fun r9 h9 => f_X10_swingOf_ok (d := d) h9) (fun r2 S1 hf => ?_)
      show Ev (d + 7) Mx208 (22, [.ref 63, .int x1, .int x2, .int x3, .int x4, .int x5], [.int r2, .int x4], S1, 0) r
      refine ev_sts 2 (c2 := (25, [.ref 63, .int x1, .int x2, .int x3, .int (x4 + r2), .int x5], [], S1, 0)) rfl ?_
      refine ev_let (P := fun y3 => Ev (d + 7) Mx208 (25, [.ref 63, .int x1, .int x2, .int x3, .int y3, .int x5], [], S1, 0) r) (fun y3 hf => ?_) hf
      exact ev_sts 2 (c2 := (6, [.ref 63, .int x1, .int x2, .int x3, .int y3, .int (x5 + (1 : Int32))], [], S1, 0)) rfl (ih hf)
theorem f_X10_swings_ok {d F : Nat} {p1 : Int32} {p2 : Int32} {p3 : Int32} {S : mS} {r : mR} (hf : f_X10_swings F p1 p2 p3 S = some r) : Ev (d + 7) Mx208 (entry Mx208 [.ref 63, .int p1, .int p2, .int p3] S) r := by
  unfold f_X10_swings at hf
  exact ev_sts 4 (c2 := (6, [.ref 63, .int p1, .int p2, .int p3, .int ((0 : Int32)), .int ((1 : Int32))], [], S, 0)) rfl (f_X10_swings_b6_ok _ hf)
