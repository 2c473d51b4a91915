def f_X9_undo (S : mS) : Option mR := bI0 (f_X5_undoInto S) (fun r2 S1 => some (.inl (some (.int (r2 &&& 1))), S1))
theorem f_X9_undo_ok {d : Nat} {S : mS} {r : mR} (hf : f_X9_undo S = some r) : Ev (d + 2) Mx135 (entry Mx135 [.ref 0] S) r := by
  unfold f_X9_undo at hf
  refine ev_sts 4 (c2 := (8, [.ref 0], [.ref 24, .ref 36], S, 0)) rfl ?_
  refine ev_bI0 (d := d + 1) (M' := Mx45) (ct := (11, [.ref 0], [], S, 0)) hf rfl rfl rfl rfl (fun r9 h9 => f_X5_undoInto_ok (d := d) h9) (fun r2 S1 hf => ?_)
  show Ev (d + 2) Mx135 (11, [.ref 0], [.int r2], S1, 0) r
  exact ev_ret hf rfl rfl
def f_X9_when_b57 (K25 : Int32 → Int32 → Int32 → mS → Option mR) (F : Nat) (x1 : Int32) (x2 : Int32) (x3 : Int32) (S : mS) : Option mR := bV0 (f_X7_stillDayOf F x1 S) (fun S6 => K25 x1 x2 (x3 + (1 : Int32)) S6)
def f_X9_when_b25 (F : Nat) : Nat → Int32 → Int32 → Int32 → mS → Option mR
  | 0, _, _, _, _ => none
  | n + 1, x1, x2, x3, S => (if ((40 : Int32)) < x3 then some (.inl (some (.int ((-1 : Int32)))), S) else bI0 (f_X0_isFresh 26 x1 S) (fun r5 S4 => (if r5 = 0 then f_X9_when_b57 (fun x1 x2 x3 S => f_X9_when_b25 F n x1 x2 x3 S) F x1 x2 x3 S4 else bI0 (f_X0_ofLedge 26 x1 ((2 : Int32)) S4) (fun r8 S7 => (if r8 < x2 then f_X9_when_b57 (fun x1 x2 x3 S => f_X9_when_b25 F n x1 x2 x3 S) F x1 x2 x3 S7 else some (.inl (some (.int x3)), S7))))))
def f_X9_when (F : Nat) (p1 : Int32) (p2 : Int32) (S : mS) : Option mR := bV (f_X9_needLedge p1 S) (fun S1 => bV (f_X9_needWithin p2 ((1 : Int32)) ((20 : Int32)) S1) (fun S2 => bV0 (f_X0_copy 26 24 S2) (fun S3 => f_X9_when_b25 F F p1 p2 ((0 : Int32)) S3)))
theorem f_X9_when_b57_ok {d F : Nat} {K25 : Int32 → Int32 → Int32 → mS → Option mR} (hK25 : ∀ {x1 : Int32} {x2 : Int32} {x3 : Int32} {S : mS} {r : mR}, K25 x1 x2 x3 S = some r → Ev (d + 6) Mx106 (25, [.ref 0, .int x1, .int x2, .int x3], [], S, 2) r) {x1 : Int32} {x2 : Int32} {x3 : Int32} {S : mS} {r : mR} (hf : f_X9_when_b57 K25 F x1 x2 x3 S = some r) : Ev (d + 6) Mx106 (57, [.ref 0, .int x1, .int x2, .int x3], [], S, 2) r := by
  unfold f_X9_when_b57 at hf
  refine ev_sts 5 (c2 := (66, [.ref 0, .int x1, .int x2, .int x3], [.int x1, .ref 26, .ref 32], S, 2)) rfl ?_
  refine ev_bV0 (d := d + 5) (M' := Mx68) (ct := (69, [.ref 0, .int x1, .int x2, .int x3], [], S, 2)) hf rfl rfl rfl rfl (fun r9 h9 => f_X7_stillDayOf_ok (d := d) h9) (fun S6 hf => ?_)
  show Ev (d + 6) Mx106 (69, [.ref 0, .int x1, .int x2, .int x3], [], S6, 2) r
  exact ev_sts 2 (c2 := (25, [.ref 0, .int x1, .int x2, .int (x3 + (1 : Int32))], [], S6, 2)) rfl (hK25 hf)
theorem f_X9_when_b25_ok {d F : Nat} : ∀ (n : Nat) {x1 : Int32} {x2 : Int32} {x3 : Int32} {S : mS} {r : mR}, f_X9_when_b25 F n x1 x2 x3 S = some r → Ev (d + 6) Mx106 (25, [.ref 0, .int x1, .int x2, .int x3], [], S, 2) r := by
  intro n
  induction n with
  | zero => intro x1 x2 x3 S r hf; cases hf
  | succ n ih =>
    intro x1 x2 x3 S r hf
    rw [f_X9_when_b25] at hf
    refine ev_sts 2 (c2 := (28, [.ref 0, .int x1, .int x2, .int x3], [.int ((40 : Int32)), .int x3], S, 2)) rfl ?_
    refine ev_if (c1 := (75, [.ref 0, .int x1, .int x2, .int x3], [], S, 2)) (c2 := (31, [.ref 0, .int x1, .int x2, .int x3], [], S, 2)) hf rfl rfl (fun _ hf => ?_) (fun _ hf => ?_)
    · refine ev_sts 1 (c2 := (76, [.ref 0, .int x1, .int x2, .int x3], [.int ((-1 : Int32))], S, 2)) rfl ?_
      exact ev_ret hf rfl rfl
    · refine ev_sts 3 (c2 := (36, [.ref 0, .int x1, .int x2, .int x3], [.int x1, .ref 26], S, 2)) rfl ?_
      refine ev_bI0 (d := d + 5) (M' := Mx16) (ct := (39, [.ref 0, .int x1, .int x2, .int x3], [], S, 2)) hf rfl rfl rfl rfl (fun r9 h9 => f_X0_isFresh_ok_26 (d := d + 2) h9) (fun r5 S4 hf => ?_)
      show Ev (d + 6) Mx106 (39, [.ref 0, .int x1, .int x2, .int x3], [.int r5], S4, 2) r
      refine ev_if (c1 := (57, [.ref 0, .int x1, .int x2, .int x3], [], S4, 2)) (c2 := (42, [.ref 0, .int x1, .int x2, .int x3], [], S4, 2)) hf rfl rfl (fun _ hf => ?_) (fun _ hf => ?_)
      · exact f_X9_when_b57_ok (fun h9 => ih h9) hf
      · refine ev_sts 4 (c2 := (48, [.ref 0, .int x1, .int x2, .int x3], [.int ((2 : Int32)), .int x1, .ref 26], S4, 2)) rfl ?_
        refine ev_bI0 (d := d + 5) (M' := Mx4) (ct := (51, [.ref 0, .int x1, .int x2, .int x3], [], S4, 2)) hf rfl rfl rfl rfl (fun r9 h9 => f_X0_ofLedge_ok_26 (d := d + 4) h9) (fun r8 S7 hf => ?_)
        show Ev (d + 6) Mx106 (51, [.ref 0, .int x1, .int x2, .int x3], [.int r8], S7, 2) r
        refine ev_sts 1 (c2 := (52, [.ref 0, .int x1, .int x2, .int x3], [.int x2, .int r8], S7, 2)) rfl ?_
        refine ev_if (c1 := (57, [.ref 0, .int x1, .int x2, .int x3], [], S7, 2)) (c2 := (55, [.ref 0, .int x1, .int x2, .int x3], [], S7, 2)) hf rfl rfl (fun _ hf => ?_) (fun _ hf => ?_)
        · exact f_X9_when_b57_ok (fun h9 => ih h9) hf
        · refine ev_sts 1 (c2 := (56, [.ref 0, .int x1, .int x2, .int x3], [.int x3], S7, 2)) rfl ?_
          exact ev_ret hf rfl rfl
theorem f_X9_when_ok {d F : Nat} {p1 : Int32} {p2 : Int32} {S : mS} {r : mR} (hf : f_X9_when F p1 p2 S = some r) : Ev (d + 6) Mx106 (entry Mx106 [.ref 0, .int p1, .int p2] S) r := by
  unfold f_X9_when at hf
  refine ev_sts 2 (c2 := (2, [.ref 0, .int p1, .int p2, mK], [.int p1, .ref 0], S, 0)) rfl ?_
  refine ev_bV (d := d + 5) (M' := Mx139) (ct := (5, [.ref 0, .int p1, .int p2, mK], [], S, 1)) hf rfl rfl rfl rfl (by decide) (fun r9 h9 => f_X9_needLedge_ok (d := d + 4) h9) (fun S1 hf => ?_)
  show Ev (d + 6) Mx106 (5, [.ref 0, .int p1, .int p2, mK], [], S1, 1) r
  refine ev_sts 3 (c2 := (9, [.ref 0, .int p1, .int p2, mK], [.int ((20 : Int32)), .int ((1 : Int32)), .int p2], S1, 1)) rfl ?_
  refine ev_bV (d := d + 5) (M' := Mx142) (ct := (12, [.ref 0, .int p1, .int p2, mK], [], S1, 2)) hf rfl rfl rfl rfl (by decide) (fun r9 h9 => f_X9_needWithin_ok (d := d + 5) h9) (fun S2 hf => ?_)
  show Ev (d + 6) Mx106 (12, [.ref 0, .int p1, .int p2, mK], [], S2, 2) r
  refine ev_sts 4 (c2 := (20, [.ref 0, .int p1, .int p2, mK], [.ref 24, .ref 26], S2, 2)) rfl ?_
  refine ev_bV0 (d := d + 5) (M' := Mx0) (ct := (23, [.ref 0, .int p1, .int p2, mK], [], S2, 2)) hf rfl rfl rfl rfl (fun r9 h9 => f_X0_copy_ok_26_24 (d := d + 5) h9) (fun S3 hf => ?_)
  show Ev (d + 6) Mx106 (23, [.ref 0, .int p1, .int p2, mK], [], S3, 2) r
  exact ev_sts 2 (c2 := (25, [.ref 0, .int p1, .int p2, .int ((0 : Int32))], [], S3, 2)) rfl (f_X9_when_b25_ok _ hf)
def f_X9_who_b60 (K6 : Int32 → Int32 → Int32 → mS → Option mR) (F : Nat) (x1 : Int32) (x2 : Int32) (x3 : Int32) (S : mS) : Option mR := K6 x1 x2 (x3 + (1 : Int32)) S
def f_X9_who_b55 (K6 : Int32 → Int32 → Int32 → mS → Option mR) (F : Nat) (x3 : Int32) (x4 : Int32) (S : mS) : Option mR := f_X9_who_b60 K6 F x3 x4 x3 S
def f_X9_who_b6 (F : Nat) : Nat → Int32 → Int32 → Int32 → mS → Option mR
  | 0, _, _, _, _ => none
  | n + 1, x1, x2, x3, S => bI0 (f_X0_at 24 ((14 : Int32)) S) (fun r2 S1 => (if r2 ≤ x3 then some (.inl (some (.int x1)), S1) else bI0 (f_X9_reachOf F x3 S1) (fun r4 S3 => bI0 (f_J6_bitCount_0f7a4 r4 S3) (fun r6 S5 => (if x1 = ((-1 : Int32)) then f_X9_who_b55 (fun x1 x2 x3 S => f_X9_who_b6 F n x1 x2 x3 S) F x3 r6 S5 else (if x2 < r6 then f_X9_who_b55 (fun x1 x2 x3 S => f_X9_who_b6 F n x1 x2 x3 S) F x3 r6 S5 else (if ¬ r6 = x2 then f_X9_who_b60 (fun x1 x2 x3 S => f_X9_who_b6 F n x1 x2 x3 S) F x1 x2 x3 S5 else bI0 (f_X9_isLighter x3 x1 S5) (fun r8 S7 => (if r8 = 0 then f_X9_who_b60 (fun x1 x2 x3 S => f_X9_who_b6 F n x1 x2 x3 S) F x1 x2 x3 S7 else f_X9_who_b55 (fun x1 x2 x3 S => f_X9_who_b6 F n x1 x2 x3 S) F x3 r6 S7)))))))))
def f_X9_who (F : Nat) (S : mS) : Option mR := f_X9_who_b6 F F ((-1 : Int32)) ((0 : Int32)) ((0 : Int32)) S
theorem f_X9_who_b60_ok {d F : Nat} {K6 : Int32 → Int32 → Int32 → mS → Option mR} (hK6 : ∀ {x1 : Int32} {x2 : Int32} {x3 : Int32} {S : mS} {r : mR}, K6 x1 x2 x3 S = some r → Ev (d + 7) Mx116 (6, [.ref 0, .int x1, .int x2, .int x3, mK], [], S, 0) r) {x1 : Int32} {x2 : Int32} {x3 : Int32} {S : mS} {r : mR} (hf : f_X9_who_b60 K6 F x1 x2 x3 S = some r) : Ev (d + 7) Mx116 (60, [.ref 0, .int x1, .int x2, .int x3, mK], [], S, 0) r := by
  unfold f_X9_who_b60 at hf
  exact ev_sts 2 (c2 := (6, [.ref 0, .int x1, .int x2, .int (x3 + (1 : Int32)), mK], [], S, 0)) rfl (hK6 hf)
theorem f_X9_who_b55_ok {d F : Nat} {K6 : Int32 → Int32 → Int32 → mS → Option mR} (hK6 : ∀ {x1 : Int32} {x2 : Int32} {x3 : Int32} {S : mS} {r : mR}, K6 x1 x2 x3 S = some r → Ev (d + 7) Mx116 (6, [.ref 0, .int x1, .int x2, .int x3, mK], [], S, 0) r) {x3 : Int32} {x4 : Int32} {S : mS} {r : mR} (hf : f_X9_who_b55 K6 F x3 x4 S = some r) : Ev (d + 7) Mx116 (55, [.ref 0, mK, mK, .int x3, .int x4], [], S, 0) r := by
  unfold f_X9_who_b55 at hf
  exact ev_sts 4 (c2 := (60, [.ref 0, .int x3, .int x4, .int x3, mK], [], S, 0)) rfl (f_X9_who_b60_ok hK6 hf)
theorem f_X9_who_b6_ok {d F : Nat} : ∀ (n : Nat) {x1 : Int32} {x2 : Int32} {x3 : Int32} {S : mS} {r : mR}, f_X9_who_b6 F n x1 x2 x3 S = some r → Ev (d + 7) Mx116 (6, [.ref 0, .int x1, .int x2, .int x3, mK], [], S, 0) r := by
  intro n
  induction n with
  | zero => intro x1 x2 x3 S r hf; cases hf
  | succ n ih =>
    intro x1 x2 x3 S r hf
    rw [f_X9_who_b6] at hf
    refine ev_sts 4 (c2 := (13, [.ref 0, .int x1, .int x2, .int x3, mK], [.int ((14 : Int32)), .ref 24, .int x3], S, 0)) rfl ?_
    refine ev_bI0 (d := d + 6) (M' := Mx1) (ct := (16, [.ref 0, .int x1, .int x2, .int x3, mK], [.int x3], S, 0)) hf rfl rfl rfl rfl (fun r9 h9 => f_X0_at_ok_24 (d := d + 6) h9) (fun r2 S1 hf => ?_)
    show Ev (d + 7) Mx116 (16, [.ref 0, .int x1, .int x2, .int x3, mK], [.int r2, .int x3], S1, 0) r
    refine ev_if (c1 := (66, [.ref 0, .int x1, .int x2, .int x3, mK], [], S1, 0)) (c2 := (19, [.ref 0, .int x1, .int x2, .int x3, mK], [], S1, 0)) hf rfl rfl (fun _ hf => ?_) (fun _ hf => ?_)
    · refine ev_sts 1 (c2 := (67, [.ref 0, .int x1, .int x2, .int x3, mK], [.int x1], S1, 0)) rfl ?_
      exact ev_ret hf rfl rfl
    · refine ev_sts 2 (c2 := (21, [.ref 0, .int x1, .int x2, .int x3, mK], [.int x3, .ref 0], S1, 0)) rfl ?_
      refine ev_bI0 (d := d + 6) (M' := Mx150) (ct := (24, [.ref 0, .int x1, .int x2, .int x3, mK], [], S1, 0)) hf rfl rfl rfl rfl (fun r9 h9 => f_X9_reachOf_ok (d := d) h9) (fun r4 S3 hf => ?_)
      show Ev (d + 7) Mx116 (24, [.ref 0, .int x1, .int x2, .int x3, mK], [.int r4], S3, 0) r
      refine ev_bI0 (d := d + 6) (M' := Mx284) (ct := (27, [.ref 0, .int x1, .int x2, .int x3, mK], [], S3, 0)) hf rfl rfl rfl rfl (fun r9 h9 => f_J6_bitCount_0f7a4_ok (d := d + 6) h9) (fun r6 S5 hf => ?_)
      show Ev (d + 7) Mx116 (27, [.ref 0, .int x1, .int x2, .int x3, mK], [.int r6], S5, 0) r
      refine ev_sts 3 (c2 := (31, [.ref 0, .int x1, .int x2, .int x3, .int r6], [.int ((-1 : Int32)), .int x1], S5, 0)) rfl ?_
      refine ev_if (c1 := (55, [.ref 0, mK, mK, .int x3, .int r6], [], S5, 0)) (c2 := (34, [.ref 0, .int x1, .int x2, .int x3, .int r6], [], S5, 0)) hf rfl rfl (fun _ hf => ?_) (fun _ hf => ?_)
      · exact f_X9_who_b55_ok (fun h9 => ih h9) hf
      · refine ev_sts 2 (c2 := (37, [.ref 0, .int x1, .int x2, .int x3, .int r6], [.int x2, .int r6], S5, 0)) rfl ?_
        refine ev_if (c1 := (55, [.ref 0, mK, mK, .int x3, .int r6], [], S5, 0)) (c2 := (40, [.ref 0, .int x1, .int x2, .int x3, .int r6], [], S5, 0)) hf rfl rfl (fun _ hf => ?_) (fun _ hf => ?_)
        · exact f_X9_who_b55_ok (fun h9 => ih h9) hf
        · refine ev_sts 2 (c2 := (43, [.ref 0, .int x1, .int x2, .int x3, .int r6], [.int x2, .int r6], S5, 0)) rfl ?_
          refine ev_if (c1 := (60, [.ref 0, .int x1, .int x2, .int x3, mK], [], S5, 0)) (c2 := (46, [.ref 0, .int x1, .int x2, .int x3, .int r6], [], S5, 0)) hf rfl rfl (fun _ hf => ?_) (fun _ hf => ?_)
          · exact f_X9_who_b60_ok (fun h9 => ih h9) hf
          · refine ev_sts 3 (c2 := (49, [.ref 0, .int x1, .int x2, .int x3, .int r6], [.int x1, .int x3, .ref 0], S5, 0)) rfl ?_
            refine ev_bI0 (d := d + 6) (M' := Mx151) (ct := (52, [.ref 0, .int x1, .int x2, .int x3, .int r6], [], S5, 0)) hf rfl rfl rfl rfl (fun r9 h9 => f_X9_isLighter_ok (d := d + 4) h9) (fun r8 S7 hf => ?_)
            show Ev (d + 7) Mx116 (52, [.ref 0, .int x1, .int x2, .int x3, .int r6], [.int r8], S7, 0) r
            refine ev_if (c1 := (60, [.ref 0, .int x1, .int x2, .int x3, mK], [], S7, 0)) (c2 := (55, [.ref 0, mK, mK, .int x3, .int r6], [], S7, 0)) hf rfl rfl (fun _ hf => ?_) (fun _ hf => ?_)
            · exact f_X9_who_b60_ok (fun h9 => ih h9) hf
            · exact f_X9_who_b55_ok (fun h9 => ih h9) hf
theorem f_X9_who_ok {d F : Nat} {S : mS} {r : mR} (hf : f_X9_who F S = some r) : Ev (d + 7) Mx116 (entry Mx116 [.ref 0] S) r := by
  unfold f_X9_who at hf
  exact ev_sts 6 (c2 := (6, [.ref 0, .int ((-1 : Int32)), .int ((0 : Int32)), .int ((0 : Int32)), mK], [], S, 0)) rfl (f_X9_who_b6_ok _ hf)
def f_X10_isWord_b67 (F : Nat) (w1 : Nat) (x2 : Int32) (S : mS) : Option mR := some (.inl (some (.int (x2 &&& 1))), S)
def f_X10_isWord_b60 (K24 : Int32 → Int32 → mS → Option mR) (F : Nat) (w1 : Nat) (x3 : Int32) (t0 : Int32) (S : mS) : Option mR := K24 t0 (x3 + (1 : Int32)) S
def f_X10_isWord_b24 (F : Nat) (w1 : Nat) : Nat → Int32 → Int32 → mS → Option mR
  | 0, _, _, _ => none
  | n + 1, x2, x3, S => (if x2 = 0 then f_X10_isWord_b67 F w1 x2 S else (if (Int32.ofNat (mStr.getD w1 []).length) ≤ x3 then f_X10_isWord_b67 F w1 x2 S else gd (inb ((S 63 12) + x3) 400) (gd (inb x3 (mStr.getD w1 []).length) ((if ¬ (S 69 ((S 63 12) + x3).toNatClampNeg) = ((mStr.getD w1 []).getD x3.toNatClampNeg 0) then f_X10_isWord_b60 (fun x2 x3 S => f_X10_isWord_b24 F w1 n x2 x3 S) F w1 x3 ((0 : Int32)) S else f_X10_isWord_b60 (fun x2 x3 S => f_X10_isWord_b24 F w1 n x2 x3 S) F w1 x3 ((1 : Int32)) S)))))
def f_X10_isWord_b21 (F : Nat) (w1 : Nat) (t0 : Int32) (S : mS) : Option mR := f_X10_isWord_b24 F w1 F t0 ((0 : Int32)) S
def f_X10_isWord (F : Nat) (w1 : Nat) (S : mS) : Option mR := (if ¬ ((S 63 10) - (S 63 12)) = (Int32.ofNat (mStr.getD w1 []).length) then f_X10_isWord_b21 F w1 ((0 : Int32)) S else f_X10_isWord_b21 F w1 ((1 : Int32)) S)
theorem f_X10_isWord_b67_ok_1004 {d F : Nat} {x2 : Int32} {S : mS} {r : mR} (hf : f_X10_isWord_b67 F 4 x2 S = some r) : Ev (d) Mx179 (67, [mK, mK, .int x2, mK], [], S, 0) r := by
  unfold f_X10_isWord_b67 at hf
  refine ev_sts 1 (c2 := (68, [mK, mK, .int x2, mK], [.int x2], S, 0)) rfl ?_
  exact ev_ret hf rfl rfl
theorem f_X10_isWord_b60_ok_1004 {d F : Nat} {K24 : Int32 → Int32 → mS → Option mR} (hK24 : ∀ {x2 : Int32} {x3 : Int32} {S : mS} {r : mR}, K24 x2 x3 S = some r → Ev (d) Mx179 (24, [.ref 63, .ref 1004, .int x2, .int x3], [], S, 0) r) {x3 : Int32} {t0 : Int32} {S : mS} {r : mR} (hf : f_X10_isWord_b60 K24 F 4 x3 t0 S = some r) : Ev (d) Mx179 (60, [.ref 63, .ref 1004, mK, .int x3], [.int t0], S, 0) r := by
  unfold f_X10_isWord_b60 at hf
  exact ev_sts 3 (c2 := (24, [.ref 63, .ref 1004, .int t0, .int (x3 + (1 : Int32))], [], S, 0)) rfl (hK24 hf)
theorem f_X10_isWord_b24_ok_1004 {d F : Nat} : ∀ (n : Nat) {x2 : Int32} {x3 : Int32} {S : mS} {r : mR}, f_X10_isWord_b24 F 4 n x2 x3 S = some r → Ev (d) Mx179 (24, [.ref 63, .ref 1004, .int x2, .int x3], [], S, 0) r := by
  intro n
  induction n with
  | zero => intro x2 x3 S r hf; cases hf
  | succ n ih =>
    intro x2 x3 S r hf
    rw [f_X10_isWord_b24] at hf
    refine ev_sts 1 (c2 := (25, [.ref 63, .ref 1004, .int x2, .int x3], [.int x2], S, 0)) rfl ?_
    refine ev_if (c1 := (67, [mK, mK, .int x2, mK], [], S, 0)) (c2 := (28, [.ref 63, .ref 1004, .int x2, .int x3], [], S, 0)) hf rfl rfl (fun _ hf => ?_) (fun _ hf => ?_)
    · exact f_X10_isWord_b67_ok_1004 hf
    · refine ev_sts 3 (c2 := (33, [.ref 63, .ref 1004, .int x2, .int x3], [.int (Int32.ofNat (mStr.getD 4 []).length), .int x3], S, 0)) rfl ?_
      refine ev_if (c1 := (67, [mK, mK, .int x2, mK], [], S, 0)) (c2 := (36, [.ref 63, .ref 1004, .int x2, .int x3], [], S, 0)) hf rfl rfl (fun _ hf => ?_) (fun _ hf => ?_)
      · exact f_X10_isWord_b67_ok_1004 hf
      · refine ev_sts 6 (c2 := (46, [.ref 63, .ref 1004, .int x2, .int x3], [.int ((S 63 12) + x3), .ref 69], S, 0)) rfl ?_
        refine ev_gd (c1 := (47, [.ref 63, .ref 1004, .int x2, .int x3], [.int (S 69 ((S 63 12) + x3).toNatClampNeg)], S, 0)) hf rfl rfl (fun hf => ?_)
        refine ev_sts 2 (c2 := (49, [.ref 63, .ref 1004, .int x2, .int x3], [.int x3, .ref 1004, .int (S 69 ((S 63 12) + x3).toNatClampNeg)], S, 0)) rfl ?_
        refine ev_gd (c1 := (52, [.ref 63, .ref 1004, .int x2, .int x3], [.int ((mStr.getD 4 []).getD x3.toNatClampNeg 0), .int (S 69 ((S 63 12) + x3).toNatClampNeg)], S, 0)) hf rfl rfl (fun hf => ?_)
        refine ev_if (c1 := (59, [.ref 63, .ref 1004, .int x2, .int x3], [], S, 0)) (c2 := (55, [.ref 63, .ref 1004, .int x2, .int x3], [], S, 0)) hf rfl rfl (fun _ hf => ?_) (fun _ hf => ?_)
        · exact ev_sts 1 (c2 := (60, [.ref 63, .ref 1004, mK, .int x3], [.int ((0 : Int32))], S, 0)) rfl (f_X10_isWord_b60_ok_1004 (fun h9 => ih h9) hf)
        · exact ev_sts 2 (c2 := (60, [.ref 63, .ref 1004, mK, .int x3], [.int ((1 : Int32))], S, 0)) rfl (f_X10_isWord_b60_ok_1004 (fun h9 => ih h9) hf)
theorem f_X10_isWord_b21_ok_1004 {d F : Nat} {t0 : Int32} {S : mS} {r : mR} (hf : f_X10_isWord_b21 F 4 t0 S = some r) : Ev (d) Mx179 (21, [.ref 63, .ref 1004, mK, mK], [.int t0], S, 0) r := by
  unfold f_X10_isWord_b21 at hf
  exact ev_sts 3 (c2 := (24, [.ref 63, .ref 1004, .int t0, .int ((0 : Int32))], [], S, 0)) rfl (f_X10_isWord_b24_ok_1004 _ hf)
theorem f_X10_isWord_ok_1004 {d F : Nat} {S : mS} {r : mR} (hf : f_X10_isWord F 4 S = some r) : Ev (d) Mx179 (entry Mx179 [.ref 63, .ref 1004] S) r := by
  unfold f_X10_isWord at hf
  refine ev_sts 7 (c2 := (13, [.ref 63, .ref 1004, mK, mK], [.int (Int32.ofNat (mStr.getD 4 []).length), .int ((S 63 10) - (S 63 12))], S, 0)) rfl ?_
  refine ev_if (c1 := (20, [.ref 63, .ref 1004, mK, mK], [], S, 0)) (c2 := (16, [.ref 63, .ref 1004, mK, mK], [], S, 0)) hf rfl rfl (fun _ hf => ?_) (fun _ hf => ?_)
  · exact ev_sts 1 (c2 := (21, [.ref 63, .ref 1004, mK, mK], [.int ((0 : Int32))], S, 0)) rfl (f_X10_isWord_b21_ok_1004 hf)
  · exact ev_sts 2 (c2 := (21, [.ref 63, .ref 1004, mK, mK], [.int ((1 : Int32))], S, 0)) rfl (f_X10_isWord_b21_ok_1004 hf)
theorem f_X10_isWord_b67_ok_1003 {d F : Nat} {x2 : Int32} {S : mS} {r : mR} (hf : f_X10_isWord_b67 F 3 x2 S = some r) : Ev (d) Mx179 (67, [mK, mK, .int x2, mK], [], S, 0) r := by
  unfold f_X10_isWord_b67 at hf
  refine ev_sts 1 (c2 := (68, [mK, mK, .int x2, mK], [.int x2], S, 0)) rfl ?_
  exact ev_ret hf rfl rfl
theorem f_X10_isWord_b60_ok_1003 {d F : Nat} {K24 : Int32 → Int32 → mS → Option mR} (hK24 : ∀ {x2 : Int32} {x3 : Int32} {S : mS} {r : mR}, K24 x2 x3 S = some r → Ev (d) Mx179 (24, [.ref 63, .ref 1003, .int x2, .int x3], [], S, 0) r) {x3 : Int32} {t0 : Int32} {S : mS} {r : mR} (hf : f_X10_isWord_b60 K24 F 3 x3 t0 S = some r) : Ev (d) Mx179 (60, [.ref 63, .ref 1003, mK, .int x3], [.int t0], S, 0) r := by
  unfold f_X10_isWord_b60 at hf
  exact ev_sts 3 (c2 := (24, [.ref 63, .ref 1003, .int t0, .int (x3 + (1 : Int32))], [], S, 0)) rfl (hK24 hf)
theorem f_X10_isWord_b24_ok_1003 {d F : Nat} : ∀ (n : Nat) {x2 : Int32} {x3 : Int32} {S : mS} {r : mR}, f_X10_isWord_b24 F 3 n x2 x3 S = some r → Ev (d) Mx179 (24, [.ref 63, .ref 1003, .int x2, .int x3], [], S, 0) r := by
  intro n
  induction n with
  | zero => intro x2 x3 S r hf; cases hf
  | succ n ih =>
    intro x2 x3 S r hf
    rw [f_X10_isWord_b24] at hf
    refine ev_sts 1 (c2 := (25, [.ref 63, .ref 1003, .int x2, .int x3], [.int x2], S, 0)) rfl ?_
    refine ev_if (c1 := (67, [mK, mK, .int x2, mK], [], S, 0)) (c2 := (28, [.ref 63, .ref 1003, .int x2, .int x3], [], S, 0)) hf rfl rfl (fun _ hf => ?_) (fun _ hf => ?_)
    · exact f_X10_isWord_b67_ok_1003 hf
    · refine ev_sts 3 (c2 := (33, [.ref 63, .ref 1003, .int x2, .int x3], [.int (Int32.ofNat (mStr.getD 3 []).length), .int x3], S, 0)) rfl ?_
      refine ev_if (c1 := (67, [mK, mK, .int x2, mK], [], S, 0)) (c2 := (36, [.ref 63, .ref 1003, .int x2, .int x3], [], S, 0)) hf rfl rfl (fun _ hf => ?_) (fun _ hf => ?_)
      · exact f_X10_isWord_b67_ok_1003 hf
      · refine ev_sts 6 (c2 := (46, [.ref 63, .ref 1003, .int x2, .int x3], [.int ((S 63 12) + x3), .ref 69], S, 0)) rfl ?_
        refine ev_gd (c1 := (47, [.ref 63, .ref 1003, .int x2, .int x3], [.int (S 69 ((S 63 12) + x3).toNatClampNeg)], S, 0)) hf rfl rfl (fun hf => ?_)
        refine ev_sts 2 (c2 := (49, [.ref 63, .ref 1003, .int x2, .int x3], [.int x3, .ref 1003, .int (S 69 ((S 63 12) + x3).toNatClampNeg)], S, 0)) rfl ?_
        refine ev_gd (c1 := (52, [.ref 63, .ref 1003, .int x2, .int x3], [.int ((mStr.getD 3 []).getD x3.toNatClampNeg 0), .int (S 69 ((S 63 12) + x3).toNatClampNeg)], S, 0)) hf rfl rfl (fun hf => ?_)
        refine ev_if (c1 := (59, [.ref 63, .ref 1003, .int x2, .int x3], [], S, 0)) (c2 := (55, [.ref 63, .ref 1003, .int x2, .int x3], [], S, 0)) hf rfl rfl (fun _ hf => ?_) (fun _ hf => ?_)
        · exact ev_sts 1 (c2 := (60, [.ref 63, .ref 1003, mK, .int x3], [.int ((0 : Int32))], S, 0)) rfl (f_X10_isWord_b60_ok_1003 (fun h9 => ih h9) hf)
        · exact ev_sts 2 (c2 := (60, [.ref 63, .ref 1003, mK, .int x3], [.int ((1 : Int32))], S, 0)) rfl (f_X10_isWord_b60_ok_1003 (fun h9 => ih h9) hf)
theorem f_X10_isWord_b21_ok_1003 {d F : Nat} {t0 : Int32} {S : mS} {r : mR} (hf : f_X10_isWord_b21 F 3 t0 S = some r) : Ev (d) Mx179 (21, [.ref 63, .ref 1003, mK, mK], [.int t0], S, 0) r := by
  unfold f_X10_isWord_b21 at hf
  exact ev_sts 3 (c2 := (24, [.ref 63, .ref 1003, .int t0, .int ((0 : Int32))], [], S, 0)) rfl (f_X10_isWord_b24_ok_1003 _ hf)
theorem f_X10_isWord_ok_1003 {d F : Nat} {S : mS} {r : mR} (hf : f_X10_isWord F 3 S = some r) : Ev (d) Mx179 (entry Mx179 [.ref 63, .ref 1003] S) r := by
  unfold f_X10_isWord at hf
  refine ev_sts 7 (c2 := (13, [.ref 63, .ref 1003, mK, mK], [.int (Int32.ofNat (mStr.getD 3 []).length), .int ((S 63 10) - (S 63 12))], S, 0)) rfl ?_
  refine ev_if (c1 := (20, [.ref 63, .ref 1003, mK, mK], [], S, 0)) (c2 := (16, [.ref 63, .ref 1003, mK, mK], [], S, 0)) hf rfl rfl (fun _ hf => ?_) (fun _ hf => ?_)
  · exact ev_sts 1 (c2 := (21, [.ref 63, .ref 1003, mK, mK], [.int ((0 : Int32))], S, 0)) rfl (f_X10_isWord_b21_ok_1003 hf)
  · exact ev_sts 2 (c2 := (21, [.ref 63, .ref 1003, mK, mK], [.int ((1 : Int32))], S, 0)) rfl (f_X10_isWord_b21_ok_1003 hf)
theorem f_X10_isWord_b67_ok_1002 {d F : Nat} {x2 : Int32} {S : mS} {r : mR} (hf : f_X10_isWord_b67 F 2 x2 S = some r) : Ev (d) Mx179 (67, [mK, mK, .int x2, mK], [], S, 0) r := by
  unfold f_X10_isWord_b67 at hf
  refine ev_sts 1 (c2 := (68, [mK, mK, .int x2, mK], [.int x2], S, 0)) rfl ?_
  exact ev_ret hf rfl rfl
theorem f_X10_isWord_b60_ok_1002 {d F : Nat} {K24 : Int32 → Int32 → mS → Option mR} (hK24 : ∀ {x2 : Int32} {x3 : Int32} {S : mS} {r : mR}, K24 x2 x3 S = some r → Ev (d) Mx179 (24, [.ref 63, .ref 1002, .int x2, .int x3], [], S, 0) r) {x3 : Int32} {t0 : Int32} {S : mS} {r : mR} (hf : f_X10_isWord_b60 K24 F 2 x3 t0 S = some r) : Ev (d) Mx179 (60, [.ref 63, .ref 1002, mK, .int x3], [.int t0], S, 0) r := by
  unfold f_X10_isWord_b60 at hf
  exact ev_sts 3 (c2 := (24, [.ref 63, .ref 1002, .int t0, .int (x3 + (1 : Int32))], [], S, 0)) rfl (hK24 hf)
theorem f_X10_isWord_b24_ok_1002 {d F : Nat} : ∀ (n : Nat) {x2 : Int32} {x3 : Int32} {S : mS} {r : mR}, f_X10_isWord_b24 F 2 n x2 x3 S = some r → Ev (d) Mx179 (24, [.ref 63, .ref 1002, .int x2, .int x3], [], S, 0) r := by
  intro n
  induction n with
  | zero => intro x2 x3 S r hf; cases hf
  | succ n ih =>
    intro x2 x3 S r hf
    rw [f_X10_isWord_b24] at hf
    refine ev_sts 1 (c2 := (25, [.ref 63, .ref 1002, .int x2, .int x3], [.int x2], S, 0)) rfl ?_
    refine ev_if (c1 := (67, [mK, mK, .int x2, mK], [], S, 0)) (c2 := (28, [.ref 63, .ref 1002, .int x2, .int x3], [], S, 0)) hf rfl rfl (fun _ hf => ?_) (fun _ hf => ?_)
    · exact f_X10_isWord_b67_ok_1002 hf
    · refine ev_sts 3 (c2 := (33, [.ref 63, .ref 1002, .int x2, .int x3], [.int (Int32.ofNat (mStr.getD 2 []).length), .int x3], S, 0)) rfl ?_
      refine ev_if (c1 := (67, [mK, mK, .int x2, mK], [], S, 0)) (c2 := (36, [.ref 63, .ref 1002, .int x2, .int x3], [], S, 0)) hf rfl rfl (fun _ hf => ?_) (fun _ hf => ?_)
      · exact f_X10_isWord_b67_ok_1002 hf
      · refine ev_sts 6 (c2 := (46, [.ref 63, .ref 1002, .int x2, .int x3], [.int ((S 63 12) + x3), .ref 69], S, 0)) rfl ?_
        refine ev_gd (c1 := (47, [.ref 63, .ref 1002, .int x2, .int x3], [.int (S 69 ((S 63 12) + x3).toNatClampNeg)], S, 0)) hf rfl rfl (fun hf => ?_)
        refine ev_sts 2 (c2 := (49, [.ref 63, .ref 1002, .int x2, .int x3], [.int x3, .ref 1002, .int (S 69 ((S 63 12) + x3).toNatClampNeg)], S, 0)) rfl ?_
        refine ev_gd (c1 := (52, [.ref 63, .ref 1002, .int x2, .int x3], [.int ((mStr.getD 2 []).getD x3.toNatClampNeg 0), .int (S 69 ((S 63 12) + x3).toNatClampNeg)], S, 0)) hf rfl rfl (fun hf => ?_)
        refine ev_if (c1 := (59, [.ref 63, .ref 1002, .int x2, .int x3], [], S, 0)) (c2 := (55, [.ref 63, .ref 1002, .int x2, .int x3], [], S, 0)) hf rfl rfl (fun _ hf => ?_) (fun _ hf => ?_)
        · exact ev_sts 1 (c2 := (60, [.ref 63, .ref 1002, mK, .int x3], [.int ((0 : Int32))], S, 0)) rfl (f_X10_isWord_b60_ok_1002 (fun h9 => ih h9) hf)
        · exact ev_sts 2 (c2 := (60, [.ref 63, .ref 1002, mK, .int x3], [.int ((1 : Int32))], S, 0)) rfl (f_X10_isWord_b60_ok_1002 (fun h9 => ih h9) hf)
theorem f_X10_isWord_b21_ok_1002 {d F : Nat} {t0 : Int32} {S : mS} {r : mR} (hf : f_X10_isWord_b21 F 2 t0 S = some r) : Ev (d) Mx179 (21, [.ref 63, .ref 1002, mK, mK], [.int t0], S, 0) r := by
  unfold f_X10_isWord_b21 at hf
  exact ev_sts 3 (c2 := (24, [.ref 63, .ref 1002, .int t0, .int ((0 : Int32))], [], S, 0)) rfl (f_X10_isWord_b24_ok_1002 _ hf)
theorem f_X10_isWord_ok_1002 {d F : Nat} {S : mS} {r : mR} (hf : f_X10_isWord F 2 S = some r) : Ev (d) Mx179 (entry Mx179 [.ref 63, .ref 1002] S) r := by
  unfold f_X10_isWord at hf
  refine ev_sts 7 (c2 := (13, [.ref 63, .ref 1002, mK, mK], [.int (Int32.ofNat (mStr.getD 2 []).length), .int ((S 63 10) - (S 63 12))], S, 0)) rfl ?_
  refine ev_if (c1 := (20, [.ref 63, .ref 1002, mK, mK], [], S, 0)) (c2 := (16, [.ref 63, .ref 1002, mK, mK], [], S, 0)) hf rfl rfl (fun _ hf => ?_) (fun _ hf => ?_)
  · exact ev_sts 1 (c2 := (21, [.ref 63, .ref 1002, mK, mK], [.int ((0 : Int32))], S, 0)) rfl (f_X10_isWord_b21_ok_1002 hf)
  · exact ev_sts 2 (c2 := (21, [.ref 63, .ref 1002, mK, mK], [.int ((1 : Int32))], S, 0)) rfl (f_X10_isWord_b21_ok_1002 hf)
theorem f_X10_isWord_b67_ok_1001 {d F : Nat} {x2 : Int32} {S : mS} {r : mR} (hf : f_X10_isWord_b67 F 1 x2 S = some r) : Ev (d) Mx179 (67, [mK, mK, .int x2, mK], [], S, 0) r := by
  unfold f_X10_isWord_b67 at hf
  refine ev_sts 1 (c2 := (68, [mK, mK, .int x2, mK], [.int x2], S, 0)) rfl ?_
  exact ev_ret hf rfl rfl
theorem f_X10_isWord_b60_ok_1001 {d F : Nat} {K24 : Int32 → Int32 → mS → Option mR} (hK24 : ∀ {x2 : Int32} {x3 : Int32} {S : mS} {r : mR}, K24 x2 x3 S = some r → Ev (d) Mx179 (24, [.ref 63, .ref 1001, .int x2, .int x3], [], S, 0) r) {x3 : Int32} {t0 : Int32} {S : mS} {r : mR} (hf : f_X10_isWord_b60 K24 F 1 x3 t0 S = some r) : Ev (d) Mx179 (60, [.ref 63, .ref 1001, mK, .int x3], [.int t0], S, 0) r := by
  unfold f_X10_isWord_b60 at hf
  exact ev_sts 3 (c2 := (24, [.ref 63, .ref 1001, .int t0, .int (x3 + (1 : Int32))], [], S, 0)) rfl (hK24 hf)
theorem f_X10_isWord_b24_ok_1001 {d F : Nat} : ∀ (n : Nat) {x2 : Int32} {x3 : Int32} {S : mS} {r : mR}, f_X10_isWord_b24 F 1 n x2 x3 S = some r → Ev (d) Mx179 (24, [.ref 63, .ref 1001, .int x2, .int x3], [], S, 0) r := by
  intro n
  induction n with
  | zero => intro x2 x3 S r hf; cases hf
  | succ n ih =>
    intro x2 x3 S r hf
    rw [f_X10_isWord_b24] at hf
    refine ev_sts 1 (c2 := (25, [.ref 63, .ref 1001, .int x2, .int x3], [.int x2], S, 0)) rfl ?_
    refine ev_if (c1 := (67, [mK, mK, .int x2, mK], [], S, 0)) (c2 := (28, [.ref 63, .ref 1001, .int x2, .int x3], [], S, 0)) hf rfl rfl (fun _ hf => ?_) (fun _ hf => ?_)
    · exact f_X10_isWord_b67_ok_1001 hf
    · refine ev_sts 3 (c2 := (33, [.ref 63, .ref 1001, .int x2, .int x3], [.int (Int32.ofNat (mStr.getD 1 []).length), .int x3], S, 0)) rfl ?_
      refine ev_if (c1 := (67, [mK, mK, .int x2, mK], [], S, 0)) (c2 := (36, [.ref 63, .ref 1001, .int x2, .int x3], [], S, 0)) hf rfl rfl (fun _ hf => ?_) (fun _ hf => ?_)
      · exact f_X10_isWord_b67_ok_1001 hf
      · refine ev_sts 6 (c2 := (46, [.ref 63, .ref 1001, .int x2, .int x3], [.int ((S 63 12) + x3), .ref 69], S, 0)) rfl ?_
        refine ev_gd (c1 := (47, [.ref 63, .ref 1001, .int x2, .int x3], [.int (S 69 ((S 63 12) + x3).toNatClampNeg)], S, 0)) hf rfl rfl (fun hf => ?_)
        refine ev_sts 2 (c2 := (49, [.ref 63, .ref 1001, .int x2, .int x3], [.int x3, .ref 1001, .int (S 69 ((S 63 12) + x3).toNatClampNeg)], S, 0)) rfl ?_
        refine ev_gd (c1 := (52, [.ref 63, .ref 1001, .int x2, .int x3], [.int ((mStr.getD 1 []).getD x3.toNatClampNeg 0), .int (S 69 ((S 63 12) + x3).toNatClampNeg)], S, 0)) hf rfl rfl (fun hf => ?_)
        refine ev_if (c1 := (59, [.ref 63, .ref 1001, .int x2, .int x3], [], S, 0)) (c2 := (55, [.ref 63, .ref 1001, .int x2, .int x3], [], S, 0)) hf rfl rfl (fun _ hf => ?_) (fun _ hf => ?_)
        · exact ev_sts 1 (c2 := (60, [.ref 63, .ref 1001, mK, .int x3], [.int ((0 : Int32))], S, 0)) rfl (f_X10_isWord_b60_ok_1001 (fun h9 => ih h9) hf)
        · exact ev_sts 2 (c2 := (60, [.ref 63, .ref 1001, mK, .int x3], [.int ((1 : Int32))], S, 0)) rfl (f_X10_isWord_b60_ok_1001 (fun h9 => ih h9) hf)
theorem f_X10_isWord_b21_ok_1001 {d F : Nat} {t0 : Int32} {S : mS} {r : mR} (hf : f_X10_isWord_b21 F 1 t0 S = some r) : Ev (d) Mx179 (21, [.ref 63, .ref 1001, mK, mK], [.int t0], S, 0) r := by
  unfold f_X10_isWord_b21 at hf
  exact ev_sts 3 (c2 := (24, [.ref 63, .ref 1001, .int t0, .int ((0 : Int32))], [], S, 0)) rfl (f_X10_isWord_b24_ok_1001 _ hf)
theorem f_X10_isWord_ok_1001 {d F : Nat} {S : mS} {r : mR} (hf : f_X10_isWord F 1 S = some r) : Ev (d) Mx179 (entry Mx179 [.ref 63, .ref 1001] S) r := by
  unfold f_X10_isWord at hf
  refine ev_sts 7 (c2 := (13, [.ref 63, .ref 1001, mK, mK], [.int (Int32.ofNat (mStr.getD 1 []).length), .int ((S 63 10) - (S 63 12))], S, 0)) rfl ?_
  refine ev_if (c1 := (20, [.ref 63, .ref 1001, mK, mK], [], S, 0)) (c2 := (16, [.ref 63, .ref 1001, mK, mK], [], S, 0)) hf rfl rfl (fun _ hf => ?_) (fun _ hf => ?_)
  · exact ev_sts 1 (c2 := (21, [.ref 63, .ref 1001, mK, mK], [.int ((0 : Int32))], S, 0)) rfl (f_X10_isWord_b21_ok_1001 hf)
  · exact ev_sts 2 (c2 := (21, [.ref 63, .ref 1001, mK, mK], [.int ((1 : Int32))], S, 0)) rfl (f_X10_isWord_b21_ok_1001 hf)
theorem f_X10_isWord_b67_ok_1006 {d F : Nat} {x2 : Int32} {S : mS} {r : mR} (hf : f_X10_isWord_b67 F 6 x2 S = some r) : Ev (d) Mx179 (67, [mK, mK, .int x2, mK], [], S, 0) r := by
  unfold f_X10_isWord_b67 at hf
  refine ev_sts 1 (c2 := (68, [mK, mK, .int x2, mK], [.int x2], S, 0)) rfl ?_
  exact ev_ret hf rfl rfl
theorem f_X10_isWord_b60_ok_1006 {d F : Nat} {K24 : Int32 → Int32 → mS → Option mR} (hK24 : ∀ {x2 : Int32} {x3 : Int32} {S : mS} {r : mR}, K24 x2 x3 S = some r → Ev (d) Mx179 (24, [.ref 63, .ref 1006, .int x2, .int x3], [], S, 0) r) {x3 : Int32} {t0 : Int32} {S : mS} {r : mR} (hf : f_X10_isWord_b60 K24 F 6 x3 t0 S = some r) : Ev (d) Mx179 (60, [.ref 63, .ref 1006, mK, .int x3], [.int t0], S, 0) r := by
  unfold f_X10_isWord_b60 at hf
  exact ev_sts 3 (c2 := (24, [.ref 63, .ref 1006, .int t0, .int (x3 + (1 : Int32))], [], S, 0)) rfl (hK24 hf)
theorem f_X10_isWord_b24_ok_1006 {d F : Nat} : ∀ (n : Nat) {x2 : Int32} {x3 : Int32} {S : mS} {r : mR}, f_X10_isWord_b24 F 6 n x2 x3 S = some r → Ev (d) Mx179 (24, [.ref 63, .ref 1006, .int x2, .int x3], [], S, 0) r := by
  intro n
  induction n with
  | zero => intro x2 x3 S r hf; cases hf
  | succ n ih =>
    intro x2 x3 S r hf
    rw [f_X10_isWord_b24] at hf
    refine ev_sts 1 (c2 := (25, [.ref 63, .ref 1006, .int x2, .int x3], [.int x2], S, 0)) rfl ?_
    refine ev_if (c1 := (67, [mK, mK, .int x2, mK], [], S, 0)) (c2 := (28, [.ref 63, .ref 1006, .int x2, .int x3], [], S, 0)) hf rfl rfl (fun _ hf => ?_) (fun _ hf => ?_)
    · exact f_X10_isWord_b67_ok_1006 hf
    · refine ev_sts 3 (c2 := (33, [.ref 63, .ref 1006, .int x2, .int x3], [.int (Int32.ofNat (mStr.getD 6 []).length), .int x3], S, 0)) rfl ?_
      refine ev_if (c1 := (67, [mK, mK, .int x2, mK], [], S, 0)) (c2 := (36, [.ref 63, .ref 1006, .int x2, .int x3], [], S, 0)) hf rfl rfl (fun _ hf => ?_) (fun _ hf => ?_)
      · exact f_X10_isWord_b67_ok_1006 hf
      · refine ev_sts 6 (c2 := (46, [.ref 63, .ref 1006, .int x2, .int x3], [.int ((S 63 12) + x3), .ref 69], S, 0)) rfl ?_
        refine ev_gd (c1 := (47, [.ref 63, .ref 1006, .int x2, .int x3], [.int (S 69 ((S 63 12) + x3).toNatClampNeg)], S, 0)) hf rfl rfl (fun hf => ?_)
        refine ev_sts 2 (c2 := (49, [.ref 63, .ref 1006, .int x2, .int x3], [.int x3, .ref 1006, .int (S 69 ((S 63 12) + x3).toNatClampNeg)], S, 0)) rfl ?_
        refine ev_gd (c1 := (52, [.ref 63, .ref 1006, .int x2, .int x3], [.int ((mStr.getD 6 []).getD x3.toNatClampNeg 0), .int (S 69 ((S 63 12) + x3).toNatClampNeg)], S, 0)) hf rfl rfl (fun hf => ?_)
        refine ev_if (c1 := (59, [.ref 63, .ref 1006, .int x2, .int x3], [], S, 0)) (c2 := (55, [.ref 63, .ref 1006, .int x2, .int x3], [], S, 0)) hf rfl rfl (fun _ hf => ?_) (fun _ hf => ?_)
        · exact ev_sts 1 (c2 := (60, [.ref 63, .ref 1006, mK, .int x3], [.int ((0 : Int32))], S, 0)) rfl (f_X10_isWord_b60_ok_1006 (fun h9 => ih h9) hf)
        · exact ev_sts 2 (c2 := (60, [.ref 63, .ref 1006, mK, .int x3], [.int ((1 : Int32))], S, 0)) rfl (f_X10_isWord_b60_ok_1006 (fun h9 => ih h9) hf)
theorem f_X10_isWord_b21_ok_1006 {d F : Nat} {t0 : Int32} {S : mS} {r : mR} (hf : f_X10_isWord_b21 F 6 t0 S = some r) : Ev (d) Mx179 (21, [.ref 63, .ref 1006, mK, mK], [.int t0], S, 0) r := by
  unfold f_X10_isWord_b21 at hf
  exact ev_sts 3 (c2 := (24, [.ref 63, .ref 1006, .int t0, .int ((0 : Int32))], [], S, 0)) rfl (f_X10_isWord_b24_ok_1006 _ hf)
theorem f_X10_isWord_ok_1006 {d F : Nat} {S : mS} {r : mR} (hf : f_X10_isWord F 6 S = some r) : Ev (d) Mx179 (entry Mx179 [.ref 63, .ref 1006] S) r := by
  unfold f_X10_isWord at hf
  refine ev_sts 7 (c2 := (13, [.ref 63, .ref 1006, mK, mK], [.int (Int32.ofNat (mStr.getD 6 []).length), .int ((S 63 10) - (S 63 12))], S, 0)) rfl ?_
  refine ev_if (c1 := (20, [.ref 63, .ref 1006, mK, mK], [], S, 0)) (c2 := (16, [.ref 63, .ref 1006, mK, mK], [], S, 0)) hf rfl rfl (fun _ hf => ?_) (fun _ hf => ?_)
  · exact ev_sts 1 (c2 := (21, [.ref 63, .ref 1006, mK, mK], [.int ((0 : Int32))], S, 0)) rfl (f_X10_isWord_b21_ok_1006 hf)
  · exact ev_sts 2 (c2 := (21, [.ref 63, .ref 1006, mK, mK], [.int ((1 : Int32))], S, 0)) rfl (f_X10_isWord_b21_ok_1006 hf)
theorem f_X10_isWord_b67_ok_1010 {d F : Nat} {x2 : Int32} {S : mS} {r : mR} (hf : f_X10_isWord_b67 F 10 x2 S = some r) : Ev (d) Mx179 (67, [mK, mK, .int x2, mK], [], S, 0) r := by
  unfold f_X10_isWord_b67 at hf
  refine ev_sts 1 (c2 := (68, [mK, mK, .int x2, mK], [.int x2], S, 0)) rfl ?_
  exact ev_ret hf rfl rfl
theorem f_X10_isWord_b60_ok_1010 {d F : Nat} {K24 : Int32 → Int32 → mS → Option mR} (hK24 : ∀ {x2 : Int32} {x3 : Int32} {S : mS} {r : mR}, K24 x2 x3 S = some r → Ev (d) Mx179 (24, [.ref 63, .ref 1010, .int x2, .int x3], [], S, 0) r) {x3 : Int32} {t0 : Int32} {S : mS} {r : mR} (hf : f_X10_isWord_b60 K24 F 10 x3 t0 S = some r) : Ev (d) Mx179 (60, [.ref 63, .ref 1010, mK, .int x3], [.int t0], S, 0) r := by
  unfold f_X10_isWord_b60 at hf
  exact ev_sts 3 (c2 := (24, [.ref 63, .ref 1010, .int t0, .int (x3 + (1 : Int32))], [], S, 0)) rfl (hK24 hf)
theorem f_X10_isWord_b24_ok_1010 {d F : Nat} : ∀ (n : Nat) {x2 : Int32} {x3 : Int32} {S : mS} {r : mR}, f_X10_isWord_b24 F 10 n x2 x3 S = some r → Ev (d) Mx179 (24, [.ref 63, .ref 1010, .int x2, .int x3], [], S, 0) r := by
  intro n
  induction n with
  | zero => intro x2 x3 S r hf; cases hf
  | succ n ih =>
    intro x2 x3 S r hf
    rw [f_X10_isWord_b24] at hf
    refine ev_sts 1 (c2 := (25, [.ref 63, .ref 1010, .int x2, .int x3], [.int x2], S, 0)) rfl ?_
    refine ev_if (c1 := (67, [mK, mK, .int x2, mK], [], S, 0)) (c2 := (28, [.ref 63, .ref 1010, .int x2, .int x3], [], S, 0)) hf rfl rfl (fun _ hf => ?_) (fun _ hf => ?_)
    · exact f_X10_isWord_b67_ok_1010 hf
    · refine ev_sts 3 (c2 := (33, [.ref 63, .ref 1010, .int x2, .int x3], [.int (Int32.ofNat (mStr.getD 10 []).length), .int x3], S, 0)) rfl ?_
      refine ev_if (c1 := (67, [mK, mK, .int x2, mK], [], S, 0)) (c2 := (36, [.ref 63, .ref 1010, .int x2, .int x3], [], S, 0)) hf rfl rfl (fun _ hf => ?_) (fun _ hf => ?_)
      · exact f_X10_isWord_b67_ok_1010 hf
      · refine ev_sts 6 (c2 := (46, [.ref 63, .ref 1010, .int x2, .int x3], [.int ((S 63 12) + x3), .ref 69], S, 0)) rfl ?_
        refine ev_gd (c1 := (47, [.ref 63, .ref 1010, .int x2, .int x3], [.int (S 69 ((S 63 12) + x3).toNatClampNeg)], S, 0)) hf rfl rfl (fun hf => ?_)
        refine ev_sts 2 (c2 := (49, [.ref 63, .ref 1010, .int x2, .int x3], [.int x3, .ref 1010, .int (S 69 ((S 63 12) + x3).toNatClampNeg)], S, 0)) rfl ?_
        refine ev_gd (c1 := (52, [.ref 63, .ref 1010, .int x2, .int x3], [.int ((mStr.getD 10 []).getD x3.toNatClampNeg 0), .int (S 69 ((S 63 12) + x3).toNatClampNeg)], S, 0)) hf rfl rfl (fun hf => ?_)
        refine ev_if (c1 := (59, [.ref 63, .ref 1010, .int x2, .int x3], [], S, 0)) (c2 := (55, [.ref 63, .ref 1010, .int x2, .int x3], [], S, 0)) hf rfl rfl (fun _ hf => ?_) (fun _ hf => ?_)
        · exact ev_sts 1 (c2 := (60, [.ref 63, .ref 1010, mK, .int x3], [.int ((0 : Int32))], S, 0)) rfl (f_X10_isWord_b60_ok_1010 (fun h9 => ih h9) hf)
        · exact ev_sts 2 (c2 := (60, [.ref 63, .ref 1010, mK, .int x3], [.int ((1 : Int32))], S, 0)) rfl (f_X10_isWord_b60_ok_1010 (fun h9 => ih h9) hf)
theorem f_X10_isWord_b21_ok_1010 {d F : Nat} {t0 : Int32} {S : mS} {r : mR} (hf : f_X10_isWord_b21 F 10 t0 S = some r) : Ev (d) Mx179 (21, [.ref 63, .ref 1010, mK, mK], [.int t0], S, 0) r := by
  unfold f_X10_isWord_b21 at hf
  exact ev_sts 3 (c2 := (24, [.ref 63, .ref 1010, .int t0, .int ((0 : Int32))], [], S, 0)) rfl (f_X10_isWord_b24_ok_1010 _ hf)
theorem f_X10_isWord_ok_1010 {d F : Nat} {S : mS} {r : mR} (hf : f_X10_isWord F 10 S = some r) : Ev (d) Mx179 (entry Mx179 [.ref 63, .ref 1010] S) r := by
  unfold f_X10_isWord at hf
  refine ev_sts 7 (c2 := (13, [.ref 63, .ref 1010, mK, mK], [.int (Int32.ofNat (mStr.getD 10 []).length), .int ((S 63 10) - (S 63 12))], S, 0)) rfl ?_
  refine ev_if (c1 := (20, [.ref 63, .ref 1010, mK, mK], [], S, 0)) (c2 := (16, [.ref 63, .ref 1010, mK, mK], [], S, 0)) hf rfl rfl (fun _ hf => ?_) (fun _ hf => ?_)
  · exact ev_sts 1 (c2 := (21, [.ref 63, .ref 1010, mK, mK], [.int ((0 : Int32))], S, 0)) rfl (f_X10_isWord_b21_ok_1010 hf)
  · exact ev_sts 2 (c2 := (21, [.ref 63, .ref 1010, mK, mK], [.int ((1 : Int32))], S, 0)) rfl (f_X10_isWord_b21_ok_1010 hf)
theorem f_X10_isWord_b67_ok_1009 {d F : Nat} {x2 : Int32} {S : mS} {r : mR} (hf : f_X10_isWord_b67 F 9 x2 S = some r) : Ev (d) Mx179 (67, [mK, mK, .int x2, mK], [], S, 0) r := by
  unfold f_X10_isWord_b67 at hf
  refine ev_sts 1 (c2 := (68, [mK, mK, .int x2, mK], [.int x2], S, 0)) rfl ?_
  exact ev_ret hf rfl rfl
theorem f_X10_isWord_b60_ok_1009 {d F : Nat} {K24 : Int32 → Int32 → mS → Option mR} (hK24 : ∀ {x2 : Int32} {x3 : Int32} {S : mS} {r : mR}, K24 x2 x3 S = some r → Ev (d) Mx179 (24, [.ref 63, .ref 1009, .int x2, .int x3], [], S, 0) r) {x3 : Int32} {t0 : Int32} {S : mS} {r : mR} (hf : f_X10_isWord_b60 K24 F 9 x3 t0 S = some r) : Ev (d) Mx179 (60, [.ref 63, .ref 1009, mK, .int x3], [.int t0], S, 0) r := by
  unfold f_X10_isWord_b60 at hf
  exact ev_sts 3 (c2 := (24, [.ref 63, .ref 1009, .int t0, .int (x3 + (1 : Int32))], [], S, 0)) rfl (hK24 hf)
theorem f_X10_isWord_b24_ok_1009 {d F : Nat} : ∀ (n : Nat) {x2 : Int32} {x3 : Int32} {S : mS} {r : mR}, f_X10_isWord_b24 F 9 n x2 x3 S = some r → Ev (d) Mx179 (24, [.ref 63, .ref 1009, .int x2, .int x3], [], S, 0) r := by
  intro n
  induction n with
  | zero => intro x2 x3 S r hf; cases hf
  | succ n ih =>
    intro x2 x3 S r hf
    rw [f_X10_isWord_b24] at hf
    refine ev_sts 1 (c2 := (25, [.ref 63, .ref 1009, .int x2, .int x3], [.int x2], S, 0)) rfl ?_
    refine ev_if (c1 := (67, [mK, mK, .int x2, mK], [], S, 0)) (c2 := (28, [.ref 63, .ref 1009, .int x2, .int x3], [], S, 0)) hf rfl rfl (fun _ hf => ?_) (fun _ hf => ?_)
    · exact f_X10_isWord_b67_ok_1009 hf
    · refine ev_sts 3 (c2 := (33, [.ref 63, .ref 1009, .int x2, .int x3], [.int (Int32.ofNat (mStr.getD 9 []).length), .int x3], S, 0)) rfl ?_
      refine ev_if (c1 := (67, [mK, mK, .int x2, mK], [], S, 0)) (c2 := (36, [.ref 63, .ref 1009, .int x2, .int x3], [], S, 0)) hf rfl rfl (fun _ hf => ?_) (fun _ hf => ?_)
      · exact f_X10_isWord_b67_ok_1009 hf
      · refine ev_sts 6 (c2 := (46, [.ref 63, .ref 1009, .int x2, .int x3], [.int ((S 63 12) + x3), .ref 69], S, 0)) rfl ?_
        refine ev_gd (c1 := (47, [.ref 63, .ref 1009, .int x2, .int x3], [.int (S 69 ((S 63 12) + x3).toNatClampNeg)], S, 0)) hf rfl rfl (fun hf => ?_)
        refine ev_sts 2 (c2 := (49, [.ref 63, .ref 1009, .int x2, .int x3], [.int x3, .ref 1009, .int (S 69 ((S 63 12) + x3).toNatClampNeg)], S, 0)) rfl ?_
        refine ev_gd (c1 := (52, [.ref 63, .ref 1009, .int x2, .int x3], [.int ((mStr.getD 9 []).getD x3.toNatClampNeg 0), .int (S 69 ((S 63 12) + x3).toNatClampNeg)], S, 0)) hf rfl rfl (fun hf => ?_)
        refine ev_if (c1 := (59, [.ref 63, .ref 1009, .int x2, .int x3], [], S, 0)) (c2 := (55, [.ref 63, .ref 1009, .int x2, .int x3], [], S, 0)) hf rfl rfl (fun _ hf => ?_) (fun _ hf => ?_)
        · exact ev_sts 1 (c2 := (60, [.ref 63, .ref 1009, mK, .int x3], [.int ((0 : Int32))], S, 0)) rfl (f_X10_isWord_b60_ok_1009 (fun h9 => ih h9) hf)
        · exact ev_sts 2 (c2 := (60, [.ref 63, .ref 1009, mK, .int x3], [.int ((1 : Int32))], S, 0)) rfl (f_X10_isWord_b60_ok_1009 (fun h9 => ih h9) hf)
theorem f_X10_isWord_b21_ok_1009 {d F : Nat} {t0 : Int32} {S : mS} {r : mR} (hf : f_X10_isWord_b21 F 9 t0 S = some r) : Ev (d) Mx179 (21, [.ref 63, .ref 1009, mK, mK], [.int t0], S, 0) r := by
  unfold f_X10_isWord_b21 at hf
  exact ev_sts 3 (c2 := (24, [.ref 63, .ref 1009, .int t0, .int ((0 : Int32))], [], S, 0)) rfl (f_X10_isWord_b24_ok_1009 _ hf)
theorem f_X10_isWord_ok_1009 {d F : Nat} {S : mS} {r : mR} (hf : f_X10_isWord F 9 S = some r) : Ev (d) Mx179 (entry Mx179 [.ref 63, .ref 1009] S) r := by
  unfold f_X10_isWord at hf
  refine ev_sts 7 (c2 := (13, [.ref 63, .ref 1009, mK, mK], [.int (Int32.ofNat (mStr.getD 9 []).length), .int ((S 63 10) - (S 63 12))], S, 0)) rfl ?_
  refine ev_if (c1 := (20, [.ref 63, .ref 1009, mK, mK], [], S, 0)) (c2 := (16, [.ref 63, .ref 1009, mK, mK], [], S, 0)) hf rfl rfl (fun _ hf => ?_) (fun _ hf => ?_)
  · exact ev_sts 1 (c2 := (21, [.ref 63, .ref 1009, mK, mK], [.int ((0 : Int32))], S, 0)) rfl (f_X10_isWord_b21_ok_1009 hf)
  · exact ev_sts 2 (c2 := (21, [.ref 63, .ref 1009, mK, mK], [.int ((1 : Int32))], S, 0)) rfl (f_X10_isWord_b21_ok_1009 hf)
theorem f_X10_isWord_b67_ok_1008 {d F : Nat} {x2 : Int32} {S : mS} {r : mR} (hf : f_X10_isWord_b67 F 8 x2 S = some r) : Ev (d) Mx179 (67, [mK, mK, .int x2, mK], [], S, 0) r := by
  unfold f_X10_isWord_b67 at hf
  refine ev_sts 1 (c2 := (68, [mK, mK, .int x2, mK], [.int x2], S, 0)) rfl ?_
  exact ev_ret hf rfl rfl
theorem f_X10_isWord_b60_ok_1008 {d F : Nat} {K24 : Int32 → Int32 → mS → Option mR} (hK24 : ∀ {x2 : Int32} {x3 : Int32} {S : mS} {r : mR}, K24 x2 x3 S = some r → Ev (d) Mx179 (24, [.ref 63, .ref 1008, .int x2, .int x3], [], S, 0) r) {x3 : Int32} {t0 : Int32} {S : mS} {r : mR} (hf : f_X10_isWord_b60 K24 F 8 x3 t0 S = some r) : Ev (d) Mx179 (60, [.ref 63, .ref 1008, mK, .int x3], [.int t0], S, 0) r := by
  unfold f_X10_isWord_b60 at hf
  exact ev_sts 3 (c2 := (24, [.ref 63, .ref 1008, .int t0, .int (x3 + (1 : Int32))], [], S, 0)) rfl (hK24 hf)
theorem f_X10_isWord_b24_ok_1008 {d F : Nat} : ∀ (n : Nat) {x2 : Int32} {x3 : Int32} {S : mS} {r : mR}, f_X10_isWord_b24 F 8 n x2 x3 S = some r → Ev (d) Mx179 (24, [.ref 63, .ref 1008, .int x2, .int x3], [], S, 0) r := by
  intro n
  induction n with
  | zero => intro x2 x3 S r hf; cases hf
  | succ n ih =>
    intro x2 x3 S r hf
    rw [f_X10_isWord_b24] at hf
    refine ev_sts 1 (c2 := (25, [.ref 63, .ref 1008, .int x2, .int x3], [.int x2], S, 0)) rfl ?_
    refine ev_if (c1 := (67, [mK, mK, .int x2, mK], [], S, 0)) (c2 := (28, [.ref 63, .ref 1008, .int x2, .int x3], [], S, 0)) hf rfl rfl (fun _ hf => ?_) (fun _ hf => ?_)
    · exact f_X10_isWord_b67_ok_1008 hf
    · refine ev_sts 3 (c2 := (33, [.ref 63, .ref 1008, .int x2, .int x3], [.int (Int32.ofNat (mStr.getD 8 []).length), .int x3], S, 0)) rfl ?_
      refine ev_if (c1 := (67, [mK, mK, .int x2, mK], [], S, 0)) (c2 := (36, [.ref 63, .ref 1008, .int x2, .int x3], [], S, 0)) hf rfl rfl (fun _ hf => ?_) (fun _ hf => ?_)
      · exact f_X10_isWord_b67_ok_1008 hf
      · refine ev_sts 6 (c2 := (46, [.ref 63, .ref 1008, .int x2, .int x3], [.int ((S 63 12) + x3), .ref 69], S, 0)) rfl ?_
        refine ev_gd (c1 := (47, [.ref 63, .ref 1008, .int x2, .int x3], [.int (S 69 ((S 63 12) + x3).toNatClampNeg)], S, 0)) hf rfl rfl (fun hf => ?_)
        refine ev_sts 2 (c2 := (49, [.ref 63, .ref 1008, .int x2, .int x3], [.int x3, .ref 1008, .int (S 69 ((S 63 12) + x3).toNatClampNeg)], S, 0)) rfl ?_
        refine ev_gd (c1 := (52, [.ref 63, .ref 1008, .int x2, .int x3], [.int ((mStr.getD 8 []).getD x3.toNatClampNeg 0), .int (S 69 ((S 63 12) + x3).toNatClampNeg)], S, 0)) hf rfl rfl (fun hf => ?_)
        refine ev_if (c1 := (59, [.ref 63, .ref 1008, .int x2, .int x3], [], S, 0)) (c2 := (55, [.ref 63, .ref 1008, .int x2, .int x3], [], S, 0)) hf rfl rfl (fun _ hf => ?_) (fun _ hf => ?_)
        · exact ev_sts 1 (c2 := (60, [.ref 63, .ref 1008, mK, .int x3], [.int ((0 : Int32))], S, 0)) rfl (f_X10_isWord_b60_ok_1008 (fun h9 => ih h9) hf)
        · exact ev_sts 2 (c2 := (60, [.ref 63, .ref 1008, mK, .int x3], [.int ((1 : Int32))], S, 0)) rfl (f_X10_isWord_b60_ok_1008 (fun h9 => ih h9) hf)
theorem f_X10_isWord_b21_ok_1008 {d F : Nat} {t0 : Int32} {S : mS} {r : mR} (hf : f_X10_isWord_b21 F 8 t0 S = some r) : Ev (d) Mx179 (21, [.ref 63, .ref 1008, mK, mK], [.int t0], S, 0) r := by
  unfold f_X10_isWord_b21 at hf
  exact ev_sts 3 (c2 := (24, [.ref 63, .ref 1008, .int t0, .int ((0 : Int32))], [], S, 0)) rfl (f_X10_isWord_b24_ok_1008 _ hf)
theorem f_X10_isWord_ok_1008 {d F : Nat} {S : mS} {r : mR} (hf : f_X10_isWord F 8 S = some r) : Ev (d) Mx179 (entry Mx179 [.ref 63, .ref 1008] S) r := by
  unfold f_X10_isWord at hf
  refine ev_sts 7 (c2 := (13, [.ref 63, .ref 1008, mK, mK], [.int (Int32.ofNat (mStr.getD 8 []).length), .int ((S 63 10) - (S 63 12))], S, 0)) rfl ?_
  refine ev_if (c1 := (20, [.ref 63, .ref 1008, mK, mK], [], S, 0)) (c2 := (16, [.ref 63, .ref 1008, mK, mK], [], S, 0)) hf rfl rfl (fun _ hf => ?_) (fun _ hf => ?_)
  · exact ev_sts 1 (c2 := (21, [.ref 63, .ref 1008, mK, mK], [.int ((0 : Int32))], S, 0)) rfl (f_X10_isWord_b21_ok_1008 hf)
  · exact ev_sts 2 (c2 := (21, [.ref 63, .ref 1008, mK, mK], [.int ((1 : Int32))], S, 0)) rfl (f_X10_isWord_b21_ok_1008 hf)
theorem f_X10_isWord_b67_ok_1007 {d F : Nat} {x2 : Int32} {S : mS} {r : mR} (hf : f_X10_isWord_b67 F 7 x2 S = some r) : Ev (d) Mx179 (67, [mK, mK, .int x2, mK], [], S, 0) r := by
  unfold f_X10_isWord_b67 at hf
  refine ev_sts 1 (c2 := (68, [mK, mK, .int x2, mK], [.int x2], S, 0)) rfl ?_
  exact ev_ret hf rfl rfl
theorem f_X10_isWord_b60_ok_1007 {d F : Nat} {K24 : Int32 → Int32 → mS → Option mR} (hK24 : ∀ {x2 : Int32} {x3 : Int32} {S : mS} {r : mR}, K24 x2 x3 S = some r → Ev (d) Mx179 (24, [.ref 63, .ref 1007, .int x2, .int x3], [], S, 0) r) {x3 : Int32} {t0 : Int32} {S : mS} {r : mR} (hf : f_X10_isWord_b60 K24 F 7 x3 t0 S = some r) : Ev (d) Mx179 (60, [.ref 63, .ref 1007, mK, .int x3], [.int t0], S, 0) r := by
  unfold f_X10_isWord_b60 at hf
  exact ev_sts 3 (c2 := (24, [.ref 63, .ref 1007, .int t0, .int (x3 + (1 : Int32))], [], S, 0)) rfl (hK24 hf)
theorem f_X10_isWord_b24_ok_1007 {d F : Nat} : ∀ (n : Nat) {x2 : Int32} {x3 : Int32} {S : mS} {r : mR}, f_X10_isWord_b24 F 7 n x2 x3 S = some r → Ev (d) Mx179 (24, [.ref 63, .ref 1007, .int x2, .int x3], [], S, 0) r := by
  intro n
  induction n with
  | zero => intro x2 x3 S r hf; cases hf
  | succ n ih =>
    intro x2 x3 S r hf
    rw [f_X10_isWord_b24] at hf
    refine ev_sts 1 (c2 := (25, [.ref 63, .ref 1007, .int x2, .int x3], [.int x2], S, 0)) rfl ?_
    refine ev_if (c1 := (67, [mK, mK, .int x2, mK], [], S, 0)) (c2 := (28, [.ref 63, .ref 1007, .int x2, .int x3], [], S, 0)) hf rfl rfl (fun _ hf => ?_) (fun _ hf => ?_)
    · exact f_X10_isWord_b67_ok_1007 hf
    · refine ev_sts 3 (c2 := (33, [.ref 63, .ref 1007, .int x2, .int x3], [.int (Int32.ofNat (mStr.getD 7 []).length), .int x3], S, 0)) rfl ?_
      refine ev_if (c1 := (67, [mK, mK, .int x2, mK], [], S, 0)) (c2 := (36, [.ref 63, .ref 1007, .int x2, .int x3], [], S, 0)) hf rfl rfl (fun _ hf => ?_) (fun _ hf => ?_)
      · exact f_X10_isWord_b67_ok_1007 hf
      · refine ev_sts 6 (c2 := (46, [.ref 63, .ref 1007, .int x2, .int x3], [.int ((S 63 12) + x3), .ref 69], S, 0)) rfl ?_
        refine ev_gd (c1 := (47, [.ref 63, .ref 1007, .int x2, .int x3], [.int (S 69 ((S 63 12) + x3).toNatClampNeg)], S, 0)) hf rfl rfl (fun hf => ?_)
        refine ev_sts 2 (c2 := (49, [.ref 63, .ref 1007, .int x2, .int x3], [.int x3, .ref 1007, .int (S 69 ((S 63 12) + x3).toNatClampNeg)], S, 0)) rfl ?_
        refine ev_gd (c1 := (52, [.ref 63, .ref 1007, .int x2, .int x3], [.int ((mStr.getD 7 []).getD x3.toNatClampNeg 0), .int (S 69 ((S 63 12) + x3).toNatClampNeg)], S, 0)) hf rfl rfl (fun hf => ?_)
        refine ev_if (c1 := (59, [.ref 63, .ref 1007, .int x2, .int x3], [], S, 0)) (c2 := (55, [.ref 63, .ref 1007, .int x2, .int x3], [], S, 0)) hf rfl rfl (fun _ hf => ?_) (fun _ hf => ?_)
        · exact ev_sts 1 (c2 := (60, [.ref 63, .ref 1007, mK, .int x3], [.int ((0 : Int32))], S, 0)) rfl (f_X10_isWord_b60_ok_1007 (fun h9 => ih h9) hf)
        · exact ev_sts 2 (c2 := (60, [.ref 63, .ref 1007, mK, .int x3], [.int ((1 : Int32))], S, 0)) rfl (f_X10_isWord_b60_ok_1007 (fun h9 => ih h9) hf)
theorem f_X10_isWord_b21_ok_1007 {d F : Nat} {t0 : Int32} {S : mS} {r : mR} (hf : f_X10_isWord_b21 F 7 t0 S = some r) : Ev (d) Mx179 (21, [.ref 63, .ref 1007, mK, mK], [.int t0], S, 0) r := by
  unfold f_X10_isWord_b21 at hf
  exact ev_sts 3 (c2 := (24, [.ref 63, .ref 1007, .int t0, .int ((0 : Int32))], [], S, 0)) rfl (f_X10_isWord_b24_ok_1007 _ hf)
theorem f_X10_isWord_ok_1007 {d F : Nat} {S : mS} {r : mR} (hf : f_X10_isWord F 7 S = some r) : Ev (d) Mx179 (entry Mx179 [.ref 63, .ref 1007] S) r := by
  unfold f_X10_isWord at hf
  refine ev_sts 7 (c2 := (13, [.ref 63, .ref 1007, mK, mK], [.int (Int32.ofNat (mStr.getD 7 []).length), .int ((S 63 10) - (S 63 12))], S, 0)) rfl ?_
  refine ev_if (c1 := (20, [.ref 63, .ref 1007, mK, mK], [], S, 0)) (c2 := (16, [.ref 63, .ref 1007, mK, mK], [], S, 0)) hf rfl rfl (fun _ hf => ?_) (fun _ hf => ?_)
  · exact ev_sts 1 (c2 := (21, [.ref 63, .ref 1007, mK, mK], [.int ((0 : Int32))], S, 0)) rfl (f_X10_isWord_b21_ok_1007 hf)
  · exact ev_sts 2 (c2 := (21, [.ref 63, .ref 1007, mK, mK], [.int ((1 : Int32))], S, 0)) rfl (f_X10_isWord_b21_ok_1007 hf)
theorem f_X10_isWord_b67_ok_1005 {d F : Nat} {x2 : Int32} {S : mS} {r : mR} (hf : f_X10_isWord_b67 F 5 x2 S = some r) : Ev (d) Mx179 (67, [mK, mK, .int x2, mK], [], S, 0) r := by
  unfold f_X10_isWord_b67 at hf
  refine ev_sts 1 (c2 := (68, [mK, mK, .int x2, mK], [.int x2], S, 0)) rfl ?_
  exact ev_ret hf rfl rfl
theorem f_X10_isWord_b60_ok_1005 {d F : Nat} {K24 : Int32 → Int32 → mS → Option mR} (hK24 : ∀ {x2 : Int32} {x3 : Int32} {S : mS} {r : mR}, K24 x2 x3 S = some r → Ev (d) Mx179 (24, [.ref 63, .ref 1005, .int x2, .int x3], [], S, 0) r) {x3 : Int32} {t0 : Int32} {S : mS} {r : mR} (hf : f_X10_isWord_b60 K24 F 5 x3 t0 S = some r) : Ev (d) Mx179 (60, [.ref 63, .ref 1005, mK, .int x3], [.int t0], S, 0) r := by
  unfold f_X10_isWord_b60 at hf
  exact ev_sts 3 (c2 := (24, [.ref 63, .ref 1005, .int t0, .int (x3 + (1 : Int32))], [], S, 0)) rfl (hK24 hf)
theorem f_X10_isWord_b24_ok_1005 {d F : Nat} : ∀ (n : Nat) {x2 : Int32} {x3 : Int32} {S : mS} {r : mR}, f_X10_isWord_b24 F 5 n x2 x3 S = some r → Ev (d) Mx179 (24, [.ref 63, .ref 1005, .int x2, .int x3], [], S, 0) r := by
  intro n
  induction n with
  | zero => intro x2 x3 S r hf; cases hf
  | succ n ih =>
    intro x2 x3 S r hf
    rw [f_X10_isWord_b24] at hf
    refine ev_sts 1 (c2 := (25, [.ref 63, .ref 1005, .int x2, .int x3], [.int x2], S, 0)) rfl ?_
    refine ev_if (c1 := (67, [mK, mK, .int x2, mK], [], S, 0)) (c2 := (28, [.ref 63, .ref 1005, .int x2, .int x3], [], S, 0)) hf rfl rfl (fun _ hf => ?_) (fun _ hf => ?_)
    · exact f_X10_isWord_b67_ok_1005 hf
    · refine ev_sts 3 (c2 := (33, [.ref 63, .ref 1005, .int x2, .int x3], [.int (Int32.ofNat (mStr.getD 5 []).length), .int x3], S, 0)) rfl ?_
      refine ev_if (c1 := (67, [mK, mK, .int x2, mK], [], S, 0)) (c2 := (36, [.ref 63, .ref 1005, .int x2, .int x3], [], S, 0)) hf rfl rfl (fun _ hf => ?_) (fun _ hf => ?_)
      · exact f_X10_isWord_b67_ok_1005 hf
      · refine ev_sts 6 (c2 := (46, [.ref 63, .ref 1005, .int x2, .int x3], [.int ((S 63 12) + x3), .ref 69], S, 0)) rfl ?_
        refine ev_gd (c1 := (47, [.ref 63, .ref 1005, .int x2, .int x3], [.int (S 69 ((S 63 12) + x3).toNatClampNeg)], S, 0)) hf rfl rfl (fun hf => ?_)
        refine ev_sts 2 (c2 := (49, [.ref 63, .ref 1005, .int x2, .int x3], [.int x3, .ref 1005, .int (S 69 ((S 63 12) + x3).toNatClampNeg)], S, 0)) rfl ?_
        refine ev_gd (c1 := (52, [.ref 63, .ref 1005, .int x2, .int x3], [.int ((mStr.getD 5 []).getD x3.toNatClampNeg 0), .int (S 69 ((S 63 12) + x3).toNatClampNeg)], S, 0)) hf rfl rfl (fun hf => ?_)
        refine ev_if (c1 := (59, [.ref 63, .ref 1005, .int x2, .int x3], [], S, 0)) (c2 := (55, [.ref 63, .ref 1005, .int x2, .int x3], [], S, 0)) hf rfl rfl (fun _ hf => ?_) (fun _ hf => ?_)
        · exact ev_sts 1 (c2 := (60, [.ref 63, .ref 1005, mK, .int x3], [.int ((0 : Int32))], S, 0)) rfl (f_X10_isWord_b60_ok_1005 (fun h9 => ih h9) hf)
        · exact ev_sts 2 (c2 := (60, [.ref 63, .ref 1005, mK, .int x3], [.int ((1 : Int32))], S, 0)) rfl (f_X10_isWord_b60_ok_1005 (fun h9 => ih h9) hf)
theorem f_X10_isWord_b21_ok_1005 {d F : Nat} {t0 : Int32} {S : mS} {r : mR} (hf : f_X10_isWord_b21 F 5 t0 S = some r) : Ev (d) Mx179 (21, [.ref 63, .ref 1005, mK, mK], [.int t0], S, 0) r := by
  unfold f_X10_isWord_b21 at hf
  exact ev_sts 3 (c2 := (24, [.ref 63, .ref 1005, .int t0, .int ((0 : Int32))], [], S, 0)) rfl (f_X10_isWord_b24_ok_1005 _ hf)
theorem f_X10_isWord_ok_1005 {d F : Nat} {S : mS} {r : mR} (hf : f_X10_isWord F 5 S = some r) : Ev (d) Mx179 (entry Mx179 [.ref 63, .ref 1005] S) r := by
  unfold f_X10_isWord at hf
  refine ev_sts 7 (c2 := (13, [.ref 63, .ref 1005, mK, mK], [.int (Int32.ofNat (mStr.getD 5 []).length), .int ((S 63 10) - (S 63 12))], S, 0)) rfl ?_
  refine ev_if (c1 := (20, [.ref 63, .ref 1005, mK, mK], [], S, 0)) (c2 := (16, [.ref 63, .ref 1005, mK, mK], [], S, 0)) hf rfl rfl (fun _ hf => ?_) (fun _ hf => ?_)
  · exact ev_sts 1 (c2 := (21, [.ref 63, .ref 1005, mK, mK], [.int ((0 : Int32))], S, 0)) rfl (f_X10_isWord_b21_ok_1005 hf)
  · exact ev_sts 2 (c2 := (21, [.ref 63, .ref 1005, mK, mK], [.int ((1 : Int32))], S, 0)) rfl (f_X10_isWord_b21_ok_1005 hf)
theorem f_X10_isWord_b67_ok_1000 {d F : Nat} {x2 : Int32} {S : mS} {r : mR} (hf : f_X10_isWord_b67 F 0 x2 S = some r) : Ev (d) Mx179 (67, [mK, mK, .int x2, mK], [], S, 0) r := by
  unfold f_X10_isWord_b67 at hf
  refine ev_sts 1 (c2 := (68, [mK, mK, .int x2, mK], [.int x2], S, 0)) rfl ?_
  exact ev_ret hf rfl rfl
theorem f_X10_isWord_b60_ok_1000 {d F : Nat} {K24 : Int32 → Int32 → mS → Option mR} (hK24 : ∀ {x2 : Int32} {x3 : Int32} {S : mS} {r : mR}, K24 x2 x3 S = some r → Ev (d) Mx179 (24, [.ref 63, .ref 1000, .int x2, .int x3], [], S, 0) r) {x3 : Int32} {t0 : Int32} {S : mS} {r : mR} (hf : f_X10_isWord_b60 K24 F 0 x3 t0 S = some r) : Ev (d) Mx179 (60, [.ref 63, .ref 1000, mK, .int x3], [.int t0], S, 0) r := by
  unfold f_X10_isWord_b60 at hf
  exact ev_sts 3 (c2 := (24, [.ref 63, .ref 1000, .int t0, .int (x3 + (1 : Int32))], [], S, 0)) rfl (hK24 hf)
theorem f_X10_isWord_b24_ok_1000 {d F : Nat} : ∀ (n : Nat) {x2 : Int32} {x3 : Int32} {S : mS} {r : mR}, f_X10_isWord_b24 F 0 n x2 x3 S = some r → Ev (d) Mx179 (24, [.ref 63, .ref 1000, .int x2, .int x3], [], S, 0) r := by
  intro n
  induction n with
  | zero => intro x2 x3 S r hf; cases hf
  | succ n ih =>
    intro x2 x3 S r hf
    rw [f_X10_isWord_b24] at hf
    refine ev_sts 1 (c2 := (25, [.ref 63, .ref 1000, .int x2, .int x3], [.int x2], S, 0)) rfl ?_
    refine ev_if (c1 := (67, [mK, mK, .int x2, mK], [], S, 0)) (c2 := (28, [.ref 63, .ref 1000, .int x2, .int x3], [], S, 0)) hf rfl rfl (fun _ hf => ?_) (fun _ hf => ?_)
    · exact f_X10_isWord_b67_ok_1000 hf
    · refine ev_sts 3 (c2 := (33, [.ref 63, .ref 1000, .int x2, .int x3], [.int (Int32.ofNat (mStr.getD 0 []).length), .int x3], S, 0)) rfl ?_
      refine ev_if (c1 := (67, [mK, mK, .int x2, mK], [], S, 0)) (c2 := (36, [.ref 63, .ref 1000, .int x2, .int x3], [], S, 0)) hf rfl rfl (fun _ hf => ?_) (fun _ hf => ?_)
      · exact f_X10_isWord_b67_ok_1000 hf
      · refine ev_sts 6 (c2 := (46, [.ref 63, .ref 1000, .int x2, .int x3], [.int ((S 63 12) + x3), .ref 69], S, 0)) rfl ?_
        refine ev_gd (c1 := (47, [.ref 63, .ref 1000, .int x2, .int x3], [.int (S 69 ((S 63 12) + x3).toNatClampNeg)], S, 0)) hf rfl rfl (fun hf => ?_)
        refine ev_sts 2 (c2 := (49, [.ref 63, .ref 1000, .int x2, .int x3], [.int x3, .ref 1000, .int (S 69 ((S 63 12) + x3).toNatClampNeg)], S, 0)) rfl ?_
        refine ev_gd (c1 := (52, [.ref 63, .ref 1000, .int x2, .int x3], [.int ((mStr.getD 0 []).getD x3.toNatClampNeg 0), .int (S 69 ((S 63 12) + x3).toNatClampNeg)], S, 0)) hf rfl rfl (fun hf => ?_)
        refine ev_if (c1 := (59, [.ref 63, .ref 1000, .int x2, .int x3], [], S, 0)) (c2 := (55, [.ref 63, .ref 1000, .int x2, .int x3], [], S, 0)) hf rfl rfl (fun _ hf => ?_) (fun _ hf => ?_)
        · exact ev_sts 1 (c2 := (60, [.ref 63, .ref 1000, mK, .int x3], [.int ((0 : Int32))], S, 0)) rfl (f_X10_isWord_b60_ok_1000 (fun h9 => ih h9) hf)
        · exact ev_sts 2 (c2 := (60, [.ref 63, .ref 1000, mK, .int x3], [.int ((1 : Int32))], S, 0)) rfl (f_X10_isWord_b60_ok_1000 (fun h9 => ih h9) hf)
theorem f_X10_isWord_b21_ok_1000 {d F : Nat} {t0 : Int32} {S : mS} {r : mR} (hf : f_X10_isWord_b21 F 0 t0 S = some r) : Ev (d) Mx179 (21, [.ref 63, .ref 1000, mK, mK], [.int t0], S, 0) r := by
  unfold f_X10_isWord_b21 at hf
  exact ev_sts 3 (c2 := (24, [.ref 63, .ref 1000, .int t0, .int ((0 : Int32))], [], S, 0)) rfl (f_X10_isWord_b24_ok_1000 _ hf)
theorem f_X10_isWord_ok_1000 {d F : Nat} {S : mS} {r : mR} (hf : f_X10_isWord F 0 S = some r) : Ev (d) Mx179 (entry Mx179 [.ref 63, .ref 1000] S) r := by
  unfold f_X10_isWord at hf
  refine ev_sts 7 (c2 := (13, [.ref 63, .ref 1000, mK, mK], [.int (Int32.ofNat (mStr.getD 0 []).length), .int ((S 63 10) - (S 63 12))], S, 0)) rfl ?_
  refine ev_if (c1 := (20, [.ref 63, .ref 1000, mK, mK], [], S, 0)) (c2 := (16, [.ref 63, .ref 1000, mK, mK], [], S, 0)) hf rfl rfl (fun _ hf => ?_) (fun _ hf => ?_)
  · exact ev_sts 1 (c2 := (21, [.ref 63, .ref 1000, mK, mK], [.int ((0 : Int32))], S, 0)) rfl (f_X10_isWord_b21_ok_1000 hf)
  · exact ev_sts 2 (c2 := (21, [.ref 63, .ref 1000, mK, mK], [.int ((1 : Int32))], S, 0)) rfl (f_X10_isWord_b21_ok_1000 hf)
theorem f_X10_isWord_b67_ok_1020 {d F : Nat} {x2 : Int32} {S : mS} {r : mR} (hf : f_X10_isWord_b67 F 20 x2 S = some r) : Ev (d) Mx179 (67, [mK, mK, .int x2, mK], [], S, 0) r := by
  unfold f_X10_isWord_b67 at hf
  refine ev_sts 1 (c2 := (68, [mK, mK, .int x2, mK], [.int x2], S, 0)) rfl ?_
  exact ev_ret hf rfl rfl
theorem f_X10_isWord_b60_ok_1020 {d F : Nat} {K24 : Int32 → Int32 → mS → Option mR} (hK24 : ∀ {x2 : Int32} {x3 : Int32} {S : mS} {r : mR}, K24 x2 x3 S = some r → Ev (d) Mx179 (24, [.ref 63, .ref 1020, .int x2, .int x3], [], S, 0) r) {x3 : Int32} {t0 : Int32} {S : mS} {r : mR} (hf : f_X10_isWord_b60 K24 F 20 x3 t0 S = some r) : Ev (d) Mx179 (60, [.ref 63, .ref 1020, mK, .int x3], [.int t0], S, 0) r := by
  unfold f_X10_isWord_b60 at hf
  exact ev_sts 3 (c2 := (24, [.ref 63, .ref 1020, .int t0, .int (x3 + (1 : Int32))], [], S, 0)) rfl (hK24 hf)
theorem f_X10_isWord_b24_ok_1020 {d F : Nat} : ∀ (n : Nat) {x2 : Int32} {x3 : Int32} {S : mS} {r : mR}, f_X10_isWord_b24 F 20 n x2 x3 S = some r → Ev (d) Mx179 (24, [.ref 63, .ref 1020, .int x2, .int x3], [], S, 0) r := by
  intro n
  induction n with
  | zero => intro x2 x3 S r hf; cases hf
  | succ n ih =>
    intro x2 x3 S r hf
    rw [f_X10_isWord_b24] at hf
    refine ev_sts 1 (c2 := (25, [.ref 63, .ref 1020, .int x2, .int x3], [.int x2], S, 0)) rfl ?_
    refine ev_if (c1 := (67, [mK, mK, .int x2, mK], [], S, 0)) (c2 := (28, [.ref 63, .ref 1020, .int x2, .int x3], [], S, 0)) hf rfl rfl (fun _ hf => ?_) (fun _ hf => ?_)
    · exact f_X10_isWord_b67_ok_1020 hf
    · refine ev_sts 3 (c2 := (33, [.ref 63, .ref 1020, .int x2, .int x3], [.int (Int32.ofNat (mStr.getD 20 []).length), .int x3], S, 0)) rfl ?_
      refine ev_if (c1 := (67, [mK, mK, .int x2, mK], [], S, 0)) (c2 := (36, [.ref 63, .ref 1020, .int x2, .int x3], [], S, 0)) hf rfl rfl (fun _ hf => ?_) (fun _ hf => ?_)
      · exact f_X10_isWord_b67_ok_1020 hf
      · refine ev_sts 6 (c2 := (46, [.ref 63, .ref 1020, .int x2, .int x3], [.int ((S 63 12) + x3), .ref 69], S, 0)) rfl ?_
        refine ev_gd (c1 := (47, [.ref 63, .ref 1020, .int x2, .int x3], [.int (S 69 ((S 63 12) + x3).toNatClampNeg)], S, 0)) hf rfl rfl (fun hf => ?_)
        refine ev_sts 2 (c2 := (49, [.ref 63, .ref 1020, .int x2, .int x3], [.int x3, .ref 1020, .int (S 69 ((S 63 12) + x3).toNatClampNeg)], S, 0)) rfl ?_
        refine ev_gd (c1 := (52, [.ref 63, .ref 1020, .int x2, .int x3], [.int ((mStr.getD 20 []).getD x3.toNatClampNeg 0), .int (S 69 ((S 63 12) + x3).toNatClampNeg)], S, 0)) hf rfl rfl (fun hf => ?_)
        refine ev_if (c1 := (59, [.ref 63, .ref 1020, .int x2, .int x3], [], S, 0)) (c2 := (55, [.ref 63, .ref 1020, .int x2, .int x3], [], S, 0)) hf rfl rfl (fun _ hf => ?_) (fun _ hf => ?_)
        · exact ev_sts 1 (c2 := (60, [.ref 63, .ref 1020, mK, .int x3], [.int ((0 : Int32))], S, 0)) rfl (f_X10_isWord_b60_ok_1020 (fun h9 => ih h9) hf)
        · exact ev_sts 2 (c2 := (60, [.ref 63, .ref 1020, mK, .int x3], [.int ((1 : Int32))], S, 0)) rfl (f_X10_isWord_b60_ok_1020 (fun h9 => ih h9) hf)
theorem f_X10_isWord_b21_ok_1020 {d F : Nat} {t0 : Int32} {S : mS} {r : mR} (hf : f_X10_isWord_b21 F 20 t0 S = some r) : Ev (d) Mx179 (21, [.ref 63, .ref 1020, mK, mK], [.int t0], S, 0) r := by
  unfold f_X10_isWord_b21 at hf
  exact ev_sts 3 (c2 := (24, [.ref 63, .ref 1020, .int t0, .int ((0 : Int32))], [], S, 0)) rfl (f_X10_isWord_b24_ok_1020 _ hf)
theorem f_X10_isWord_ok_1020 {d F : Nat} {S : mS} {r : mR} (hf : f_X10_isWord F 20 S = some r) : Ev (d) Mx179 (entry Mx179 [.ref 63, .ref 1020] S) r := by
  unfold f_X10_isWord at hf
  refine ev_sts 7 (c2 := (13, [.ref 63, .ref 1020, mK, mK], [.int (Int32.ofNat (mStr.getD 20 []).length), .int ((S 63 10) - (S 63 12))], S, 0)) rfl ?_
  refine ev_if (c1 := (20, [.ref 63, .ref 1020, mK, mK], [], S, 0)) (c2 := (16, [.ref 63, .ref 1020, mK, mK], [], S, 0)) hf rfl rfl (fun _ hf => ?_) (fun _ hf => ?_)
  · exact ev_sts 1 (c2 := (21, [.ref 63, .ref 1020, mK, mK], [.int ((0 : Int32))], S, 0)) rfl (f_X10_isWord_b21_ok_1020 hf)
  · exact ev_sts 2 (c2 := (21, [.ref 63, .ref 1020, mK, mK], [.int ((1 : Int32))], S, 0)) rfl (f_X10_isWord_b21_ok_1020 hf)
theorem f_X10_isWord_b67_ok_1019 {d F : Nat} {x2 : Int32} {S : mS} {r : mR} (hf : f_X10_isWord_b67 F 19 x2 S = some r) : Ev (d) Mx179 (67, [mK, mK, .int x2, mK], [], S, 0) r := by
  unfold f_X10_isWord_b67 at hf
  refine ev_sts 1 (c2 := (68, [mK, mK, .int x2, mK], [.int x2], S, 0)) rfl ?_
  exact ev_ret hf rfl rfl
theorem f_X10_isWord_b60_ok_1019 {d F : Nat} {K24 : Int32 → Int32 → mS → Option mR} (hK24 : ∀ {x2 : Int32} {x3 : Int32} {S : mS} {r : mR}, K24 x2 x3 S = some r → Ev (d) Mx179 (24, [.ref 63, .ref 1019, .int x2, .int x3], [], S, 0) r) {x3 : Int32} {t0 : Int32} {S : mS} {r : mR} (hf : f_X10_isWord_b60 K24 F 19 x3 t0 S = some r) : Ev (d) Mx179 (60, [.ref 63, .ref 1019, mK, .int x3], [.int t0], S, 0) r := by
  unfold f_X10_isWord_b60 at hf
  exact ev_sts 3 (c2 := (24, [.ref 63, .ref 1019, .int t0, .int (x3 + (1 : Int32))], [], S, 0)) rfl (hK24 hf)
theorem f_X10_isWord_b24_ok_1019 {d F : Nat} : ∀ (n : Nat) {x2 : Int32} {x3 : Int32} {S : mS} {r : mR}, f_X10_isWord_b24 F 19 n x2 x3 S = some r → Ev (d) Mx179 (24, [.ref 63, .ref 1019, .int x2, .int x3], [], S, 0) r := by
  intro n
  induction n with
  | zero => intro x2 x3 S r hf; cases hf
  | succ n ih =>
    intro x2 x3 S r hf
    rw [f_X10_isWord_b24] at hf
    refine ev_sts 1 (c2 := (25, [.ref 63, .ref 1019, .int x2, .int x3], [.int x2], S, 0)) rfl ?_
    refine ev_if (c1 := (67, [mK, mK, .int x2, mK], [], S, 0)) (c2 := (28, [.ref 63, .ref 1019, .int x2, .int x3], [], S, 0)) hf rfl rfl (fun _ hf => ?_) (fun _ hf => ?_)
    · exact f_X10_isWord_b67_ok_1019 hf
    · refine ev_sts 3 (c2 := (33, [.ref 63, .ref 1019, .int x2, .int x3], [.int (Int32.ofNat (mStr.getD 19 []).length), .int x3], S, 0)) rfl ?_
      refine ev_if (c1 := (67, [mK, mK, .int x2, mK], [], S, 0)) (c2 := (36, [.ref 63, .ref 1019, .int x2, .int x3], [], S, 0)) hf rfl rfl (fun _ hf => ?_) (fun _ hf => ?_)
      · exact f_X10_isWord_b67_ok_1019 hf
      · refine ev_sts 6 (c2 := (46, [.ref 63, .ref 1019, .int x2, .int x3], [.int ((S 63 12) + x3), .ref 69], S, 0)) rfl ?_
        refine ev_gd (c1 := (47, [.ref 63, .ref 1019, .int x2, .int x3], [.int (S 69 ((S 63 12) + x3).toNatClampNeg)], S, 0)) hf rfl rfl (fun hf => ?_)
        refine ev_sts 2 (c2 := (49, [.ref 63, .ref 1019, .int x2, .int x3], [.int x3, .ref 1019, .int (S 69 ((S 63 12) + x3).toNatClampNeg)], S, 0)) rfl ?_
        refine ev_gd (c1 := (52, [.ref 63, .ref 1019, .int x2, .int x3], [.int ((mStr.getD 19 []).getD x3.toNatClampNeg 0), .int (S 69 ((S 63 12) + x3).toNatClampNeg)], S, 0)) hf rfl rfl (fun hf => ?_)
        refine ev_if (c1 := (59, [.ref 63, .ref 1019, .int x2, .int x3], [], S, 0)) (c2 := (55, [.ref 63, .ref 1019, .int x2, .int x3], [], S, 0)) hf rfl rfl (fun _ hf => ?_) (fun _ hf => ?_)
        · exact ev_sts 1 (c2 := (60, [.ref 63, .ref 1019, mK, .int x3], [.int ((0 : Int32))], S, 0)) rfl (f_X10_isWord_b60_ok_1019 (fun h9 => ih h9) hf)
        · exact ev_sts 2 (c2 := (60, [.ref 63, .ref 1019, mK, .int x3], [.int ((1 : Int32))], S, 0)) rfl (f_X10_isWord_b60_ok_1019 (fun h9 => ih h9) hf)
theorem f_X10_isWord_b21_ok_1019 {d F : Nat} {t0 : Int32} {S : mS} {r : mR} (hf : f_X10_isWord_b21 F 19 t0 S = some r) : Ev (d) Mx179 (21, [.ref 63, .ref 1019, mK, mK], [.int t0], S, 0) r := by
  unfold f_X10_isWord_b21 at hf
  exact ev_sts 3 (c2 := (24, [.ref 63, .ref 1019, .int t0, .int ((0 : Int32))], [], S, 0)) rfl (f_X10_isWord_b24_ok_1019 _ hf)
theorem f_X10_isWord_ok_1019 {d F : Nat} {S : mS} {r : mR} (hf : f_X10_isWord F 19 S = some r) : Ev (d) Mx179 (entry Mx179 [.ref 63, .ref 1019] S) r := by
  unfold f_X10_isWord at hf
  refine ev_sts 7 (c2 := (13, [.ref 63, .ref 1019, mK, mK], [.int (Int32.ofNat (mStr.getD 19 []).length), .int ((S 63 10) - (S 63 12))], S, 0)) rfl ?_
  refine ev_if (c1 := (20, [.ref 63, .ref 1019, mK, mK], [], S, 0)) (c2 := (16, [.ref 63, .ref 1019, mK, mK], [], S, 0)) hf rfl rfl (fun _ hf => ?_) (fun _ hf => ?_)
  · exact ev_sts 1 (c2 := (21, [.ref 63, .ref 1019, mK, mK], [.int ((0 : Int32))], S, 0)) rfl (f_X10_isWord_b21_ok_1019 hf)
  · exact ev_sts 2 (c2 := (21, [.ref 63, .ref 1019, mK, mK], [.int ((1 : Int32))], S, 0)) rfl (f_X10_isWord_b21_ok_1019 hf)
theorem f_X10_isWord_b67_ok_1017 {d F : Nat} {x2 : Int32} {S : mS} {r : mR} (hf : f_X10_isWord_b67 F 17 x2 S = some r) : Ev (d) Mx179 (67, [mK, mK, .int x2, mK], [], S, 0) r := by
  unfold f_X10_isWord_b67 at hf
  refine ev_sts 1 (c2 := (68, [mK, mK, .int x2, mK], [.int x2], S, 0)) rfl ?_
  exact ev_ret hf rfl rfl
theorem f_X10_isWord_b60_ok_1017 {d F : Nat} {K24 : Int32 → Int32 → mS → Option mR} (hK24 : ∀ {x2 : Int32} {x3 : Int32} {S : mS} {r : mR}, K24 x2 x3 S = some r → Ev (d) Mx179 (24, [.ref 63, .ref 1017, .int x2, .int x3], [], S, 0) r) {x3 : Int32} {t0 : Int32} {S : mS} {r : mR} (hf : f_X10_isWord_b60 K24 F 17 x3 t0 S = some r) : Ev (d) Mx179 (60, [.ref 63, .ref 1017, mK, .int x3], [.int t0], S, 0) r := by
  unfold f_X10_isWord_b60 at hf
  exact ev_sts 3 (c2 := (24, [.ref 63, .ref 1017, .int t0, .int (x3 + (1 : Int32))], [], S, 0)) rfl (hK24 hf)
theorem f_X10_isWord_b24_ok_1017 {d F : Nat} : ∀ (n : Nat) {x2 : Int32} {x3 : Int32} {S : mS} {r : mR}, f_X10_isWord_b24 F 17 n x2 x3 S = some r → Ev (d) Mx179 (24, [.ref 63, .ref 1017, .int x2, .int x3], [], S, 0) r := by
  intro n
  induction n with
  | zero => intro x2 x3 S r hf; cases hf
  | succ n ih =>
    intro x2 x3 S r hf
    rw [f_X10_isWord_b24] at hf
    refine ev_sts 1 (c2 := (25, [.ref 63, .ref 1017, .int x2, .int x3], [.int x2], S, 0)) rfl ?_
    refine ev_if (c1 := (67, [mK, mK, .int x2, mK], [], S, 0)) (c2 := (28, [.ref 63, .ref 1017, .int x2, .int x3], [], S, 0)) hf rfl rfl (fun _ hf => ?_) (fun _ hf => ?_)
    · exact f_X10_isWord_b67_ok_1017 hf
    · refine ev_sts 3 (c2 := (33, [.ref 63, .ref 1017, .int x2, .int x3], [.int (Int32.ofNat (mStr.getD 17 []).length), .int x3], S, 0)) rfl ?_
      refine ev_if (c1 := (67, [mK, mK, .int x2, mK], [], S, 0)) (c2 := (36, [.ref 63, .ref 1017, .int x2, .int x3], [], S, 0)) hf rfl rfl (fun _ hf => ?_) (fun _ hf => ?_)
      · exact f_X10_isWord_b67_ok_1017 hf
      · refine ev_sts 6 (c2 := (46, [.ref 63, .ref 1017, .int x2, .int x3], [.int ((S 63 12) + x3), .ref 69], S, 0)) rfl ?_
        refine ev_gd (c1 := (47, [.ref 63, .ref 1017, .int x2, .int x3], [.int (S 69 ((S 63 12) + x3).toNatClampNeg)], S, 0)) hf rfl rfl (fun hf => ?_)
        refine ev_sts 2 (c2 := (49, [.ref 63, .ref 1017, .int x2, .int x3], [.int x3, .ref 1017, .int (S 69 ((S 63 12) + x3).toNatClampNeg)], S, 0)) rfl ?_
        refine ev_gd (c1 := (52, [.ref 63, .ref 1017, .int x2, .int x3], [.int ((mStr.getD 17 []).getD x3.toNatClampNeg 0), .int (S 69 ((S 63 12) + x3).toNatClampNeg)], S, 0)) hf rfl rfl (fun hf => ?_)
        refine ev_if (c1 := (59, [.ref 63, .ref 1017, .int x2, .int x3], [], S, 0)) (c2 := (55, [.ref 63, .ref 1017, .int x2, .int x3], [], S, 0)) hf rfl rfl (fun _ hf => ?_) (fun _ hf => ?_)
        · exact ev_sts 1 (c2 := (60, [.ref 63, .ref 1017, mK, .int x3], [.int ((0 : Int32))], S, 0)) rfl (f_X10_isWord_b60_ok_1017 (fun h9 => ih h9) hf)
        · exact ev_sts 2 (c2 := (60, [.ref 63, .ref 1017, mK, .int x3], [.int ((1 : Int32))], S, 0)) rfl (f_X10_isWord_b60_ok_1017 (fun h9 => ih h9) hf)
theorem f_X10_isWord_b21_ok_1017 {d F : Nat} {t0 : Int32} {S : mS} {r : mR} (hf : f_X10_isWord_b21 F 17 t0 S = some r) : Ev (d) Mx179 (21, [.ref 63, .ref 1017, mK, mK], [.int t0], S, 0) r := by
  unfold f_X10_isWord_b21 at hf
  exact ev_sts 3 (c2 := (24, [.ref 63, .ref 1017, .int t0, .int ((0 : Int32))], [], S, 0)) rfl (f_X10_isWord_b24_ok_1017 _ hf)
theorem f_X10_isWord_ok_1017 {d F : Nat} {S : mS} {r : mR} (hf : f_X10_isWord F 17 S = some r) : Ev (d) Mx179 (entry Mx179 [.ref 63, .ref 1017] S) r := by
  unfold f_X10_isWord at hf
  refine ev_sts 7 (c2 := (13, [.ref 63, .ref 1017, mK, mK], [.int (Int32.ofNat (mStr.getD 17 []).length), .int ((S 63 10) - (S 63 12))], S, 0)) rfl ?_
  refine ev_if (c1 := (20, [.ref 63, .ref 1017, mK, mK], [], S, 0)) (c2 := (16, [.ref 63, .ref 1017, mK, mK], [], S, 0)) hf rfl rfl (fun _ hf => ?_) (fun _ hf => ?_)
  · exact ev_sts 1 (c2 := (21, [.ref 63, .ref 1017, mK, mK], [.int ((0 : Int32))], S, 0)) rfl (f_X10_isWord_b21_ok_1017 hf)
  · exact ev_sts 2 (c2 := (21, [.ref 63, .ref 1017, mK, mK], [.int ((1 : Int32))], S, 0)) rfl (f_X10_isWord_b21_ok_1017 hf)
theorem f_X10_isWord_b67_ok_1018 {d F : Nat} {x2 : Int32} {S : mS} {r : mR} (hf : f_X10_isWord_b67 F 18 x2 S = some r) : Ev (d) Mx179 (67, [mK, mK, .int x2, mK], [], S, 0) r := by
  unfold f_X10_isWord_b67 at hf
  refine ev_sts 1 (c2 := (68, [mK, mK, .int x2, mK], [.int x2], S, 0)) rfl ?_
  exact ev_ret hf rfl rfl
theorem f_X10_isWord_b60_ok_1018 {d F : Nat} {K24 : Int32 → Int32 → mS → Option mR} (hK24 : ∀ {x2 : Int32} {x3 : Int32} {S : mS} {r : mR}, K24 x2 x3 S = some r → Ev (d) Mx179 (24, [.ref 63, .ref 1018, .int x2, .int x3], [], S, 0) r) {x3 : Int32} {t0 : Int32} {S : mS} {r : mR} (hf : f_X10_isWord_b60 K24 F 18 x3 t0 S = some r) : Ev (d) Mx179 (60, [.ref 63, .ref 1018, mK, .int x3], [.int t0], S, 0) r := by
  unfold f_X10_isWord_b60 at hf
  exact ev_sts 3 (c2 := (24, [.ref 63, .ref 1018, .int t0, .int (x3 + (1 : Int32))], [], S, 0)) rfl (hK24 hf)
theorem f_X10_isWord_b24_ok_1018 {d F : Nat} : ∀ (n : Nat) {x2 : Int32} {x3 : Int32} {S : mS} {r : mR}, f_X10_isWord_b24 F 18 n x2 x3 S = some r → Ev (d) Mx179 (24, [.ref 63, .ref 1018, .int x2, .int x3], [], S, 0) r := by
  intro n
  induction n with
  | zero => intro x2 x3 S r hf; cases hf
  | succ n ih =>
    intro x2 x3 S r hf
    rw [f_X10_isWord_b24] at hf
    refine ev_sts 1 (c2 := (25, [.ref 63, .ref 1018, .int x2, .int x3], [.int x2], S, 0)) rfl ?_
    refine ev_if (c1 := (67, [mK, mK, .int x2, mK], [], S, 0)) (c2 := (28, [.ref 63, .ref 1018, .int x2, .int x3], [], S, 0)) hf rfl rfl (fun _ hf => ?_) (fun _ hf => ?_)
    · exact f_X10_isWord_b67_ok_1018 hf
    · refine ev_sts 3 (c2 := (33, [.ref 63, .ref 1018, .int x2, .int x3], [.int (Int32.ofNat (mStr.getD 18 []).length), .int x3], S, 0)) rfl ?_
      refine ev_if (c1 := (67, [mK, mK, .int x2, mK], [], S, 0)) (c2 := (36, [.ref 63, .ref 1018, .int x2, .int x3], [], S, 0)) hf rfl rfl (fun _ hf => ?_) (fun _ hf => ?_)
      · exact f_X10_isWord_b67_ok_1018 hf
      · refine ev_sts 6 (c2 := (46, [.ref 63, .ref 1018, .int x2, .int x3], [.int ((S 63 12) + x3), .ref 69], S, 0)) rfl ?_
        refine ev_gd (c1 := (47, [.ref 63, .ref 1018, .int x2, .int x3], [.int (S 69 ((S 63 12) + x3).toNatClampNeg)], S, 0)) hf rfl rfl (fun hf => ?_)
        refine ev_sts 2 (c2 := (49, [.ref 63, .ref 1018, .int x2, .int x3], [.int x3, .ref 1018, .int (S 69 ((S 63 12) + x3).toNatClampNeg)], S, 0)) rfl ?_
        refine ev_gd (c1 := (52, [.ref 63, .ref 1018, .int x2, .int x3], [.int ((mStr.getD 18 []).getD x3.toNatClampNeg 0), .int (S 69 ((S 63 12) + x3).toNatClampNeg)], S, 0)) hf rfl rfl (fun hf => ?_)
        refine ev_if (c1 := (59, [.ref 63, .ref 1018, .int x2, .int x3], [], S, 0)) (c2 := (55, [.ref 63, .ref 1018, .int x2, .int x3], [], S, 0)) hf rfl rfl (fun _ hf => ?_) (fun _ hf => ?_)
        · exact ev_sts 1 (c2 := (60, [.ref 63, .ref 1018, mK, .int x3], [.int ((0 : Int32))], S, 0)) rfl (f_X10_isWord_b60_ok_1018 (fun h9 => ih h9) hf)
        · exact ev_sts 2 (c2 := (60, [.ref 63, .ref 1018, mK, .int x3], [.int ((1 : Int32))], S, 0)) rfl (f_X10_isWord_b60_ok_1018 (fun h9 => ih h9) hf)
theorem f_X10_isWord_b21_ok_1018 {d F : Nat} {t0 : Int32} {S : mS} {r : mR} (hf : f_X10_isWord_b21 F 18 t0 S = some r) : Ev (d) Mx179 (21, [.ref 63, .ref 1018, mK, mK], [.int t0], S, 0) r := by
  unfold f_X10_isWord_b21 at hf
  exact ev_sts 3 (c2 := (24, [.ref 63, .ref 1018, .int t0, .int ((0 : Int32))], [], S, 0)) rfl (f_X10_isWord_b24_ok_1018 _ hf)
theorem f_X10_isWord_ok_1018 {d F : Nat} {S : mS} {r : mR} (hf : f_X10_isWord F 18 S = some r) : Ev (d) Mx179 (entry Mx179 [.ref 63, .ref 1018] S) r := by
  unfold f_X10_isWord at hf
  refine ev_sts 7 (c2 := (13, [.ref 63, .ref 1018, mK, mK], [.int (Int32.ofNat (mStr.getD 18 []).length), .int ((S 63 10) - (S 63 12))], S, 0)) rfl ?_
  refine ev_if (c1 := (20, [.ref 63, .ref 1018, mK, mK], [], S, 0)) (c2 := (16, [.ref 63, .ref 1018, mK, mK], [], S, 0)) hf rfl rfl (fun _ hf => ?_) (fun _ hf => ?_)
  · exact ev_sts 1 (c2 := (21, [.ref 63, .ref 1018, mK, mK], [.int ((0 : Int32))], S, 0)) rfl (f_X10_isWord_b21_ok_1018 hf)
  · exact ev_sts 2 (c2 := (21, [.ref 63, .ref 1018, mK, mK], [.int ((1 : Int32))], S, 0)) rfl (f_X10_isWord_b21_ok_1018 hf)
theorem f_X10_isWord_b67_ok_1016 {d F : Nat} {x2 : Int32} {S : mS} {r : mR} (hf : f_X10_isWord_b67 F 16 x2 S = some r) : Ev (d) Mx179 (67, [mK, mK, .int x2, mK], [], S, 0) r := by
  unfold f_X10_isWord_b67 at hf
  refine ev_sts 1 (c2 := (68, [mK, mK, .int x2, mK], [.int x2], S, 0)) rfl ?_
  exact ev_ret hf rfl rfl
theorem f_X10_isWord_b60_ok_1016 {d F : Nat} {K24 : Int32 → Int32 → mS → Option mR} (hK24 : ∀ {x2 : Int32} {x3 : Int32} {S : mS} {r : mR}, K24 x2 x3 S = some r → Ev (d) Mx179 (24, [.ref 63, .ref 1016, .int x2, .int x3], [], S, 0) r) {x3 : Int32} {t0 : Int32} {S : mS} {r : mR} (hf : f_X10_isWord_b60 K24 F 16 x3 t0 S = some r) : Ev (d) Mx179 (60, [.ref 63, .ref 1016, mK, .int x3], [.int t0], S, 0) r := by
  unfold f_X10_isWord_b60 at hf
  exact ev_sts 3 (c2 := (24, [.ref 63, .ref 1016, .int t0, .int (x3 + (1 : Int32))], [], S, 0)) rfl (hK24 hf)
theorem f_X10_isWord_b24_ok_1016 {d F : Nat} : ∀ (n : Nat) {x2 : Int32} {x3 : Int32} {S : mS} {r : mR}, f_X10_isWord_b24 F 16 n x2 x3 S = some r → Ev (d) Mx179 (24, [.ref 63, .ref 1016, .int x2, .int x3], [], S, 0) r := by
  intro n
  induction n with
  | zero => intro x2 x3 S r hf; cases hf
  | succ n ih =>
    intro x2 x3 S r hf
    rw [f_X10_isWord_b24] at hf
    refine ev_sts 1 (c2 := (25, [.ref 63, .ref 1016, .int x2, .int x3], [.int x2], S, 0)) rfl ?_
    refine ev_if (c1 := (67, [mK, mK, .int x2, mK], [], S, 0)) (c2 := (28, [.ref 63, .ref 1016, .int x2, .int x3], [], S, 0)) hf rfl rfl (fun _ hf => ?_) (fun _ hf => ?_)
    · exact f_X10_isWord_b67_ok_1016 hf
    · refine ev_sts 3 (c2 := (33, [.ref 63, .ref 1016, .int x2, .int x3], [.int (Int32.ofNat (mStr.getD 16 []).length), .int x3], S, 0)) rfl ?_
      refine ev_if (c1 := (67, [mK, mK, .int x2, mK], [], S, 0)) (c2 := (36, [.ref 63, .ref 1016, .int x2, .int x3], [], S, 0)) hf rfl rfl (fun _ hf => ?_) (fun _ hf => ?_)
      · exact f_X10_isWord_b67_ok_1016 hf
      · refine ev_sts 6 (c2 := (46, [.ref 63, .ref 1016, .int x2, .int x3], [.int ((S 63 12) + x3), .ref 69], S, 0)) rfl ?_
        refine ev_gd (c1 := (47, [.ref 63, .ref 1016, .int x2, .int x3], [.int (S 69 ((S 63 12) + x3).toNatClampNeg)], S, 0)) hf rfl rfl (fun hf => ?_)
        refine ev_sts 2 (c2 := (49, [.ref 63, .ref 1016, .int x2, .int x3], [.int x3, .ref 1016, .int (S 69 ((S 63 12) + x3).toNatClampNeg)], S, 0)) rfl ?_
        refine ev_gd (c1 := (52, [.ref 63, .ref 1016, .int x2, .int x3], [.int ((mStr.getD 16 []).getD x3.toNatClampNeg 0), .int (S 69 ((S 63 12) + x3).toNatClampNeg)], S, 0)) hf rfl rfl (fun hf => ?_)
        refine ev_if (c1 := (59, [.ref 63, .ref 1016, .int x2, .int x3], [], S, 0)) (c2 := (55, [.ref 63, .ref 1016, .int x2, .int x3], [], S, 0)) hf rfl rfl (fun _ hf => ?_) (fun _ hf => ?_)
        · exact ev_sts 1 (c2 := (60, [.ref 63, .ref 1016, mK, .int x3], [.int ((0 : Int32))], S, 0)) rfl (f_X10_isWord_b60_ok_1016 (fun h9 => ih h9) hf)
        · exact ev_sts 2 (c2 := (60, [.ref 63, .ref 1016, mK, .int x3], [.int ((1 : Int32))], S, 0)) rfl (f_X10_isWord_b60_ok_1016 (fun h9 => ih h9) hf)
theorem f_X10_isWord_b21_ok_1016 {d F : Nat} {t0 : Int32} {S : mS} {r : mR} (hf : f_X10_isWord_b21 F 16 t0 S = some r) : Ev (d) Mx179 (21, [.ref 63, .ref 1016, mK, mK], [.int t0], S, 0) r := by
  unfold f_X10_isWord_b21 at hf
  exact ev_sts 3 (c2 := (24, [.ref 63, .ref 1016, .int t0, .int ((0 : Int32))], [], S, 0)) rfl (f_X10_isWord_b24_ok_1016 _ hf)
theorem f_X10_isWord_ok_1016 {d F : Nat} {S : mS} {r : mR} (hf : f_X10_isWord F 16 S = some r) : Ev (d) Mx179 (entry Mx179 [.ref 63, .ref 1016] S) r := by
  unfold f_X10_isWord at hf
  refine ev_sts 7 (c2 := (13, [.ref 63, .ref 1016, mK, mK], [.int (Int32.ofNat (mStr.getD 16 []).length), .int ((S 63 10) - (S 63 12))], S, 0)) rfl ?_
  refine ev_if (c1 := (20, [.ref 63, .ref 1016, mK, mK], [], S, 0)) (c2 := (16, [.ref 63, .ref 1016, mK, mK], [], S, 0)) hf rfl rfl (fun _ hf => ?_) (fun _ hf => ?_)
  · exact ev_sts 1 (c2 := (21, [.ref 63, .ref 1016, mK, mK], [.int ((0 : Int32))], S, 0)) rfl (f_X10_isWord_b21_ok_1016 hf)
  · exact ev_sts 2 (c2 := (21, [.ref 63, .ref 1016, mK, mK], [.int ((1 : Int32))], S, 0)) rfl (f_X10_isWord_b21_ok_1016 hf)
theorem f_X10_isWord_b67_ok_1015 {d F : Nat} {x2 : Int32} {S : mS} {r : mR} (hf : f_X10_isWord_b67 F 15 x2 S = some r) : Ev (d) Mx179 (67, [mK, mK, .int x2, mK], [], S, 0) r := by
  unfold f_X10_isWord_b67 at hf
  refine ev_sts 1 (c2 := (68, [mK, mK, .int x2, mK], [.int x2], S, 0)) rfl ?_
  exact ev_ret hf rfl rfl
theorem f_X10_isWord_b60_ok_1015 {d F : Nat} {K24 : Int32 → Int32 → mS → Option mR} (hK24 : ∀ {x2 : Int32} {x3 : Int32} {S : mS} {r : mR}, K24 x2 x3 S = some r → Ev (d) Mx179 (24, [.ref 63, .ref 1015, .int x2, .int x3], [], S, 0) r) {x3 : Int32} {t0 : Int32} {S : mS} {r : mR} (hf : f_X10_isWord_b60 K24 F 15 x3 t0 S = some r) : Ev (d) Mx179 (60, [.ref 63, .ref 1015, mK, .int x3], [.int t0], S, 0) r := by
  unfold f_X10_isWord_b60 at hf
  exact ev_sts 3 (c2 := (24, [.ref 63, .ref 1015, .int t0, .int (x3 + (1 : Int32))], [], S, 0)) rfl (hK24 hf)
theorem f_X10_isWord_b24_ok_1015 {d F : Nat} : ∀ (n : Nat) {x2 : Int32} {x3 : Int32} {S : mS} {r : mR}, f_X10_isWord_b24 F 15 n x2 x3 S = some r → Ev (d) Mx179 (24, [.ref 63, .ref 1015, .int x2, .int x3], [], S, 0) r := by
  intro n
  induction n with
  | zero => intro x2 x3 S r hf; cases hf
  | succ n ih =>
    intro x2 x3 S r hf
    rw [f_X10_isWord_b24] at hf
    refine ev_sts 1 (c2 := (25, [.ref 63, .ref 1015, .int x2, .int x3], [.int x2], S, 0)) rfl ?_
    refine ev_if (c1 := (67, [mK, mK, .int x2, mK], [], S, 0)) (c2 := (28, [.ref 63, .ref 1015, .int x2, .int x3], [], S, 0)) hf rfl rfl (fun _ hf => ?_) (fun _ hf => ?_)
    · exact f_X10_isWord_b67_ok_1015 hf
    · refine ev_sts 3 (c2 := (33, [.ref 63, .ref 1015, .int x2, .int x3], [.int (Int32.ofNat (mStr.getD 15 []).length), .int x3], S, 0)) rfl ?_
      refine ev_if (c1 := (67, [mK, mK, .int x2, mK], [], S, 0)) (c2 := (36, [.ref 63, .ref 1015, .int x2, .int x3], [], S, 0)) hf rfl rfl (fun _ hf => ?_) (fun _ hf => ?_)
      · exact f_X10_isWord_b67_ok_1015 hf
      · refine ev_sts 6 (c2 := (46, [.ref 63, .ref 1015, .int x2, .int x3], [.int ((S 63 12) + x3), .ref 69], S, 0)) rfl ?_
        refine ev_gd (c1 := (47, [.ref 63, .ref 1015, .int x2, .int x3], [.int (S 69 ((S 63 12) + x3).toNatClampNeg)], S, 0)) hf rfl rfl (fun hf => ?_)
        refine ev_sts 2 (c2 := (49, [.ref 63, .ref 1015, .int x2, .int x3], [.int x3, .ref 1015, .int (S 69 ((S 63 12) + x3).toNatClampNeg)], S, 0)) rfl ?_
        refine ev_gd (c1 := (52, [.ref 63, .ref 1015, .int x2, .int x3], [.int ((mStr.getD 15 []).getD x3.toNatClampNeg 0), .int (S 69 ((S 63 12) + x3).toNatClampNeg)], S, 0)) hf rfl rfl (fun hf => ?_)
        refine ev_if (c1 := (59, [.ref 63, .ref 1015, .int x2, .int x3], [], S, 0)) (c2 := (55, [.ref 63, .ref 1015, .int x2, .int x3], [], S, 0)) hf rfl rfl (fun _ hf => ?_) (fun _ hf => ?_)
        · exact ev_sts 1 (c2 := (60, [.ref 63, .ref 1015, mK, .int x3], [.int ((0 : Int32))], S, 0)) rfl (f_X10_isWord_b60_ok_1015 (fun h9 => ih h9) hf)
        · exact ev_sts 2 (c2 := (60, [.ref 63, .ref 1015, mK, .int x3], [.int ((1 : Int32))], S, 0)) rfl (f_X10_isWord_b60_ok_1015 (fun h9 => ih h9) hf)
theorem f_X10_isWord_b21_ok_1015 {d F : Nat} {t0 : Int32} {S : mS} {r : mR} (hf : f_X10_isWord_b21 F 15 t0 S = some r) : Ev (d) Mx179 (21, [.ref 63, .ref 1015, mK, mK], [.int t0], S, 0) r := by
  unfold f_X10_isWord_b21 at hf
  exact ev_sts 3 (c2 := (24, [.ref 63, .ref 1015, .int t0, .int ((0 : Int32))], [], S, 0)) rfl (f_X10_isWord_b24_ok_1015 _ hf)
theorem f_X10_isWord_ok_1015 {d F : Nat} {S : mS} {r : mR} (hf : f_X10_isWord F 15 S = some r) : Ev (d) Mx179 (entry Mx179 [.ref 63, .ref 1015] S) r := by
  unfold f_X10_isWord at hf
  refine ev_sts 7 (c2 := (13, [.ref 63, .ref 1015, mK, mK], [.int (Int32.ofNat (mStr.getD 15 []).length), .int ((S 63 10) - (S 63 12))], S, 0)) rfl ?_
  refine ev_if (c1 := (20, [.ref 63, .ref 1015, mK, mK], [], S, 0)) (c2 := (16, [.ref 63, .ref 1015, mK, mK], [], S, 0)) hf rfl rfl (fun _ hf => ?_) (fun _ hf => ?_)
  · exact ev_sts 1 (c2 := (21, [.ref 63, .ref 1015, mK, mK], [.int ((0 : Int32))], S, 0)) rfl (f_X10_isWord_b21_ok_1015 hf)
  · exact ev_sts 2 (c2 := (21, [.ref 63, .ref 1015, mK, mK], [.int ((1 : Int32))], S, 0)) rfl (f_X10_isWord_b21_ok_1015 hf)
theorem f_X10_isWord_b67_ok_1021 {d F : Nat} {x2 : Int32} {S : mS} {r : mR} (hf : f_X10_isWord_b67 F 21 x2 S = some r) : Ev (d) Mx179 (67, [mK, mK, .int x2, mK], [], S, 0) r := by
  unfold f_X10_isWord_b67 at hf
  refine ev_sts 1 (c2 := (68, [mK, mK, .int x2, mK], [.int x2], S, 0)) rfl ?_
  exact ev_ret hf rfl rfl
theorem f_X10_isWord_b60_ok_1021 {d F : Nat} {K24 : Int32 → Int32 → mS → Option mR} (hK24 : ∀ {x2 : Int32} {x3 : Int32} {S : mS} {r : mR}, K24 x2 x3 S = some r → Ev (d) Mx179 (24, [.ref 63, .ref 1021, .int x2, .int x3], [], S, 0) r) {x3 : Int32} {t0 : Int32} {S : mS} {r : mR} (hf : f_X10_isWord_b60 K24 F 21 x3 t0 S = some r) : Ev (d) Mx179 (60, [.ref 63, .ref 1021, mK, .int x3], [.int t0], S, 0) r := by
  unfold f_X10_isWord_b60 at hf
  exact ev_sts 3 (c2 := (24, [.ref 63, .ref 1021, .int t0, .int (x3 + (1 : Int32))], [], S, 0)) rfl (hK24 hf)
theorem f_X10_isWord_b24_ok_1021 {d F : Nat} : ∀ (n : Nat) {x2 : Int32} {x3 : Int32} {S : mS} {r : mR}, f_X10_isWord_b24 F 21 n x2 x3 S = some r → Ev (d) Mx179 (24, [.ref 63, .ref 1021, .int x2, .int x3], [], S, 0) r := by
  intro n
  induction n with
  | zero => intro x2 x3 S r hf; cases hf
  | succ n ih =>
    intro x2 x3 S r hf
    rw [f_X10_isWord_b24] at hf
    refine ev_sts 1 (c2 := (25, [.ref 63, .ref 1021, .int x2, .int x3], [.int x2], S, 0)) rfl ?_
    refine ev_if (c1 := (67, [mK, mK, .int x2, mK], [], S, 0)) (c2 := (28, [.ref 63, .ref 1021, .int x2, .int x3], [], S, 0)) hf rfl rfl (fun _ hf => ?_) (fun _ hf => ?_)
    · exact f_X10_isWord_b67_ok_1021 hf
    · refine ev_sts 3 (c2 := (33, [.ref 63, .ref 1021, .int x2, .int x3], [.int (Int32.ofNat (mStr.getD 21 []).length), .int x3], S, 0)) rfl ?_
      refine ev_if (c1 := (67, [mK, mK, .int x2, mK], [], S, 0)) (c2 := (36, [.ref 63, .ref 1021, .int x2, .int x3], [], S, 0)) hf rfl rfl (fun _ hf => ?_) (fun _ hf => ?_)
      · exact f_X10_isWord_b67_ok_1021 hf
      · refine ev_sts 6 (c2 := (46, [.ref 63, .ref 1021, .int x2, .int x3], [.int ((S 63 12) + x3), .ref 69], S, 0)) rfl ?_
        refine ev_gd (c1 := (47, [.ref 63, .ref 1021, .int x2, .int x3], [.int (S 69 ((S 63 12) + x3).toNatClampNeg)], S, 0)) hf rfl rfl (fun hf => ?_)
        refine ev_sts 2 (c2 := (49, [.ref 63, .ref 1021, .int x2, .int x3], [.int x3, .ref 1021, .int (S 69 ((S 63 12) + x3).toNatClampNeg)], S, 0)) rfl ?_
        refine ev_gd (c1 := (52, [.ref 63, .ref 1021, .int x2, .int x3], [.int ((mStr.getD 21 []).getD x3.toNatClampNeg 0), .int (S 69 ((S 63 12) + x3).toNatClampNeg)], S, 0)) hf rfl rfl (fun hf => ?_)
        refine ev_if (c1 := (59, [.ref 63, .ref 1021, .int x2, .int x3], [], S, 0)) (c2 := (55, [.ref 63, .ref 1021, .int x2, .int x3], [], S, 0)) hf rfl rfl (fun _ hf => ?_) (fun _ hf => ?_)
        · exact ev_sts 1 (c2 := (60, [.ref 63, .ref 1021, mK, .int x3], [.int ((0 : Int32))], S, 0)) rfl (f_X10_isWord_b60_ok_1021 (fun h9 => ih h9) hf)
        · exact ev_sts 2 (c2 := (60, [.ref 63, .ref 1021, mK, .int x3], [.int ((1 : Int32))], S, 0)) rfl (f_X10_isWord_b60_ok_1021 (fun h9 => ih h9) hf)
theorem f_X10_isWord_b21_ok_1021 {d F : Nat} {t0 : Int32} {S : mS} {r : mR} (hf : f_X10_isWord_b21 F 21 t0 S = some r) : Ev (d) Mx179 (21, [.ref 63, .ref 1021, mK, mK], [.int t0], S, 0) r := by
  unfold f_X10_isWord_b21 at hf
  exact ev_sts 3 (c2 := (24, [.ref 63, .ref 1021, .int t0, .int ((0 : Int32))], [], S, 0)) rfl (f_X10_isWord_b24_ok_1021 _ hf)
theorem f_X10_isWord_ok_1021 {d F : Nat} {S : mS} {r : mR} (hf : f_X10_isWord F 21 S = some r) : Ev (d) Mx179 (entry Mx179 [.ref 63, .ref 1021] S) r := by
  unfold f_X10_isWord at hf
  refine ev_sts 7 (c2 := (13, [.ref 63, .ref 1021, mK, mK], [.int (Int32.ofNat (mStr.getD 21 []).length), .int ((S 63 10) - (S 63 12))], S, 0)) rfl ?_
  refine ev_if (c1 := (20, [.ref 63, .ref 1021, mK, mK], [], S, 0)) (c2 := (16, [.ref 63, .ref 1021, mK, mK], [], S, 0)) hf rfl rfl (fun _ hf => ?_) (fun _ hf => ?_)
  · exact ev_sts 1 (c2 := (21, [.ref 63, .ref 1021, mK, mK], [.int ((0 : Int32))], S, 0)) rfl (f_X10_isWord_b21_ok_1021 hf)
  · exact ev_sts 2 (c2 := (21, [.ref 63, .ref 1021, mK, mK], [.int ((1 : Int32))], S, 0)) rfl (f_X10_isWord_b21_ok_1021 hf)
theorem f_X10_isWord_b67_ok_1022 {d F : Nat} {x2 : Int32} {S : mS} {r : mR} (hf : f_X10_isWord_b67 F 22 x2 S = some r) : Ev (d) Mx179 (67, [mK, mK, .int x2, mK], [], S, 0) r := by
  unfold f_X10_isWord_b67 at hf
  refine ev_sts 1 (c2 := (68, [mK, mK, .int x2, mK], [.int x2], S, 0)) rfl ?_
  exact ev_ret hf rfl rfl
theorem f_X10_isWord_b60_ok_1022 {d F : Nat} {K24 : Int32 → Int32 → mS → Option mR} (hK24 : ∀ {x2 : Int32} {x3 : Int32} {S : mS} {r : mR}, K24 x2 x3 S = some r → Ev (d) Mx179 (24, [.ref 63, .ref 1022, .int x2, .int x3], [], S, 0) r) {x3 : Int32} {t0 : Int32} {S : mS} {r : mR} (hf : f_X10_isWord_b60 K24 F 22 x3 t0 S = some r) : Ev (d) Mx179 (60, [.ref 63, .ref 1022, mK, .int x3], [.int t0], S, 0) r := by
  unfold f_X10_isWord_b60 at hf
  exact ev_sts 3 (c2 := (24, [.ref 63, .ref 1022, .int t0, .int (x3 + (1 : Int32))], [], S, 0)) rfl (hK24 hf)
theorem f_X10_isWord_b24_ok_1022 {d F : Nat} : ∀ (n : Nat) {x2 : Int32} {x3 : Int32} {S : mS} {r : mR}, f_X10_isWord_b24 F 22 n x2 x3 S = some r → Ev (d) Mx179 (24, [.ref 63, .ref 1022, .int x2, .int x3], [], S, 0) r := by
  intro n
  induction n with
  | zero => intro x2 x3 S r hf; cases hf
  | succ n ih =>
    intro x2 x3 S r hf
    rw [f_X10_isWord_b24] at hf
    refine ev_sts 1 (c2 := (25, [.ref 63, .ref 1022, .int x2, .int x3], [.int x2], S, 0)) rfl ?_
    refine ev_if (c1 := (67, [mK, mK, .int x2, mK], [], S, 0)) (c2 := (28, [.ref 63, .ref 1022, .int x2, .int x3], [], S, 0)) hf rfl rfl (fun _ hf => ?_) (fun _ hf => ?_)
    · exact f_X10_isWord_b67_ok_1022 hf
    · refine ev_sts 3 (c2 := (33, [.ref 63, .ref 1022, .int x2, .int x3], [.int (Int32.ofNat (mStr.getD 22 []).length), .int x3], S, 0)) rfl ?_
      refine ev_if (c1 := (67, [mK, mK, .int x2, mK], [], S, 0)) (c2 := (36, [.ref 63, .ref 1022, .int x2, .int x3], [], S, 0)) hf rfl rfl (fun _ hf => ?_) (fun _ hf => ?_)
      · exact f_X10_isWord_b67_ok_1022 hf
      · refine ev_sts 6 (c2 := (46, [.ref 63, .ref 1022, .int x2, .int x3], [.int ((S 63 12) + x3), .ref 69], S, 0)) rfl ?_
        refine ev_gd (c1 := (47, [.ref 63, .ref 1022, .int x2, .int x3], [.int (S 69 ((S 63 12) + x3).toNatClampNeg)], S, 0)) hf rfl rfl (fun hf => ?_)
        refine ev_sts 2 (c2 := (49, [.ref 63, .ref 1022, .int x2, .int x3], [.int x3, .ref 1022, .int (S 69 ((S 63 12) + x3).toNatClampNeg)], S, 0)) rfl ?_
        refine ev_gd (c1 := (52, [.ref 63, .ref 1022, .int x2, .int x3], [.int ((mStr.getD 22 []).getD x3.toNatClampNeg 0), .int (S 69 ((S 63 12) + x3).toNatClampNeg)], S, 0)) hf rfl rfl (fun hf => ?_)
        refine ev_if (c1 := (59, [.ref 63, .ref 1022, .int x2, .int x3], [], S, 0)) (c2 := (55, [.ref 63, .ref 1022, .int x2, .int x3], [], S, 0)) hf rfl rfl (fun _ hf => ?_) (fun _ hf => ?_)
        · exact ev_sts 1 (c2 := (60, [.ref 63, .ref 1022, mK, .int x3], [.int ((0 : Int32))], S, 0)) rfl (f_X10_isWord_b60_ok_1022 (fun h9 => ih h9) hf)
        · exact ev_sts 2 (c2 := (60, [.ref 63, .ref 1022, mK, .int x3], [.int ((1 : Int32))], S, 0)) rfl (f_X10_isWord_b60_ok_1022 (fun h9 => ih h9) hf)
theorem f_X10_isWord_b21_ok_1022 {d F : Nat} {t0 : Int32} {S : mS} {r : mR} (hf : f_X10_isWord_b21 F 22 t0 S = some r) : Ev (d) Mx179 (21, [.ref 63, .ref 1022, mK, mK], [.int t0], S, 0) r := by
  unfold f_X10_isWord_b21 at hf
  exact ev_sts 3 (c2 := (24, [.ref 63, .ref 1022, .int t0, .int ((0 : Int32))], [], S, 0)) rfl (f_X10_isWord_b24_ok_1022 _ hf)
theorem f_X10_isWord_ok_1022 {d F : Nat} {S : mS} {r : mR} (hf : f_X10_isWord F 22 S = some r) : Ev (d) Mx179 (entry Mx179 [.ref 63, .ref 1022] S) r := by
  unfold f_X10_isWord at hf
  refine ev_sts 7 (c2 := (13, [.ref 63, .ref 1022, mK, mK], [.int (Int32.ofNat (mStr.getD 22 []).length), .int ((S 63 10) - (S 63 12))], S, 0)) rfl ?_
  refine ev_if (c1 := (20, [.ref 63, .ref 1022, mK, mK], [], S, 0)) (c2 := (16, [.ref 63, .ref 1022, mK, mK], [], S, 0)) hf rfl rfl (fun _ hf => ?_) (fun _ hf => ?_)
  · exact ev_sts 1 (c2 := (21, [.ref 63, .ref 1022, mK, mK], [.int ((0 : Int32))], S, 0)) rfl (f_X10_isWord_b21_ok_1022 hf)
  · exact ev_sts 2 (c2 := (21, [.ref 63, .ref 1022, mK, mK], [.int ((1 : Int32))], S, 0)) rfl (f_X10_isWord_b21_ok_1022 hf)
theorem f_X10_isWord_b67_ok_1014 {d F : Nat} {x2 : Int32} {S : mS} {r : mR} (hf : f_X10_isWord_b67 F 14 x2 S = some r) : Ev (d) Mx179 (67, [mK, mK, .int x2, mK], [], S, 0) r := by
  unfold f_X10_isWord_b67 at hf
  refine ev_sts 1 (c2 := (68, [mK, mK, .int x2, mK], [.int x2], S, 0)) rfl ?_
  exact ev_ret hf rfl rfl
theorem f_X10_isWord_b60_ok_1014 {d F : Nat} {K24 : Int32 → Int32 → mS → Option mR} (hK24 : ∀ {x2 : Int32} {x3 : Int32} {S : mS} {r : mR}, K24 x2 x3 S = some r → Ev (d) Mx179 (24, [.ref 63, .ref 1014, .int x2, .int x3], [], S, 0) r) {x3 : Int32} {t0 : Int32} {S : mS} {r : mR} (hf : f_X10_isWord_b60 K24 F 14 x3 t0 S = some r) : Ev (d) Mx179 (60, [.ref 63, .ref 1014, mK, .int x3], [.int t0], S, 0) r := by
  unfold f_X10_isWord_b60 at hf
  exact ev_sts 3 (c2 := (24, [.ref 63, .ref 1014, .int t0, .int (x3 + (1 : Int32))], [], S, 0)) rfl (hK24 hf)
theorem f_X10_isWord_b24_ok_1014 {d F : Nat} : ∀ (n : Nat) {x2 : Int32} {x3 : Int32} {S : mS} {r : mR}, f_X10_isWord_b24 F 14 n x2 x3 S = some r → Ev (d) Mx179 (24, [.ref 63, .ref 1014, .int x2, .int x3], [], S, 0) r := by
  intro n
  induction n with
  | zero => intro x2 x3 S r hf; cases hf
  | succ n ih =>
    intro x2 x3 S r hf
    rw [f_X10_isWord_b24] at hf
    refine ev_sts 1 (c2 := (25, [.ref 63, .ref 1014, .int x2, .int x3], [.int x2], S, 0)) rfl ?_
    refine ev_if (c1 := (67, [mK, mK, .int x2, mK], [], S, 0)) (c2 := (28, [.ref 63, .ref 1014, .int x2, .int x3], [], S, 0)) hf rfl rfl (fun _ hf => ?_) (fun _ hf => ?_)
    · exact f_X10_isWord_b67_ok_1014 hf
    · refine ev_sts 3 (c2 := (33, [.ref 63, .ref 1014, .int x2, .int x3], [.int (Int32.ofNat (mStr.getD 14 []).length), .int x3], S, 0)) rfl ?_
      refine ev_if (c1 := (67, [mK, mK, .int x2, mK], [], S, 0)) (c2 := (36, [.ref 63, .ref 1014, .int x2, .int x3], [], S, 0)) hf rfl rfl (fun _ hf => ?_) (fun _ hf => ?_)
      · exact f_X10_isWord_b67_ok_1014 hf
      · refine ev_sts 6 (c2 := (46, [.ref 63, .ref 1014, .int x2, .int x3], [.int ((S 63 12) + x3), .ref 69], S, 0)) rfl ?_
        refine ev_gd (c1 := (47, [.ref 63, .ref 1014, .int x2, .int x3], [.int (S 69 ((S 63 12) + x3).toNatClampNeg)], S, 0)) hf rfl rfl (fun hf => ?_)
        refine ev_sts 2 (c2 := (49, [.ref 63, .ref 1014, .int x2, .int x3], [.int x3, .ref 1014, .int (S 69 ((S 63 12) + x3).toNatClampNeg)], S, 0)) rfl ?_
        refine ev_gd (c1 := (52, [.ref 63, .ref 1014, .int x2, .int x3], [.int ((mStr.getD 14 []).getD x3.toNatClampNeg 0), .int (S 69 ((S 63 12) + x3).toNatClampNeg)], S, 0)) hf rfl rfl (fun hf => ?_)
        refine ev_if (c1 := (59, [.ref 63, .ref 1014, .int x2, .int x3], [], S, 0)) (c2 := (55, [.ref 63, .ref 1014, .int x2, .int x3], [], S, 0)) hf rfl rfl (fun _ hf => ?_) (fun _ hf => ?_)
        · exact ev_sts 1 (c2 := (60, [.ref 63, .ref 1014, mK, .int x3], [.int ((0 : Int32))], S, 0)) rfl (f_X10_isWord_b60_ok_1014 (fun h9 => ih h9) hf)
        · exact ev_sts 2 (c2 := (60, [.ref 63, .ref 1014, mK, .int x3], [.int ((1 : Int32))], S, 0)) rfl (f_X10_isWord_b60_ok_1014 (fun h9 => ih h9) hf)
theorem f_X10_isWord_b21_ok_1014 {d F : Nat} {t0 : Int32} {S : mS} {r : mR} (hf : f_X10_isWord_b21 F 14 t0 S = some r) : Ev (d) Mx179 (21, [.ref 63, .ref 1014, mK, mK], [.int t0], S, 0) r := by
  unfold f_X10_isWord_b21 at hf
  exact ev_sts 3 (c2 := (24, [.ref 63, .ref 1014, .int t0, .int ((0 : Int32))], [], S, 0)) rfl (f_X10_isWord_b24_ok_1014 _ hf)
theorem f_X10_isWord_ok_1014 {d F : Nat} {S : mS} {r : mR} (hf : f_X10_isWord F 14 S = some r) : Ev (d) Mx179 (entry Mx179 [.ref 63, .ref 1014] S) r := by
  unfold f_X10_isWord at hf
  refine ev_sts 7 (c2 := (13, [.ref 63, .ref 1014, mK, mK], [.int (Int32.ofNat (mStr.getD 14 []).length), .int ((S 63 10) - (S 63 12))], S, 0)) rfl ?_
  refine ev_if (c1 := (20, [.ref 63, .ref 1014, mK, mK], [], S, 0)) (c2 := (16, [.ref 63, .ref 1014, mK, mK], [], S, 0)) hf rfl rfl (fun _ hf => ?_) (fun _ hf => ?_)
  · exact ev_sts 1 (c2 := (21, [.ref 63, .ref 1014, mK, mK], [.int ((0 : Int32))], S, 0)) rfl (f_X10_isWord_b21_ok_1014 hf)
  · exact ev_sts 2 (c2 := (21, [.ref 63, .ref 1014, mK, mK], [.int ((1 : Int32))], S, 0)) rfl (f_X10_isWord_b21_ok_1014 hf)
theorem f_X10_isWord_b67_ok_1013 {d F : Nat} {x2 : Int32} {S : mS} {r : mR} (hf : f_X10_isWord_b67 F 13 x2 S = some r) : Ev (d) Mx179 (67, [mK, mK, .int x2, mK], [], S, 0) r := by
  unfold f_X10_isWord_b67 at hf
  refine ev_sts 1 (c2 := (68, [mK, mK, .int x2, mK], [.int x2], S, 0)) rfl ?_
  exact ev_ret hf rfl rfl
theorem f_X10_isWord_b60_ok_1013 {d F : Nat} {K24 : Int32 → Int32 → mS → Option mR} (hK24 : ∀ {x2 : Int32} {x3 : Int32} {S : mS} {r : mR}, K24 x2 x3 S = some r → Ev (d) Mx179 (24, [.ref 63, .ref 1013, .int x2, .int x3], [], S, 0) r) {x3 : Int32} {t0 : Int32} {S : mS} {r : mR} (hf : f_X10_isWord_b60 K24 F 13 x3 t0 S = some r) : Ev (d) Mx179 (60, [.ref 63, .ref 1013, mK, .int x3], [.int t0], S, 0) r := by
  unfold f_X10_isWord_b60 at hf
  exact ev_sts 3 (c2 := (24, [.ref 63, .ref 1013, .int t0, .int (x3 + (1 : Int32))], [], S, 0)) rfl (hK24 hf)
theorem f_X10_isWord_b24_ok_1013 {d F : Nat} : ∀ (n : Nat) {x2 : Int32} {x3 : Int32} {S : mS} {r : mR}, f_X10_isWord_b24 F 13 n x2 x3 S = some r → Ev (d) Mx179 (24, [.ref 63, .ref 1013, .int x2, .int x3], [], S, 0) r := by
  intro n
  induction n with
  | zero => intro x2 x3 S r hf; cases hf
  | succ n ih =>
    intro x2 x3 S r hf
    rw [f_X10_isWord_b24] at hf
    refine ev_sts 1 (c2 := (25, [.ref 63, .ref 1013, .int x2, .int x3], [.int x2], S, 0)) rfl ?_
    refine ev_if (c1 := (67, [mK, mK, .int x2, mK], [], S, 0)) (c2 := (28, [.ref 63, .ref 1013, .int x2, .int x3], [], S, 0)) hf rfl rfl (fun _ hf => ?_) (fun _ hf => ?_)
    · exact f_X10_isWord_b67_ok_1013 hf
    · refine ev_sts 3 (c2 := (33, [.ref 63, .ref 1013, .int x2, .int x3], [.int (Int32.ofNat (mStr.getD 13 []).length), .int x3], S, 0)) rfl ?_
      refine ev_if (c1 := (67, [mK, mK, .int x2, mK], [], S, 0)) (c2 := (36, [.ref 63, .ref 1013, .int x2, .int x3], [], S, 0)) hf rfl rfl (fun _ hf => ?_) (fun _ hf => ?_)
      · exact f_X10_isWord_b67_ok_1013 hf
      · refine ev_sts 6 (c2 := (46, [.ref 63, .ref 1013, .int x2, .int x3], [.int ((S 63 12) + x3), .ref 69], S, 0)) rfl ?_
        refine ev_gd (c1 := (47, [.ref 63, .ref 1013, .int x2, .int x3], [.int (S 69 ((S 63 12) + x3).toNatClampNeg)], S, 0)) hf rfl rfl (fun hf => ?_)
        refine ev_sts 2 (c2 := (49, [.ref 63, .ref 1013, .int x2, .int x3], [.int x3, .ref 1013, .int (S 69 ((S 63 12) + x3).toNatClampNeg)], S, 0)) rfl ?_
        refine ev_gd (c1 := (52, [.ref 63, .ref 1013, .int x2, .int x3], [.int ((mStr.getD 13 []).getD x3.toNatClampNeg 0), .int (S 69 ((S 63 12) + x3).toNatClampNeg)], S, 0)) hf rfl rfl (fun hf => ?_)
        refine ev_if (c1 := (59, [.ref 63, .ref 1013, .int x2, .int x3], [], S, 0)) (c2 := (55, [.ref 63, .ref 1013, .int x2, .int x3], [], S, 0)) hf rfl rfl (fun _ hf => ?_) (fun _ hf => ?_)
        · exact ev_sts 1 (c2 := (60, [.ref 63, .ref 1013, mK, .int x3], [.int ((0 : Int32))], S, 0)) rfl (f_X10_isWord_b60_ok_1013 (fun h9 => ih h9) hf)
        · exact ev_sts 2 (c2 := (60, [.ref 63, .ref 1013, mK, .int x3], [.int ((1 : Int32))], S, 0)) rfl (f_X10_isWord_b60_ok_1013 (fun h9 => ih h9) hf)
theorem f_X10_isWord_b21_ok_1013 {d F : Nat} {t0 : Int32} {S : mS} {r : mR} (hf : f_X10_isWord_b21 F 13 t0 S = some r) : Ev (d) Mx179 (21, [.ref 63, .ref 1013, mK, mK], [.int t0], S, 0) r := by
  unfold f_X10_isWord_b21 at hf
  exact ev_sts 3 (c2 := (24, [.ref 63, .ref 1013, .int t0, .int ((0 : Int32))], [], S, 0)) rfl (f_X10_isWord_b24_ok_1013 _ hf)
theorem f_X10_isWord_ok_1013 {d F : Nat} {S : mS} {r : mR} (hf : f_X10_isWord F 13 S = some r) : Ev (d) Mx179 (entry Mx179 [.ref 63, .ref 1013] S) r := by
  unfold f_X10_isWord at hf
  refine ev_sts 7 (c2 := (13, [.ref 63, .ref 1013, mK, mK], [.int (Int32.ofNat (mStr.getD 13 []).length), .int ((S 63 10) - (S 63 12))], S, 0)) rfl ?_
  refine ev_if (c1 := (20, [.ref 63, .ref 1013, mK, mK], [], S, 0)) (c2 := (16, [.ref 63, .ref 1013, mK, mK], [], S, 0)) hf rfl rfl (fun _ hf => ?_) (fun _ hf => ?_)
  · exact ev_sts 1 (c2 := (21, [.ref 63, .ref 1013, mK, mK], [.int ((0 : Int32))], S, 0)) rfl (f_X10_isWord_b21_ok_1013 hf)
  · exact ev_sts 2 (c2 := (21, [.ref 63, .ref 1013, mK, mK], [.int ((1 : Int32))], S, 0)) rfl (f_X10_isWord_b21_ok_1013 hf)
theorem f_X10_isWord_b67_ok_1012 {d F : Nat} {x2 : Int32} {S : mS} {r : mR} (hf : f_X10_isWord_b67 F 12 x2 S = some r) : Ev (d) Mx179 (67, [mK, mK, .int x2, mK], [], S, 0) r := by
  unfold f_X10_isWord_b67 at hf
  refine ev_sts 1 (c2 := (68, [mK, mK, .int x2, mK], [.int x2], S, 0)) rfl ?_
  exact ev_ret hf rfl rfl
theorem f_X10_isWord_b60_ok_1012 {d F : Nat} {K24 : Int32 → Int32 → mS → Option mR} (hK24 : ∀ {x2 : Int32} {x3 : Int32} {S : mS} {r : mR}, K24 x2 x3 S = some r → Ev (d) Mx179 (24, [.ref 63, .ref 1012, .int x2, .int x3], [], S, 0) r) {x3 : Int32} {t0 : Int32} {S : mS} {r : mR} (hf : f_X10_isWord_b60 K24 F 12 x3 t0 S = some r) : Ev (d) Mx179 (60, [.ref 63, .ref 1012, mK, .int x3], [.int t0], S, 0) r := by
  unfold f_X10_isWord_b60 at hf
  exact ev_sts 3 (c2 := (24, [.ref 63, .ref 1012, .int t0, .int (x3 + (1 : Int32))], [], S, 0)) rfl (hK24 hf)
theorem f_X10_isWord_b24_ok_1012 {d F : Nat} : ∀ (n : Nat) {x2 : Int32} {x3 : Int32} {S : mS} {r : mR}, f_X10_isWord_b24 F 12 n x2 x3 S = some r → Ev (d) Mx179 (24, [.ref 63, .ref 1012, .int x2, .int x3], [], S, 0) r := by
  intro n
  induction n with
  | zero => intro x2 x3 S r hf; cases hf
  | succ n ih =>
    intro x2 x3 S r hf
    rw [f_X10_isWord_b24] at hf
    refine ev_sts 1 (c2 := (25, [.ref 63, .ref 1012, .int x2, .int x3], [.int x2], S, 0)) rfl ?_
    refine ev_if (c1 := (67, [mK, mK, .int x2, mK], [], S, 0)) (c2 := (28, [.ref 63, .ref 1012, .int x2, .int x3], [], S, 0)) hf rfl rfl (fun _ hf => ?_) (fun _ hf => ?_)
    · exact f_X10_isWord_b67_ok_1012 hf
    · refine ev_sts 3 (c2 := (33, [.ref 63, .ref 1012, .int x2, .int x3], [.int (Int32.ofNat (mStr.getD 12 []).length), .int x3], S, 0)) rfl ?_
      refine ev_if (c1 := (67, [mK, mK, .int x2, mK], [], S, 0)) (c2 := (36, [.ref 63, .ref 1012, .int x2, .int x3], [], S, 0)) hf rfl rfl (fun _ hf => ?_) (fun _ hf => ?_)
      · exact f_X10_isWord_b67_ok_1012 hf
      · refine ev_sts 6 (c2 := (46, [.ref 63, .ref 1012, .int x2, .int x3], [.int ((S 63 12) + x3), .ref 69], S, 0)) rfl ?_
        refine ev_gd (c1 := (47, [.ref 63, .ref 1012, .int x2, .int x3], [.int (S 69 ((S 63 12) + x3).toNatClampNeg)], S, 0)) hf rfl rfl (fun hf => ?_)
        refine ev_sts 2 (c2 := (49, [.ref 63, .ref 1012, .int x2, .int x3], [.int x3, .ref 1012, .int (S 69 ((S 63 12) + x3).toNatClampNeg)], S, 0)) rfl ?_
        refine ev_gd (c1 := (52, [.ref 63, .ref 1012, .int x2, .int x3], [.int ((mStr.getD 12 []).getD x3.toNatClampNeg 0), .int (S 69 ((S 63 12) + x3).toNatClampNeg)], S, 0)) hf rfl rfl (fun hf => ?_)
        refine ev_if (c1 := (59, [.ref 63, .ref 1012, .int x2, .int x3], [], S, 0)) (c2 := (55, [.ref 63, .ref 1012, .int x2, .int x3], [], S, 0)) hf rfl rfl (fun _ hf => ?_) (fun _ hf => ?_)
        · exact ev_sts 1 (c2 := (60, [.ref 63, .ref 1012, mK, .int x3], [.int ((0 : Int32))], S, 0)) rfl (f_X10_isWord_b60_ok_1012 (fun h9 => ih h9) hf)
        · exact ev_sts 2 (c2 := (60, [.ref 63, .ref 1012, mK, .int x3], [.int ((1 : Int32))], S, 0)) rfl (f_X10_isWord_b60_ok_1012 (fun h9 => ih h9) hf)
theorem f_X10_isWord_b21_ok_1012 {d F : Nat} {t0 : Int32} {S : mS} {r : mR} (hf : f_X10_isWord_b21 F 12 t0 S = some r) : Ev (d) Mx179 (21, [.ref 63, .ref 1012, mK, mK], [.int t0], S, 0) r := by
  unfold f_X10_isWord_b21 at hf
  exact ev_sts 3 (c2 := (24, [.ref 63, .ref 1012, .int t0, .int ((0 : Int32))], [], S, 0)) rfl (f_X10_isWord_b24_ok_1012 _ hf)
theorem f_X10_isWord_ok_1012 {d F : Nat} {S : mS} {r : mR} (hf : f_X10_isWord F 12 S = some r) : Ev (d) Mx179 (entry Mx179 [.ref 63, .ref 1012] S) r := by
  unfold f_X10_isWord at hf
  refine ev_sts 7 (c2 := (13, [.ref 63, .ref 1012, mK, mK], [.int (Int32.ofNat (mStr.getD 12 []).length), .int ((S 63 10) - (S 63 12))], S, 0)) rfl ?_
  refine ev_if (c1 := (20, [.ref 63, .ref 1012, mK, mK], [], S, 0)) (c2 := (16, [.ref 63, .ref 1012, mK, mK], [], S, 0)) hf rfl rfl (fun _ hf => ?_) (fun _ hf => ?_)
  · exact ev_sts 1 (c2 := (21, [.ref 63, .ref 1012, mK, mK], [.int ((0 : Int32))], S, 0)) rfl (f_X10_isWord_b21_ok_1012 hf)
  · exact ev_sts 2 (c2 := (21, [.ref 63, .ref 1012, mK, mK], [.int ((1 : Int32))], S, 0)) rfl (f_X10_isWord_b21_ok_1012 hf)
theorem f_X10_isWord_b67_ok_1011 {d F : Nat} {x2 : Int32} {S : mS} {r : mR} (hf : f_X10_isWord_b67 F 11 x2 S = some r) : Ev (d) Mx179 (67, [mK, mK, .int x2, mK], [], S, 0) r := by
  unfold f_X10_isWord_b67 at hf
  refine ev_sts 1 (c2 := (68, [mK, mK, .int x2, mK], [.int x2], S, 0)) rfl ?_
  exact ev_ret hf rfl rfl
theorem f_X10_isWord_b60_ok_1011 {d F : Nat} {K24 : Int32 → Int32 → mS → Option mR} (hK24 : ∀ {x2 : Int32} {x3 : Int32} {S : mS} {r : mR}, K24 x2 x3 S = some r → Ev (d) Mx179 (24, [.ref 63, .ref 1011, .int x2, .int x3], [], S, 0) r) {x3 : Int32} {t0 : Int32} {S : mS} {r : mR} (hf : f_X10_isWord_b60 K24 F 11 x3 t0 S = some r) : Ev (d) Mx179 (60, [.ref 63, .ref 1011, mK, .int x3], [.int t0], S, 0) r := by
  unfold f_X10_isWord_b60 at hf
  exact ev_sts 3 (c2 := (24, [.ref 63, .ref 1011, .int t0, .int (x3 + (1 : Int32))], [], S, 0)) rfl (hK24 hf)
theorem f_X10_isWord_b24_ok_1011 {d F : Nat} : ∀ (n : Nat) {x2 : Int32} {x3 : Int32} {S : mS} {r : mR}, f_X10_isWord_b24 F 11 n x2 x3 S = some r → Ev (d) Mx179 (24, [.ref 63, .ref 1011, .int x2, .int x3], [], S, 0) r := by
  intro n
  induction n with
  | zero => intro x2 x3 S r hf; cases hf
  | succ n ih =>
    intro x2 x3 S r hf
    rw [f_X10_isWord_b24] at hf
    refine ev_sts 1 (c2 := (25, [.ref 63, .ref 1011, .int x2, .int x3], [.int x2], S, 0)) rfl ?_
    refine ev_if (c1 := (67, [mK, mK, .int x2, mK], [], S, 0)) (c2 := (28, [.ref 63, .ref 1011, .int x2, .int x3], [], S, 0)) hf rfl rfl (fun _ hf => ?_) (fun _ hf => ?_)
    · exact f_X10_isWord_b67_ok_1011 hf
    · refine ev_sts 3 (c2 := (33, [.ref 63, .ref 1011, .int x2, .int x3], [.int (Int32.ofNat (mStr.getD 11 []).length), .int x3], S, 0)) rfl ?_
      refine ev_if (c1 := (67, [mK, mK, .int x2, mK], [], S, 0)) (c2 := (36, [.ref 63, .ref 1011, .int x2, .int x3], [], S, 0)) hf rfl rfl (fun _ hf => ?_) (fun _ hf => ?_)
      · exact f_X10_isWord_b67_ok_1011 hf
      · refine ev_sts 6 (c2 := (46, [.ref 63, .ref 1011, .int x2, .int x3], [.int ((S 63 12) + x3), .ref 69], S, 0)) rfl ?_
        refine ev_gd (c1 := (47, [.ref 63, .ref 1011, .int x2, .int x3], [.int (S 69 ((S 63 12) + x3).toNatClampNeg)], S, 0)) hf rfl rfl (fun hf => ?_)
        refine ev_sts 2 (c2 := (49, [.ref 63, .ref 1011, .int x2, .int x3], [.int x3, .ref 1011, .int (S 69 ((S 63 12) + x3).toNatClampNeg)], S, 0)) rfl ?_
        refine ev_gd (c1 := (52, [.ref 63, .ref 1011, .int x2, .int x3], [.int ((mStr.getD 11 []).getD x3.toNatClampNeg 0), .int (S 69 ((S 63 12) + x3).toNatClampNeg)], S, 0)) hf rfl rfl (fun hf => ?_)
        refine ev_if (c1 := (59, [.ref 63, .ref 1011, .int x2, .int x3], [], S, 0)) (c2 := (55, [.ref 63, .ref 1011, .int x2, .int x3], [], S, 0)) hf rfl rfl (fun _ hf => ?_) (fun _ hf => ?_)
        · exact ev_sts 1 (c2 := (60, [.ref 63, .ref 1011, mK, .int x3], [.int ((0 : Int32))], S, 0)) rfl (f_X10_isWord_b60_ok_1011 (fun h9 => ih h9) hf)
        · exact ev_sts 2 (c2 := (60, [.ref 63, .ref 1011, mK, .int x3], [.int ((1 : Int32))], S, 0)) rfl (f_X10_isWord_b60_ok_1011 (fun h9 => ih h9) hf)
theorem f_X10_isWord_b21_ok_1011 {d F : Nat} {t0 : Int32} {S : mS} {r : mR} (hf : f_X10_isWord_b21 F 11 t0 S = some r) : Ev (d) Mx179 (21, [.ref 63, .ref 1011, mK, mK], [.int t0], S, 0) r := by
  unfold f_X10_isWord_b21 at hf
  exact ev_sts 3 (c2 := (24, [.ref 63, .ref 1011, .int t0, .int ((0 : Int32))], [], S, 0)) rfl (f_X10_isWord_b24_ok_1011 _ hf)
theorem f_X10_isWord_ok_1011 {d F : Nat} {S : mS} {r : mR} (hf : f_X10_isWord F 11 S = some r) : Ev (d) Mx179 (entry Mx179 [.ref 63, .ref 1011] S) r := by
  unfold f_X10_isWord at hf
  refine ev_sts 7 (c2 := (13, [.ref 63, .ref 1011, mK, mK], [.int (Int32.ofNat (mStr.getD 11 []).length), .int ((S 63 10) - (S 63 12))], S, 0)) rfl ?_
  refine ev_if (c1 := (20, [.ref 63, .ref 1011, mK, mK], [], S, 0)) (c2 := (16, [.ref 63, .ref 1011, mK, mK], [], S, 0)) hf rfl rfl (fun _ hf => ?_) (fun _ hf => ?_)
  · exact ev_sts 1 (c2 := (21, [.ref 63, .ref 1011, mK, mK], [.int ((0 : Int32))], S, 0)) rfl (f_X10_isWord_b21_ok_1011 hf)
  · exact ev_sts 2 (c2 := (21, [.ref 63, .ref 1011, mK, mK], [.int ((1 : Int32))], S, 0)) rfl (f_X10_isWord_b21_ok_1011 hf)
def f_X10_isAt_b42 (t0 : Int32) (S : mS) : Option mR := some (.inl (some (.int (t0 &&& 1))), S)
def f_X10_isAt_b41 (S : mS) : Option mR := f_X10_isAt_b42 ((0 : Int32)) S
def f_X10_isAt (p1 : Int32) (p2 : Int32) (S : mS) : Option mR := (if (S 63 11) ≤ (S 63 10) then f_X10_isAt_b41 S else gd (inb (S 63 10) 400) ((if (S 69 (S 63 10).toNatClampNeg) < p1 then f_X10_isAt_b41 S else gd (inb (S 63 10) 400) ((if p2 < (S 69 (S 63 10).toNatClampNeg) then f_X10_isAt_b41 S else f_X10_isAt_b42 ((1 : Int32)) S)))))
theorem f_X10_isAt_b42_ok {d : Nat} {t0 : Int32} {S : mS} {r : mR} (hf : f_X10_isAt_b42 t0 S = some r) : Ev (d) Mx176 (42, [mK, mK, mK], [.int t0], S, 0) r := by
  unfold f_X10_isAt_b42 at hf
  exact ev_ret hf rfl rfl
theorem f_X10_isAt_b41_ok {d : Nat} {S : mS} {r : mR} (hf : f_X10_isAt_b41  S = some r) : Ev (d) Mx176 (41, [mK, mK, mK], [], S, 0) r := by
  unfold f_X10_isAt_b41 at hf
  exact ev_sts 1 (c2 := (42, [mK, mK, mK], [.int ((0 : Int32))], S, 0)) rfl (f_X10_isAt_b42_ok hf)
theorem f_X10_isAt_ok {d : Nat} {p1 : Int32} {p2 : Int32} {S : mS} {r : mR} (hf : f_X10_isAt p1 p2 S = some r) : Ev (d) Mx176 (entry Mx176 [.ref 63, .int p1, .int p2] S) r := by
  unfold f_X10_isAt at hf
  refine ev_sts 4 (c2 := (8, [.ref 63, .int p1, .int p2], [.int (S 63 11), .int (S 63 10)], S, 0)) rfl ?_
  refine ev_if (c1 := (41, [mK, mK, mK], [], S, 0)) (c2 := (11, [.ref 63, .int p1, .int p2], [], S, 0)) hf rfl rfl (fun _ hf => ?_) (fun _ hf => ?_)
  · exact f_X10_isAt_b41_ok hf
  · refine ev_sts 4 (c2 := (19, [.ref 63, .int p1, .int p2], [.int (S 63 10), .ref 69], S, 0)) rfl ?_
    refine ev_gd (c1 := (20, [.ref 63, .int p1, .int p2], [.int (S 69 (S 63 10).toNatClampNeg)], S, 0)) hf rfl rfl (fun hf => ?_)
    refine ev_sts 1 (c2 := (21, [.ref 63, .int p1, .int p2], [.int p1, .int (S 69 (S 63 10).toNatClampNeg)], S, 0)) rfl ?_
    refine ev_if (c1 := (41, [mK, mK, mK], [], S, 0)) (c2 := (24, [.ref 63, .int p1, .int p2], [], S, 0)) hf rfl rfl (fun _ hf => ?_) (fun _ hf => ?_)
    · exact f_X10_isAt_b41_ok hf
    · refine ev_sts 4 (c2 := (32, [.ref 63, .int p1, .int p2], [.int (S 63 10), .ref 69], S, 0)) rfl ?_
      refine ev_gd (c1 := (33, [.ref 63, .int p1, .int p2], [.int (S 69 (S 63 10).toNatClampNeg)], S, 0)) hf rfl rfl (fun hf => ?_)
      refine ev_sts 1 (c2 := (34, [.ref 63, .int p1, .int p2], [.int p2, .int (S 69 (S 63 10).toNatClampNeg)], S, 0)) rfl ?_
      refine ev_if (c1 := (41, [mK, mK, mK], [], S, 0)) (c2 := (37, [.ref 63, .int p1, .int p2], [], S, 0)) hf rfl rfl (fun _ hf => ?_) (fun _ hf => ?_)
      · exact f_X10_isAt_b41_ok hf
      · exact ev_sts 2 (c2 := (42, [mK, mK, mK], [.int ((1 : Int32))], S, 0)) rfl (f_X10_isAt_b42_ok hf)
