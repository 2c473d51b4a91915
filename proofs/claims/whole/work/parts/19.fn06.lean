def f_X9_load (p1 : Int32) (p2 : Int32) (S : mS) : Option mR := bV (f_X9_needClimber p1 S) (fun S1 => bV (f_X9_needLedge p2 S1) (fun S2 => bI0 (f_X7_loadOf 24 p1 p2 S2) (fun r4 S3 => some (.inl (some (.int r4)), S3))))
theorem f_X9_load_ok {d : Nat} {p1 : Int32} {p2 : Int32} {S : mS} {r : mR} (hf : f_X9_load p1 p2 S = some r) : Ev (d + 3) Mx97 (entry Mx97 [.ref 0, .int p1, .int p2] S) r := by
  unfold f_X9_load at hf
  refine ev_sts 2 (c2 := (2, [.ref 0, .int p1, .int p2], [.int p1, .ref 0], S, 0)) rfl ?_
  refine ev_bV (d := d + 2) (M' := Mx141) (ct := (5, [.ref 0, .int p1, .int p2], [], S, 1)) hf rfl rfl rfl rfl (by decide) (fun r9 h9 => f_X9_needClimber_ok (d := d + 1) h9) (fun S1 hf => ?_)
  show Ev (d + 3) Mx97 (5, [.ref 0, .int p1, .int p2], [], S1, 1) r
  refine ev_sts 2 (c2 := (7, [.ref 0, .int p1, .int p2], [.int p2, .ref 0], S1, 1)) rfl ?_
  refine ev_bV (d := d + 2) (M' := Mx139) (ct := (10, [.ref 0, .int p1, .int p2], [], S1, 2)) hf rfl rfl rfl rfl (by decide) (fun r9 h9 => f_X9_needLedge_ok (d := d + 1) h9) (fun S2 hf => ?_)
  show Ev (d + 3) Mx97 (10, [.ref 0, .int p1, .int p2], [], S2, 2) r
  refine ev_sts 6 (c2 := (20, [.ref 0, .int p1, .int p2], [.int p2, .int p1, .ref 24, .ref 32], S2, 2)) rfl ?_
  refine ev_bI0 (d := d + 2) (M' := Mx61) (ct := (23, [.ref 0, .int p1, .int p2], [], S2, 2)) hf rfl rfl rfl rfl (fun r9 h9 => f_X7_loadOf_ok_24 (d := d) h9) (fun r4 S3 hf => ?_)
  show Ev (d + 3) Mx97 (23, [.ref 0, .int p1, .int p2], [.int r4], S3, 2) r
  exact ev_ret hf rfl rfl
def f_X9_log_b9 (S : mS) : Option mR := some (.inr 4, S)
def f_X9_log_b49 (t0 : Int32) (S : mS) : Option mR := some (.inl (some (.int t0)), S)
def f_X9_log_b36 (S : mS) : Option mR := f_X9_log_b49 ((-1 : Int32)) S
def f_X9_log (p1 : Int32) (p2 : Int32) (S : mS) : Option mR := (if p2 < 0 then f_X9_log_b9 S else (if p2 ≤ ((5 : Int32)) then (if p1 < 0 then f_X9_log_b36 S else bI0 (f_X0_at 24 ((15 : Int32)) S) (fun r2 S1 => (if p1 < r2 then bI0 (f_X0_ofRow p1 p2 S1) (fun r4 S3 => f_X9_log_b49 r4 S3) else f_X9_log_b36 S1))) else f_X9_log_b9 S))
theorem f_X9_log_b9_ok {d : Nat} {S : mS} {r : mR} (hf : f_X9_log_b9  S = some r) : Ev (d + 2) Mx133 (9, [mK, mK, mK], [], S, 0) r := by
  unfold f_X9_log_b9 at hf
  exact ev_ret hf rfl rfl
theorem f_X9_log_b49_ok {d : Nat} {t0 : Int32} {S : mS} {r : mR} (hf : f_X9_log_b49 t0 S = some r) : Ev (d + 2) Mx133 (49, [mK, mK, mK], [.int t0], S, 0) r := by
  unfold f_X9_log_b49 at hf
  exact ev_ret hf rfl rfl
theorem f_X9_log_b36_ok {d : Nat} {S : mS} {r : mR} (hf : f_X9_log_b36  S = some r) : Ev (d + 2) Mx133 (36, [mK, mK, mK], [], S, 0) r := by
  unfold f_X9_log_b36 at hf
  exact ev_sts 2 (c2 := (49, [mK, mK, mK], [.int ((-1 : Int32))], S, 0)) rfl (f_X9_log_b49_ok hf)
theorem f_X9_log_ok {d : Nat} {p1 : Int32} {p2 : Int32} {S : mS} {r : mR} (hf : f_X9_log p1 p2 S = some r) : Ev (d + 2) Mx133 (entry Mx133 [.ref 0, .int p1, .int p2] S) r := by
  unfold f_X9_log at hf
  refine ev_sts 1 (c2 := (1, [.ref 0, .int p1, .int p2], [.int p2], S, 0)) rfl ?_
  refine ev_if (c1 := (9, [mK, mK, mK], [], S, 0)) (c2 := (4, [.ref 0, .int p1, .int p2], [], S, 0)) hf rfl rfl (fun _ hf => ?_) (fun _ hf => ?_)
  · exact f_X9_log_b9_ok hf
  · refine ev_sts 2 (c2 := (6, [.ref 0, .int p1, .int p2], [.int ((5 : Int32)), .int p2], S, 0)) rfl ?_
    refine ev_if (c1 := (19, [.ref 0, .int p1, .int p2], [], S, 0)) (c2 := (9, [mK, mK, mK], [], S, 0)) hf rfl rfl (fun _ hf => ?_) (fun _ hf => ?_)
    · refine ev_sts 1 (c2 := (20, [.ref 0, .int p1, .int p2], [.int p1], S, 0)) rfl ?_
      refine ev_if (c1 := (36, [mK, mK, mK], [], S, 0)) (c2 := (23, [.ref 0, .int p1, .int p2], [], S, 0)) hf rfl rfl (fun _ hf => ?_) (fun _ hf => ?_)
      · exact f_X9_log_b36_ok hf
      · refine ev_sts 4 (c2 := (30, [.ref 0, .int p1, .int p2], [.int ((15 : Int32)), .ref 24, .int p1], S, 0)) rfl ?_
        refine ev_bI0 (d := d + 1) (M' := Mx1) (ct := (33, [.ref 0, .int p1, .int p2], [.int p1], S, 0)) hf rfl rfl rfl rfl (fun r9 h9 => f_X0_at_ok_24 (d := d + 1) h9) (fun r2 S1 hf => ?_)
        show Ev (d + 2) Mx133 (33, [.ref 0, .int p1, .int p2], [.int r2, .int p1], S1, 0) r
        refine ev_if (c1 := (40, [.ref 0, .int p1, .int p2], [], S1, 0)) (c2 := (36, [mK, mK, mK], [], S1, 0)) hf rfl rfl (fun _ hf => ?_) (fun _ hf => ?_)
        · refine ev_sts 4 (c2 := (46, [.ref 0, .int p1, .int p2], [.int p2, .int p1, .ref 24], S1, 0)) rfl ?_
          refine ev_bI0 (d := d + 1) (M' := Mx10) (ct := (49, [mK, mK, mK], [], S1, 0)) hf rfl rfl rfl rfl (fun r9 h9 => f_X0_ofRow_ok (d := d) h9) (fun r4 S3 hf => ?_)
          show Ev (d + 2) Mx133 (49, [mK, mK, mK], [.int r4], S3, 0) r
          exact f_X9_log_b49_ok hf
        · exact f_X9_log_b36_ok hf
    · exact f_X9_log_b9_ok hf
def f_X6_greedy_b110 (K6 : Int32 → Int32 → Int32 → mS → Option mR) (F : Nat) (x1 : Int32) (x2 : Int32) (x3 : Int32) (S : mS) : Option mR := K6 x1 x2 (x3 + (1 : Int32)) S
def f_X6_greedy_b81 (K6 : Int32 → Int32 → Int32 → mS → Option mR) (K20 : Int32 → Int32 → Int32 → Int32 → Int32 → mS → Option mR) (F : Nat) (x1 : Int32) (x2 : Int32) (x3 : Int32) (x4 : Int32) (x5 : Int32) (S : mS) : Option mR := K20 x1 x2 x3 x4 (x5 + (1 : Int32)) S
def f_X6_greedy_b61 (K6 : Int32 → Int32 → Int32 → mS → Option mR) (K20 : Int32 → Int32 → Int32 → Int32 → Int32 → mS → Option mR) (F : Nat) (x1 : Int32) (x2 : Int32) (x3 : Int32) (x4 : Int32) (x5 : Int32) (t0 : Int32) (S : mS) : Option mR := (if t0 = 0 then f_X6_greedy_b81 K6 K20 F x1 x2 x3 x4 x5 S else bI0 (f_X9_hasBit x1 x5 S) (fun r10 S9 => (if ¬ r10 = 0 then f_X6_greedy_b81 K6 K20 F x1 x2 x3 x4 x5 S9 else f_X6_greedy_b81 K6 K20 F x1 x2 x3 x5 x5 S9)))
def f_X6_greedy_b53 (K6 : Int32 → Int32 → Int32 → mS → Option mR) (K20 : Int32 → Int32 → Int32 → Int32 → Int32 → mS → Option mR) (F : Nat) (x1 : Int32) (x2 : Int32) (x3 : Int32) (x4 : Int32) (x5 : Int32) (t1 : Int32) (t0 : Int32) (S : mS) : Option mR := (if t0 ≤ t1 then f_X6_greedy_b61 K6 K20 F x1 x2 x3 x4 x5 ((0 : Int32)) S else f_X6_greedy_b61 K6 K20 F x1 x2 x3 x4 x5 ((1 : Int32)) S)
def f_X6_greedy_b20 (K6 : Int32 → Int32 → Int32 → mS → Option mR) (F : Nat) : Nat → Int32 → Int32 → Int32 → Int32 → Int32 → mS → Option mR
  | 0, _, _, _, _, _, _ => none
  | n + 1, x1, x2, x3, x4, x5, S => (if (S 33 5) ≤ x5 then (if x4 = ((-1 : Int32)) then f_X6_greedy_b110 K6 F x1 x2 x3 S else bnd (x1 ||| (((1 : Int32)) <<< (x4 &&& 31)) : Int32) (fun y1 => bI0 (f_X6_worthOf x3 x4 S) (fun r3 S2 => bnd (x2 + r3 : Int32) (fun y4 => f_X6_greedy_b110 K6 F y1 y4 x3 S2)))) else bI0 (f_X6_worthOf x3 x5 S) (fun r6 S5 => (if ¬ x4 = ((-1 : Int32)) then bI0 (f_X6_worthOf x3 x4 S5) (fun r8 S7 => f_X6_greedy_b53 K6 (fun x1 x2 x3 x4 x5 S => f_X6_greedy_b20 K6 F n x1 x2 x3 x4 x5 S) F x1 x2 x3 x4 x5 r8 r6 S7) else f_X6_greedy_b53 K6 (fun x1 x2 x3 x4 x5 S => f_X6_greedy_b20 K6 F n x1 x2 x3 x4 x5 S) F x1 x2 x3 x4 x5 ((0 : Int32)) r6 S5)))
def f_X6_greedy_b6 (F : Nat) : Nat → Int32 → Int32 → Int32 → mS → Option mR
  | 0, _, _, _, _ => none
  | n + 1, x1, x2, x3, S => (if (S 33 4) ≤ x3 then some (.inl (some (.int x2)), S) else f_X6_greedy_b20 (fun x1 x2 x3 S => f_X6_greedy_b6 F n x1 x2 x3 S) F F x1 x2 x3 ((-1 : Int32)) ((0 : Int32)) S)
def f_X6_greedy (F : Nat) (S : mS) : Option mR := f_X6_greedy_b6 F F ((0 : Int32)) ((0 : Int32)) ((0 : Int32)) S
theorem f_X6_greedy_b110_ok {d F : Nat} {K6 : Int32 → Int32 → Int32 → mS → Option mR} (hK6 : ∀ {x1 : Int32} {x2 : Int32} {x3 : Int32} {S : mS} {r : mR}, K6 x1 x2 x3 S = some r → Ev (d + 1) Mx51 (6, [.ref 33, .int x1, .int x2, .int x3, mK, mK, mK], [], S, 0) r) {x1 : Int32} {x2 : Int32} {x3 : Int32} {S : mS} {r : mR} (hf : f_X6_greedy_b110 K6 F x1 x2 x3 S = some r) : Ev (d + 1) Mx51 (110, [.ref 33, .int x1, .int x2, .int x3, mK, mK, mK], [], S, 0) r := by
  unfold f_X6_greedy_b110 at hf
  exact ev_sts 2 (c2 := (6, [.ref 33, .int x1, .int x2, .int (x3 + (1 : Int32)), mK, mK, mK], [], S, 0)) rfl (hK6 hf)
theorem f_X6_greedy_b81_ok {d F : Nat} {K6 : Int32 → Int32 → Int32 → mS → Option mR} (hK6 : ∀ {x1 : Int32} {x2 : Int32} {x3 : Int32} {S : mS} {r : mR}, K6 x1 x2 x3 S = some r → Ev (d + 1) Mx51 (6, [.ref 33, .int x1, .int x2, .int x3, mK, mK, mK], [], S, 0) r) {K20 : Int32 → Int32 → Int32 → Int32 → Int32 → mS → Option mR} (hK20 : ∀ {x1 : Int32} {x2 : Int32} {x3 : Int32} {x4 : Int32} {x5 : Int32} {S : mS} {r : mR}, K20 x1 x2 x3 x4 x5 S = some r → Ev (d + 1) Mx51 (20, [.ref 33, .int x1, .int x2, .int x3, .int x4, .int x5, mK], [], S, 0) r) {x1 : Int32} {x2 : Int32} {x3 : Int32} {x4 : Int32} {x5 : Int32} {S : mS} {r : mR} (hf : f_X6_greedy_b81 K6 K20 F x1 x2 x3 x4 x5 S = some r) : Ev (d + 1) Mx51 (81, [.ref 33, .int x1, .int x2, .int x3, .int x4, .int x5, mK], [], S, 0) r := by
  unfold f_X6_greedy_b81 at hf
  exact ev_sts 2 (c2 := (20, [.ref 33, .int x1, .int x2, .int x3, .int x4, .int (x5 + (1 : Int32)), mK], [], S, 0)) rfl (hK20 hf)
theorem f_X6_greedy_b61_ok {d F : Nat} {K6 : Int32 → Int32 → Int32 → mS → Option mR} (hK6 : ∀ {x1 : Int32} {x2 : Int32} {x3 : Int32} {S : mS} {r : mR}, K6 x1 x2 x3 S = some r → Ev (d + 1) Mx51 (6, [.ref 33, .int x1, .int x2, .int x3, mK, mK, mK], [], S, 0) r) {K20 : Int32 → Int32 → Int32 → Int32 → Int32 → mS → Option mR} (hK20 : ∀ {x1 : Int32} {x2 : Int32} {x3 : Int32} {x4 : Int32} {x5 : Int32} {S : mS} {r : mR}, K20 x1 x2 x3 x4 x5 S = some r → Ev (d + 1) Mx51 (20, [.ref 33, .int x1, .int x2, .int x3, .int x4, .int x5, mK], [], S, 0) r) {x1 : Int32} {x2 : Int32} {x3 : Int32} {x4 : Int32} {x5 : Int32} {t0 : Int32} {S : mS} {r : mR} (hf : f_X6_greedy_b61 K6 K20 F x1 x2 x3 x4 x5 t0 S = some r) : Ev (d + 1) Mx51 (61, [.ref 33, .int x1, .int x2, .int x3, .int x4, .int x5, mK], [.int t0], S, 0) r := by
  unfold f_X6_greedy_b61 at hf
  refine ev_sts 2 (c2 := (65, [.ref 33, .int x1, .int x2, .int x3, .int x4, .int x5, .int t0], [.int t0], S, 0)) rfl ?_
  refine ev_if (c1 := (81, [.ref 33, .int x1, .int x2, .int x3, .int x4, .int x5, mK], [], S, 0)) (c2 := (68, [.ref 33, .int x1, .int x2, .int x3, .int x4, .int x5, .int t0], [], S, 0)) hf rfl rfl (fun _ hf => ?_) (fun _ hf => ?_)
  · exact f_X6_greedy_b81_ok hK6 hK20 hf
  · refine ev_sts 2 (c2 := (71, [.ref 33, .int x1, .int x2, .int x3, .int x4, .int x5, .int t0], [.int x5, .int x1], S, 0)) rfl ?_
    refine ev_bI0 (d := d) (M' := Mx143) (ct := (74, [.ref 33, .int x1, .int x2, .int x3, .int x4, .int x5, .int t0], [], S, 0)) hf rfl rfl rfl rfl (fun r9 h9 => f_X9_hasBit_ok (d := d) h9) (fun r10 S9 hf => ?_)
    show Ev (d + 1) Mx51 (74, [.ref 33, .int x1, .int x2, .int x3, .int x4, .int x5, .int t0], [.int r10], S9, 0) r
    refine ev_if (c1 := (81, [.ref 33, .int x1, .int x2, .int x3, .int x4, .int x5, mK], [], S9, 0)) (c2 := (77, [.ref 33, .int x1, .int x2, .int x3, .int x4, .int x5, .int t0], [], S9, 0)) hf rfl rfl (fun _ hf => ?_) (fun _ hf => ?_)
    · exact f_X6_greedy_b81_ok hK6 hK20 hf
    · exact ev_sts 2 (c2 := (81, [.ref 33, .int x1, .int x2, .int x3, .int x5, .int x5, mK], [], S9, 0)) rfl (f_X6_greedy_b81_ok hK6 hK20 hf)
theorem f_X6_greedy_b53_ok {d F : Nat} {K6 : Int32 → Int32 → Int32 → mS → Option mR} (hK6 : ∀ {x1 : Int32} {x2 : Int32} {x3 : Int32} {S : mS} {r : mR}, K6 x1 x2 x3 S = some r → Ev (d + 1) Mx51 (6, [.ref 33, .int x1, .int x2, .int x3, mK, mK, mK], [], S, 0) r) {K20 : Int32 → Int32 → Int32 → Int32 → Int32 → mS → Option mR} (hK20 : ∀ {x1 : Int32} {x2 : Int32} {x3 : Int32} {x4 : Int32} {x5 : Int32} {S : mS} {r : mR}, K20 x1 x2 x3 x4 x5 S = some r → Ev (d + 1) Mx51 (20, [.ref 33, .int x1, .int x2, .int x3, .int x4, .int x5, mK], [], S, 0) r) {x1 : Int32} {x2 : Int32} {x3 : Int32} {x4 : Int32} {x5 : Int32} {t1 : Int32} {t0 : Int32} {S : mS} {r : mR} (hf : f_X6_greedy_b53 K6 K20 F x1 x2 x3 x4 x5 t1 t0 S = some r) : Ev (d + 1) Mx51 (53, [.ref 33, .int x1, .int x2, .int x3, .int x4, .int x5, mK], [.int t1, .int t0], S, 0) r := by
  unfold f_X6_greedy_b53 at hf
  refine ev_if (c1 := (60, [.ref 33, .int x1, .int x2, .int x3, .int x4, .int x5, mK], [], S, 0)) (c2 := (56, [.ref 33, .int x1, .int x2, .int x3, .int x4, .int x5, mK], [], S, 0)) hf rfl rfl (fun _ hf => ?_) (fun _ hf => ?_)
  · exact ev_sts 1 (c2 := (61, [.ref 33, .int x1, .int x2, .int x3, .int x4, .int x5, mK], [.int ((0 : Int32))], S, 0)) rfl (f_X6_greedy_b61_ok hK6 hK20 hf)
  · exact ev_sts 2 (c2 := (61, [.ref 33, .int x1, .int x2, .int x3, .int x4, .int x5, mK], [.int ((1 : Int32))], S, 0)) rfl (f_X6_greedy_b61_ok hK6 hK20 hf)
theorem f_X6_greedy_b20_ok {d F : Nat} {K6 : Int32 → Int32 → Int32 → mS → Option mR} (hK6 : ∀ {x1 : Int32} {x2 : Int32} {x3 : Int32} {S : mS} {r : mR}, K6 x1 x2 x3 S = some r → Ev (d + 1) Mx51 (6, [.ref 33, .int x1, .int x2, .int x3, mK, mK, mK], [], S, 0) r) : ∀ (n : Nat) {x1 : Int32} {x2 : Int32} {x3 : Int32} {x4 : Int32} {x5 : Int32} {S : mS} {r : mR}, f_X6_greedy_b20 K6 F n x1 x2 x3 x4 x5 S = some r → Ev (d + 1) Mx51 (20, [.ref 33, .int x1, .int x2, .int x3, .int x4, .int x5, mK], [], S, 0) r := by
  intro n
  induction n with
  | zero => intro x1 x2 x3 x4 x5 S r hf; cases hf
  | succ n ih =>
    intro x1 x2 x3 x4 x5 S r hf
    rw [f_X6_greedy_b20] at hf
    refine ev_sts 3 (c2 := (26, [.ref 33, .int x1, .int x2, .int x3, .int x4, .int x5, mK], [.int (S 33 5), .int x5], S, 0)) rfl ?_
    refine ev_if (c1 := (87, [.ref 33, .int x1, .int x2, .int x3, .int x4, .int x5, mK], [], S, 0)) (c2 := (29, [.ref 33, .int x1, .int x2, .int x3, .int x4, .int x5, mK], [], S, 0)) hf rfl rfl (fun _ hf => ?_) (fun _ hf => ?_)
    · refine ev_sts 2 (c2 := (90, [.ref 33, .int x1, .int x2, .int x3, .int x4, .int x5, mK], [.int ((-1 : Int32)), .int x4], S, 0)) rfl ?_
      refine ev_if (c1 := (110, [.ref 33, .int x1, .int x2, .int x3, mK, mK, mK], [], S, 0)) (c2 := (93, [.ref 33, .int x1, .int x2, .int x3, .int x4, .int x5, mK], [], S, 0)) hf rfl rfl (fun _ hf => ?_) (fun _ hf => ?_)
      · exact f_X6_greedy_b110_ok hK6 hf
      · refine ev_sts 6 (c2 := (100, [.ref 33, .int (x1 ||| (((1 : Int32)) <<< (x4 &&& 31))), .int x2, .int x3, .int x4, .int x5, mK], [], S, 0)) rfl ?_
        refine ev_let (P := fun y1 => Ev (d + 1) Mx51 (100, [.ref 33, .int y1, .int x2, .int x3, .int x4, .int x5, mK], [], S, 0) r) (fun y1 hf => ?_) hf
        refine ev_sts 4 (c2 := (105, [.ref 33, .int y1, .int x2, .int x3, .int x4, .int x5, mK], [.int x4, .int x3, .ref 33, .int x2], S, 0)) rfl ?_
        refine ev_bI0 (d := d) (M' := Mx56) (ct := (108, [.ref 33, .int y1, .int x2, .int x3, .int x4, .int x5, mK], [.int x2], S, 0)) hf rfl rfl rfl rfl (fun r9 h9 => f_X6_worthOf_ok (d := d) h9) (fun r3 S2 hf => ?_)
        show Ev (d + 1) Mx51 (108, [.ref 33, .int y1, .int x2, .int x3, .int x4, .int x5, mK], [.int r3, .int x2], S2, 0) r
        refine ev_sts 2 (c2 := (110, [.ref 33, .int y1, .int (x2 + r3), .int x3, mK, mK, mK], [], S2, 0)) rfl ?_
        refine ev_let (P := fun y4 => Ev (d + 1) Mx51 (110, [.ref 33, .int y1, .int y4, .int x3, mK, mK, mK], [], S2, 0) r) (fun y4 hf => ?_) hf
        exact f_X6_greedy_b110_ok hK6 hf
    · refine ev_sts 3 (c2 := (33, [.ref 33, .int x1, .int x2, .int x3, .int x4, .int x5, mK], [.int x5, .int x3, .ref 33], S, 0)) rfl ?_
      refine ev_bI0 (d := d) (M' := Mx56) (ct := (36, [.ref 33, .int x1, .int x2, .int x3, .int x4, .int x5, mK], [], S, 0)) hf rfl rfl rfl rfl (fun r9 h9 => f_X6_worthOf_ok (d := d) h9) (fun r6 S5 hf => ?_)
      show Ev (d + 1) Mx51 (36, [.ref 33, .int x1, .int x2, .int x3, .int x4, .int x5, mK], [.int r6], S5, 0) r
      refine ev_sts 2 (c2 := (39, [.ref 33, .int x1, .int x2, .int x3, .int x4, .int x5, mK], [.int ((-1 : Int32)), .int x4, .int r6], S5, 0)) rfl ?_
      refine ev_if (c1 := (46, [.ref 33, .int x1, .int x2, .int x3, .int x4, .int x5, mK], [.int r6], S5, 0)) (c2 := (42, [.ref 33, .int x1, .int x2, .int x3, .int x4, .int x5, mK], [.int r6], S5, 0)) hf rfl rfl (fun _ hf => ?_) (fun _ hf => ?_)
      · refine ev_sts 3 (c2 := (50, [.ref 33, .int x1, .int x2, .int x3, .int x4, .int x5, mK], [.int x4, .int x3, .ref 33, .int r6], S5, 0)) rfl ?_
        refine ev_bI0 (d := d) (M' := Mx56) (ct := (53, [.ref 33, .int x1, .int x2, .int x3, .int x4, .int x5, mK], [.int r6], S5, 0)) hf rfl rfl rfl rfl (fun r9 h9 => f_X6_worthOf_ok (d := d) h9) (fun r8 S7 hf => ?_)
        show Ev (d + 1) Mx51 (53, [.ref 33, .int x1, .int x2, .int x3, .int x4, .int x5, mK], [.int r8, .int r6], S7, 0) r
        exact f_X6_greedy_b53_ok hK6 (fun h9 => ih h9) hf
      · exact ev_sts 2 (c2 := (53, [.ref 33, .int x1, .int x2, .int x3, .int x4, .int x5, mK], [.int ((0 : Int32)), .int r6], S5, 0)) rfl (f_X6_greedy_b53_ok hK6 (fun h9 => ih h9) hf)
theorem f_X6_greedy_b6_ok {d F : Nat} : ∀ (n : Nat) {x1 : Int32} {x2 : Int32} {x3 : Int32} {S : mS} {r : mR}, f_X6_greedy_b6 F n x1 x2 x3 S = some r → Ev (d + 1) Mx51 (6, [.ref 33, .int x1, .int x2, .int x3, mK, mK, mK], [], S, 0) r := by
  intro n
  induction n with
  | zero => intro x1 x2 x3 S r hf; cases hf
  | succ n ih =>
    intro x1 x2 x3 S r hf
    rw [f_X6_greedy_b6] at hf
    refine ev_sts 3 (c2 := (11, [.ref 33, .int x1, .int x2, .int x3, mK, mK, mK], [.int (S 33 4), .int x3], S, 0)) rfl ?_
    refine ev_if (c1 := (116, [.ref 33, .int x1, .int x2, .int x3, mK, mK, mK], [], S, 0)) (c2 := (14, [.ref 33, .int x1, .int x2, .int x3, mK, mK, mK], [], S, 0)) hf rfl rfl (fun _ hf => ?_) (fun _ hf => ?_)
    · refine ev_sts 1 (c2 := (117, [.ref 33, .int x1, .int x2, .int x3, mK, mK, mK], [.int x2], S, 0)) rfl ?_
      exact ev_ret hf rfl rfl
    · exact ev_sts 4 (c2 := (20, [.ref 33, .int x1, .int x2, .int x3, .int ((-1 : Int32)), .int ((0 : Int32)), mK], [], S, 0)) rfl (f_X6_greedy_b20_ok (fun h9 => ih h9) _ hf)
theorem f_X6_greedy_ok {d F : Nat} {S : mS} {r : mR} (hf : f_X6_greedy F S = some r) : Ev (d + 1) Mx51 (entry Mx51 [.ref 33] S) r := by
  unfold f_X6_greedy at hf
  exact ev_sts 6 (c2 := (6, [.ref 33, .int ((0 : Int32)), .int ((0 : Int32)), .int ((0 : Int32)), mK, mK, mK], [], S, 0)) rfl (f_X6_greedy_b6_ok _ hf)
def f_X9_loss (F : Nat) (p1 : Int32) (S : mS) : Option mR := bV (f_X9_needWithin p1 ((1 : Int32)) ((10 : Int32)) S) (fun S1 => bV0 (f_X6_weigh F p1 S1) (fun S2 => bV0 (f_X6_search F S2) (fun S3 => bI0 (f_X6_most S3) (fun r5 S4 => bI0 (f_X6_greedy F S4) (fun r7 S6 => some (.inl (some (.int (r5 - r7))), S6))))))
theorem f_X9_loss_ok {d F : Nat} {p1 : Int32} {S : mS} {r : mR} (hf : f_X9_loss F p1 S = some r) : Ev (d + 6) Mx109 (entry Mx109 [.ref 0, .int p1] S) r := by
  unfold f_X9_loss at hf
  refine ev_sts 3 (c2 := (4, [.ref 0, .int p1], [.int ((10 : Int32)), .int ((1 : Int32)), .int p1], S, 0)) rfl ?_
  refine ev_bV (d := d + 5) (M' := Mx142) (ct := (7, [.ref 0, .int p1], [], S, 1)) hf rfl rfl rfl rfl (by decide) (fun r9 h9 => f_X9_needWithin_ok (d := d + 5) h9) (fun S1 hf => ?_)
  show Ev (d + 6) Mx109 (7, [.ref 0, .int p1], [], S1, 1) r
  refine ev_sts 5 (c2 := (16, [.ref 0, .int p1], [.int p1, .ref 24, .ref 33], S1, 1)) rfl ?_
  refine ev_bV0 (d := d + 5) (M' := Mx47) (ct := (19, [.ref 0, .int p1], [], S1, 1)) hf rfl rfl rfl rfl (fun r9 h9 => f_X6_weigh_ok (d := d) h9) (fun S2 hf => ?_)
  show Ev (d + 6) Mx109 (19, [.ref 0, .int p1], [], S2, 1) r
  refine ev_sts 2 (c2 := (23, [.ref 0, .int p1], [.ref 33], S2, 1)) rfl ?_
  refine ev_bV0 (d := d + 5) (M' := Mx48) (ct := (26, [.ref 0, .int p1], [], S2, 1)) hf rfl rfl rfl rfl (fun r9 h9 => f_X6_search_ok (d := d + 2) h9) (fun S3 hf => ?_)
  show Ev (d + 6) Mx109 (26, [.ref 0, .int p1], [], S3, 1) r
  refine ev_sts 2 (c2 := (30, [.ref 0, .int p1], [.ref 33], S3, 1)) rfl ?_
  refine ev_bI0 (d := d + 5) (M' := Mx49) (ct := (33, [.ref 0, .int p1], [], S3, 1)) hf rfl rfl rfl rfl (fun r9 h9 => f_X6_most_ok (d := d + 4) h9) (fun r5 S4 hf => ?_)
  show Ev (d + 6) Mx109 (33, [.ref 0, .int p1], [.int r5], S4, 1) r
  refine ev_sts 2 (c2 := (37, [.ref 0, .int p1], [.ref 33, .int r5], S4, 1)) rfl ?_
  refine ev_bI0 (d := d + 5) (M' := Mx51) (ct := (40, [.ref 0, .int p1], [.int r5], S4, 1)) hf rfl rfl rfl rfl (fun r9 h9 => f_X6_greedy_ok (d := d + 4) h9) (fun r7 S6 hf => ?_)
  show Ev (d + 6) Mx109 (40, [.ref 0, .int p1], [.int r7, .int r5], S6, 1) r
  refine ev_sts 1 (c2 := (41, [.ref 0, .int p1], [.int (r5 - r7)], S6, 1)) rfl ?_
  exact ev_ret hf rfl rfl
def f_X9_lucky_b41 (K6 : Int32 → Int32 → Int32 → mS → Option mR) (F : Nat) (x1 : Int32) (x2 : Int32) (x3 : Int32) (S : mS) : Option mR := K6 x1 x2 (x3 + (1 : Int32)) S
def f_X9_lucky_b6 (F : Nat) : Nat → Int32 → Int32 → Int32 → mS → Option mR
  | 0, _, _, _, _ => none
  | n + 1, x1, x2, x3, S => bI0 (f_X0_at 24 ((14 : Int32)) S) (fun r2 S1 => (if r2 ≤ x3 then some (.inl (some (.int x1)), S1) else bI0 (f_X0_loggedEggs F ((1 : Int32)) x3 S1) (fun r4 S3 => (if r4 ≤ x2 then f_X9_lucky_b41 (fun x1 x2 x3 S => f_X9_lucky_b6 F n x1 x2 x3 S) F x1 x2 x3 S3 else f_X9_lucky_b41 (fun x1 x2 x3 S => f_X9_lucky_b6 F n x1 x2 x3 S) F x3 r4 x3 S3))))
def f_X9_lucky (F : Nat) (S : mS) : Option mR := f_X9_lucky_b6 F F ((-1 : Int32)) ((0 : Int32)) ((0 : Int32)) S
theorem f_X9_lucky_b41_ok {d F : Nat} {K6 : Int32 → Int32 → Int32 → mS → Option mR} (hK6 : ∀ {x1 : Int32} {x2 : Int32} {x3 : Int32} {S : mS} {r : mR}, K6 x1 x2 x3 S = some r → Ev (d + 3) Mx132 (6, [.ref 0, .int x1, .int x2, .int x3, mK], [], S, 0) r) {x1 : Int32} {x2 : Int32} {x3 : Int32} {S : mS} {r : mR} (hf : f_X9_lucky_b41 K6 F x1 x2 x3 S = some r) : Ev (d + 3) Mx132 (41, [.ref 0, .int x1, .int x2, .int x3, mK], [], S, 0) r := by
  unfold f_X9_lucky_b41 at hf
  exact ev_sts 2 (c2 := (6, [.ref 0, .int x1, .int x2, .int (x3 + (1 : Int32)), mK], [], S, 0)) rfl (hK6 hf)
theorem f_X9_lucky_b6_ok {d F : Nat} : ∀ (n : Nat) {x1 : Int32} {x2 : Int32} {x3 : Int32} {S : mS} {r : mR}, f_X9_lucky_b6 F n x1 x2 x3 S = some r → Ev (d + 3) Mx132 (6, [.ref 0, .int x1, .int x2, .int x3, mK], [], S, 0) r := by
  intro n
  induction n with
  | zero => intro x1 x2 x3 S r hf; cases hf
  | succ n ih =>
    intro x1 x2 x3 S r hf
    rw [f_X9_lucky_b6] at hf
    refine ev_sts 4 (c2 := (13, [.ref 0, .int x1, .int x2, .int x3, mK], [.int ((14 : Int32)), .ref 24, .int x3], S, 0)) rfl ?_
    refine ev_bI0 (d := d + 2) (M' := Mx1) (ct := (16, [.ref 0, .int x1, .int x2, .int x3, mK], [.int x3], S, 0)) hf rfl rfl rfl rfl (fun r9 h9 => f_X0_at_ok_24 (d := d + 2) h9) (fun r2 S1 hf => ?_)
    show Ev (d + 3) Mx132 (16, [.ref 0, .int x1, .int x2, .int x3, mK], [.int r2, .int x3], S1, 0) r
    refine ev_if (c1 := (47, [.ref 0, .int x1, .int x2, .int x3, mK], [], S1, 0)) (c2 := (19, [.ref 0, .int x1, .int x2, .int x3, mK], [], S1, 0)) hf rfl rfl (fun _ hf => ?_) (fun _ hf => ?_)
    · refine ev_sts 1 (c2 := (48, [.ref 0, .int x1, .int x2, .int x3, mK], [.int x1], S1, 0)) rfl ?_
      exact ev_ret hf rfl rfl
    · refine ev_sts 4 (c2 := (25, [.ref 0, .int x1, .int x2, .int x3, mK], [.int x3, .int ((1 : Int32)), .ref 24], S1, 0)) rfl ?_
      refine ev_bI0 (d := d + 2) (M' := Mx14) (ct := (28, [.ref 0, .int x1, .int x2, .int x3, mK], [], S1, 0)) hf rfl rfl rfl rfl (fun r9 h9 => f_X0_loggedEggs_ok (d := d) h9) (fun r4 S3 hf => ?_)
      show Ev (d + 3) Mx132 (28, [.ref 0, .int x1, .int x2, .int x3, mK], [.int r4], S3, 0) r
      refine ev_sts 3 (c2 := (33, [.ref 0, .int x1, .int x2, .int x3, .int r4], [.int x2, .int r4], S3, 0)) rfl ?_
      refine ev_if (c1 := (41, [.ref 0, .int x1, .int x2, .int x3, mK], [], S3, 0)) (c2 := (36, [.ref 0, .int x1, .int x2, .int x3, .int r4], [], S3, 0)) hf rfl rfl (fun _ hf => ?_) (fun _ hf => ?_)
      · exact f_X9_lucky_b41_ok (fun h9 => ih h9) hf
      · exact ev_sts 4 (c2 := (41, [.ref 0, .int x3, .int r4, .int x3, mK], [], S3, 0)) rfl (f_X9_lucky_b41_ok (fun h9 => ih h9) hf)
theorem f_X9_lucky_ok {d F : Nat} {S : mS} {r : mR} (hf : f_X9_lucky F S = some r) : Ev (d + 3) Mx132 (entry Mx132 [.ref 0] S) r := by
  unfold f_X9_lucky at hf
  exact ev_sts 6 (c2 := (6, [.ref 0, .int ((-1 : Int32)), .int ((0 : Int32)), .int ((0 : Int32)), mK], [], S, 0)) rfl (f_X9_lucky_b6_ok _ hf)
def f_X9_mostCrews_b88 (K5 : Int32 → Int32 → Int32 → Int32 → mS → Option mR) (F : Nat) (x1 : Int32) (x2 : Int32) (x3 : Int32) (x4 : Int32) (S : mS) : Option mR := K5 x1 x2 x3 (x4 + (1 : Int32)) S
def f_X9_mostCrews_b43 (K5 : Int32 → Int32 → Int32 → Int32 → mS → Option mR) (F : Nat) (x1 : Int32) (x2 : Int32) (x3 : Int32) (x4 : Int32) (x5 : Int32) (t0 : Int32) (S : mS) : Option mR := (if t0 = 0 then f_X9_mostCrews_b88 K5 F x1 x2 x3 x4 S else gd (inb x5 64) ((if (S 62 x5.toNatClampNeg) < x3 then f_X9_mostCrews_b88 K5 F x1 x2 x3 x4 S else bI0 (f_X7_strengthOf F 24 x4 S) (fun r3 S2 => (if r3 < x2 then f_X9_mostCrews_b88 K5 F x1 x2 x3 x4 S2 else gd (inb x5 64) (bnd ((S2 62 x5.toNatClampNeg) + ((1 : Int32)) : Int32) (fun y4 => f_X9_mostCrews_b88 K5 F x1 x2 y4 x4 S2)))))))
def f_X9_mostCrews_b42 (K5 : Int32 → Int32 → Int32 → Int32 → mS → Option mR) (F : Nat) (x1 : Int32) (x2 : Int32) (x3 : Int32) (x4 : Int32) (x5 : Int32) (S : mS) : Option mR := f_X9_mostCrews_b43 K5 F x1 x2 x3 x4 x5 ((0 : Int32)) S
def f_X9_mostCrews_b5 (F : Nat) : Nat → Int32 → Int32 → Int32 → Int32 → mS → Option mR
  | 0, _, _, _, _, _ => none
  | n + 1, x1, x2, x3, x4, S => (if x1 < x4 then some (.inl (some (.int x3)), S) else bnd (x1 &&& (x4 ^^^ ((-1 : Int32))) : Int32) (fun y1 => (if ¬ (x4 &&& (x1 ^^^ ((-1 : Int32)))) = 0 then f_X9_mostCrews_b42 (fun x1 x2 x3 x4 S => f_X9_mostCrews_b5 F n x1 x2 x3 x4 S) F x1 x2 x3 x4 y1 S else (if (Int32.ofNat 64) ≤ y1 then f_X9_mostCrews_b42 (fun x1 x2 x3 x4 S => f_X9_mostCrews_b5 F n x1 x2 x3 x4 S) F x1 x2 x3 x4 y1 S else f_X9_mostCrews_b43 (fun x1 x2 x3 x4 S => f_X9_mostCrews_b5 F n x1 x2 x3 x4 S) F x1 x2 x3 x4 y1 ((1 : Int32)) S))))
def f_X9_mostCrews (F : Nat) (p1 : Int32) (p2 : Int32) (S : mS) : Option mR := f_X9_mostCrews_b5 F F p1 p2 ((0 : Int32)) ((1 : Int32)) S
theorem f_X9_mostCrews_b88_ok {d F : Nat} {K5 : Int32 → Int32 → Int32 → Int32 → mS → Option mR} (hK5 : ∀ {x1 : Int32} {x2 : Int32} {x3 : Int32} {x4 : Int32} {S : mS} {r : mR}, K5 x1 x2 x3 x4 S = some r → Ev (d + 3) Mx152 (5, [.ref 0, .int x1, .int x2, .int x3, .int x4, mK, mK], [], S, 0) r) {x1 : Int32} {x2 : Int32} {x3 : Int32} {x4 : Int32} {S : mS} {r : mR} (hf : f_X9_mostCrews_b88 K5 F x1 x2 x3 x4 S = some r) : Ev (d + 3) Mx152 (88, [.ref 0, .int x1, .int x2, .int x3, .int x4, mK, mK], [], S, 0) r := by
  unfold f_X9_mostCrews_b88 at hf
  exact ev_sts 2 (c2 := (5, [.ref 0, .int x1, .int x2, .int x3, .int (x4 + (1 : Int32)), mK, mK], [], S, 0)) rfl (hK5 hf)
theorem f_X9_mostCrews_b43_ok {d F : Nat} {K5 : Int32 → Int32 → Int32 → Int32 → mS → Option mR} (hK5 : ∀ {x1 : Int32} {x2 : Int32} {x3 : Int32} {x4 : Int32} {S : mS} {r : mR}, K5 x1 x2 x3 x4 S = some r → Ev (d + 3) Mx152 (5, [.ref 0, .int x1, .int x2, .int x3, .int x4, mK, mK], [], S, 0) r) {x1 : Int32} {x2 : Int32} {x3 : Int32} {x4 : Int32} {x5 : Int32} {t0 : Int32} {S : mS} {r : mR} (hf : f_X9_mostCrews_b43 K5 F x1 x2 x3 x4 x5 t0 S = some r) : Ev (d + 3) Mx152 (43, [.ref 0, .int x1, .int x2, .int x3, .int x4, .int x5, mK], [.int t0], S, 0) r := by
  unfold f_X9_mostCrews_b43 at hf
  refine ev_sts 2 (c2 := (47, [.ref 0, .int x1, .int x2, .int x3, .int x4, .int x5, .int t0], [.int t0], S, 0)) rfl ?_
  refine ev_if (c1 := (88, [.ref 0, .int x1, .int x2, .int x3, .int x4, mK, mK], [], S, 0)) (c2 := (50, [.ref 0, .int x1, .int x2, .int x3, .int x4, .int x5, .int t0], [], S, 0)) hf rfl rfl (fun _ hf => ?_) (fun _ hf => ?_)
  · exact f_X9_mostCrews_b88_ok hK5 hf
  · refine ev_sts 3 (c2 := (56, [.ref 0, .int x1, .int x2, .int x3, .int x4, .int x5, .int t0], [.int x5, .ref 62], S, 0)) rfl ?_
    refine ev_gd (c1 := (57, [.ref 0, .int x1, .int x2, .int x3, .int x4, .int x5, .int t0], [.int (S 62 x5.toNatClampNeg)], S, 0)) hf rfl rfl (fun hf => ?_)
    refine ev_sts 1 (c2 := (58, [.ref 0, .int x1, .int x2, .int x3, .int x4, .int x5, .int t0], [.int x3, .int (S 62 x5.toNatClampNeg)], S, 0)) rfl ?_
    refine ev_if (c1 := (88, [.ref 0, .int x1, .int x2, .int x3, .int x4, mK, mK], [], S, 0)) (c2 := (61, [.ref 0, .int x1, .int x2, .int x3, .int x4, .int x5, .int t0], [], S, 0)) hf rfl rfl (fun _ hf => ?_) (fun _ hf => ?_)
    · exact f_X9_mostCrews_b88_ok hK5 hf
    · refine ev_sts 5 (c2 := (71, [.ref 0, .int x1, .int x2, .int x3, .int x4, .int x5, .int t0], [.int x4, .ref 24, .ref 32], S, 0)) rfl ?_
      refine ev_bI0 (d := d + 2) (M' := Mx62) (ct := (74, [.ref 0, .int x1, .int x2, .int x3, .int x4, .int x5, .int t0], [], S, 0)) hf rfl rfl rfl rfl (fun r9 h9 => f_X7_strengthOf_ok_24 (d := d) h9) (fun r3 S2 hf => ?_)
      show Ev (d + 3) Mx152 (74, [.ref 0, .int x1, .int x2, .int x3, .int x4, .int x5, .int t0], [.int r3], S2, 0) r
      refine ev_sts 1 (c2 := (75, [.ref 0, .int x1, .int x2, .int x3, .int x4, .int x5, .int t0], [.int x2, .int r3], S2, 0)) rfl ?_
      refine ev_if (c1 := (88, [.ref 0, .int x1, .int x2, .int x3, .int x4, mK, mK], [], S2, 0)) (c2 := (78, [.ref 0, .int x1, .int x2, .int x3, .int x4, .int x5, .int t0], [], S2, 0)) hf rfl rfl (fun _ hf => ?_) (fun _ hf => ?_)
      · exact f_X9_mostCrews_b88_ok hK5 hf
      · refine ev_sts 3 (c2 := (84, [.ref 0, .int x1, .int x2, .int x3, .int x4, .int x5, .int t0], [.int x5, .ref 62], S2, 0)) rfl ?_
        refine ev_gd (c1 := (85, [.ref 0, .int x1, .int x2, .int x3, .int x4, .int x5, .int t0], [.int (S2 62 x5.toNatClampNeg)], S2, 0)) hf rfl rfl (fun hf => ?_)
        refine ev_sts 3 (c2 := (88, [.ref 0, .int x1, .int x2, .int ((S2 62 x5.toNatClampNeg) + ((1 : Int32))), .int x4, mK, mK], [], S2, 0)) rfl ?_
        refine ev_let (P := fun y4 => Ev (d + 3) Mx152 (88, [.ref 0, .int x1, .int x2, .int y4, .int x4, mK, mK], [], S2, 0) r) (fun y4 hf => ?_) hf
        exact f_X9_mostCrews_b88_ok hK5 hf
theorem f_X9_mostCrews_b42_ok {d F : Nat} {K5 : Int32 → Int32 → Int32 → Int32 → mS → Option mR} (hK5 : ∀ {x1 : Int32} {x2 : Int32} {x3 : Int32} {x4 : Int32} {S : mS} {r : mR}, K5 x1 x2 x3 x4 S = some r → Ev (d + 3) Mx152 (5, [.ref 0, .int x1, .int x2, .int x3, .int x4, mK, mK], [], S, 0) r) {x1 : Int32} {x2 : Int32} {x3 : Int32} {x4 : Int32} {x5 : Int32} {S : mS} {r : mR} (hf : f_X9_mostCrews_b42 K5 F x1 x2 x3 x4 x5 S = some r) : Ev (d + 3) Mx152 (42, [.ref 0, .int x1, .int x2, .int x3, .int x4, .int x5, mK], [], S, 0) r := by
  unfold f_X9_mostCrews_b42 at hf
  exact ev_sts 1 (c2 := (43, [.ref 0, .int x1, .int x2, .int x3, .int x4, .int x5, mK], [.int ((0 : Int32))], S, 0)) rfl (f_X9_mostCrews_b43_ok hK5 hf)
theorem f_X9_mostCrews_b5_ok {d F : Nat} : ∀ (n : Nat) {x1 : Int32} {x2 : Int32} {x3 : Int32} {x4 : Int32} {S : mS} {r : mR}, f_X9_mostCrews_b5 F n x1 x2 x3 x4 S = some r → Ev (d + 3) Mx152 (5, [.ref 0, .int x1, .int x2, .int x3, .int x4, mK, mK], [], S, 0) r := by
  intro n
  induction n with
  | zero => intro x1 x2 x3 x4 S r hf; cases hf
  | succ n ih =>
    intro x1 x2 x3 x4 S r hf
    rw [f_X9_mostCrews_b5] at hf
    refine ev_sts 2 (c2 := (8, [.ref 0, .int x1, .int x2, .int x3, .int x4, mK, mK], [.int x1, .int x4], S, 0)) rfl ?_
    refine ev_if (c1 := (94, [.ref 0, .int x1, .int x2, .int x3, .int x4, mK, mK], [], S, 0)) (c2 := (11, [.ref 0, .int x1, .int x2, .int x3, .int x4, mK, mK], [], S, 0)) hf rfl rfl (fun _ hf => ?_) (fun _ hf => ?_)
    · refine ev_sts 1 (c2 := (95, [.ref 0, .int x1, .int x2, .int x3, .int x4, mK, mK], [.int x3], S, 0)) rfl ?_
      exact ev_ret hf rfl rfl
    · refine ev_sts 6 (c2 := (19, [.ref 0, .int x1, .int x2, .int x3, .int x4, .int (x1 &&& (x4 ^^^ ((-1 : Int32)))), mK], [], S, 0)) rfl ?_
      refine ev_let (P := fun y1 => Ev (d + 3) Mx152 (19, [.ref 0, .int x1, .int x2, .int x3, .int x4, .int y1, mK], [], S, 0) r) (fun y1 hf => ?_) hf
      refine ev_sts 5 (c2 := (25, [.ref 0, .int x1, .int x2, .int x3, .int x4, .int y1, mK], [.int (x4 &&& (x1 ^^^ ((-1 : Int32))))], S, 0)) rfl ?_
      refine ev_if (c1 := (42, [.ref 0, .int x1, .int x2, .int x3, .int x4, .int y1, mK], [], S, 0)) (c2 := (28, [.ref 0, .int x1, .int x2, .int x3, .int x4, .int y1, mK], [], S, 0)) hf rfl rfl (fun _ hf => ?_) (fun _ hf => ?_)
      · exact f_X9_mostCrews_b42_ok (fun h9 => ih h9) hf
      · refine ev_sts 4 (c2 := (35, [.ref 0, .int x1, .int x2, .int x3, .int x4, .int y1, mK], [.int (Int32.ofNat 64), .int y1], S, 0)) rfl ?_
        refine ev_if (c1 := (42, [.ref 0, .int x1, .int x2, .int x3, .int x4, .int y1, mK], [], S, 0)) (c2 := (38, [.ref 0, .int x1, .int x2, .int x3, .int x4, .int y1, mK], [], S, 0)) hf rfl rfl (fun _ hf => ?_) (fun _ hf => ?_)
        · exact f_X9_mostCrews_b42_ok (fun h9 => ih h9) hf
        · exact ev_sts 2 (c2 := (43, [.ref 0, .int x1, .int x2, .int x3, .int x4, .int y1, mK], [.int ((1 : Int32))], S, 0)) rfl (f_X9_mostCrews_b43_ok (fun h9 => ih h9) hf)
theorem f_X9_mostCrews_ok {d F : Nat} {p1 : Int32} {p2 : Int32} {S : mS} {r : mR} (hf : f_X9_mostCrews F p1 p2 S = some r) : Ev (d + 3) Mx152 (entry Mx152 [.ref 0, .int p1, .int p2] S) r := by
  unfold f_X9_mostCrews at hf
  exact ev_sts 4 (c2 := (5, [.ref 0, .int p1, .int p2, .int ((0 : Int32)), .int ((1 : Int32)), mK, mK], [], S, 0)) rfl (f_X9_mostCrews_b5_ok _ hf)
def f_X9_pairs_b47 (K11 : Int32 → Int32 → Int32 → mS → Option mR) (K27 : Int32 → Int32 → Int32 → Int32 → mS → Option mR) (F : Nat) (x1 : Int32) (x2 : Int32) (x3 : Int32) (x4 : Int32) (S : mS) : Option mR := K27 x1 x2 x3 (x4 + (1 : Int32)) S
def f_X9_pairs_b27 (K11 : Int32 → Int32 → Int32 → mS → Option mR) (F : Nat) : Nat → Int32 → Int32 → Int32 → Int32 → mS → Option mR
  | 0, _, _, _, _, _ => none
  | n + 1, x1, x2, x3, x4, S => (if x3 ≤ x4 then K11 x1 x2 (x3 + (1 : Int32)) S else bI0 (f_X9_apart x3 x4 S) (fun r5 S4 => (if x1 < r5 then f_X9_pairs_b47 K11 (fun x1 x2 x3 x4 S => f_X9_pairs_b27 K11 F n x1 x2 x3 x4 S) F x1 x2 x3 x4 S4 else f_X9_pairs_b47 K11 (fun x1 x2 x3 x4 S => f_X9_pairs_b27 K11 F n x1 x2 x3 x4 S) F x1 (x2 + (1 : Int32)) x3 x4 S4)))
def f_X9_pairs_b11 (F : Nat) : Nat → Int32 → Int32 → Int32 → mS → Option mR
  | 0, _, _, _, _ => none
  | n + 1, x1, x2, x3, S => bI0 (f_X0_at 24 ((12 : Int32)) S) (fun r3 S2 => (if r3 ≤ x3 then some (.inl (some (.int x2)), S2) else f_X9_pairs_b27 (fun x1 x2 x3 S => f_X9_pairs_b11 F n x1 x2 x3 S) F F x1 x2 x3 ((0 : Int32)) S2))
def f_X9_pairs (F : Nat) (p1 : Int32) (S : mS) : Option mR := bV (f_X9_needWithin p1 ((0 : Int32)) ((39 : Int32)) S) (fun S1 => f_X9_pairs_b11 F F p1 ((0 : Int32)) ((0 : Int32)) S1)
theorem f_X9_pairs_b47_ok {d F : Nat} {K11 : Int32 → Int32 → Int32 → mS → Option mR} (hK11 : ∀ {x1 : Int32} {x2 : Int32} {x3 : Int32} {S : mS} {r : mR}, K11 x1 x2 x3 S = some r → Ev (d + 3) Mx122 (11, [.ref 0, .int x1, .int x2, .int x3, mK], [], S, 1) r) {K27 : Int32 → Int32 → Int32 → Int32 → mS → Option mR} (hK27 : ∀ {x1 : Int32} {x2 : Int32} {x3 : Int32} {x4 : Int32} {S : mS} {r : mR}, K27 x1 x2 x3 x4 S = some r → Ev (d + 3) Mx122 (27, [.ref 0, .int x1, .int x2, .int x3, .int x4], [], S, 1) r) {x1 : Int32} {x2 : Int32} {x3 : Int32} {x4 : Int32} {S : mS} {r : mR} (hf : f_X9_pairs_b47 K11 K27 F x1 x2 x3 x4 S = some r) : Ev (d + 3) Mx122 (47, [.ref 0, .int x1, .int x2, .int x3, .int x4], [], S, 1) r := by
  unfold f_X9_pairs_b47 at hf
  exact ev_sts 2 (c2 := (27, [.ref 0, .int x1, .int x2, .int x3, .int (x4 + (1 : Int32))], [], S, 1)) rfl (hK27 hf)
theorem f_X9_pairs_b27_ok {d F : Nat} {K11 : Int32 → Int32 → Int32 → mS → Option mR} (hK11 : ∀ {x1 : Int32} {x2 : Int32} {x3 : Int32} {S : mS} {r : mR}, K11 x1 x2 x3 S = some r → Ev (d + 3) Mx122 (11, [.ref 0, .int x1, .int x2, .int x3, mK], [], S, 1) r) : ∀ (n : Nat) {x1 : Int32} {x2 : Int32} {x3 : Int32} {x4 : Int32} {S : mS} {r : mR}, f_X9_pairs_b27 K11 F n x1 x2 x3 x4 S = some r → Ev (d + 3) Mx122 (27, [.ref 0, .int x1, .int x2, .int x3, .int x4], [], S, 1) r := by
  intro n
  induction n with
  | zero => intro x1 x2 x3 x4 S r hf; cases hf
  | succ n ih =>
    intro x1 x2 x3 x4 S r hf
    rw [f_X9_pairs_b27] at hf
    refine ev_sts 2 (c2 := (30, [.ref 0, .int x1, .int x2, .int x3, .int x4], [.int x3, .int x4], S, 1)) rfl ?_
    refine ev_if (c1 := (53, [.ref 0, .int x1, .int x2, .int x3, .int x4], [], S, 1)) (c2 := (33, [.ref 0, .int x1, .int x2, .int x3, .int x4], [], S, 1)) hf rfl rfl (fun _ hf => ?_) (fun _ hf => ?_)
    · exact ev_sts 2 (c2 := (11, [.ref 0, .int x1, .int x2, .int (x3 + (1 : Int32)), mK], [], S, 1)) rfl (hK11 hf)
    · refine ev_sts 3 (c2 := (37, [.ref 0, .int x1, .int x2, .int x3, .int x4], [.int x4, .int x3, .ref 0], S, 1)) rfl ?_
      refine ev_bI0 (d := d + 2) (M' := Mx148) (ct := (40, [.ref 0, .int x1, .int x2, .int x3, .int x4], [], S, 1)) hf rfl rfl rfl rfl (fun r9 h9 => f_X9_apart_ok (d := d) h9) (fun r5 S4 hf => ?_)
      show Ev (d + 3) Mx122 (40, [.ref 0, .int x1, .int x2, .int x3, .int x4], [.int r5], S4, 1) r
      refine ev_sts 1 (c2 := (41, [.ref 0, .int x1, .int x2, .int x3, .int x4], [.int x1, .int r5], S4, 1)) rfl ?_
      refine ev_if (c1 := (47, [.ref 0, .int x1, .int x2, .int x3, .int x4], [], S4, 1)) (c2 := (44, [.ref 0, .int x1, .int x2, .int x3, .int x4], [], S4, 1)) hf rfl rfl (fun _ hf => ?_) (fun _ hf => ?_)
      · exact f_X9_pairs_b47_ok hK11 (fun h9 => ih h9) hf
      · exact ev_sts 1 (c2 := (47, [.ref 0, .int x1, .int (x2 + (1 : Int32)), .int x3, .int x4], [], S4, 1)) rfl (f_X9_pairs_b47_ok hK11 (fun h9 => ih h9) hf)
theorem f_X9_pairs_b11_ok {d F : Nat} : ∀ (n : Nat) {x1 : Int32} {x2 : Int32} {x3 : Int32} {S : mS} {r : mR}, f_X9_pairs_b11 F n x1 x2 x3 S = some r → Ev (d + 3) Mx122 (11, [.ref 0, .int x1, .int x2, .int x3, mK], [], S, 1) r := by
  intro n
  induction n with
  | zero => intro x1 x2 x3 S r hf; cases hf
  | succ n ih =>
    intro x1 x2 x3 S r hf
    rw [f_X9_pairs_b11] at hf
    refine ev_sts 4 (c2 := (18, [.ref 0, .int x1, .int x2, .int x3, mK], [.int ((12 : Int32)), .ref 24, .int x3], S, 1)) rfl ?_
    refine ev_bI0 (d := d + 2) (M' := Mx1) (ct := (21, [.ref 0, .int x1, .int x2, .int x3, mK], [.int x3], S, 1)) hf rfl rfl rfl rfl (fun r9 h9 => f_X0_at_ok_24 (d := d + 2) h9) (fun r3 S2 hf => ?_)
    show Ev (d + 3) Mx122 (21, [.ref 0, .int x1, .int x2, .int x3, mK], [.int r3, .int x3], S2, 1) r
    refine ev_if (c1 := (59, [.ref 0, .int x1, .int x2, .int x3, mK], [], S2, 1)) (c2 := (24, [.ref 0, .int x1, .int x2, .int x3, mK], [], S2, 1)) hf rfl rfl (fun _ hf => ?_) (fun _ hf => ?_)
    · refine ev_sts 1 (c2 := (60, [.ref 0, .int x1, .int x2, .int x3, mK], [.int x2], S2, 1)) rfl ?_
      exact ev_ret hf rfl rfl
    · exact ev_sts 2 (c2 := (27, [.ref 0, .int x1, .int x2, .int x3, .int ((0 : Int32))], [], S2, 1)) rfl (f_X9_pairs_b27_ok (fun h9 => ih h9) _ hf)
theorem f_X9_pairs_ok {d F : Nat} {p1 : Int32} {S : mS} {r : mR} (hf : f_X9_pairs F p1 S = some r) : Ev (d + 3) Mx122 (entry Mx122 [.ref 0, .int p1] S) r := by
  unfold f_X9_pairs at hf
  refine ev_sts 3 (c2 := (4, [.ref 0, .int p1, mK, mK, mK], [.int ((39 : Int32)), .int ((0 : Int32)), .int p1], S, 0)) rfl ?_
  refine ev_bV (d := d + 2) (M' := Mx142) (ct := (7, [.ref 0, .int p1, mK, mK, mK], [], S, 1)) hf rfl rfl rfl rfl (by decide) (fun r9 h9 => f_X9_needWithin_ok (d := d + 2) h9) (fun S1 hf => ?_)
  show Ev (d + 3) Mx122 (7, [.ref 0, .int p1, mK, mK, mK], [], S1, 1) r
  exact ev_sts 4 (c2 := (11, [.ref 0, .int p1, .int ((0 : Int32)), .int ((0 : Int32)), mK], [], S1, 1)) rfl (f_X9_pairs_b11_ok _ hf)
def f_X9_recovers_b23 (F : Nat) : Nat → Int32 → Int32 → Int32 → mS → Option mR
  | 0, _, _, _, _ => none
  | n + 1, x1, x2, x3, S => (if ((5 : Int32)) < x3 then some (.inl (some (.int ((-1 : Int32)))), S) else bI0 (f_X7_isHeldByAll F 26 x1 x2 S) (fun r5 S4 => (if r5 = 0 then bV0 (f_X7_easeHolders F 26 S4) (fun S6 => f_X9_recovers_b23 F n x1 x2 (x3 + (1 : Int32)) S6) else some (.inl (some (.int x3)), S4))))
def f_X9_recovers (F : Nat) (p1 : Int32) (p2 : Int32) (S : mS) : Option mR := bV (f_X9_needClimber p1 S) (fun S1 => bV (f_X9_needLedge p2 S1) (fun S2 => bV0 (f_X0_copy 26 24 S2) (fun S3 => f_X9_recovers_b23 F F p1 p2 ((0 : Int32)) S3)))
theorem f_X9_recovers_b23_ok {d F : Nat} : ∀ (n : Nat) {x1 : Int32} {x2 : Int32} {x3 : Int32} {S : mS} {r : mR}, f_X9_recovers_b23 F n x1 x2 x3 S = some r → Ev (d + 4) Mx120 (23, [.ref 0, .int x1, .int x2, .int x3], [], S, 2) r := by
  intro n
  induction n with
  | zero => intro x1 x2 x3 S r hf; cases hf
  | succ n ih =>
    intro x1 x2 x3 S r hf
    rw [f_X9_recovers_b23] at hf
    refine ev_sts 2 (c2 := (25, [.ref 0, .int x1, .int x2, .int x3], [.int ((5 : Int32)), .int x3], S, 2)) rfl ?_
    refine ev_if (c1 := (63, [.ref 0, .int x1, .int x2, .int x3], [], S, 2)) (c2 := (28, [.ref 0, .int x1, .int x2, .int x3], [], S, 2)) hf rfl rfl (fun _ hf => ?_) (fun _ hf => ?_)
    · refine ev_sts 1 (c2 := (64, [.ref 0, .int x1, .int x2, .int x3], [.int ((-1 : Int32))], S, 2)) rfl ?_
      exact ev_ret hf rfl rfl
    · refine ev_sts 6 (c2 := (38, [.ref 0, .int x1, .int x2, .int x3], [.int x2, .int x1, .ref 26, .ref 32], S, 2)) rfl ?_
      refine ev_bI0 (d := d + 3) (M' := Mx63) (ct := (41, [.ref 0, .int x1, .int x2, .int x3], [], S, 2)) hf rfl rfl rfl rfl (fun r9 h9 => f_X7_isHeldByAll_ok_26 (d := d) h9) (fun r5 S4 hf => ?_)
      show Ev (d + 4) Mx120 (41, [.ref 0, .int x1, .int x2, .int x3], [.int r5], S4, 2) r
      refine ev_if (c1 := (46, [.ref 0, .int x1, .int x2, .int x3], [], S4, 2)) (c2 := (44, [.ref 0, .int x1, .int x2, .int x3], [], S4, 2)) hf rfl rfl (fun _ hf => ?_) (fun _ hf => ?_)
      · refine ev_sts 4 (c2 := (54, [.ref 0, .int x1, .int x2, .int x3], [.ref 26, .ref 32], S4, 2)) rfl ?_
        refine ev_bV0 (d := d + 3) (M' := Mx70) (ct := (57, [.ref 0, .int x1, .int x2, .int x3], [], S4, 2)) hf rfl rfl rfl rfl (fun r9 h9 => f_X7_easeHolders_ok_26 (d := d + 1) h9) (fun S6 hf => ?_)
        show Ev (d + 4) Mx120 (57, [.ref 0, .int x1, .int x2, .int x3], [], S6, 2) r
        exact ev_sts 2 (c2 := (23, [.ref 0, .int x1, .int x2, .int (x3 + (1 : Int32))], [], S6, 2)) rfl (ih hf)
      · refine ev_sts 1 (c2 := (45, [.ref 0, .int x1, .int x2, .int x3], [.int x3], S4, 2)) rfl ?_
        exact ev_ret hf rfl rfl
theorem f_X9_recovers_ok {d F : Nat} {p1 : Int32} {p2 : Int32} {S : mS} {r : mR} (hf : f_X9_recovers F p1 p2 S = some r) : Ev (d + 4) Mx120 (entry Mx120 [.ref 0, .int p1, .int p2] S) r := by
  unfold f_X9_recovers at hf
  refine ev_sts 2 (c2 := (2, [.ref 0, .int p1, .int p2, mK], [.int p1, .ref 0], S, 0)) rfl ?_
  refine ev_bV (d := d + 3) (M' := Mx141) (ct := (5, [.ref 0, .int p1, .int p2, mK], [], S, 1)) hf rfl rfl rfl rfl (by decide) (fun r9 h9 => f_X9_needClimber_ok (d := d + 2) h9) (fun S1 hf => ?_)
  show Ev (d + 4) Mx120 (5, [.ref 0, .int p1, .int p2, mK], [], S1, 1) r
  refine ev_sts 2 (c2 := (7, [.ref 0, .int p1, .int p2, mK], [.int p2, .ref 0], S1, 1)) rfl ?_
  refine ev_bV (d := d + 3) (M' := Mx139) (ct := (10, [.ref 0, .int p1, .int p2, mK], [], S1, 2)) hf rfl rfl rfl rfl (by decide) (fun r9 h9 => f_X9_needLedge_ok (d := d + 2) h9) (fun S2 hf => ?_)
  show Ev (d + 4) Mx120 (10, [.ref 0, .int p1, .int p2, mK], [], S2, 2) r
  refine ev_sts 4 (c2 := (18, [.ref 0, .int p1, .int p2, mK], [.ref 24, .ref 26], S2, 2)) rfl ?_
  refine ev_bV0 (d := d + 3) (M' := Mx0) (ct := (21, [.ref 0, .int p1, .int p2, mK], [], S2, 2)) hf rfl rfl rfl rfl (fun r9 h9 => f_X0_copy_ok_26_24 (d := d + 3) h9) (fun S3 hf => ?_)
  show Ev (d + 4) Mx120 (21, [.ref 0, .int p1, .int p2, mK], [], S3, 2) r
  exact ev_sts 2 (c2 := (23, [.ref 0, .int p1, .int p2, .int ((0 : Int32))], [], S3, 2)) rfl (f_X9_recovers_b23_ok _ hf)
def f_X9_rest (p1 : Int32) (S : mS) : Option mR := bV (f_X9_needHolder p1 S) (fun S1 => bV0 (f_X5_remember S1) (fun S2 => bI0 (f_X0_ofHolder 24 p1 ((1 : Int32)) S2) (fun r4 S3 => bV0 (f_X0_putHolder 24 p1 ((1 : Int32)) ((0 : Int32)) S3) (fun S5 => some (.inl (some (.int r4)), S5)))))
theorem f_X9_rest_ok {d : Nat} {p1 : Int32} {S : mS} {r : mR} (hf : f_X9_rest p1 S = some r) : Ev (d + 2) Mx102 (entry Mx102 [.ref 0, .int p1] S) r := by
  unfold f_X9_rest at hf
  refine ev_sts 2 (c2 := (2, [.ref 0, .int p1, mK], [.int p1, .ref 0], S, 0)) rfl ?_
  refine ev_bV (d := d + 1) (M' := Mx140) (ct := (5, [.ref 0, .int p1, mK], [], S, 1)) hf rfl rfl rfl rfl (by decide) (fun r9 h9 => f_X9_needHolder_ok (d := d) h9) (fun S1 hf => ?_)
  show Ev (d + 2) Mx102 (5, [.ref 0, .int p1, mK], [], S1, 1) r
  refine ev_sts 4 (c2 := (13, [.ref 0, .int p1, mK], [.ref 24, .ref 36], S1, 1)) rfl ?_
  refine ev_bV0 (d := d + 1) (M' := Mx44) (ct := (16, [.ref 0, .int p1, mK], [], S1, 1)) hf rfl rfl rfl rfl (fun r9 h9 => f_X5_remember_ok (d := d) h9) (fun S2 hf => ?_)
  show Ev (d + 2) Mx102 (16, [.ref 0, .int p1, mK], [], S2, 1) r
  refine ev_sts 4 (c2 := (22, [.ref 0, .int p1, mK], [.int ((1 : Int32)), .int p1, .ref 24], S2, 1)) rfl ?_
  refine ev_bI0 (d := d + 1) (M' := Mx6) (ct := (25, [.ref 0, .int p1, mK], [], S2, 1)) hf rfl rfl rfl rfl (fun r9 h9 => f_X0_ofHolder_ok_24 (d := d) h9) (fun r4 S3 hf => ?_)
  show Ev (d + 2) Mx102 (25, [.ref 0, .int p1, mK], [.int r4], S3, 1) r
  refine ev_sts 6 (c2 := (33, [.ref 0, .int p1, .int r4], [.int ((0 : Int32)), .int ((1 : Int32)), .int p1, .ref 24], S3, 1)) rfl ?_
  refine ev_bV0 (d := d + 1) (M' := Mx7) (ct := (36, [.ref 0, .int p1, .int r4], [], S3, 1)) hf rfl rfl rfl rfl (fun r9 h9 => f_X0_putHolder_ok_24 (d := d) h9) (fun S5 hf => ?_)
  show Ev (d + 2) Mx102 (36, [.ref 0, .int p1, .int r4], [], S5, 1) r
  refine ev_sts 1 (c2 := (37, [.ref 0, .int p1, .int r4], [.int r4], S5, 1)) rfl ?_
  exact ev_ret hf rfl rfl
def f_X9_rests_b58 (F : Nat) (x3 : Int32) (S : mS) : Option mR := some (.inl (some (.int x3)), S)
def f_X9_rests_b46 (F : Nat) (x1 : Int32) (x2 : Int32) (x3 : Int32) (S : mS) : Option mR := (if (((2 : Int32)) * x2) < x1 then f_X9_rests_b58 F x3 S else bnd (x3 ||| ((8 : Int32)) : Int32) (fun y5 => f_X9_rests_b58 F y5 S))
def f_X9_rests_b29 (F : Nat) (x1 : Int32) (x2 : Int32) (x3 : Int32) (S : mS) : Option mR := (if x1 < (((2 : Int32)) * x2) then f_X9_rests_b46 F x1 x2 x3 S else (if x2 < x1 then f_X9_rests_b46 F x1 x2 x3 S else bnd (x3 ||| ((6 : Int32)) : Int32) (fun y6 => f_X9_rests_b46 F x1 x2 y6 S)))
def f_X9_rests (F : Nat) (S : mS) : Option mR := bI0 (f_X0_totalOf F 24 ((2 : Int32)) S) (fun r2 S1 => bI0 (f_X0_totalOf F 24 ((4 : Int32)) S1) (fun r4 S3 => (if r2 < r4 then f_X9_rests_b29 F r2 r4 ((0 : Int32)) S3 else bnd (((0 : Int32)) ||| ((1 : Int32)) : Int32) (fun y7 => f_X9_rests_b29 F r2 r4 y7 S3))))
theorem f_X9_rests_b58_ok {d F : Nat} {x3 : Int32} {S : mS} {r : mR} (hf : f_X9_rests_b58 F x3 S = some r) : Ev (d + 3) Mx129 (58, [mK, mK, mK, .int x3], [], S, 0) r := by
  unfold f_X9_rests_b58 at hf
  refine ev_sts 1 (c2 := (59, [mK, mK, mK, .int x3], [.int x3], S, 0)) rfl ?_
  exact ev_ret hf rfl rfl
theorem f_X9_rests_b46_ok {d F : Nat} {x1 : Int32} {x2 : Int32} {x3 : Int32} {S : mS} {r : mR} (hf : f_X9_rests_b46 F x1 x2 x3 S = some r) : Ev (d + 3) Mx129 (46, [mK, .int x1, .int x2, .int x3], [], S, 0) r := by
  unfold f_X9_rests_b46 at hf
  refine ev_sts 4 (c2 := (50, [mK, .int x1, .int x2, .int x3], [.int x1, .int (((2 : Int32)) * x2)], S, 0)) rfl ?_
  refine ev_if (c1 := (58, [mK, mK, mK, .int x3], [], S, 0)) (c2 := (53, [mK, .int x1, .int x2, .int x3], [], S, 0)) hf rfl rfl (fun _ hf => ?_) (fun _ hf => ?_)
  · exact f_X9_rests_b58_ok hf
  · refine ev_sts 4 (c2 := (58, [mK, mK, mK, .int (x3 ||| ((8 : Int32)))], [], S, 0)) rfl ?_
    refine ev_let (P := fun y5 => Ev (d + 3) Mx129 (58, [mK, mK, mK, .int y5], [], S, 0) r) (fun y5 hf => ?_) hf
    exact f_X9_rests_b58_ok hf
theorem f_X9_rests_b29_ok {d F : Nat} {x1 : Int32} {x2 : Int32} {x3 : Int32} {S : mS} {r : mR} (hf : f_X9_rests_b29 F x1 x2 x3 S = some r) : Ev (d + 3) Mx129 (29, [mK, .int x1, .int x2, .int x3], [], S, 0) r := by
  unfold f_X9_rests_b29 at hf
  refine ev_sts 4 (c2 := (33, [mK, .int x1, .int x2, .int x3], [.int (((2 : Int32)) * x2), .int x1], S, 0)) rfl ?_
  refine ev_if (c1 := (46, [mK, .int x1, .int x2, .int x3], [], S, 0)) (c2 := (36, [mK, .int x1, .int x2, .int x3], [], S, 0)) hf rfl rfl (fun _ hf => ?_) (fun _ hf => ?_)
  · exact f_X9_rests_b46_ok hf
  · refine ev_sts 2 (c2 := (38, [mK, .int x1, .int x2, .int x3], [.int x1, .int x2], S, 0)) rfl ?_
    refine ev_if (c1 := (46, [mK, .int x1, .int x2, .int x3], [], S, 0)) (c2 := (41, [mK, .int x1, .int x2, .int x3], [], S, 0)) hf rfl rfl (fun _ hf => ?_) (fun _ hf => ?_)
    · exact f_X9_rests_b46_ok hf
    · refine ev_sts 4 (c2 := (46, [mK, .int x1, .int x2, .int (x3 ||| ((6 : Int32)))], [], S, 0)) rfl ?_
      refine ev_let (P := fun y6 => Ev (d + 3) Mx129 (46, [mK, .int x1, .int x2, .int y6], [], S, 0) r) (fun y6 hf => ?_) hf
      exact f_X9_rests_b46_ok hf
theorem f_X9_rests_ok {d F : Nat} {S : mS} {r : mR} (hf : f_X9_rests F S = some r) : Ev (d + 3) Mx129 (entry Mx129 [.ref 0] S) r := by
  unfold f_X9_rests at hf
  refine ev_sts 3 (c2 := (5, [.ref 0, mK, mK, mK], [.int ((2 : Int32)), .ref 24], S, 0)) rfl ?_
  refine ev_bI0 (d := d + 2) (M' := Mx15) (ct := (8, [.ref 0, mK, mK, mK], [], S, 0)) hf rfl rfl rfl rfl (fun r9 h9 => f_X0_totalOf_ok_24 (d := d) h9) (fun r2 S1 hf => ?_)
  show Ev (d + 3) Mx129 (8, [.ref 0, mK, mK, mK], [.int r2], S1, 0) r
  refine ev_sts 4 (c2 := (14, [.ref 0, .int r2, mK, mK], [.int ((4 : Int32)), .ref 24], S1, 0)) rfl ?_
  refine ev_bI0 (d := d + 2) (M' := Mx15) (ct := (17, [.ref 0, .int r2, mK, mK], [], S1, 0)) hf rfl rfl rfl rfl (fun r9 h9 => f_X0_totalOf_ok_24 (d := d) h9) (fun r4 S3 hf => ?_)
  show Ev (d + 3) Mx129 (17, [.ref 0, .int r2, mK, mK], [.int r4], S3, 0) r
  refine ev_sts 5 (c2 := (22, [.ref 0, .int r2, .int r4, .int ((0 : Int32))], [.int r4, .int r2], S3, 0)) rfl ?_
  refine ev_if (c1 := (29, [mK, .int r2, .int r4, .int ((0 : Int32))], [], S3, 0)) (c2 := (25, [.ref 0, .int r2, .int r4, .int ((0 : Int32))], [], S3, 0)) hf rfl rfl (fun _ hf => ?_) (fun _ hf => ?_)
  · exact f_X9_rests_b29_ok hf
  · refine ev_sts 4 (c2 := (29, [mK, .int r2, .int r4, .int (((0 : Int32)) ||| ((1 : Int32)))], [], S3, 0)) rfl ?_
    refine ev_let (P := fun y7 => Ev (d + 3) Mx129 (29, [mK, .int r2, .int r4, .int y7], [], S3, 0) r) (fun y7 hf => ?_) hf
    exact f_X9_rests_b29_ok hf
def f_X9_round_b64 (F : Nat) (t0 : Int32) (S : mS) : Option mR := some (.inl (some (.int t0)), S)
def f_X9_round_b39 (K4 : Int32 → Int32 → Int32 → mS → Option mR) (F : Nat) (x1 : Int32) (x2 : Int32) (x3 : Int32) (S : mS) : Option mR := K4 x1 x2 (x3 + (1 : Int32)) S
def f_X9_round_b4 (F : Nat) : Nat → Int32 → Int32 → Int32 → mS → Option mR
  | 0, _, _, _, _ => none
  | n + 1, x1, x2, x3, S => bI0 (f_X0_at 24 ((12 : Int32)) S) (fun r2 S1 => (if r2 ≤ x3 then bI0 (f_X0_at 24 ((0 : Int32)) S1) (fun r4 S3 => (if x2 ≤ r4 then f_X9_round_b64 F (((2 : Int32)) * x2) S3 else f_X9_round_b64 F ((-1 : Int32)) S3)) else bI0 (f_X9_hasBit x1 x3 S1) (fun r6 S5 => (if r6 = 0 then f_X9_round_b39 (fun x1 x2 x3 S => f_X9_round_b4 F n x1 x2 x3 S) F x1 x2 x3 S5 else bI0 (f_X0_ofLedge 24 x3 ((0 : Int32)) S5) (fun r8 S7 => bnd (if x2 < r8 then r8 else x2 : Int32) (fun y9 => f_X9_round_b39 (fun x1 x2 x3 S => f_X9_round_b4 F n x1 x2 x3 S) F x1 y9 x3 S7))))))
def f_X9_round (F : Nat) (p1 : Int32) (S : mS) : Option mR := f_X9_round_b4 F F p1 ((0 : Int32)) ((0 : Int32)) S
theorem f_X9_round_b64_ok {d F : Nat} {t0 : Int32} {S : mS} {r : mR} (hf : f_X9_round_b64 F t0 S = some r) : Ev (d + 2) Mx126 (64, [mK, mK, mK, mK], [.int t0], S, 0) r := by
  unfold f_X9_round_b64 at hf
  exact ev_ret hf rfl rfl
theorem f_X9_round_b39_ok {d F : Nat} {K4 : Int32 → Int32 → Int32 → mS → Option mR} (hK4 : ∀ {x1 : Int32} {x2 : Int32} {x3 : Int32} {S : mS} {r : mR}, K4 x1 x2 x3 S = some r → Ev (d + 2) Mx126 (4, [.ref 0, .int x1, .int x2, .int x3], [], S, 0) r) {x1 : Int32} {x2 : Int32} {x3 : Int32} {S : mS} {r : mR} (hf : f_X9_round_b39 K4 F x1 x2 x3 S = some r) : Ev (d + 2) Mx126 (39, [.ref 0, .int x1, .int x2, .int x3], [], S, 0) r := by
  unfold f_X9_round_b39 at hf
  exact ev_sts 2 (c2 := (4, [.ref 0, .int x1, .int x2, .int (x3 + (1 : Int32))], [], S, 0)) rfl (hK4 hf)
theorem f_X9_round_b4_ok {d F : Nat} : ∀ (n : Nat) {x1 : Int32} {x2 : Int32} {x3 : Int32} {S : mS} {r : mR}, f_X9_round_b4 F n x1 x2 x3 S = some r → Ev (d + 2) Mx126 (4, [.ref 0, .int x1, .int x2, .int x3], [], S, 0) r := by
  intro n
  induction n with
  | zero => intro x1 x2 x3 S r hf; cases hf
  | succ n ih =>
    intro x1 x2 x3 S r hf
    rw [f_X9_round_b4] at hf
    refine ev_sts 4 (c2 := (11, [.ref 0, .int x1, .int x2, .int x3], [.int ((12 : Int32)), .ref 24, .int x3], S, 0)) rfl ?_
    refine ev_bI0 (d := d + 1) (M' := Mx1) (ct := (14, [.ref 0, .int x1, .int x2, .int x3], [.int x3], S, 0)) hf rfl rfl rfl rfl (fun r9 h9 => f_X0_at_ok_24 (d := d + 1) h9) (fun r2 S1 hf => ?_)
    show Ev (d + 2) Mx126 (14, [.ref 0, .int x1, .int x2, .int x3], [.int r2, .int x3], S1, 0) r
    refine ev_if (c1 := (45, [.ref 0, .int x1, .int x2, .int x3], [], S1, 0)) (c2 := (17, [.ref 0, .int x1, .int x2, .int x3], [], S1, 0)) hf rfl rfl (fun _ hf => ?_) (fun _ hf => ?_)
    · refine ev_sts 4 (c2 := (51, [.ref 0, .int x1, .int x2, .int x3], [.int ((0 : Int32)), .ref 24, .int x2], S1, 0)) rfl ?_
      refine ev_bI0 (d := d + 1) (M' := Mx1) (ct := (54, [.ref 0, .int x1, .int x2, .int x3], [.int x2], S1, 0)) hf rfl rfl rfl rfl (fun r9 h9 => f_X0_at_ok_24 (d := d + 1) h9) (fun r4 S3 hf => ?_)
      show Ev (d + 2) Mx126 (54, [.ref 0, .int x1, .int x2, .int x3], [.int r4, .int x2], S3, 0) r
      refine ev_if (c1 := (61, [.ref 0, .int x1, .int x2, .int x3], [], S3, 0)) (c2 := (57, [.ref 0, .int x1, .int x2, .int x3], [], S3, 0)) hf rfl rfl (fun _ hf => ?_) (fun _ hf => ?_)
      · exact ev_sts 3 (c2 := (64, [mK, mK, mK, mK], [.int (((2 : Int32)) * x2)], S3, 0)) rfl (f_X9_round_b64_ok hf)
      · exact ev_sts 2 (c2 := (64, [mK, mK, mK, mK], [.int ((-1 : Int32))], S3, 0)) rfl (f_X9_round_b64_ok hf)
    · refine ev_sts 2 (c2 := (19, [.ref 0, .int x1, .int x2, .int x3], [.int x3, .int x1], S1, 0)) rfl ?_
      refine ev_bI0 (d := d + 1) (M' := Mx143) (ct := (22, [.ref 0, .int x1, .int x2, .int x3], [], S1, 0)) hf rfl rfl rfl rfl (fun r9 h9 => f_X9_hasBit_ok (d := d + 1) h9) (fun r6 S5 hf => ?_)
      show Ev (d + 2) Mx126 (22, [.ref 0, .int x1, .int x2, .int x3], [.int r6], S5, 0) r
      refine ev_if (c1 := (39, [.ref 0, .int x1, .int x2, .int x3], [], S5, 0)) (c2 := (25, [.ref 0, .int x1, .int x2, .int x3], [], S5, 0)) hf rfl rfl (fun _ hf => ?_) (fun _ hf => ?_)
      · exact f_X9_round_b39_ok (fun h9 => ih h9) hf
      · refine ev_sts 5 (c2 := (32, [.ref 0, .int x1, .int x2, .int x3], [.int ((0 : Int32)), .int x3, .ref 24, .int x2], S5, 0)) rfl ?_
        refine ev_bI0 (d := d + 1) (M' := Mx4) (ct := (35, [.ref 0, .int x1, .int x2, .int x3], [.int x2], S5, 0)) hf rfl rfl rfl rfl (fun r9 h9 => f_X0_ofLedge_ok_24 (d := d) h9) (fun r8 S7 hf => ?_)
        show Ev (d + 2) Mx126 (35, [.ref 0, .int x1, .int x2, .int x3], [.int r8, .int x2], S7, 0) r
        refine ev_sts 2 (c2 := (39, [.ref 0, .int x1, .int (if x2 < r8 then r8 else x2), .int x3], [], S7, 0)) rfl ?_
        refine ev_let (P := fun y9 => Ev (d + 2) Mx126 (39, [.ref 0, .int x1, .int y9, .int x3], [], S7, 0) r) (fun y9 hf => ?_) hf
        exact f_X9_round_b39_ok (fun h9 => ih h9) hf
theorem f_X9_round_ok {d F : Nat} {p1 : Int32} {S : mS} {r : mR} (hf : f_X9_round F p1 S = some r) : Ev (d + 2) Mx126 (entry Mx126 [.ref 0, .int p1] S) r := by
  unfold f_X9_round at hf
  exact ev_sts 4 (c2 := (4, [.ref 0, .int p1, .int ((0 : Int32)), .int ((0 : Int32))], [], S, 0)) rfl (f_X9_round_b4_ok _ hf)
def f_X9_safe_b47 (K11 : Int32 → Int32 → Int32 → Int32 → mS → Option mR) (F : Nat) (x1 : Int32) (x2 : Int32) (x3 : Int32) (x4 : Int32) (S : mS) : Option mR := K11 x1 x2 x3 (x4 + (1 : Int32)) S
def f_X9_safe_b44 (K11 : Int32 → Int32 → Int32 → Int32 → mS → Option mR) (F : Nat) (x1 : Int32) (x2 : Int32) (x4 : Int32) (S : mS) : Option mR := f_X9_safe_b47 K11 F x1 x2 x4 x4 S
def f_X9_safe_b11 (F : Nat) : Nat → Int32 → Int32 → Int32 → Int32 → mS → Option mR
  | 0, _, _, _, _, _ => none
  | n + 1, x1, x2, x3, x4, S => (if ((12 : Int32)) ≤ x4 then some (.inl (some (.int (((1 : Int32)) &&& 1))), S) else bI0 (f_X9_hasBit x1 x4 S) (fun r3 S2 => (if r3 = 0 then f_X9_safe_b47 (fun x1 x2 x3 x4 S => f_X9_safe_b11 F n x1 x2 x3 x4 S) F x1 x2 x3 x4 S2 else (if x3 = ((-1 : Int32)) then f_X9_safe_b44 (fun x1 x2 x3 x4 S => f_X9_safe_b11 F n x1 x2 x3 x4 S) F x1 x2 x4 S2 else (if (((2 : Int32)) * x2) < (x4 - x3) then f_X9_safe_b44 (fun x1 x2 x3 x4 S => f_X9_safe_b11 F n x1 x2 x3 x4 S) F x1 x2 x4 S2 else some (.inl (some (.int (((0 : Int32)) &&& 1))), S2))))))
def f_X9_safe (F : Nat) (p1 : Int32) (p2 : Int32) (S : mS) : Option mR := bV (f_X9_needWithin p2 ((0 : Int32)) ((5 : Int32)) S) (fun S1 => f_X9_safe_b11 F F p1 p2 ((-1 : Int32)) ((0 : Int32)) S1)
theorem f_X9_safe_b47_ok {d F : Nat} {K11 : Int32 → Int32 → Int32 → Int32 → mS → Option mR} (hK11 : ∀ {x1 : Int32} {x2 : Int32} {x3 : Int32} {x4 : Int32} {S : mS} {r : mR}, K11 x1 x2 x3 x4 S = some r → Ev (d + 1) Mx124 (11, [mK, .int x1, .int x2, .int x3, .int x4], [], S, 1) r) {x1 : Int32} {x2 : Int32} {x3 : Int32} {x4 : Int32} {S : mS} {r : mR} (hf : f_X9_safe_b47 K11 F x1 x2 x3 x4 S = some r) : Ev (d + 1) Mx124 (47, [mK, .int x1, .int x2, .int x3, .int x4], [], S, 1) r := by
  unfold f_X9_safe_b47 at hf
  exact ev_sts 2 (c2 := (11, [mK, .int x1, .int x2, .int x3, .int (x4 + (1 : Int32))], [], S, 1)) rfl (hK11 hf)
theorem f_X9_safe_b44_ok {d F : Nat} {K11 : Int32 → Int32 → Int32 → Int32 → mS → Option mR} (hK11 : ∀ {x1 : Int32} {x2 : Int32} {x3 : Int32} {x4 : Int32} {S : mS} {r : mR}, K11 x1 x2 x3 x4 S = some r → Ev (d + 1) Mx124 (11, [mK, .int x1, .int x2, .int x3, .int x4], [], S, 1) r) {x1 : Int32} {x2 : Int32} {x4 : Int32} {S : mS} {r : mR} (hf : f_X9_safe_b44 K11 F x1 x2 x4 S = some r) : Ev (d + 1) Mx124 (44, [mK, .int x1, .int x2, mK, .int x4], [], S, 1) r := by
  unfold f_X9_safe_b44 at hf
  exact ev_sts 2 (c2 := (47, [mK, .int x1, .int x2, .int x4, .int x4], [], S, 1)) rfl (f_X9_safe_b47_ok hK11 hf)
theorem f_X9_safe_b11_ok {d F : Nat} : ∀ (n : Nat) {x1 : Int32} {x2 : Int32} {x3 : Int32} {x4 : Int32} {S : mS} {r : mR}, f_X9_safe_b11 F n x1 x2 x3 x4 S = some r → Ev (d + 1) Mx124 (11, [mK, .int x1, .int x2, .int x3, .int x4], [], S, 1) r := by
  intro n
  induction n with
  | zero => intro x1 x2 x3 x4 S r hf; cases hf
  | succ n ih =>
    intro x1 x2 x3 x4 S r hf
    rw [f_X9_safe_b11] at hf
    refine ev_sts 2 (c2 := (15, [mK, .int x1, .int x2, .int x3, .int x4], [.int ((12 : Int32)), .int x4], S, 1)) rfl ?_
    refine ev_if (c1 := (53, [mK, .int x1, .int x2, .int x3, .int x4], [], S, 1)) (c2 := (18, [mK, .int x1, .int x2, .int x3, .int x4], [], S, 1)) hf rfl rfl (fun _ hf => ?_) (fun _ hf => ?_)
    · refine ev_sts 1 (c2 := (54, [mK, .int x1, .int x2, .int x3, .int x4], [.int ((1 : Int32))], S, 1)) rfl ?_
      exact ev_ret hf rfl rfl
    · refine ev_sts 2 (c2 := (21, [mK, .int x1, .int x2, .int x3, .int x4], [.int x4, .int x1], S, 1)) rfl ?_
      refine ev_bI0 (d := d) (M' := Mx143) (ct := (24, [mK, .int x1, .int x2, .int x3, .int x4], [], S, 1)) hf rfl rfl rfl rfl (fun r9 h9 => f_X9_hasBit_ok (d := d) h9) (fun r3 S2 hf => ?_)
      show Ev (d + 1) Mx124 (24, [mK, .int x1, .int x2, .int x3, .int x4], [.int r3], S2, 1) r
      refine ev_if (c1 := (47, [mK, .int x1, .int x2, .int x3, .int x4], [], S2, 1)) (c2 := (27, [mK, .int x1, .int x2, .int x3, .int x4], [], S2, 1)) hf rfl rfl (fun _ hf => ?_) (fun _ hf => ?_)
      · exact f_X9_safe_b47_ok (fun h9 => ih h9) hf
      · refine ev_sts 2 (c2 := (29, [mK, .int x1, .int x2, .int x3, .int x4], [.int ((-1 : Int32)), .int x3], S2, 1)) rfl ?_
        refine ev_if (c1 := (44, [mK, .int x1, .int x2, mK, .int x4], [], S2, 1)) (c2 := (32, [mK, .int x1, .int x2, .int x3, .int x4], [], S2, 1)) hf rfl rfl (fun _ hf => ?_) (fun _ hf => ?_)
        · exact f_X9_safe_b44_ok (fun h9 => ih h9) hf
        · refine ev_sts 6 (c2 := (39, [mK, .int x1, .int x2, .int x3, .int x4], [.int (((2 : Int32)) * x2), .int (x4 - x3)], S2, 1)) rfl ?_
          refine ev_if (c1 := (44, [mK, .int x1, .int x2, mK, .int x4], [], S2, 1)) (c2 := (42, [mK, .int x1, .int x2, .int x3, .int x4], [], S2, 1)) hf rfl rfl (fun _ hf => ?_) (fun _ hf => ?_)
          · exact f_X9_safe_b44_ok (fun h9 => ih h9) hf
          · refine ev_sts 1 (c2 := (43, [mK, .int x1, .int x2, .int x3, .int x4], [.int ((0 : Int32))], S2, 1)) rfl ?_
            exact ev_ret hf rfl rfl
theorem f_X9_safe_ok {d F : Nat} {p1 : Int32} {p2 : Int32} {S : mS} {r : mR} (hf : f_X9_safe F p1 p2 S = some r) : Ev (d + 1) Mx124 (entry Mx124 [.ref 0, .int p1, .int p2] S) r := by
  unfold f_X9_safe at hf
  refine ev_sts 3 (c2 := (3, [.ref 0, .int p1, .int p2, mK, mK], [.int ((5 : Int32)), .int ((0 : Int32)), .int p2], S, 0)) rfl ?_
  refine ev_bV (d := d) (M' := Mx142) (ct := (6, [.ref 0, .int p1, .int p2, mK, mK], [], S, 1)) hf rfl rfl rfl rfl (by decide) (fun r9 h9 => f_X9_needWithin_ok (d := d) h9) (fun S1 hf => ?_)
  show Ev (d + 1) Mx124 (6, [.ref 0, .int p1, .int p2, mK, mK], [], S1, 1) r
  exact ev_sts 4 (c2 := (11, [mK, .int p1, .int p2, .int ((-1 : Int32)), .int ((0 : Int32))], [], S1, 1)) rfl (f_X9_safe_b11_ok _ hf)
def f_X9_seed (p1 : Int32) (S : mS) : Option mR := bI0 (f_X0_at 24 ((10 : Int32)) S) (fun r2 S1 => bV0 (f_X0_put 24 ((10 : Int32)) p1 S1) (fun S3 => some (.inl (some (.int r2)), S3)))
theorem f_X9_seed_ok {d : Nat} {p1 : Int32} {S : mS} {r : mR} (hf : f_X9_seed p1 S = some r) : Ev (d + 1) Mx134 (entry Mx134 [.ref 0, .int p1] S) r := by
  unfold f_X9_seed at hf
  refine ev_sts 3 (c2 := (6, [.ref 0, .int p1, mK], [.int ((10 : Int32)), .ref 24], S, 0)) rfl ?_
  refine ev_bI0 (d := d) (M' := Mx1) (ct := (9, [.ref 0, .int p1, mK], [], S, 0)) hf rfl rfl rfl rfl (fun r9 h9 => f_X0_at_ok_24 (d := d) h9) (fun r2 S1 hf => ?_)
  show Ev (d + 1) Mx134 (9, [.ref 0, .int p1, mK], [.int r2], S1, 0) r
  refine ev_sts 5 (c2 := (17, [.ref 0, .int p1, .int r2], [.int p1, .int ((10 : Int32)), .ref 24], S1, 0)) rfl ?_
  refine ev_bV0 (d := d) (M' := Mx2) (ct := (20, [.ref 0, .int p1, .int r2], [], S1, 0)) hf rfl rfl rfl rfl (fun r9 h9 => f_X0_put_ok_24 (d := d) h9) (fun S3 hf => ?_)
  show Ev (d + 1) Mx134 (20, [.ref 0, .int p1, .int r2], [], S3, 0) r
  refine ev_sts 1 (c2 := (21, [.ref 0, .int p1, .int r2], [.int r2], S3, 0)) rfl ?_
  exact ev_ret hf rfl rfl
def f_X9_share_b56 (t0 : Int32) (S : mS) : Option mR := some (.inl (some (.int t0)), S)
def f_X9_share (p1 : Int32) (p2 : Int32) (S : mS) : Option mR := bV (f_X9_needWithin p1 ((0 : Int32)) ((9999 : Int32)) S) (fun S1 => bI0 (f_X0_at 24 ((14 : Int32)) S1) (fun r3 S2 => bI0 (f_X0_at 24 ((13 : Int32)) S2) (fun r5 S4 => bnd ((if ((0 : Int32)) < (r3 + r5) then (r3 + r5) else ((0 : Int32))) + ((2 : Int32)) : Int32) (fun y6 => gd (decide (¬ y6 = 0)) (bnd (p1 / y6 : Int32) (fun y7 => (if p2 = 0 then f_X9_share_b56 y7 S4 else f_X9_share_b56 (p1 - (y7 * (y6 - ((1 : Int32))))) S4)))))))
theorem f_X9_share_b56_ok {d : Nat} {t0 : Int32} {S : mS} {r : mR} (hf : f_X9_share_b56 t0 S = some r) : Ev (d + 1) Mx128 (56, [mK, mK, mK, mK, mK], [.int t0], S, 1) r := by
  unfold f_X9_share_b56 at hf
  exact ev_ret hf rfl rfl
theorem f_X9_share_ok {d : Nat} {p1 : Int32} {p2 : Int32} {S : mS} {r : mR} (hf : f_X9_share p1 p2 S = some r) : Ev (d + 1) Mx128 (entry Mx128 [.ref 0, .int p1, .int p2] S) r := by
  unfold f_X9_share at hf
  refine ev_sts 3 (c2 := (5, [.ref 0, .int p1, .int p2, mK, mK], [.int ((9999 : Int32)), .int ((0 : Int32)), .int p1], S, 0)) rfl ?_
  refine ev_bV (d := d) (M' := Mx142) (ct := (8, [.ref 0, .int p1, .int p2, mK, mK], [], S, 1)) hf rfl rfl rfl rfl (by decide) (fun r9 h9 => f_X9_needWithin_ok (d := d) h9) (fun S1 hf => ?_)
  show Ev (d + 1) Mx128 (8, [.ref 0, .int p1, .int p2, mK, mK], [], S1, 1) r
  refine ev_sts 4 (c2 := (15, [.ref 0, .int p1, .int p2, mK, mK], [.int ((14 : Int32)), .ref 24, .int ((0 : Int32))], S1, 1)) rfl ?_
  refine ev_bI0 (d := d) (M' := Mx1) (ct := (18, [.ref 0, .int p1, .int p2, mK, mK], [.int ((0 : Int32))], S1, 1)) hf rfl rfl rfl rfl (fun r9 h9 => f_X0_at_ok_24 (d := d) h9) (fun r3 S2 hf => ?_)
  show Ev (d + 1) Mx128 (18, [.ref 0, .int p1, .int p2, mK, mK], [.int r3, .int ((0 : Int32))], S2, 1) r
  refine ev_sts 3 (c2 := (24, [.ref 0, .int p1, .int p2, mK, mK], [.int ((13 : Int32)), .ref 24, .int r3, .int ((0 : Int32))], S2, 1)) rfl ?_
  refine ev_bI0 (d := d) (M' := Mx1) (ct := (27, [.ref 0, .int p1, .int p2, mK, mK], [.int r3, .int ((0 : Int32))], S2, 1)) hf rfl rfl rfl rfl (fun r9 h9 => f_X0_at_ok_24 (d := d) h9) (fun r5 S4 hf => ?_)
  show Ev (d + 1) Mx128 (27, [.ref 0, .int p1, .int p2, mK, mK], [.int r5, .int r3, .int ((0 : Int32))], S4, 1) r
  refine ev_sts 5 (c2 := (34, [.ref 0, .int p1, .int p2, .int ((if ((0 : Int32)) < (r3 + r5) then (r3 + r5) else ((0 : Int32))) + ((2 : Int32))), mK], [], S4, 1)) rfl ?_
  refine ev_let (P := fun y6 => Ev (d + 1) Mx128 (34, [.ref 0, .int p1, .int p2, .int y6, mK], [], S4, 1) r) (fun y6 hf => ?_) hf
  refine ev_sts 2 (c2 := (36, [.ref 0, .int p1, .int p2, .int y6, mK], [.int y6, .int p1], S4, 1)) rfl ?_
  refine ev_gd (c1 := (37, [.ref 0, .int p1, .int p2, .int y6, mK], [.int (p1 / y6)], S4, 1)) hf rfl rfl (fun hf => ?_)
  refine ev_sts 1 (c2 := (39, [.ref 0, .int p1, .int p2, .int y6, .int (p1 / y6)], [], S4, 1)) rfl ?_
  refine ev_let (P := fun y7 => Ev (d + 1) Mx128 (39, [.ref 0, .int p1, .int p2, .int y6, .int y7], [], S4, 1) r) (fun y7 hf => ?_) hf
  refine ev_sts 1 (c2 := (40, [.ref 0, .int p1, .int p2, .int y6, .int y7], [.int p2], S4, 1)) rfl ?_
  refine ev_if (c1 := (54, [.ref 0, .int p1, .int p2, .int y6, .int y7], [], S4, 1)) (c2 := (43, [.ref 0, .int p1, .int p2, .int y6, .int y7], [], S4, 1)) hf rfl rfl (fun _ hf => ?_) (fun _ hf => ?_)
  · exact ev_sts 1 (c2 := (56, [mK, mK, mK, mK, mK], [.int y7], S4, 1)) rfl (f_X9_share_b56_ok hf)
  · exact ev_sts 8 (c2 := (56, [mK, mK, mK, mK, mK], [.int (p1 - (y7 * (y6 - ((1 : Int32)))))], S4, 1)) rfl (f_X9_share_b56_ok hf)
def f_X9_shifts_b44 (F : Nat) : Nat → Int32 → Int32 → Int32 → Int32 → mS → Option mR
  | 0, _, _, _, _, _ => none
  | n + 1, x3, x4, x5, x6, S => (if x4 ≤ x6 then some (.inl (some (.int x5)), S) else bI0 (f_X9_mostCrews F x6 x3 S) (fun r9 S8 => gd (inb x6 64) (bnd (upS S8 62 x6.toNatClampNeg r9) (fun S10 => f_X9_shifts_b44 F n x3 x4 r9 (x6 + (1 : Int32)) S10))))
def f_X9_shifts (F : Nat) (p1 : Int32) (p2 : Int32) (S : mS) : Option mR := bV (f_X9_needClimber p1 S) (fun S1 => bV (f_X9_needLedge p2 S1) (fun S2 => bI0 (f_X7_loadOf 24 p1 p2 S2) (fun r4 S3 => bI0 (f_X9_holderSets S3) (fun r6 S5 => bnd (if (Int32.ofNat 64) < r6 then (Int32.ofNat 64) else r6 : Int32) (fun y7 => f_X9_shifts_b44 F F r4 y7 ((0 : Int32)) ((0 : Int32)) S5)))))
theorem f_X9_shifts_b44_ok {d F : Nat} : ∀ (n : Nat) {x3 : Int32} {x4 : Int32} {x5 : Int32} {x6 : Int32} {S : mS} {r : mR}, f_X9_shifts_b44 F n x3 x4 x5 x6 S = some r → Ev (d + 4) Mx115 (44, [.ref 0, mK, mK, .int x3, .int x4, .int x5, .int x6], [], S, 2) r := by
  intro n
  induction n with
  | zero => intro x3 x4 x5 x6 S r hf; cases hf
  | succ n ih =>
    intro x3 x4 x5 x6 S r hf
    rw [f_X9_shifts_b44] at hf
    refine ev_sts 2 (c2 := (48, [.ref 0, mK, mK, .int x3, .int x4, .int x5, .int x6], [.int x4, .int x6], S, 2)) rfl ?_
    refine ev_if (c1 := (75, [.ref 0, mK, mK, .int x3, .int x4, .int x5, .int x6], [], S, 2)) (c2 := (51, [.ref 0, mK, mK, .int x3, .int x4, .int x5, .int x6], [], S, 2)) hf rfl rfl (fun _ hf => ?_) (fun _ hf => ?_)
    · refine ev_sts 1 (c2 := (77, [.ref 0, mK, mK, .int x3, .int x4, .int x5, .int x6], [.int x5], S, 2)) rfl ?_
      exact ev_ret hf rfl rfl
    · refine ev_sts 3 (c2 := (55, [.ref 0, mK, mK, .int x3, .int x4, .int x5, .int x6], [.int x3, .int x6, .ref 0], S, 2)) rfl ?_
      refine ev_bI0 (d := d + 3) (M' := Mx152) (ct := (58, [.ref 0, mK, mK, .int x3, .int x4, .int x5, .int x6], [], S, 2)) hf rfl rfl rfl rfl (fun r9 h9 => f_X9_mostCrews_ok (d := d) h9) (fun r9 S8 hf => ?_)
      show Ev (d + 4) Mx115 (58, [.ref 0, mK, mK, .int x3, .int x4, .int x5, .int x6], [.int r9], S8, 2) r
      refine ev_sts 5 (c2 := (68, [.ref 0, mK, mK, .int x3, .int x4, .int r9, .int x6], [.int r9, .int x6, .ref 62], S8, 2)) rfl ?_
      refine ev_gd (c1 := (69, [.ref 0, mK, mK, .int x3, .int x4, .int r9, .int x6], [], (upS S8 62 x6.toNatClampNeg r9), 2)) hf rfl rfl (fun hf => ?_)
      refine ev_let (P := fun S10 => Ev (d + 4) Mx115 (69, [.ref 0, mK, mK, .int x3, .int x4, .int r9, .int x6], [], S10, 2) r) (fun S10 hf => ?_) hf
      exact ev_sts 2 (c2 := (44, [.ref 0, mK, mK, .int x3, .int x4, .int r9, .int (x6 + (1 : Int32))], [], S10, 2)) rfl (ih hf)
theorem f_X9_shifts_ok {d F : Nat} {p1 : Int32} {p2 : Int32} {S : mS} {r : mR} (hf : f_X9_shifts F p1 p2 S = some r) : Ev (d + 4) Mx115 (entry Mx115 [.ref 0, .int p1, .int p2] S) r := by
  unfold f_X9_shifts at hf
  refine ev_sts 2 (c2 := (2, [.ref 0, .int p1, .int p2, mK, mK, mK, mK], [.int p1, .ref 0], S, 0)) rfl ?_
  refine ev_bV (d := d + 3) (M' := Mx141) (ct := (5, [.ref 0, .int p1, .int p2, mK, mK, mK, mK], [], S, 1)) hf rfl rfl rfl rfl (by decide) (fun r9 h9 => f_X9_needClimber_ok (d := d + 2) h9) (fun S1 hf => ?_)
  show Ev (d + 4) Mx115 (5, [.ref 0, .int p1, .int p2, mK, mK, mK, mK], [], S1, 1) r
  refine ev_sts 2 (c2 := (7, [.ref 0, .int p1, .int p2, mK, mK, mK, mK], [.int p2, .ref 0], S1, 1)) rfl ?_
  refine ev_bV (d := d + 3) (M' := Mx139) (ct := (10, [.ref 0, .int p1, .int p2, mK, mK, mK, mK], [], S1, 2)) hf rfl rfl rfl rfl (by decide) (fun r9 h9 => f_X9_needLedge_ok (d := d + 2) h9) (fun S2 hf => ?_)
  show Ev (d + 4) Mx115 (10, [.ref 0, .int p1, .int p2, mK, mK, mK, mK], [], S2, 2) r
  refine ev_sts 6 (c2 := (20, [.ref 0, .int p1, .int p2, mK, mK, mK, mK], [.int p2, .int p1, .ref 24, .ref 32], S2, 2)) rfl ?_
  refine ev_bI0 (d := d + 3) (M' := Mx61) (ct := (23, [.ref 0, .int p1, .int p2, mK, mK, mK, mK], [], S2, 2)) hf rfl rfl rfl rfl (fun r9 h9 => f_X7_loadOf_ok_24 (d := d + 1) h9) (fun r4 S3 hf => ?_)
  show Ev (d + 4) Mx115 (23, [.ref 0, .int p1, .int p2, mK, mK, mK, mK], [.int r4], S3, 2) r
  refine ev_sts 2 (c2 := (25, [.ref 0, .int p1, .int p2, .int r4, mK, mK, mK], [.ref 0], S3, 2)) rfl ?_
  refine ev_bI0 (d := d + 3) (M' := Mx145) (ct := (28, [.ref 0, .int p1, .int p2, .int r4, mK, mK, mK], [], S3, 2)) hf rfl rfl rfl rfl (fun r9 h9 => f_X9_holderSets_ok (d := d + 2) h9) (fun r6 S5 hf => ?_)
  show Ev (d + 4) Mx115 (28, [.ref 0, .int p1, .int p2, .int r4, mK, mK, mK], [.int r6], S5, 2) r
  refine ev_sts 5 (c2 := (38, [.ref 0, .int p1, .int p2, .int r4, .int (if (Int32.ofNat 64) < r6 then (Int32.ofNat 64) else r6), mK, mK], [], S5, 2)) rfl ?_
  refine ev_let (P := fun y7 => Ev (d + 4) Mx115 (38, [.ref 0, .int p1, .int p2, .int r4, .int y7, mK, mK], [], S5, 2) r) (fun y7 hf => ?_) hf
  exact ev_sts 4 (c2 := (44, [.ref 0, mK, mK, .int r4, .int y7, .int ((0 : Int32)), .int ((0 : Int32))], [], S5, 2)) rfl (f_X9_shifts_b44_ok _ hf)
def f_X9_span_b52 (K17 : Int32 → Int32 → Int32 → Int32 → mS → Option mR) (F : Nat) (x1 : Int32) (x2 : Int32) (x4 : Int32) (t0 : Int32) (S : mS) : Option mR := K17 x1 x2 t0 (x4 + (1 : Int32)) S
def f_X9_span_b17 (F : Nat) : Nat → Int32 → Int32 → Int32 → Int32 → mS → Option mR
  | 0, _, _, _, _, _ => none
  | n + 1, x1, x2, x3, x4, S => (if ((6 : Int32)) < x4 then some (.inl (some (.int x3)), S) else bI0 (f_X9_freshBehind F x1 x4 S) (fun r5 S4 => (if x2 = 0 then f_X9_span_b52 (fun x1 x2 x3 x4 S => f_X9_span_b17 F n x1 x2 x3 x4 S) F x1 x2 x4 (if r5 < x3 then r5 else x3) S4 else f_X9_span_b52 (fun x1 x2 x3 x4 S => f_X9_span_b17 F n x1 x2 x3 x4 S) F x1 x2 x4 (if x3 < r5 then r5 else x3) S4)))
def f_X9_span (F : Nat) (p1 : Int32) (p2 : Int32) (S : mS) : Option mR := bV (f_X9_needWithin p1 ((0 : Int32)) ((40 : Int32)) S) (fun S1 => bI0 (f_X9_freshBehind F p1 ((1 : Int32)) S1) (fun r3 S2 => f_X9_span_b17 F F p1 p2 r3 ((2 : Int32)) S2))
theorem f_X9_span_b52_ok {d F : Nat} {K17 : Int32 → Int32 → Int32 → Int32 → mS → Option mR} (hK17 : ∀ {x1 : Int32} {x2 : Int32} {x3 : Int32} {x4 : Int32} {S : mS} {r : mR}, K17 x1 x2 x3 x4 S = some r → Ev (d + 7) Mx112 (17, [.ref 0, .int x1, .int x2, .int x3, .int x4, mK], [], S, 1) r) {x1 : Int32} {x2 : Int32} {x4 : Int32} {t0 : Int32} {S : mS} {r : mR} (hf : f_X9_span_b52 K17 F x1 x2 x4 t0 S = some r) : Ev (d + 7) Mx112 (52, [.ref 0, .int x1, .int x2, mK, .int x4, mK], [.int t0], S, 1) r := by
  unfold f_X9_span_b52 at hf
  exact ev_sts 3 (c2 := (17, [.ref 0, .int x1, .int x2, .int t0, .int (x4 + (1 : Int32)), mK], [], S, 1)) rfl (hK17 hf)
theorem f_X9_span_b17_ok {d F : Nat} : ∀ (n : Nat) {x1 : Int32} {x2 : Int32} {x3 : Int32} {x4 : Int32} {S : mS} {r : mR}, f_X9_span_b17 F n x1 x2 x3 x4 S = some r → Ev (d + 7) Mx112 (17, [.ref 0, .int x1, .int x2, .int x3, .int x4, mK], [], S, 1) r := by
  intro n
  induction n with
  | zero => intro x1 x2 x3 x4 S r hf; cases hf
  | succ n ih =>
    intro x1 x2 x3 x4 S r hf
    rw [f_X9_span_b17] at hf
    refine ev_sts 2 (c2 := (21, [.ref 0, .int x1, .int x2, .int x3, .int x4, mK], [.int ((6 : Int32)), .int x4], S, 1)) rfl ?_
    refine ev_if (c1 := (59, [.ref 0, .int x1, .int x2, .int x3, .int x4, mK], [], S, 1)) (c2 := (24, [.ref 0, .int x1, .int x2, .int x3, .int x4, mK], [], S, 1)) hf rfl rfl (fun _ hf => ?_) (fun _ hf => ?_)
    · refine ev_sts 1 (c2 := (60, [.ref 0, .int x1, .int x2, .int x3, .int x4, mK], [.int x3], S, 1)) rfl ?_
      exact ev_ret hf rfl rfl
    · refine ev_sts 3 (c2 := (28, [.ref 0, .int x1, .int x2, .int x3, .int x4, mK], [.int x4, .int x1, .ref 0], S, 1)) rfl ?_
      refine ev_bI0 (d := d + 6) (M' := Mx153) (ct := (31, [.ref 0, .int x1, .int x2, .int x3, .int x4, mK], [], S, 1)) hf rfl rfl rfl rfl (fun r9 h9 => f_X9_freshBehind_ok (d := d) h9) (fun r5 S4 hf => ?_)
      show Ev (d + 7) Mx112 (31, [.ref 0, .int x1, .int x2, .int x3, .int x4, mK], [.int r5], S4, 1) r
      refine ev_sts 2 (c2 := (34, [.ref 0, .int x1, .int x2, .int x3, .int x4, .int r5], [.int x2], S4, 1)) rfl ?_
      refine ev_if (c1 := (46, [.ref 0, .int x1, .int x2, .int x3, .int x4, .int r5], [], S4, 1)) (c2 := (37, [.ref 0, .int x1, .int x2, .int x3, .int x4, .int r5], [], S4, 1)) hf rfl rfl (fun _ hf => ?_) (fun _ hf => ?_)
      · exact ev_sts 3 (c2 := (52, [.ref 0, .int x1, .int x2, mK, .int x4, mK], [.int (if r5 < x3 then r5 else x3)], S4, 1)) rfl (f_X9_span_b52_ok (fun h9 => ih h9) hf)
      · exact ev_sts 4 (c2 := (52, [.ref 0, .int x1, .int x2, mK, .int x4, mK], [.int (if x3 < r5 then r5 else x3)], S4, 1)) rfl (f_X9_span_b52_ok (fun h9 => ih h9) hf)
theorem f_X9_span_ok {d F : Nat} {p1 : Int32} {p2 : Int32} {S : mS} {r : mR} (hf : f_X9_span F p1 p2 S = some r) : Ev (d + 7) Mx112 (entry Mx112 [.ref 0, .int p1, .int p2] S) r := by
  unfold f_X9_span at hf
  refine ev_sts 3 (c2 := (4, [.ref 0, .int p1, .int p2, mK, mK, mK], [.int ((40 : Int32)), .int ((0 : Int32)), .int p1], S, 0)) rfl ?_
  refine ev_bV (d := d + 6) (M' := Mx142) (ct := (7, [.ref 0, .int p1, .int p2, mK, mK, mK], [], S, 1)) hf rfl rfl rfl rfl (by decide) (fun r9 h9 => f_X9_needWithin_ok (d := d + 6) h9) (fun S1 hf => ?_)
  show Ev (d + 7) Mx112 (7, [.ref 0, .int p1, .int p2, mK, mK, mK], [], S1, 1) r
  refine ev_sts 3 (c2 := (10, [.ref 0, .int p1, .int p2, mK, mK, mK], [.int ((1 : Int32)), .int p1, .ref 0], S1, 1)) rfl ?_
  refine ev_bI0 (d := d + 6) (M' := Mx153) (ct := (13, [.ref 0, .int p1, .int p2, mK, mK, mK], [], S1, 1)) hf rfl rfl rfl rfl (fun r9 h9 => f_X9_freshBehind_ok (d := d) h9) (fun r3 S2 hf => ?_)
  show Ev (d + 7) Mx112 (13, [.ref 0, .int p1, .int p2, mK, mK, mK], [.int r3], S2, 1) r
  exact ev_sts 3 (c2 := (17, [.ref 0, .int p1, .int p2, .int r3, .int ((2 : Int32)), mK], [], S2, 1)) rfl (f_X9_span_b17_ok _ hf)
def f_X9_split_b72 (F : Nat) (t0 : Int32) (S : mS) : Option mR := some (.inl (some (.int t0)), S)
def f_X9_split_b56 (K17 : Int32 → Int32 → Int32 → Int32 → Int32 → mS → Option mR) (F : Nat) (x1 : Int32) (x2 : Int32) (x3 : Int32) (x4 : Int32) (x5 : Int32) (S : mS) : Option mR := K17 x1 x2 x3 x4 (x5 + (1 : Int32)) S
def f_X9_split_b17 (F : Nat) : Nat → Int32 → Int32 → Int32 → Int32 → Int32 → mS → Option mR
  | 0, _, _, _, _, _, _ => none
  | n + 1, x1, x2, x3, x4, x5, S => bI0 (f_X9_ledgeSets S) (fun r4 S3 => (if r4 ≤ x5 then (if x1 = 0 then f_X9_split_b72 F x4 S3 else f_X9_split_b72 F x3 S3) else bI0 (f_X9_sumOf F x5 ((2 : Int32)) S3) (fun r6 S5 => bnd (if 0 ≤ (x2 - (((2 : Int32)) * r6)) then (x2 - (((2 : Int32)) * r6)) else 0 - (x2 - (((2 : Int32)) * r6)) : Int32) (fun y7 => (if x4 ≤ y7 then f_X9_split_b56 (fun x1 x2 x3 x4 x5 S => f_X9_split_b17 F n x1 x2 x3 x4 x5 S) F x1 x2 x3 x4 x5 S5 else f_X9_split_b56 (fun x1 x2 x3 x4 x5 S => f_X9_split_b17 F n x1 x2 x3 x4 x5 S) F x1 x2 x5 y7 x5 S5)))))
def f_X9_split (F : Nat) (p1 : Int32) (S : mS) : Option mR := bI0 (f_X0_totalOf F 24 ((2 : Int32)) S) (fun r2 S1 => f_X9_split_b17 F F p1 r2 ((0 : Int32)) r2 ((0 : Int32)) S1)
theorem f_X9_split_b72_ok {d F : Nat} {t0 : Int32} {S : mS} {r : mR} (hf : f_X9_split_b72 F t0 S = some r) : Ev (d + 3) Mx127 (72, [mK, mK, mK, mK, mK, mK, mK], [.int t0], S, 0) r := by
  unfold f_X9_split_b72 at hf
  exact ev_ret hf rfl rfl
theorem f_X9_split_b56_ok {d F : Nat} {K17 : Int32 → Int32 → Int32 → Int32 → Int32 → mS → Option mR} (hK17 : ∀ {x1 : Int32} {x2 : Int32} {x3 : Int32} {x4 : Int32} {x5 : Int32} {S : mS} {r : mR}, K17 x1 x2 x3 x4 x5 S = some r → Ev (d + 3) Mx127 (17, [.ref 0, .int x1, .int x2, .int x3, .int x4, .int x5, mK], [], S, 0) r) {x1 : Int32} {x2 : Int32} {x3 : Int32} {x4 : Int32} {x5 : Int32} {S : mS} {r : mR} (hf : f_X9_split_b56 K17 F x1 x2 x3 x4 x5 S = some r) : Ev (d + 3) Mx127 (56, [.ref 0, .int x1, .int x2, .int x3, .int x4, .int x5, mK], [], S, 0) r := by
  unfold f_X9_split_b56 at hf
  exact ev_sts 2 (c2 := (17, [.ref 0, .int x1, .int x2, .int x3, .int x4, .int (x5 + (1 : Int32)), mK], [], S, 0)) rfl (hK17 hf)
theorem f_X9_split_b17_ok {d F : Nat} : ∀ (n : Nat) {x1 : Int32} {x2 : Int32} {x3 : Int32} {x4 : Int32} {x5 : Int32} {S : mS} {r : mR}, f_X9_split_b17 F n x1 x2 x3 x4 x5 S = some r → Ev (d + 3) Mx127 (17, [.ref 0, .int x1, .int x2, .int x3, .int x4, .int x5, mK], [], S, 0) r := by
  intro n
  induction n with
  | zero => intro x1 x2 x3 x4 x5 S r hf; cases hf
  | succ n ih =>
    intro x1 x2 x3 x4 x5 S r hf
    rw [f_X9_split_b17] at hf
    refine ev_sts 2 (c2 := (20, [.ref 0, .int x1, .int x2, .int x3, .int x4, .int x5, mK], [.ref 0, .int x5], S, 0)) rfl ?_
    refine ev_bI0 (d := d + 2) (M' := Mx144) (ct := (23, [.ref 0, .int x1, .int x2, .int x3, .int x4, .int x5, mK], [.int x5], S, 0)) hf rfl rfl rfl rfl (fun r9 h9 => f_X9_ledgeSets_ok (d := d + 1) h9) (fun r4 S3 hf => ?_)
    show Ev (d + 3) Mx127 (23, [.ref 0, .int x1, .int x2, .int x3, .int x4, .int x5, mK], [.int r4, .int x5], S3, 0) r
    refine ev_if (c1 := (62, [.ref 0, .int x1, .int x2, .int x3, .int x4, .int x5, mK], [], S3, 0)) (c2 := (26, [.ref 0, .int x1, .int x2, .int x3, .int x4, .int x5, mK], [], S3, 0)) hf rfl rfl (fun _ hf => ?_) (fun _ hf => ?_)
    · refine ev_sts 1 (c2 := (63, [.ref 0, .int x1, .int x2, .int x3, .int x4, .int x5, mK], [.int x1], S3, 0)) rfl ?_
      refine ev_if (c1 := (70, [.ref 0, .int x1, .int x2, .int x3, .int x4, .int x5, mK], [], S3, 0)) (c2 := (66, [.ref 0, .int x1, .int x2, .int x3, .int x4, .int x5, mK], [], S3, 0)) hf rfl rfl (fun _ hf => ?_) (fun _ hf => ?_)
      · exact ev_sts 1 (c2 := (72, [mK, mK, mK, mK, mK, mK, mK], [.int x4], S3, 0)) rfl (f_X9_split_b72_ok hf)
      · exact ev_sts 2 (c2 := (72, [mK, mK, mK, mK, mK, mK, mK], [.int x3], S3, 0)) rfl (f_X9_split_b72_ok hf)
    · refine ev_sts 5 (c2 := (32, [.ref 0, .int x1, .int x2, .int x3, .int x4, .int x5, mK], [.int ((2 : Int32)), .int x5, .ref 0, .int ((2 : Int32)), .int x2], S3, 0)) rfl ?_
      refine ev_bI0 (d := d + 2) (M' := Mx146) (ct := (35, [.ref 0, .int x1, .int x2, .int x3, .int x4, .int x5, mK], [.int ((2 : Int32)), .int x2], S3, 0)) hf rfl rfl rfl rfl (fun r9 h9 => f_X9_sumOf_ok (d := d) h9) (fun r6 S5 hf => ?_)
      show Ev (d + 3) Mx127 (35, [.ref 0, .int x1, .int x2, .int x3, .int x4, .int x5, mK], [.int r6, .int ((2 : Int32)), .int x2], S5, 0) r
      refine ev_sts 4 (c2 := (42, [.ref 0, .int x1, .int x2, .int x3, .int x4, .int x5, .int (if 0 ≤ (x2 - (((2 : Int32)) * r6)) then (x2 - (((2 : Int32)) * r6)) else 0 - (x2 - (((2 : Int32)) * r6)))], [], S5, 0)) rfl ?_
      refine ev_let (P := fun y7 => Ev (d + 3) Mx127 (42, [.ref 0, .int x1, .int x2, .int x3, .int x4, .int x5, .int y7], [], S5, 0) r) (fun y7 hf => ?_) hf
      refine ev_sts 2 (c2 := (46, [.ref 0, .int x1, .int x2, .int x3, .int x4, .int x5, .int y7], [.int x4, .int y7], S5, 0)) rfl ?_
      refine ev_if (c1 := (56, [.ref 0, .int x1, .int x2, .int x3, .int x4, .int x5, mK], [], S5, 0)) (c2 := (49, [.ref 0, .int x1, .int x2, .int x3, .int x4, .int x5, .int y7], [], S5, 0)) hf rfl rfl (fun _ hf => ?_) (fun _ hf => ?_)
      · exact f_X9_split_b56_ok (fun h9 => ih h9) hf
      · exact ev_sts 4 (c2 := (56, [.ref 0, .int x1, .int x2, .int x5, .int y7, .int x5, mK], [], S5, 0)) rfl (f_X9_split_b56_ok (fun h9 => ih h9) hf)
theorem f_X9_split_ok {d F : Nat} {p1 : Int32} {S : mS} {r : mR} (hf : f_X9_split F p1 S = some r) : Ev (d + 3) Mx127 (entry Mx127 [.ref 0, .int p1] S) r := by
  unfold f_X9_split at hf
  refine ev_sts 3 (c2 := (5, [.ref 0, .int p1, mK, mK, mK, mK, mK], [.int ((2 : Int32)), .ref 24], S, 0)) rfl ?_
  refine ev_bI0 (d := d + 2) (M' := Mx15) (ct := (8, [.ref 0, .int p1, mK, mK, mK, mK, mK], [], S, 0)) hf rfl rfl rfl rfl (fun r9 h9 => f_X0_totalOf_ok_24 (d := d) h9) (fun r2 S1 hf => ?_)
  show Ev (d + 3) Mx127 (8, [.ref 0, .int p1, mK, mK, mK, mK, mK], [.int r2], S1, 0) r
  exact ev_sts 7 (c2 := (17, [.ref 0, .int p1, .int r2, .int ((0 : Int32)), .int r2, .int ((0 : Int32)), mK], [], S1, 0)) rfl (f_X9_split_b17_ok _ hf)
def f_X9_swing (F : Nat) (p1 : Int32) (p2 : Int32) (p3 : Int32) (S : mS) : Option mR := bV (f_X9_needLedge p1 S) (fun S1 => bV (f_X9_needWithin p2 ((1 : Int32)) ((12 : Int32)) S1) (fun S2 => bV (f_X9_needWithin p3 ((0 : Int32)) ((9 : Int32)) S2) (fun S3 => bI0 (f_X7_swingOf F 24 p1 p2 p3 S3) (fun r5 S4 => some (.inl (some (.int r5)), S4)))))
theorem f_X9_swing_ok {d F : Nat} {p1 : Int32} {p2 : Int32} {p3 : Int32} {S : mS} {r : mR} (hf : f_X9_swing F p1 p2 p3 S = some r) : Ev (d + 4) Mx96 (entry Mx96 [.ref 0, .int p1, .int p2, .int p3] S) r := by
  unfold f_X9_swing at hf
  refine ev_sts 2 (c2 := (2, [.ref 0, .int p1, .int p2, .int p3], [.int p1, .ref 0], S, 0)) rfl ?_
  refine ev_bV (d := d + 3) (M' := Mx139) (ct := (5, [.ref 0, .int p1, .int p2, .int p3], [], S, 1)) hf rfl rfl rfl rfl (by decide) (fun r9 h9 => f_X9_needLedge_ok (d := d + 2) h9) (fun S1 hf => ?_)
  show Ev (d + 4) Mx96 (5, [.ref 0, .int p1, .int p2, .int p3], [], S1, 1) r
  refine ev_sts 3 (c2 := (9, [.ref 0, .int p1, .int p2, .int p3], [.int ((12 : Int32)), .int ((1 : Int32)), .int p2], S1, 1)) rfl ?_
  refine ev_bV (d := d + 3) (M' := Mx142) (ct := (12, [.ref 0, .int p1, .int p2, .int p3], [], S1, 2)) hf rfl rfl rfl rfl (by decide) (fun r9 h9 => f_X9_needWithin_ok (d := d + 3) h9) (fun S2 hf => ?_)
  show Ev (d + 4) Mx96 (12, [.ref 0, .int p1, .int p2, .int p3], [], S2, 2) r
  refine ev_sts 3 (c2 := (16, [.ref 0, .int p1, .int p2, .int p3], [.int ((9 : Int32)), .int ((0 : Int32)), .int p3], S2, 2)) rfl ?_
  refine ev_bV (d := d + 3) (M' := Mx142) (ct := (19, [.ref 0, .int p1, .int p2, .int p3], [], S2, 3)) hf rfl rfl rfl rfl (by decide) (fun r9 h9 => f_X9_needWithin_ok (d := d + 3) h9) (fun S3 hf => ?_)
  show Ev (d + 4) Mx96 (19, [.ref 0, .int p1, .int p2, .int p3], [], S3, 3) r
  refine ev_sts 7 (c2 := (30, [.ref 0, .int p1, .int p2, .int p3], [.int p3, .int p2, .int p1, .ref 24, .ref 32], S3, 3)) rfl ?_
  refine ev_bI0 (d := d + 3) (M' := Mx57) (ct := (33, [.ref 0, .int p1, .int p2, .int p3], [], S3, 3)) hf rfl rfl rfl rfl (fun r9 h9 => f_X7_swingOf_ok_24 (d := d) h9) (fun r5 S4 hf => ?_)
  show Ev (d + 4) Mx96 (33, [.ref 0, .int p1, .int p2, .int p3], [.int r5], S4, 3) r
  exact ev_ret hf rfl rfl
def f_X9_trial_b66 (F : Nat) (t0 : Int32) (S : mS) : Option mR := some (.inl (some (.int t0)), S)
def f_X9_trial_b20 (F : Nat) : Nat → Int32 → Int32 → Int32 → mS → Option mR
  | 0, _, _, _, _ => none
  | n + 1, x1, x2, x3, S => (if x1 ≤ x3 then (if x2 = 0 then bI0 (f_X0_totalOf F 26 ((2 : Int32)) S) (fun r4 S3 => f_X9_trial_b66 F r4 S3) else bI0 (f_X0_at 26 ((4 : Int32)) S) (fun r6 S5 => f_X9_trial_b66 F r6 S5)) else bI0 (f_X7_dayMore F 26 S) (fun r8 S7 => f_X9_trial_b20 F n x1 x2 (x3 + (1 : Int32)) S7))
def f_X9_trial (F : Nat) (p1 : Int32) (p2 : Int32) (S : mS) : Option mR := bV (f_X9_needWithin p1 ((0 : Int32)) ((40 : Int32)) S) (fun S1 => bV0 (f_X0_copy 26 24 S1) (fun S2 => f_X9_trial_b20 F F p1 p2 ((0 : Int32)) S2))
theorem f_X9_trial_b66_ok {d F : Nat} {t0 : Int32} {S : mS} {r : mR} (hf : f_X9_trial_b66 F t0 S = some r) : Ev (d + 6) Mx111 (66, [mK, mK, mK, mK], [.int t0], S, 1) r := by
  unfold f_X9_trial_b66 at hf
  exact ev_ret hf rfl rfl
theorem f_X9_trial_b20_ok {d F : Nat} : ∀ (n : Nat) {x1 : Int32} {x2 : Int32} {x3 : Int32} {S : mS} {r : mR}, f_X9_trial_b20 F n x1 x2 x3 S = some r → Ev (d + 6) Mx111 (20, [.ref 0, .int x1, .int x2, .int x3], [], S, 1) r := by
  intro n
  induction n with
  | zero => intro x1 x2 x3 S r hf; cases hf
  | succ n ih =>
    intro x1 x2 x3 S r hf
    rw [f_X9_trial_b20] at hf
    refine ev_sts 2 (c2 := (22, [.ref 0, .int x1, .int x2, .int x3], [.int x1, .int x3], S, 1)) rfl ?_
    refine ev_if (c1 := (43, [.ref 0, .int x1, .int x2, .int x3], [], S, 1)) (c2 := (25, [.ref 0, .int x1, .int x2, .int x3], [], S, 1)) hf rfl rfl (fun _ hf => ?_) (fun _ hf => ?_)
    · refine ev_sts 1 (c2 := (44, [.ref 0, .int x1, .int x2, .int x3], [.int x2], S, 1)) rfl ?_
      refine ev_if (c1 := (58, [.ref 0, .int x1, .int x2, .int x3], [], S, 1)) (c2 := (47, [.ref 0, .int x1, .int x2, .int x3], [], S, 1)) hf rfl rfl (fun _ hf => ?_) (fun _ hf => ?_)
      · refine ev_sts 3 (c2 := (63, [.ref 0, .int x1, .int x2, .int x3], [.int ((2 : Int32)), .ref 26], S, 1)) rfl ?_
        refine ev_bI0 (d := d + 5) (M' := Mx15) (ct := (66, [mK, mK, mK, mK], [], S, 1)) hf rfl rfl rfl rfl (fun r9 h9 => f_X0_totalOf_ok_26 (d := d + 3) h9) (fun r4 S3 hf => ?_)
        show Ev (d + 6) Mx111 (66, [mK, mK, mK, mK], [.int r4], S3, 1) r
        exact f_X9_trial_b66_ok hf
      · refine ev_sts 3 (c2 := (52, [.ref 0, .int x1, .int x2, .int x3], [.int ((4 : Int32)), .ref 26], S, 1)) rfl ?_
        refine ev_bI0 (d := d + 5) (M' := Mx1) (ct := (55, [.ref 0, .int x1, .int x2, .int x3], [], S, 1)) hf rfl rfl rfl rfl (fun r9 h9 => f_X0_at_ok_26 (d := d + 5) h9) (fun r6 S5 hf => ?_)
        show Ev (d + 6) Mx111 (55, [.ref 0, .int x1, .int x2, .int x3], [.int r6], S5, 1) r
        exact ev_sts 1 (c2 := (66, [mK, mK, mK, mK], [.int r6], S5, 1)) rfl (f_X9_trial_b66_ok hf)
    · refine ev_sts 4 (c2 := (33, [.ref 0, .int x1, .int x2, .int x3], [.ref 26, .ref 32], S, 1)) rfl ?_
      refine ev_bI0 (d := d + 5) (M' := Mx67) (ct := (36, [.ref 0, .int x1, .int x2, .int x3], [], S, 1)) hf rfl rfl rfl rfl (fun r9 h9 => f_X7_dayMore_ok_26 (d := d) h9) (fun r8 S7 hf => ?_)
      show Ev (d + 6) Mx111 (36, [.ref 0, .int x1, .int x2, .int x3], [.int r8], S7, 1) r
      exact ev_sts 3 (c2 := (20, [.ref 0, .int x1, .int x2, .int (x3 + (1 : Int32))], [], S7, 1)) rfl (ih hf)
theorem f_X9_trial_ok {d F : Nat} {p1 : Int32} {p2 : Int32} {S : mS} {r : mR} (hf : f_X9_trial F p1 p2 S = some r) : Ev (d + 6) Mx111 (entry Mx111 [.ref 0, .int p1, .int p2] S) r := by
  unfold f_X9_trial at hf
  refine ev_sts 3 (c2 := (4, [.ref 0, .int p1, .int p2, mK], [.int ((40 : Int32)), .int ((0 : Int32)), .int p1], S, 0)) rfl ?_
  refine ev_bV (d := d + 5) (M' := Mx142) (ct := (7, [.ref 0, .int p1, .int p2, mK], [], S, 1)) hf rfl rfl rfl rfl (by decide) (fun r9 h9 => f_X9_needWithin_ok (d := d + 5) h9) (fun S1 hf => ?_)
  show Ev (d + 6) Mx111 (7, [.ref 0, .int p1, .int p2, mK], [], S1, 1) r
  refine ev_sts 4 (c2 := (15, [.ref 0, .int p1, .int p2, mK], [.ref 24, .ref 26], S1, 1)) rfl ?_
  refine ev_bV0 (d := d + 5) (M' := Mx0) (ct := (18, [.ref 0, .int p1, .int p2, mK], [], S1, 1)) hf rfl rfl rfl rfl (fun r9 h9 => f_X0_copy_ok_26_24 (d := d + 5) h9) (fun S2 hf => ?_)
  show Ev (d + 6) Mx111 (18, [.ref 0, .int p1, .int p2, mK], [], S2, 1) r
  exact ev_sts 2 (c2 := (20, [.ref 0, .int p1, .int p2, .int ((0 : Int32))], [], S2, 1)) rfl (f_X9_trial_b20_ok _ hf)
def f_X9_trips_b66 (F : Nat) (x3 : Int32) (S : mS) : Option mR := some (.inl (some (.int x3)), S)
def f_X9_trips_b23 (F : Nat) : Nat → Int32 → Int32 → Int32 → mS → Option mR
  | 0, _, _, _, _ => none
  | n + 1, x1, x2, x3, S => (if ((99 : Int32)) ≤ x3 then f_X9_trips_b66 F x3 S else bI0 (f_X7_canLet F 26 x1 x2 S) (fun r5 S4 => (if r5 = 0 then f_X9_trips_b66 F x3 S4 else bI0 (f_X7_letDown F 26 x1 x2 ((0 : Int32)) S4) (fun r7 S6 => f_X9_trips_b23 F n x1 x2 (x3 + (1 : Int32)) S6))))
def f_X9_trips (F : Nat) (p1 : Int32) (p2 : Int32) (S : mS) : Option mR := bV (f_X9_needClimber p1 S) (fun S1 => bV (f_X9_needLedge p2 S1) (fun S2 => bV0 (f_X0_copy 26 24 S2) (fun S3 => f_X9_trips_b23 F F p1 p2 ((0 : Int32)) S3)))
theorem f_X9_trips_b66_ok {d F : Nat} {x3 : Int32} {S : mS} {r : mR} (hf : f_X9_trips_b66 F x3 S = some r) : Ev (d + 6) Mx119 (66, [mK, mK, mK, .int x3], [], S, 2) r := by
  unfold f_X9_trips_b66 at hf
  refine ev_sts 1 (c2 := (67, [mK, mK, mK, .int x3], [.int x3], S, 2)) rfl ?_
  exact ev_ret hf rfl rfl
theorem f_X9_trips_b23_ok {d F : Nat} : ∀ (n : Nat) {x1 : Int32} {x2 : Int32} {x3 : Int32} {S : mS} {r : mR}, f_X9_trips_b23 F n x1 x2 x3 S = some r → Ev (d + 6) Mx119 (23, [.ref 0, .int x1, .int x2, .int x3], [], S, 2) r := by
  intro n
  induction n with
  | zero => intro x1 x2 x3 S r hf; cases hf
  | succ n ih =>
    intro x1 x2 x3 S r hf
    rw [f_X9_trips_b23] at hf
    refine ev_sts 2 (c2 := (26, [.ref 0, .int x1, .int x2, .int x3], [.int ((99 : Int32)), .int x3], S, 2)) rfl ?_
    refine ev_if (c1 := (66, [mK, mK, mK, .int x3], [], S, 2)) (c2 := (29, [.ref 0, .int x1, .int x2, .int x3], [], S, 2)) hf rfl rfl (fun _ hf => ?_) (fun _ hf => ?_)
    · exact f_X9_trips_b66_ok hf
    · refine ev_sts 6 (c2 := (39, [.ref 0, .int x1, .int x2, .int x3], [.int x2, .int x1, .ref 26, .ref 32], S, 2)) rfl ?_
      refine ev_bI0 (d := d + 5) (M' := Mx64) (ct := (42, [.ref 0, .int x1, .int x2, .int x3], [], S, 2)) hf rfl rfl rfl rfl (fun r9 h9 => f_X7_canLet_ok_26 (d := d) h9) (fun r5 S4 hf => ?_)
      show Ev (d + 6) Mx119 (42, [.ref 0, .int x1, .int x2, .int x3], [.int r5], S4, 2) r
      refine ev_if (c1 := (66, [mK, mK, mK, .int x3], [], S4, 2)) (c2 := (45, [.ref 0, .int x1, .int x2, .int x3], [], S4, 2)) hf rfl rfl (fun _ hf => ?_) (fun _ hf => ?_)
      · exact f_X9_trips_b66_ok hf
      · refine ev_sts 7 (c2 := (56, [.ref 0, .int x1, .int x2, .int x3], [.int ((0 : Int32)), .int x2, .int x1, .ref 26, .ref 32], S4, 2)) rfl ?_
        refine ev_bI0 (d := d + 5) (M' := Mx65) (ct := (59, [.ref 0, .int x1, .int x2, .int x3], [], S4, 2)) hf rfl rfl rfl rfl (fun r9 h9 => f_X7_letDown_ok_26 (d := d) h9) (fun r7 S6 hf => ?_)
        show Ev (d + 6) Mx119 (59, [.ref 0, .int x1, .int x2, .int x3], [.int r7], S6, 2) r
        exact ev_sts 3 (c2 := (23, [.ref 0, .int x1, .int x2, .int (x3 + (1 : Int32))], [], S6, 2)) rfl (ih hf)
theorem f_X9_trips_ok {d F : Nat} {p1 : Int32} {p2 : Int32} {S : mS} {r : mR} (hf : f_X9_trips F p1 p2 S = some r) : Ev (d + 6) Mx119 (entry Mx119 [.ref 0, .int p1, .int p2] S) r := by
  unfold f_X9_trips at hf
  refine ev_sts 2 (c2 := (2, [.ref 0, .int p1, .int p2, mK], [.int p1, .ref 0], S, 0)) rfl ?_
  refine ev_bV (d := d + 5) (M' := Mx141) (ct := (5, [.ref 0, .int p1, .int p2, mK], [], S, 1)) hf rfl rfl rfl rfl (by decide) (fun r9 h9 => f_X9_needClimber_ok (d := d + 4) h9) (fun S1 hf => ?_)
  show Ev (d + 6) Mx119 (5, [.ref 0, .int p1, .int p2, mK], [], S1, 1) r
  refine ev_sts 2 (c2 := (7, [.ref 0, .int p1, .int p2, mK], [.int p2, .ref 0], S1, 1)) rfl ?_
  refine ev_bV (d := d + 5) (M' := Mx139) (ct := (10, [.ref 0, .int p1, .int p2, mK], [], S1, 2)) hf rfl rfl rfl rfl (by decide) (fun r9 h9 => f_X9_needLedge_ok (d := d + 4) h9) (fun S2 hf => ?_)
  show Ev (d + 6) Mx119 (10, [.ref 0, .int p1, .int p2, mK], [], S2, 2) r
  refine ev_sts 4 (c2 := (18, [.ref 0, .int p1, .int p2, mK], [.ref 24, .ref 26], S2, 2)) rfl ?_
  refine ev_bV0 (d := d + 5) (M' := Mx0) (ct := (21, [.ref 0, .int p1, .int p2, mK], [], S2, 2)) hf rfl rfl rfl rfl (fun r9 h9 => f_X0_copy_ok_26_24 (d := d + 5) h9) (fun S3 hf => ?_)
  show Ev (d + 6) Mx119 (21, [.ref 0, .int p1, .int p2, mK], [], S3, 2) r
  exact ev_sts 2 (c2 := (23, [.ref 0, .int p1, .int p2, .int ((0 : Int32))], [], S3, 2)) rfl (f_X9_trips_b23_ok _ hf)
def f_X9_turn (S : mS) : Option mR := bV0 (f_X5_remember S) (fun S1 => bI0 (f_X0_at 24 ((1 : Int32)) S1) (fun r3 S2 => gd (decide (¬ (2 : Int32) = 0)) (bV0 (f_X0_put 24 ((1 : Int32)) (r3 / ((2 : Int32))) S2) (fun S4 => bI0 (f_X0_at 24 ((1 : Int32)) S4) (fun r6 S5 => some (.inl (some (.int r6)), S5))))))
theorem f_X9_turn_ok {d : Nat} {S : mS} {r : mR} (hf : f_X9_turn S = some r) : Ev (d + 2) Mx101 (entry Mx101 [.ref 0] S) r := by
  unfold f_X9_turn at hf
  refine ev_sts 4 (c2 := (8, [.ref 0], [.ref 24, .ref 36], S, 0)) rfl ?_
  refine ev_bV0 (d := d + 1) (M' := Mx44) (ct := (11, [.ref 0], [], S, 0)) hf rfl rfl rfl rfl (fun r9 h9 => f_X5_remember_ok (d := d) h9) (fun S1 hf => ?_)
  show Ev (d + 2) Mx101 (11, [.ref 0], [], S1, 0) r
  refine ev_sts 6 (c2 := (21, [.ref 0], [.int ((1 : Int32)), .ref 24, .int ((1 : Int32)), .ref 24], S1, 0)) rfl ?_
  refine ev_bI0 (d := d + 1) (M' := Mx1) (ct := (24, [.ref 0], [.int ((1 : Int32)), .ref 24], S1, 0)) hf rfl rfl rfl rfl (fun r9 h9 => f_X0_at_ok_24 (d := d + 1) h9) (fun r3 S2 hf => ?_)
  show Ev (d + 2) Mx101 (24, [.ref 0], [.int r3, .int ((1 : Int32)), .ref 24], S2, 0) r
  refine ev_sts 1 (c2 := (25, [.ref 0], [.int ((2 : Int32)), .int r3, .int ((1 : Int32)), .ref 24], S2, 0)) rfl ?_
  refine ev_gd (c1 := (26, [.ref 0], [.int (r3 / ((2 : Int32))), .int ((1 : Int32)), .ref 24], S2, 0)) hf rfl rfl (fun hf => ?_)
  refine ev_bV0 (d := d + 1) (M' := Mx2) (ct := (29, [.ref 0], [], S2, 0)) hf rfl rfl rfl rfl (fun r9 h9 => f_X0_put_ok_24 (d := d + 1) h9) (fun S4 hf => ?_)
  show Ev (d + 2) Mx101 (29, [.ref 0], [], S4, 0) r
  refine ev_sts 3 (c2 := (34, [.ref 0], [.int ((1 : Int32)), .ref 24], S4, 0)) rfl ?_
  refine ev_bI0 (d := d + 1) (M' := Mx1) (ct := (37, [.ref 0], [], S4, 0)) hf rfl rfl rfl rfl (fun r9 h9 => f_X0_at_ok_24 (d := d + 1) h9) (fun r6 S5 hf => ?_)
  show Ev (d + 2) Mx101 (37, [.ref 0], [.int r6], S5, 0) r
  exact ev_ret hf rfl rfl
def f_X5_undoInto_b30 (S : mS) : Option mR := some (.inl (some (.int (((0 : Int32)) &&& 1))), S)
def f_X5_undoInto (S : mS) : Option mR := gd (decide (¬ (12 : Int32) = 0)) (bnd ((((S 36 1) + ((12 : Int32))) - ((1 : Int32))) - (((S 36 1) + ((12 : Int32))) - ((1 : Int32))) / ((12 : Int32)) * ((12 : Int32)) : Int32) (fun y1 => (if y1 = (0 : Int32) then (if (S 36 2) ≤ 0 then f_X5_undoInto_b30 S else bV0 (f_X0_copy 24 38 S) (fun S3 => bnd (upS S3 36 1 y1) (fun S4 => bnd (upS S4 36 2 ((S4 36 2) - ((1 : Int32)))) (fun S5 => some (.inl (some (.int (((1 : Int32)) &&& 1))), S5))))) else if y1 = (1 : Int32) then (if (S 36 2) ≤ 0 then f_X5_undoInto_b30 S else bV0 (f_X0_copy 24 40 S) (fun S7 => bnd (upS S7 36 1 y1) (fun S8 => bnd (upS S8 36 2 ((S8 36 2) - ((1 : Int32)))) (fun S9 => some (.inl (some (.int (((1 : Int32)) &&& 1))), S9))))) else if y1 = (2 : Int32) then (if (S 36 2) ≤ 0 then f_X5_undoInto_b30 S else bV0 (f_X0_copy 24 42 S) (fun S11 => bnd (upS S11 36 1 y1) (fun S12 => bnd (upS S12 36 2 ((S12 36 2) - ((1 : Int32)))) (fun S13 => some (.inl (some (.int (((1 : Int32)) &&& 1))), S13))))) else if y1 = (3 : Int32) then (if (S 36 2) ≤ 0 then f_X5_undoInto_b30 S else bV0 (f_X0_copy 24 44 S) (fun S15 => bnd (upS S15 36 1 y1) (fun S16 => bnd (upS S16 36 2 ((S16 36 2) - ((1 : Int32)))) (fun S17 => some (.inl (some (.int (((1 : Int32)) &&& 1))), S17))))) else if y1 = (4 : Int32) then (if (S 36 2) ≤ 0 then f_X5_undoInto_b30 S else bV0 (f_X0_copy 24 46 S) (fun S19 => bnd (upS S19 36 1 y1) (fun S20 => bnd (upS S20 36 2 ((S20 36 2) - ((1 : Int32)))) (fun S21 => some (.inl (some (.int (((1 : Int32)) &&& 1))), S21))))) else if y1 = (5 : Int32) then (if (S 36 2) ≤ 0 then f_X5_undoInto_b30 S else bV0 (f_X0_copy 24 48 S) (fun S23 => bnd (upS S23 36 1 y1) (fun S24 => bnd (upS S24 36 2 ((S24 36 2) - ((1 : Int32)))) (fun S25 => some (.inl (some (.int (((1 : Int32)) &&& 1))), S25))))) else if y1 = (6 : Int32) then (if (S 36 2) ≤ 0 then f_X5_undoInto_b30 S else bV0 (f_X0_copy 24 50 S) (fun S27 => bnd (upS S27 36 1 y1) (fun S28 => bnd (upS S28 36 2 ((S28 36 2) - ((1 : Int32)))) (fun S29 => some (.inl (some (.int (((1 : Int32)) &&& 1))), S29))))) else if y1 = (7 : Int32) then (if (S 36 2) ≤ 0 then f_X5_undoInto_b30 S else bV0 (f_X0_copy 24 52 S) (fun S31 => bnd (upS S31 36 1 y1) (fun S32 => bnd (upS S32 36 2 ((S32 36 2) - ((1 : Int32)))) (fun S33 => some (.inl (some (.int (((1 : Int32)) &&& 1))), S33))))) else if y1 = (8 : Int32) then (if (S 36 2) ≤ 0 then f_X5_undoInto_b30 S else bV0 (f_X0_copy 24 54 S) (fun S35 => bnd (upS S35 36 1 y1) (fun S36 => bnd (upS S36 36 2 ((S36 36 2) - ((1 : Int32)))) (fun S37 => some (.inl (some (.int (((1 : Int32)) &&& 1))), S37))))) else if y1 = (9 : Int32) then (if (S 36 2) ≤ 0 then f_X5_undoInto_b30 S else bV0 (f_X0_copy 24 56 S) (fun S39 => bnd (upS S39 36 1 y1) (fun S40 => bnd (upS S40 36 2 ((S40 36 2) - ((1 : Int32)))) (fun S41 => some (.inl (some (.int (((1 : Int32)) &&& 1))), S41))))) else if y1 = (10 : Int32) then (if (S 36 2) ≤ 0 then f_X5_undoInto_b30 S else bV0 (f_X0_copy 24 58 S) (fun S43 => bnd (upS S43 36 1 y1) (fun S44 => bnd (upS S44 36 2 ((S44 36 2) - ((1 : Int32)))) (fun S45 => some (.inl (some (.int (((1 : Int32)) &&& 1))), S45))))) else if y1 = (11 : Int32) then (if (S 36 2) ≤ 0 then f_X5_undoInto_b30 S else bV0 (f_X0_copy 24 60 S) (fun S47 => bnd (upS S47 36 1 y1) (fun S48 => bnd (upS S48 36 2 ((S48 36 2) - ((1 : Int32)))) (fun S49 => some (.inl (some (.int (((1 : Int32)) &&& 1))), S49))))) else none)))
theorem f_X5_undoInto_b30_ok {d : Nat} {S : mS} {r : mR} (hf : f_X5_undoInto_b30  S = some r) : Ev (d + 1) Mx45 (30, [mK, mK, mK, mK], [], S, 0) r := by
  unfold f_X5_undoInto_b30 at hf
  refine ev_sts 1 (c2 := (31, [mK, mK, mK, mK], [.int ((0 : Int32))], S, 0)) rfl ?_
  exact ev_ret hf rfl rfl
theorem f_X5_undoInto_ok {d : Nat} {S : mS} {r : mR} (hf : f_X5_undoInto S = some r) : Ev (d + 1) Mx45 (entry Mx45 [.ref 36, .ref 24] S) r := by
  unfold f_X5_undoInto at hf
  refine ev_sts 7 (c2 := (11, [.ref 36, .ref 24, mK, mK], [.int ((12 : Int32)), .int (((S 36 1) + ((12 : Int32))) - ((1 : Int32)))], S, 0)) rfl ?_
  refine ev_gd (c1 := (12, [.ref 36, .ref 24, mK, mK], [.int ((((S 36 1) + ((12 : Int32))) - ((1 : Int32))) - (((S 36 1) + ((12 : Int32))) - ((1 : Int32))) / ((12 : Int32)) * ((12 : Int32)))], S, 0)) hf rfl rfl (fun hf => ?_)
  refine ev_sts 1 (c2 := (13, [.ref 36, .ref 24, .int ((((S 36 1) + ((12 : Int32))) - ((1 : Int32))) - (((S 36 1) + ((12 : Int32))) - ((1 : Int32))) / ((12 : Int32)) * ((12 : Int32))), mK], [], S, 0)) rfl ?_
  refine ev_let (P := fun y1 => Ev (d + 1) Mx45 (13, [.ref 36, .ref 24, .int y1, mK], [], S, 0) r) (fun y1 hf => ?_) hf
  refine ev_sts 2 (c2 := (15, [.ref 36, .ref 24, .int y1, mK], [.int y1, .ref 36], S, 0)) rfl ?_
  rcases ite_or hf with ⟨h1, hf⟩ | ⟨h1, hf⟩
  · refine ev_callr (d := d) (M' := Mx46) (ct := (18, [.ref 36, .ref 24, .int y1, mK], [], S, 0)) (w := some (.ref 38)) (S1 := S) rfl rfl rfl rfl (placeAt_0 (d := d) h1) ?_
    show Ev (d + 1) Mx45 (18, [.ref 36, .ref 24, .int y1, mK], [.ref 38], S, 0) r
    refine ev_sts 3 (c2 := (23, [.ref 36, .ref 24, .int y1, .ref 38], [.int (S 36 2)], S, 0)) rfl ?_
    refine ev_if (c1 := (30, [mK, mK, mK, mK], [], S, 0)) (c2 := (26, [.ref 36, .ref 24, .int y1, .ref 38], [], S, 0)) hf rfl rfl (fun _ hf => ?_) (fun _ hf => ?_)
    · exact f_X5_undoInto_b30_ok hf
    · refine ev_sts 4 (c2 := (34, [.ref 36, .ref 24, .int y1, .ref 38], [.ref 38, .ref 24], S, 0)) rfl ?_
      refine ev_bV0 (d := d) (M' := Mx0) (ct := (37, [.ref 36, .ref 24, .int y1, .ref 38], [], S, 0)) hf rfl rfl rfl rfl (fun r9 h9 => f_X0_copy_ok_24_38 (d := d) h9) (fun S3 hf => ?_)
      show Ev (d + 1) Mx45 (37, [.ref 36, .ref 24, .int y1, .ref 38], [], S3, 0) r
      refine ev_sts 3 (c2 := (42, [.ref 36, .ref 24, .int y1, .ref 38], [], (upS S3 36 1 y1), 0)) rfl ?_
      refine ev_let (P := fun S4 => Ev (d + 1) Mx45 (42, [.ref 36, .ref 24, .int y1, .ref 38], [], S4, 0) r) (fun S4 hf => ?_) hf
      refine ev_sts 6 (c2 := (52, [.ref 36, .ref 24, .int y1, .ref 38], [], (upS S4 36 2 ((S4 36 2) - ((1 : Int32)))), 0)) rfl ?_
      refine ev_let (P := fun S5 => Ev (d + 1) Mx45 (52, [.ref 36, .ref 24, .int y1, .ref 38], [], S5, 0) r) (fun S5 hf => ?_) hf
      refine ev_sts 1 (c2 := (53, [.ref 36, .ref 24, .int y1, .ref 38], [.int ((1 : Int32))], S5, 0)) rfl ?_
      exact ev_ret hf rfl rfl
  rcases ite_or hf with ⟨h5, hf⟩ | ⟨h5, hf⟩
  · refine ev_callr (d := d) (M' := Mx46) (ct := (18, [.ref 36, .ref 24, .int y1, mK], [], S, 0)) (w := some (.ref 40)) (S1 := S) rfl rfl rfl rfl (placeAt_1 (d := d) h5) ?_
    show Ev (d + 1) Mx45 (18, [.ref 36, .ref 24, .int y1, mK], [.ref 40], S, 0) r
    refine ev_sts 3 (c2 := (23, [.ref 36, .ref 24, .int y1, .ref 40], [.int (S 36 2)], S, 0)) rfl ?_
    refine ev_if (c1 := (30, [mK, mK, mK, mK], [], S, 0)) (c2 := (26, [.ref 36, .ref 24, .int y1, .ref 40], [], S, 0)) hf rfl rfl (fun _ hf => ?_) (fun _ hf => ?_)
    · exact f_X5_undoInto_b30_ok hf
    · refine ev_sts 4 (c2 := (34, [.ref 36, .ref 24, .int y1, .ref 40], [.ref 40, .ref 24], S, 0)) rfl ?_
      refine ev_bV0 (d := d) (M' := Mx0) (ct := (37, [.ref 36, .ref 24, .int y1, .ref 40], [], S, 0)) hf rfl rfl rfl rfl (fun r9 h9 => f_X0_copy_ok_24_40 (d := d) h9) (fun S7 hf => ?_)
      show Ev (d + 1) Mx45 (37, [.ref 36, .ref 24, .int y1, .ref 40], [], S7, 0) r
      refine ev_sts 3 (c2 := (42, [.ref 36, .ref 24, .int y1, .ref 40], [], (upS S7 36 1 y1), 0)) rfl ?_
      refine ev_let (P := fun S8 => Ev (d + 1) Mx45 (42, [.ref 36, .ref 24, .int y1, .ref 40], [], S8, 0) r) (fun S8 hf => ?_) hf
      refine ev_sts 6 (c2 := (52, [.ref 36, .ref 24, .int y1, .ref 40], [], (upS S8 36 2 ((S8 36 2) - ((1 : Int32)))), 0)) rfl ?_
      refine ev_let (P := fun S9 => Ev (d + 1) Mx45 (52, [.ref 36, .ref 24, .int y1, .ref 40], [], S9, 0) r) (fun S9 hf => ?_) hf
      refine ev_sts 1 (c2 := (53, [.ref 36, .ref 24, .int y1, .ref 40], [.int ((1 : Int32))], S9, 0)) rfl ?_
      exact ev_ret hf rfl rfl
  rcases ite_or hf with ⟨h9, hf⟩ | ⟨h9, hf⟩
  · refine ev_callr (d := d) (M' := Mx46) (ct := (18, [.ref 36, .ref 24, .int y1, mK], [], S, 0)) (w := some (.ref 42)) (S1 := S) rfl rfl rfl rfl (placeAt_2 (d := d) h9) ?_
    show Ev (d + 1) Mx45 (18, [.ref 36, .ref 24, .int y1, mK], [.ref 42], S, 0) r
    refine ev_sts 3 (c2 := (23, [.ref 36, .ref 24, .int y1, .ref 42], [.int (S 36 2)], S, 0)) rfl ?_
    refine ev_if (c1 := (30, [mK, mK, mK, mK], [], S, 0)) (c2 := (26, [.ref 36, .ref 24, .int y1, .ref 42], [], S, 0)) hf rfl rfl (fun _ hf => ?_) (fun _ hf => ?_)
    · exact f_X5_undoInto_b30_ok hf
    · refine ev_sts 4 (c2 := (34, [.ref 36, .ref 24, .int y1, .ref 42], [.ref 42, .ref 24], S, 0)) rfl ?_
      refine ev_bV0 (d := d) (M' := Mx0) (ct := (37, [.ref 36, .ref 24, .int y1, .ref 42], [], S, 0)) hf rfl rfl rfl rfl (fun r9 h9 => f_X0_copy_ok_24_42 (d := d) h9) (fun S11 hf => ?_)
      show Ev (d + 1) Mx45 (37, [.ref 36, .ref 24, .int y1, .ref 42], [], S11, 0) r
      refine ev_sts 3 (c2 := (42, [.ref 36, .ref 24, .int y1, .ref 42], [], (upS S11 36 1 y1), 0)) rfl ?_
      refine ev_let (P := fun S12 => Ev (d + 1) Mx45 (42, [.ref 36, .ref 24, .int y1, .ref 42], [], S12, 0) r) (fun S12 hf => ?_) hf
      refine ev_sts 6 (c2 := (52, [.ref 36, .ref 24, .int y1, .ref 42], [], (upS S12 36 2 ((S12 36 2) - ((1 : Int32)))), 0)) rfl ?_
      refine ev_let (P := fun S13 => Ev (d + 1) Mx45 (52, [.ref 36, .ref 24, .int y1, .ref 42], [], S13, 0) r) (fun S13 hf => ?_) hf
      refine ev_sts 1 (c2 := (53, [.ref 36, .ref 24, .int y1, .ref 42], [.int ((1 : Int32))], S13, 0)) rfl ?_
      exact ev_ret hf rfl rfl
  rcases ite_or hf with ⟨h13, hf⟩ | ⟨h13, hf⟩
  · refine ev_callr (d := d) (M' := Mx46) (ct := (18, [.ref 36, .ref 24, .int y1, mK], [], S, 0)) (w := some (.ref 44)) (S1 := S) rfl rfl rfl rfl (placeAt_3 (d := d) h13) ?_
    show Ev (d + 1) Mx45 (18, [.ref 36, .ref 24, .int y1, mK], [.ref 44], S, 0) r
    refine ev_sts 3 (c2 := (23, [.ref 36, .ref 24, .int y1, .ref 44], [.int (S 36 2)], S, 0)) rfl ?_
    refine ev_if (c1 := (30, [mK, mK, mK, mK], [], S, 0)) (c2 := (26, [.ref 36, .ref 24, .int y1, .ref 44], [], S, 0)) hf rfl rfl (fun _ hf => ?_) (fun _ hf => ?_)
    · exact f_X5_undoInto_b30_ok hf
    · refine ev_sts 4 (c2 := (34, [.ref 36, .ref 24, .int y1, .ref 44], [.ref 44, .ref 24], S, 0)) rfl ?_
      refine ev_bV0 (d := d) (M' := Mx0) (ct := (37, [.ref 36, .ref 24, .int y1, .ref 44], [], S, 0)) hf rfl rfl rfl rfl (fun r9 h9 => f_X0_copy_ok_24_44 (d := d) h9) (fun S15 hf => ?_)
      show Ev (d + 1) Mx45 (37, [.ref 36, .ref 24, .int y1, .ref 44], [], S15, 0) r
      refine ev_sts 3 (c2 := (42, [.ref 36, .ref 24, .int y1, .ref 44], [], (upS S15 36 1 y1), 0)) rfl ?_
      refine ev_let (P := fun S16 => Ev (d + 1) Mx45 (42, [.ref 36, .ref 24, .int y1, .ref 44], [], S16, 0) r) (fun S16 hf => ?_) hf
      refine ev_sts 6 (c2 := (52, [.ref 36, .ref 24, .int y1, .ref 44], [], (upS S16 36 2 ((S16 36 2) - ((1 : Int32)))), 0)) rfl ?_
      refine ev_let (P := fun S17 => Ev (d + 1) Mx45 (52, [.ref 36, .ref 24, .int y1, .ref 44], [], S17, 0) r) (fun S17 hf => ?_) hf
      refine ev_sts 1 (c2 := (53, [.ref 36, .ref 24, .int y1, .ref 44], [.int ((1 : Int32))], S17, 0)) rfl ?_
      exact ev_ret hf rfl rfl
  rcases ite_or hf with ⟨h17, hf⟩ | ⟨h17, hf⟩
  · refine ev_callr (d := d) (M' := Mx46) (ct := (18, [.ref 36, .ref 24, .int y1, mK], [], S, 0)) (w := some (.ref 46)) (S1 := S) rfl rfl rfl rfl (placeAt_4 (d := d) h17) ?_
    show Ev (d + 1) Mx45 (18, [.ref 36, .ref 24, .int y1, mK], [.ref 46], S, 0) r
    refine ev_sts 3 (c2 := (23, [.ref 36, .ref 24, .int y1, .ref 46], [.int (S 36 2)], S, 0)) rfl ?_
    refine ev_if (c1 := (30, [mK, mK, mK, mK], [], S, 0)) (c2 := (26, [.ref 36, .ref 24, .int y1, .ref 46], [], S, 0)) hf rfl rfl (fun _ hf => ?_) (fun _ hf => ?_)
    · exact f_X5_undoInto_b30_ok hf
    · refine ev_sts 4 (c2 := (34, [.ref 36, .ref 24, .int y1, .ref 46], [.ref 46, .ref 24], S, 0)) rfl ?_
      refine ev_bV0 (d := d) (M' := Mx0) (ct := (37, [.ref 36, .ref 24, .int y1, .ref 46], [], S, 0)) hf rfl rfl rfl rfl (fun r9 h9 => f_X0_copy_ok_24_46 (d := d) h9) (fun S19 hf => ?_)
      show Ev (d + 1) Mx45 (37, [.ref 36, .ref 24, .int y1, .ref 46], [], S19, 0) r
      refine ev_sts 3 (c2 := (42, [.ref 36, .ref 24, .int y1, .ref 46], [], (upS S19 36 1 y1), 0)) rfl ?_
      refine ev_let (P := fun S20 => Ev (d + 1) Mx45 (42, [.ref 36, .ref 24, .int y1, .ref 46], [], S20, 0) r) (fun S20 hf => ?_) hf
      refine ev_sts 6 (c2 := (52, [.ref 36, .ref 24, .int y1, .ref 46], [], (upS S20 36 2 ((S20 36 2) - ((1 : Int32)))), 0)) rfl ?_
      refine ev_let (P := fun S21 => Ev (d + 1) Mx45 (52, [.ref 36, .ref 24, .int y1, .ref 46], [], S21, 0) r) (fun S21 hf => ?_) hf
      refine ev_sts 1 (c2 := (53, [.ref 36, .ref 24, .int y1, .ref 46], [.int ((1 : Int32))], S21, 0)) rfl ?_
      exact ev_ret hf rfl rfl
  rcases ite_or hf with ⟨h21, hf⟩ | ⟨h21, hf⟩
  · refine ev_callr (d := d) (M' := Mx46) (ct := (18, [.ref 36, .ref 24, .int y1, mK], [], S, 0)) (w := some (.ref 48)) (S1 := S) rfl rfl rfl rfl (placeAt_5 (d := d) h21) ?_
    show Ev (d + 1) Mx45 (18, [.ref 36, .ref 24, .int y1, mK], [.ref 48], S, 0) r
    refine ev_sts 3 (c2 := (23, [.ref 36, .ref 24, .int y1, .ref 48], [.int (S 36 2)], S, 0)) rfl ?_
    refine ev_if (c1 := (30, [mK, mK, mK, mK], [], S, 0)) (c2 := (26, [.ref 36, .ref 24, .int y1, .ref 48], [], S, 0)) hf rfl rfl (fun _ hf => ?_) (fun _ hf => ?_)
    · exact f_X5_undoInto_b30_ok hf
    · refine ev_sts 4 (c2 := (34, [.ref 36, .ref 24, .int y1, .ref 48], [.ref 48, .ref 24], S, 0)) rfl ?_
      refine ev_bV0 (d := d) (M' := Mx0) (ct := (37, [.ref 36, .ref 24, .int y1, .ref 48], [], S, 0)) hf rfl rfl rfl rfl (fun r9 h9 => f_X0_copy_ok_24_48 (d := d) h9) (fun S23 hf => ?_)
      show Ev (d + 1) Mx45 (37, [.ref 36, .ref 24, .int y1, .ref 48], [], S23, 0) r
      refine ev_sts 3 (c2 := (42, [.ref 36, .ref 24, .int y1, .ref 48], [], (upS S23 36 1 y1), 0)) rfl ?_
      refine ev_let (P := fun S24 => Ev (d + 1) Mx45 (42, [.ref 36, .ref 24, .int y1, .ref 48], [], S24, 0) r) (fun S24 hf => ?_) hf
      refine ev_sts 6 (c2 := (52, [.ref 36, .ref 24, .int y1, .ref 48], [], (upS S24 36 2 ((S24 36 2) - ((1 : Int32)))), 0)) rfl ?_
      refine ev_let (P := fun S25 => Ev (d + 1) Mx45 (52, [.ref 36, .ref 24, .int y1, .ref 48], [], S25, 0) r) (fun S25 hf => ?_) hf
      refine ev_sts 1 (c2 := (53, [.ref 36, .ref 24, .int y1, .ref 48], [.int ((1 : Int32))], S25, 0)) rfl ?_
      exact ev_ret hf rfl rfl
  rcases ite_or hf with ⟨h25, hf⟩ | ⟨h25, hf⟩
  · refine ev_callr (d := d) (M' := Mx46) (ct := (18, [.ref 36, .ref 24, .int y1, mK], [], S, 0)) (w := some (.ref 50)) (S1 := S) rfl rfl rfl rfl (placeAt_6 (d := d) h25) ?_
    show Ev (d + 1) Mx45 (18, [.ref 36, .ref 24, .int y1, mK], [.ref 50], S, 0) r
    refine ev_sts 3 (c2 := (23, [.ref 36, .ref 24, .int y1, .ref 50], [.int (S 36 2)], S, 0)) rfl ?_
    refine ev_if (c1 := (30, [mK, mK, mK, mK], [], S, 0)) (c2 := (26, [.ref 36, .ref 24, .int y1, .ref 50], [], S, 0)) hf rfl rfl (fun _ hf => ?_) (fun _ hf => ?_)
    · exact f_X5_undoInto_b30_ok hf
    · refine ev_sts 4 (c2 := (34, [.ref 36, .ref 24, .int y1, .ref 50], [.ref 50, .ref 24], S, 0)) rfl ?_
      refine ev_bV0 (d := d) (M' := Mx0) (ct := (37, [.ref 36, .ref 24, .int y1, .ref 50], [], S, 0)) hf rfl rfl rfl rfl (fun r9 h9 => f_X0_copy_ok_24_50 (d := d) h9) (fun S27 hf => ?_)
      show Ev (d + 1) Mx45 (37, [.ref 36, .ref 24, .int y1, .ref 50], [], S27, 0) r
      refine ev_sts 3 (c2 := (42, [.ref 36, .ref 24, .int y1, .ref 50], [], (upS S27 36 1 y1), 0)) rfl ?_
      refine ev_let (P := fun S28 => Ev (d + 1) Mx45 (42, [.ref 36, .ref 24, .int y1, .ref 50], [], S28, 0) r) (fun S28 hf => ?_) hf
      refine ev_sts 6 (c2 := (52, [.ref 36, .ref 24, .int y1, .ref 50], [], (upS S28 36 2 ((S28 36 2) - ((1 : Int32)))), 0)) rfl ?_
      refine ev_let (P := fun S29 => Ev (d + 1) Mx45 (52, [.ref 36, .ref 24, .int y1, .ref 50], [], S29, 0) r) (fun S29 hf => ?_) hf
      refine ev_sts 1 (c2 := (53, [.ref 36, .ref 24, .int y1, .ref 50], [.int ((1 : Int32))], S29, 0)) rfl ?_
      exact ev_ret hf rfl rfl
  rcases ite_or hf with ⟨h29, hf⟩ | ⟨h29, hf⟩
  · refine ev_callr (d := d) (M' := Mx46) (ct := (18, [.ref 36, .ref 24, .int y1, mK], [], S, 0)) (w := some (.ref 52)) (S1 := S) rfl rfl rfl rfl (placeAt_7 (d := d) h29) ?_
    show Ev (d + 1) Mx45 (18, [.ref 36, .ref 24, .int y1, mK], [.ref 52], S, 0) r
    refine ev_sts 3 (c2 := (23, [.ref 36, .ref 24, .int y1, .ref 52], [.int (S 36 2)], S, 0)) rfl ?_
    refine ev_if (c1 := (30, [mK, mK, mK, mK], [], S, 0)) (c2 := (26, [.ref 36, .ref 24, .int y1, .ref 52], [], S, 0)) hf rfl rfl (fun _ hf => ?_) (fun _ hf => ?_)
    · exact f_X5_undoInto_b30_ok hf
    · refine ev_sts 4 (c2 := (34, [.ref 36, .ref 24, .int y1, .ref 52], [.ref 52, .ref 24], S, 0)) rfl ?_
      refine ev_bV0 (d := d) (M' := Mx0) (ct := (37, [.ref 36, .ref 24, .int y1, .ref 52], [], S, 0)) hf rfl rfl rfl rfl (fun r9 h9 => f_X0_copy_ok_24_52 (d := d) h9) (fun S31 hf => ?_)
      show Ev (d + 1) Mx45 (37, [.ref 36, .ref 24, .int y1, .ref 52], [], S31, 0) r
      refine ev_sts 3 (c2 := (42, [.ref 36, .ref 24, .int y1, .ref 52], [], (upS S31 36 1 y1), 0)) rfl ?_
      refine ev_let (P := fun S32 => Ev (d + 1) Mx45 (42, [.ref 36, .ref 24, .int y1, .ref 52], [], S32, 0) r) (fun S32 hf => ?_) hf
      refine ev_sts 6 (c2 := (52, [.ref 36, .ref 24, .int y1, .ref 52], [], (upS S32 36 2 ((S32 36 2) - ((1 : Int32)))), 0)) rfl ?_
      refine ev_let (P := fun S33 => Ev (d + 1) Mx45 (52, [.ref 36, .ref 24, .int y1, .ref 52], [], S33, 0) r) (fun S33 hf => ?_) hf
      refine ev_sts 1 (c2 := (53, [.ref 36, .ref 24, .int y1, .ref 52], [.int ((1 : Int32))], S33, 0)) rfl ?_
      exact ev_ret hf rfl rfl
  rcases ite_or hf with ⟨h33, hf⟩ | ⟨h33, hf⟩
  · refine ev_callr (d := d) (M' := Mx46) (ct := (18, [.ref 36, .ref 24, .int y1, mK], [], S, 0)) (w := some (.ref 54)) (S1 := S) rfl rfl rfl rfl (placeAt_8 (d := d) h33) ?_
    show Ev (d + 1) Mx45 (18, [.ref 36, .ref 24, .int y1, mK], [.ref 54], S, 0) r
    refine ev_sts 3 (c2 := (23, [.ref 36, .ref 24, .int y1, .ref 54], [.int (S 36 2)], S, 0)) rfl ?_
    refine ev_if (c1 := (30, [mK, mK, mK, mK], [], S, 0)) (c2 := (26, [.ref 36, .ref 24, .int y1, .ref 54], [], S, 0)) hf rfl rfl (fun _ hf => ?_) (fun _ hf => ?_)
    · exact f_X5_undoInto_b30_ok hf
    · refine ev_sts 4 (c2 := (34, [.ref 36, .ref 24, .int y1, .ref 54], [.ref 54, .ref 24], S, 0)) rfl ?_
      refine ev_bV0 (d := d) (M' := Mx0) (ct := (37, [.ref 36, .ref 24, .int y1, .ref 54], [], S, 0)) hf rfl rfl rfl rfl (fun r9 h9 => f_X0_copy_ok_24_54 (d := d) h9) (fun S35 hf => ?_)
      show Ev (d + 1) Mx45 (37, [.ref 36, .ref 24, .int y1, .ref 54], [], S35, 0) r
      refine ev_sts 3 (c2 := (42, [.ref 36, .ref 24, .int y1, .ref 54], [], (upS S35 36 1 y1), 0)) rfl ?_
      refine ev_let (P := fun S36 => Ev (d + 1) Mx45 (42, [.ref 36, .ref 24, .int y1, .ref 54], [], S36, 0) r) (fun S36 hf => ?_) hf
      refine ev_sts 6 (c2 := (52, [.ref 36, .ref 24, .int y1, .ref 54], [], (upS S36 36 2 ((S36 36 2) - ((1 : Int32)))), 0)) rfl ?_
      refine ev_let (P := fun S37 => Ev (d + 1) Mx45 (52, [.ref 36, .ref 24, .int y1, .ref 54], [], S37, 0) r) (fun S37 hf => ?_) hf
      refine ev_sts 1 (c2 := (53, [.ref 36, .ref 24, .int y1, .ref 54], [.int ((1 : Int32))], S37, 0)) rfl ?_
      exact ev_ret hf rfl rfl
  rcases ite_or hf with ⟨h37, hf⟩ | ⟨h37, hf⟩
  · refine ev_callr (d := d) (M' := Mx46) (ct := (18, [.ref 36, .ref 24, .int y1, mK], [], S, 0)) (w := some (.ref 56)) (S1 := S) rfl rfl rfl rfl (placeAt_9 (d := d) h37) ?_
    show Ev (d + 1) Mx45 (18, [.ref 36, .ref 24, .int y1, mK], [.ref 56], S, 0) r
    refine ev_sts 3 (c2 := (23, [.ref 36, .ref 24, .int y1, .ref 56], [.int (S 36 2)], S, 0)) rfl ?_
    refine ev_if (c1 := (30, [mK, mK, mK, mK], [], S, 0)) (c2 := (26, [.ref 36, .ref 24, .int y1, .ref 56], [], S, 0)) hf rfl rfl (fun _ hf => ?_) (fun _ hf => ?_)
    · exact f_X5_undoInto_b30_ok hf
    · refine ev_sts 4 (c2 := (34, [.ref 36, .ref 24, .int y1, .ref 56], [.ref 56, .ref 24], S, 0)) rfl ?_
      refine ev_bV0 (d := d) (M' := Mx0) (ct := (37, [.ref 36, .ref 24, .int y1, .ref 56], [], S, 0)) hf rfl rfl rfl rfl (fun r9 h9 => f_X0_copy_ok_24_56 (d := d) h9) (fun S39 hf => ?_)
      show Ev (d + 1) Mx45 (37, [.ref 36, .ref 24, .int y1, .ref 56], [], S39, 0) r
      refine ev_sts 3 (c2 := (42, [.ref 36, .ref 24, .int y1, .ref 56], [], (upS S39 36 1 y1), 0)) rfl ?_
      refine ev_let (P := fun S40 => Ev (d + 1) Mx45 (42, [.ref 36, .ref 24, .int y1, .ref 56], [], S40, 0) r) (fun S40 hf => ?_) hf
      refine ev_sts 6 (c2 := (52, [.ref 36, .ref 24, .int y1, .ref 56], [], (upS S40 36 2 ((S40 36 2) - ((1 : Int32)))), 0)) rfl ?_
      refine ev_let (P := fun S41 => Ev (d + 1) Mx45 (52, [.ref 36, .ref 24, .int y1, .ref 56], [], S41, 0) r) (fun S41 hf => ?_) hf
      refine ev_sts 1 (c2 := (53, [.ref 36, .ref 24, .int y1, .ref 56], [.int ((1 : Int32))], S41, 0)) rfl ?_
      exact ev_ret hf rfl rfl
  rcases ite_or hf with ⟨h41, hf⟩ | ⟨h41, hf⟩
  · refine ev_callr (d := d) (M' := Mx46) (ct := (18, [.ref 36, .ref 24, .int y1, mK], [], S, 0)) (w := some (.ref 58)) (S1 := S) rfl rfl rfl rfl (placeAt_10 (d := d) h41) ?_
    show Ev (d + 1) Mx45 (18, [.ref 36, .ref 24, .int y1, mK], [.ref 58], S, 0) r
    refine ev_sts 3 (c2 := (23, [.ref 36, .ref 24, .int y1, .ref 58], [.int (S 36 2)], S, 0)) rfl ?_
    refine ev_if (c1 := (30, [mK, mK, mK, mK], [], S, 0)) (c2 := (26, [.ref 36, .ref 24, .int y1, .ref 58], [], S, 0)) hf rfl rfl (fun _ hf => ?_) (fun _ hf => ?_)
    · exact f_X5_undoInto_b30_ok hf
    · refine ev_sts 4 (c2 := (34, [.ref 36, .ref 24, .int y1, .ref 58], [.ref 58, .ref 24], S, 0)) rfl ?_
      refine ev_bV0 (d := d) (M' := Mx0) (ct := (37, [.ref 36, .ref 24, .int y1, .ref 58], [], S, 0)) hf rfl rfl rfl rfl (fun r9 h9 => f_X0_copy_ok_24_58 (d := d) h9) (fun S43 hf => ?_)
      show Ev (d + 1) Mx45 (37, [.ref 36, .ref 24, .int y1, .ref 58], [], S43, 0) r
      refine ev_sts 3 (c2 := (42, [.ref 36, .ref 24, .int y1, .ref 58], [], (upS S43 36 1 y1), 0)) rfl ?_
      refine ev_let (P := fun S44 => Ev (d + 1) Mx45 (42, [.ref 36, .ref 24, .int y1, .ref 58], [], S44, 0) r) (fun S44 hf => ?_) hf
      refine ev_sts 6 (c2 := (52, [.ref 36, .ref 24, .int y1, .ref 58], [], (upS S44 36 2 ((S44 36 2) - ((1 : Int32)))), 0)) rfl ?_
      refine ev_let (P := fun S45 => Ev (d + 1) Mx45 (52, [.ref 36, .ref 24, .int y1, .ref 58], [], S45, 0) r) (fun S45 hf => ?_) hf
      refine ev_sts 1 (c2 := (53, [.ref 36, .ref 24, .int y1, .ref 58], [.int ((1 : Int32))], S45, 0)) rfl ?_
      exact ev_ret hf rfl rfl
  rcases ite_or hf with ⟨h45, hf⟩ | ⟨h45, hf⟩
  · refine ev_callr (d := d) (M' := Mx46) (ct := (18, [.ref 36, .ref 24, .int y1, mK], [], S, 0)) (w := some (.ref 60)) (S1 := S) rfl rfl rfl rfl (placeAt_11 (d := d) h45) ?_
    show Ev (d + 1) Mx45 (18, [.ref 36, .ref 24, .int y1, mK], [.ref 60], S, 0) r
    refine ev_sts 3 (c2 := (23, [.ref 36, .ref 24, .int y1, .ref 60], [.int (S 36 2)], S, 0)) rfl ?_
    refine ev_if (c1 := (30, [mK, mK, mK, mK], [], S, 0)) (c2 := (26, [.ref 36, .ref 24, .int y1, .ref 60], [], S, 0)) hf rfl rfl (fun _ hf => ?_) (fun _ hf => ?_)
    · exact f_X5_undoInto_b30_ok hf
    · refine ev_sts 4 (c2 := (34, [.ref 36, .ref 24, .int y1, .ref 60], [.ref 60, .ref 24], S, 0)) rfl ?_
      refine ev_bV0 (d := d) (M' := Mx0) (ct := (37, [.ref 36, .ref 24, .int y1, .ref 60], [], S, 0)) hf rfl rfl rfl rfl (fun r9 h9 => f_X0_copy_ok_24_60 (d := d) h9) (fun S47 hf => ?_)
      show Ev (d + 1) Mx45 (37, [.ref 36, .ref 24, .int y1, .ref 60], [], S47, 0) r
      refine ev_sts 3 (c2 := (42, [.ref 36, .ref 24, .int y1, .ref 60], [], (upS S47 36 1 y1), 0)) rfl ?_
      refine ev_let (P := fun S48 => Ev (d + 1) Mx45 (42, [.ref 36, .ref 24, .int y1, .ref 60], [], S48, 0) r) (fun S48 hf => ?_) hf
      refine ev_sts 6 (c2 := (52, [.ref 36, .ref 24, .int y1, .ref 60], [], (upS S48 36 2 ((S48 36 2) - ((1 : Int32)))), 0)) rfl ?_
      refine ev_let (P := fun S49 => Ev (d + 1) Mx45 (52, [.ref 36, .ref 24, .int y1, .ref 60], [], S49, 0) r) (fun S49 hf => ?_) hf
      refine ev_sts 1 (c2 := (53, [.ref 36, .ref 24, .int y1, .ref 60], [.int ((1 : Int32))], S49, 0)) rfl ?_
      exact ev_ret hf rfl rfl
  cases hf
