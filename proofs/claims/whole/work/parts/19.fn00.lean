def f_X0_at_b21 (u0 : Nat) (t0 : Int32) (S : mS) : Option mR := some (.inl (some (.int t0)), S)
def f_X0_at_b20 (u0 : Nat) (S : mS) : Option mR := f_X0_at_b21 u0 ((0 : Int32)) S
def f_X0_at (u0 : Nat) (p1 : Int32) (S : mS) : Option mR := (if p1 < 0 then f_X0_at_b20 u0 S else (if ((446 : Int32)) ≤ p1 then f_X0_at_b20 u0 S else gd (inb p1 446) (f_X0_at_b21 u0 (S ((u0 + 1)) p1.toNatClampNeg) S)))
theorem f_X0_at_b21_ok_24 {d : Nat} {t0 : Int32} {S : mS} {r : mR} (hf : f_X0_at_b21 24 t0 S = some r) : Ev (d) Mx1 (21, [mK, mK], [.int t0], S, 0) r := by
  unfold f_X0_at_b21 at hf
  exact ev_ret hf rfl rfl
theorem f_X0_at_b20_ok_24 {d : Nat} {S : mS} {r : mR} (hf : f_X0_at_b20 24  S = some r) : Ev (d) Mx1 (20, [mK, mK], [], S, 0) r := by
  unfold f_X0_at_b20 at hf
  exact ev_sts 1 (c2 := (21, [mK, mK], [.int ((0 : Int32))], S, 0)) rfl (f_X0_at_b21_ok_24 hf)
theorem f_X0_at_ok_24 {d : Nat} {p1 : Int32} {S : mS} {r : mR} (hf : f_X0_at 24 p1 S = some r) : Ev (d) Mx1 (entry Mx1 [.ref 24, .int p1] S) r := by
  unfold f_X0_at at hf
  refine ev_sts 1 (c2 := (1, [.ref 24, .int p1], [.int p1], S, 0)) rfl ?_
  refine ev_if (c1 := (20, [mK, mK], [], S, 0)) (c2 := (4, [.ref 24, .int p1], [], S, 0)) hf rfl rfl (fun _ hf => ?_) (fun _ hf => ?_)
  · exact f_X0_at_b20_ok_24 hf
  · refine ev_sts 2 (c2 := (8, [.ref 24, .int p1], [.int ((446 : Int32)), .int p1], S, 0)) rfl ?_
    refine ev_if (c1 := (20, [mK, mK], [], S, 0)) (c2 := (11, [.ref 24, .int p1], [], S, 0)) hf rfl rfl (fun _ hf => ?_) (fun _ hf => ?_)
    · exact f_X0_at_b20_ok_24 hf
    · refine ev_sts 3 (c2 := (16, [.ref 24, .int p1], [.int p1, .ref 25], S, 0)) rfl ?_
      refine ev_gd (c1 := (17, [.ref 24, .int p1], [.int (S ((24 + 1)) p1.toNatClampNeg)], S, 0)) hf rfl rfl (fun hf => ?_)
      exact ev_sts 1 (c2 := (21, [mK, mK], [.int (S ((24 + 1)) p1.toNatClampNeg)], S, 0)) rfl (f_X0_at_b21_ok_24 hf)
theorem f_X0_at_b21_ok_26 {d : Nat} {t0 : Int32} {S : mS} {r : mR} (hf : f_X0_at_b21 26 t0 S = some r) : Ev (d) Mx1 (21, [mK, mK], [.int t0], S, 0) r := by
  unfold f_X0_at_b21 at hf
  exact ev_ret hf rfl rfl
theorem f_X0_at_b20_ok_26 {d : Nat} {S : mS} {r : mR} (hf : f_X0_at_b20 26  S = some r) : Ev (d) Mx1 (20, [mK, mK], [], S, 0) r := by
  unfold f_X0_at_b20 at hf
  exact ev_sts 1 (c2 := (21, [mK, mK], [.int ((0 : Int32))], S, 0)) rfl (f_X0_at_b21_ok_26 hf)
theorem f_X0_at_ok_26 {d : Nat} {p1 : Int32} {S : mS} {r : mR} (hf : f_X0_at 26 p1 S = some r) : Ev (d) Mx1 (entry Mx1 [.ref 26, .int p1] S) r := by
  unfold f_X0_at at hf
  refine ev_sts 1 (c2 := (1, [.ref 26, .int p1], [.int p1], S, 0)) rfl ?_
  refine ev_if (c1 := (20, [mK, mK], [], S, 0)) (c2 := (4, [.ref 26, .int p1], [], S, 0)) hf rfl rfl (fun _ hf => ?_) (fun _ hf => ?_)
  · exact f_X0_at_b20_ok_26 hf
  · refine ev_sts 2 (c2 := (8, [.ref 26, .int p1], [.int ((446 : Int32)), .int p1], S, 0)) rfl ?_
    refine ev_if (c1 := (20, [mK, mK], [], S, 0)) (c2 := (11, [.ref 26, .int p1], [], S, 0)) hf rfl rfl (fun _ hf => ?_) (fun _ hf => ?_)
    · exact f_X0_at_b20_ok_26 hf
    · refine ev_sts 3 (c2 := (16, [.ref 26, .int p1], [.int p1, .ref 27], S, 0)) rfl ?_
      refine ev_gd (c1 := (17, [.ref 26, .int p1], [.int (S ((26 + 1)) p1.toNatClampNeg)], S, 0)) hf rfl rfl (fun hf => ?_)
      exact ev_sts 1 (c2 := (21, [mK, mK], [.int (S ((26 + 1)) p1.toNatClampNeg)], S, 0)) rfl (f_X0_at_b21_ok_26 hf)
def f_X9_needLedge_b17 (S : mS) : Option mR := some (.inr 3, S)
def f_X9_needLedge (p1 : Int32) (S : mS) : Option mR := (if p1 < 0 then f_X9_needLedge_b17 S else bI0 (f_X0_at 24 ((12 : Int32)) S) (fun r2 S1 => (if p1 < r2 then some (.inl none, S1) else f_X9_needLedge_b17 S1)))
theorem f_X9_needLedge_b17_ok {d : Nat} {S : mS} {r : mR} (hf : f_X9_needLedge_b17  S = some r) : Ev (d + 1) Mx139 (17, [mK, mK], [], S, 0) r := by
  unfold f_X9_needLedge_b17 at hf
  exact ev_ret hf rfl rfl
theorem f_X9_needLedge_ok {d : Nat} {p1 : Int32} {S : mS} {r : mR} (hf : f_X9_needLedge p1 S = some r) : Ev (d + 1) Mx139 (entry Mx139 [.ref 0, .int p1] S) r := by
  unfold f_X9_needLedge at hf
  refine ev_sts 1 (c2 := (1, [.ref 0, .int p1], [.int p1], S, 0)) rfl ?_
  refine ev_if (c1 := (17, [mK, mK], [], S, 0)) (c2 := (4, [.ref 0, .int p1], [], S, 0)) hf rfl rfl (fun _ hf => ?_) (fun _ hf => ?_)
  · exact f_X9_needLedge_b17_ok hf
  · refine ev_sts 4 (c2 := (11, [.ref 0, .int p1], [.int ((12 : Int32)), .ref 24, .int p1], S, 0)) rfl ?_
    refine ev_bI0 (d := d) (M' := Mx1) (ct := (14, [.ref 0, .int p1], [.int p1], S, 0)) hf rfl rfl rfl rfl (fun r9 h9 => f_X0_at_ok_24 (d := d) h9) (fun r2 S1 hf => ?_)
    show Ev (d + 1) Mx139 (14, [.ref 0, .int p1], [.int r2, .int p1], S1, 0) r
    refine ev_if (c1 := (28, [.ref 0, .int p1], [], S1, 0)) (c2 := (17, [mK, mK], [], S1, 0)) hf rfl rfl (fun _ hf => ?_) (fun _ hf => ?_)
    · exact ev_ret hf rfl rfl
    · exact f_X9_needLedge_b17_ok hf
def f_X9_needWithin_b10 (S : mS) : Option mR := some (.inr 1, S)
def f_X9_needWithin (p0 : Int32) (p1 : Int32) (p2 : Int32) (S : mS) : Option mR := (if p0 < p1 then f_X9_needWithin_b10 S else (if p0 ≤ p2 then some (.inl none, S) else f_X9_needWithin_b10 S))
theorem f_X9_needWithin_b10_ok {d : Nat} {S : mS} {r : mR} (hf : f_X9_needWithin_b10  S = some r) : Ev (d) Mx142 (10, [mK, mK, mK], [], S, 0) r := by
  unfold f_X9_needWithin_b10 at hf
  exact ev_ret hf rfl rfl
theorem f_X9_needWithin_ok {d : Nat} {p0 : Int32} {p1 : Int32} {p2 : Int32} {S : mS} {r : mR} (hf : f_X9_needWithin p0 p1 p2 S = some r) : Ev (d) Mx142 (entry Mx142 [.int p0, .int p1, .int p2] S) r := by
  unfold f_X9_needWithin at hf
  refine ev_sts 2 (c2 := (2, [.int p0, .int p1, .int p2], [.int p1, .int p0], S, 0)) rfl ?_
  refine ev_if (c1 := (10, [mK, mK, mK], [], S, 0)) (c2 := (5, [.int p0, .int p1, .int p2], [], S, 0)) hf rfl rfl (fun _ hf => ?_) (fun _ hf => ?_)
  · exact f_X9_needWithin_b10_ok hf
  · refine ev_sts 2 (c2 := (7, [.int p0, .int p1, .int p2], [.int p2, .int p0], S, 0)) rfl ?_
    refine ev_if (c1 := (21, [.int p0, .int p1, .int p2], [], S, 0)) (c2 := (10, [mK, mK, mK], [], S, 0)) hf rfl rfl (fun _ hf => ?_) (fun _ hf => ?_)
    · exact ev_ret hf rfl rfl
    · exact f_X9_needWithin_b10_ok hf
def f_X0_copy (u0 : Nat) (u1 : Nat) (S : mS) : Option mR := gd (decide (¬ ((0 : Int32)) < 0 ∧ ¬ ((0 : Int32)) < 0 ∧ ¬ ((446 : Int32)) < 0 ∧ ((0 : Int32)).toNatClampNeg + ((446 : Int32)).toNatClampNeg ≤ 446 ∧ ((0 : Int32)).toNatClampNeg + ((446 : Int32)).toNatClampNeg ≤ 446)) (bnd (seS S ((u0 + 1)) (va_cpy (S ((u1 + 1))) (S ((u0 + 1))) ((0 : Int32)).toNatClampNeg ((0 : Int32)).toNatClampNeg ((446 : Int32)).toNatClampNeg)) (fun S1 => some (.inl none, S1)))
theorem f_X0_copy_ok_24_28 {d : Nat} {S : mS} {r : mR} (hf : f_X0_copy 24 28 S = some r) : Ev (d) Mx0 (entry Mx0 [.ref 24, .ref 28] S) r := by
  unfold f_X0_copy at hf
  refine ev_sts 7 (c2 := (13, [.ref 24, .ref 28], [.int ((446 : Int32)), .int ((0 : Int32)), .ref 25, .int ((0 : Int32)), .ref 29], S, 0)) rfl ?_
  refine ev_gd (c1 := (16, [.ref 24, .ref 28], [], (seS S ((24 + 1)) (va_cpy (S ((28 + 1))) (S ((24 + 1))) ((0 : Int32)).toNatClampNeg ((0 : Int32)).toNatClampNeg ((446 : Int32)).toNatClampNeg)), 0)) hf rfl rfl (fun hf => ?_)
  refine ev_let (P := fun S1 => Ev (d) Mx0 (16, [.ref 24, .ref 28], [], S1, 0) r) (fun S1 hf => ?_) hf
  exact ev_ret hf rfl rfl
theorem f_X0_copy_ok_28_24 {d : Nat} {S : mS} {r : mR} (hf : f_X0_copy 28 24 S = some r) : Ev (d) Mx0 (entry Mx0 [.ref 28, .ref 24] S) r := by
  unfold f_X0_copy at hf
  refine ev_sts 7 (c2 := (13, [.ref 28, .ref 24], [.int ((446 : Int32)), .int ((0 : Int32)), .ref 29, .int ((0 : Int32)), .ref 25], S, 0)) rfl ?_
  refine ev_gd (c1 := (16, [.ref 28, .ref 24], [], (seS S ((28 + 1)) (va_cpy (S ((24 + 1))) (S ((28 + 1))) ((0 : Int32)).toNatClampNeg ((0 : Int32)).toNatClampNeg ((446 : Int32)).toNatClampNeg)), 0)) hf rfl rfl (fun hf => ?_)
  refine ev_let (P := fun S1 => Ev (d) Mx0 (16, [.ref 28, .ref 24], [], S1, 0) r) (fun S1 hf => ?_) hf
  exact ev_ret hf rfl rfl
theorem f_X0_copy_ok_24_60 {d : Nat} {S : mS} {r : mR} (hf : f_X0_copy 24 60 S = some r) : Ev (d) Mx0 (entry Mx0 [.ref 24, .ref 60] S) r := by
  unfold f_X0_copy at hf
  refine ev_sts 7 (c2 := (13, [.ref 24, .ref 60], [.int ((446 : Int32)), .int ((0 : Int32)), .ref 25, .int ((0 : Int32)), .ref 61], S, 0)) rfl ?_
  refine ev_gd (c1 := (16, [.ref 24, .ref 60], [], (seS S ((24 + 1)) (va_cpy (S ((60 + 1))) (S ((24 + 1))) ((0 : Int32)).toNatClampNeg ((0 : Int32)).toNatClampNeg ((446 : Int32)).toNatClampNeg)), 0)) hf rfl rfl (fun hf => ?_)
  refine ev_let (P := fun S1 => Ev (d) Mx0 (16, [.ref 24, .ref 60], [], S1, 0) r) (fun S1 hf => ?_) hf
  exact ev_ret hf rfl rfl
theorem f_X0_copy_ok_24_58 {d : Nat} {S : mS} {r : mR} (hf : f_X0_copy 24 58 S = some r) : Ev (d) Mx0 (entry Mx0 [.ref 24, .ref 58] S) r := by
  unfold f_X0_copy at hf
  refine ev_sts 7 (c2 := (13, [.ref 24, .ref 58], [.int ((446 : Int32)), .int ((0 : Int32)), .ref 25, .int ((0 : Int32)), .ref 59], S, 0)) rfl ?_
  refine ev_gd (c1 := (16, [.ref 24, .ref 58], [], (seS S ((24 + 1)) (va_cpy (S ((58 + 1))) (S ((24 + 1))) ((0 : Int32)).toNatClampNeg ((0 : Int32)).toNatClampNeg ((446 : Int32)).toNatClampNeg)), 0)) hf rfl rfl (fun hf => ?_)
  refine ev_let (P := fun S1 => Ev (d) Mx0 (16, [.ref 24, .ref 58], [], S1, 0) r) (fun S1 hf => ?_) hf
  exact ev_ret hf rfl rfl
theorem f_X0_copy_ok_24_56 {d : Nat} {S : mS} {r : mR} (hf : f_X0_copy 24 56 S = some r) : Ev (d) Mx0 (entry Mx0 [.ref 24, .ref 56] S) r := by
  unfold f_X0_copy at hf
  refine ev_sts 7 (c2 := (13, [.ref 24, .ref 56], [.int ((446 : Int32)), .int ((0 : Int32)), .ref 25, .int ((0 : Int32)), .ref 57], S, 0)) rfl ?_
  refine ev_gd (c1 := (16, [.ref 24, .ref 56], [], (seS S ((24 + 1)) (va_cpy (S ((56 + 1))) (S ((24 + 1))) ((0 : Int32)).toNatClampNeg ((0 : Int32)).toNatClampNeg ((446 : Int32)).toNatClampNeg)), 0)) hf rfl rfl (fun hf => ?_)
  refine ev_let (P := fun S1 => Ev (d) Mx0 (16, [.ref 24, .ref 56], [], S1, 0) r) (fun S1 hf => ?_) hf
  exact ev_ret hf rfl rfl
theorem f_X0_copy_ok_24_54 {d : Nat} {S : mS} {r : mR} (hf : f_X0_copy 24 54 S = some r) : Ev (d) Mx0 (entry Mx0 [.ref 24, .ref 54] S) r := by
  unfold f_X0_copy at hf
  refine ev_sts 7 (c2 := (13, [.ref 24, .ref 54], [.int ((446 : Int32)), .int ((0 : Int32)), .ref 25, .int ((0 : Int32)), .ref 55], S, 0)) rfl ?_
  refine ev_gd (c1 := (16, [.ref 24, .ref 54], [], (seS S ((24 + 1)) (va_cpy (S ((54 + 1))) (S ((24 + 1))) ((0 : Int32)).toNatClampNeg ((0 : Int32)).toNatClampNeg ((446 : Int32)).toNatClampNeg)), 0)) hf rfl rfl (fun hf => ?_)
  refine ev_let (P := fun S1 => Ev (d) Mx0 (16, [.ref 24, .ref 54], [], S1, 0) r) (fun S1 hf => ?_) hf
  exact ev_ret hf rfl rfl
theorem f_X0_copy_ok_24_52 {d : Nat} {S : mS} {r : mR} (hf : f_X0_copy 24 52 S = some r) : Ev (d) Mx0 (entry Mx0 [.ref 24, .ref 52] S) r := by
  unfold f_X0_copy at hf
  refine ev_sts 7 (c2 := (13, [.ref 24, .ref 52], [.int ((446 : Int32)), .int ((0 : Int32)), .ref 25, .int ((0 : Int32)), .ref 53], S, 0)) rfl ?_
  refine ev_gd (c1 := (16, [.ref 24, .ref 52], [], (seS S ((24 + 1)) (va_cpy (S ((52 + 1))) (S ((24 + 1))) ((0 : Int32)).toNatClampNeg ((0 : Int32)).toNatClampNeg ((446 : Int32)).toNatClampNeg)), 0)) hf rfl rfl (fun hf => ?_)
  refine ev_let (P := fun S1 => Ev (d) Mx0 (16, [.ref 24, .ref 52], [], S1, 0) r) (fun S1 hf => ?_) hf
  exact ev_ret hf rfl rfl
theorem f_X0_copy_ok_24_50 {d : Nat} {S : mS} {r : mR} (hf : f_X0_copy 24 50 S = some r) : Ev (d) Mx0 (entry Mx0 [.ref 24, .ref 50] S) r := by
  unfold f_X0_copy at hf
  refine ev_sts 7 (c2 := (13, [.ref 24, .ref 50], [.int ((446 : Int32)), .int ((0 : Int32)), .ref 25, .int ((0 : Int32)), .ref 51], S, 0)) rfl ?_
  refine ev_gd (c1 := (16, [.ref 24, .ref 50], [], (seS S ((24 + 1)) (va_cpy (S ((50 + 1))) (S ((24 + 1))) ((0 : Int32)).toNatClampNeg ((0 : Int32)).toNatClampNeg ((446 : Int32)).toNatClampNeg)), 0)) hf rfl rfl (fun hf => ?_)
  refine ev_let (P := fun S1 => Ev (d) Mx0 (16, [.ref 24, .ref 50], [], S1, 0) r) (fun S1 hf => ?_) hf
  exact ev_ret hf rfl rfl
theorem f_X0_copy_ok_24_48 {d : Nat} {S : mS} {r : mR} (hf : f_X0_copy 24 48 S = some r) : Ev (d) Mx0 (entry Mx0 [.ref 24, .ref 48] S) r := by
  unfold f_X0_copy at hf
  refine ev_sts 7 (c2 := (13, [.ref 24, .ref 48], [.int ((446 : Int32)), .int ((0 : Int32)), .ref 25, .int ((0 : Int32)), .ref 49], S, 0)) rfl ?_
  refine ev_gd (c1 := (16, [.ref 24, .ref 48], [], (seS S ((24 + 1)) (va_cpy (S ((48 + 1))) (S ((24 + 1))) ((0 : Int32)).toNatClampNeg ((0 : Int32)).toNatClampNeg ((446 : Int32)).toNatClampNeg)), 0)) hf rfl rfl (fun hf => ?_)
  refine ev_let (P := fun S1 => Ev (d) Mx0 (16, [.ref 24, .ref 48], [], S1, 0) r) (fun S1 hf => ?_) hf
  exact ev_ret hf rfl rfl
theorem f_X0_copy_ok_24_46 {d : Nat} {S : mS} {r : mR} (hf : f_X0_copy 24 46 S = some r) : Ev (d) Mx0 (entry Mx0 [.ref 24, .ref 46] S) r := by
  unfold f_X0_copy at hf
  refine ev_sts 7 (c2 := (13, [.ref 24, .ref 46], [.int ((446 : Int32)), .int ((0 : Int32)), .ref 25, .int ((0 : Int32)), .ref 47], S, 0)) rfl ?_
  refine ev_gd (c1 := (16, [.ref 24, .ref 46], [], (seS S ((24 + 1)) (va_cpy (S ((46 + 1))) (S ((24 + 1))) ((0 : Int32)).toNatClampNeg ((0 : Int32)).toNatClampNeg ((446 : Int32)).toNatClampNeg)), 0)) hf rfl rfl (fun hf => ?_)
  refine ev_let (P := fun S1 => Ev (d) Mx0 (16, [.ref 24, .ref 46], [], S1, 0) r) (fun S1 hf => ?_) hf
  exact ev_ret hf rfl rfl
theorem f_X0_copy_ok_24_44 {d : Nat} {S : mS} {r : mR} (hf : f_X0_copy 24 44 S = some r) : Ev (d) Mx0 (entry Mx0 [.ref 24, .ref 44] S) r := by
  unfold f_X0_copy at hf
  refine ev_sts 7 (c2 := (13, [.ref 24, .ref 44], [.int ((446 : Int32)), .int ((0 : Int32)), .ref 25, .int ((0 : Int32)), .ref 45], S, 0)) rfl ?_
  refine ev_gd (c1 := (16, [.ref 24, .ref 44], [], (seS S ((24 + 1)) (va_cpy (S ((44 + 1))) (S ((24 + 1))) ((0 : Int32)).toNatClampNeg ((0 : Int32)).toNatClampNeg ((446 : Int32)).toNatClampNeg)), 0)) hf rfl rfl (fun hf => ?_)
  refine ev_let (P := fun S1 => Ev (d) Mx0 (16, [.ref 24, .ref 44], [], S1, 0) r) (fun S1 hf => ?_) hf
  exact ev_ret hf rfl rfl
theorem f_X0_copy_ok_24_42 {d : Nat} {S : mS} {r : mR} (hf : f_X0_copy 24 42 S = some r) : Ev (d) Mx0 (entry Mx0 [.ref 24, .ref 42] S) r := by
  unfold f_X0_copy at hf
  refine ev_sts 7 (c2 := (13, [.ref 24, .ref 42], [.int ((446 : Int32)), .int ((0 : Int32)), .ref 25, .int ((0 : Int32)), .ref 43], S, 0)) rfl ?_
  refine ev_gd (c1 := (16, [.ref 24, .ref 42], [], (seS S ((24 + 1)) (va_cpy (S ((42 + 1))) (S ((24 + 1))) ((0 : Int32)).toNatClampNeg ((0 : Int32)).toNatClampNeg ((446 : Int32)).toNatClampNeg)), 0)) hf rfl rfl (fun hf => ?_)
  refine ev_let (P := fun S1 => Ev (d) Mx0 (16, [.ref 24, .ref 42], [], S1, 0) r) (fun S1 hf => ?_) hf
  exact ev_ret hf rfl rfl
theorem f_X0_copy_ok_24_40 {d : Nat} {S : mS} {r : mR} (hf : f_X0_copy 24 40 S = some r) : Ev (d) Mx0 (entry Mx0 [.ref 24, .ref 40] S) r := by
  unfold f_X0_copy at hf
  refine ev_sts 7 (c2 := (13, [.ref 24, .ref 40], [.int ((446 : Int32)), .int ((0 : Int32)), .ref 25, .int ((0 : Int32)), .ref 41], S, 0)) rfl ?_
  refine ev_gd (c1 := (16, [.ref 24, .ref 40], [], (seS S ((24 + 1)) (va_cpy (S ((40 + 1))) (S ((24 + 1))) ((0 : Int32)).toNatClampNeg ((0 : Int32)).toNatClampNeg ((446 : Int32)).toNatClampNeg)), 0)) hf rfl rfl (fun hf => ?_)
  refine ev_let (P := fun S1 => Ev (d) Mx0 (16, [.ref 24, .ref 40], [], S1, 0) r) (fun S1 hf => ?_) hf
  exact ev_ret hf rfl rfl
theorem f_X0_copy_ok_24_38 {d : Nat} {S : mS} {r : mR} (hf : f_X0_copy 24 38 S = some r) : Ev (d) Mx0 (entry Mx0 [.ref 24, .ref 38] S) r := by
  unfold f_X0_copy at hf
  refine ev_sts 7 (c2 := (13, [.ref 24, .ref 38], [.int ((446 : Int32)), .int ((0 : Int32)), .ref 25, .int ((0 : Int32)), .ref 39], S, 0)) rfl ?_
  refine ev_gd (c1 := (16, [.ref 24, .ref 38], [], (seS S ((24 + 1)) (va_cpy (S ((38 + 1))) (S ((24 + 1))) ((0 : Int32)).toNatClampNeg ((0 : Int32)).toNatClampNeg ((446 : Int32)).toNatClampNeg)), 0)) hf rfl rfl (fun hf => ?_)
  refine ev_let (P := fun S1 => Ev (d) Mx0 (16, [.ref 24, .ref 38], [], S1, 0) r) (fun S1 hf => ?_) hf
  exact ev_ret hf rfl rfl
theorem f_X0_copy_ok_26_24 {d : Nat} {S : mS} {r : mR} (hf : f_X0_copy 26 24 S = some r) : Ev (d) Mx0 (entry Mx0 [.ref 26, .ref 24] S) r := by
  unfold f_X0_copy at hf
  refine ev_sts 7 (c2 := (13, [.ref 26, .ref 24], [.int ((446 : Int32)), .int ((0 : Int32)), .ref 27, .int ((0 : Int32)), .ref 25], S, 0)) rfl ?_
  refine ev_gd (c1 := (16, [.ref 26, .ref 24], [], (seS S ((26 + 1)) (va_cpy (S ((24 + 1))) (S ((26 + 1))) ((0 : Int32)).toNatClampNeg ((0 : Int32)).toNatClampNeg ((446 : Int32)).toNatClampNeg)), 0)) hf rfl rfl (fun hf => ?_)
  refine ev_let (P := fun S1 => Ev (d) Mx0 (16, [.ref 26, .ref 24], [], S1, 0) r) (fun S1 hf => ?_) hf
  exact ev_ret hf rfl rfl
theorem f_X0_copy_ok_60_24 {d : Nat} {S : mS} {r : mR} (hf : f_X0_copy 60 24 S = some r) : Ev (d) Mx0 (entry Mx0 [.ref 60, .ref 24] S) r := by
  unfold f_X0_copy at hf
  refine ev_sts 7 (c2 := (13, [.ref 60, .ref 24], [.int ((446 : Int32)), .int ((0 : Int32)), .ref 61, .int ((0 : Int32)), .ref 25], S, 0)) rfl ?_
  refine ev_gd (c1 := (16, [.ref 60, .ref 24], [], (seS S ((60 + 1)) (va_cpy (S ((24 + 1))) (S ((60 + 1))) ((0 : Int32)).toNatClampNeg ((0 : Int32)).toNatClampNeg ((446 : Int32)).toNatClampNeg)), 0)) hf rfl rfl (fun hf => ?_)
  refine ev_let (P := fun S1 => Ev (d) Mx0 (16, [.ref 60, .ref 24], [], S1, 0) r) (fun S1 hf => ?_) hf
  exact ev_ret hf rfl rfl
theorem f_X0_copy_ok_58_24 {d : Nat} {S : mS} {r : mR} (hf : f_X0_copy 58 24 S = some r) : Ev (d) Mx0 (entry Mx0 [.ref 58, .ref 24] S) r := by
  unfold f_X0_copy at hf
  refine ev_sts 7 (c2 := (13, [.ref 58, .ref 24], [.int ((446 : Int32)), .int ((0 : Int32)), .ref 59, .int ((0 : Int32)), .ref 25], S, 0)) rfl ?_
  refine ev_gd (c1 := (16, [.ref 58, .ref 24], [], (seS S ((58 + 1)) (va_cpy (S ((24 + 1))) (S ((58 + 1))) ((0 : Int32)).toNatClampNeg ((0 : Int32)).toNatClampNeg ((446 : Int32)).toNatClampNeg)), 0)) hf rfl rfl (fun hf => ?_)
  refine ev_let (P := fun S1 => Ev (d) Mx0 (16, [.ref 58, .ref 24], [], S1, 0) r) (fun S1 hf => ?_) hf
  exact ev_ret hf rfl rfl
theorem f_X0_copy_ok_56_24 {d : Nat} {S : mS} {r : mR} (hf : f_X0_copy 56 24 S = some r) : Ev (d) Mx0 (entry Mx0 [.ref 56, .ref 24] S) r := by
  unfold f_X0_copy at hf
  refine ev_sts 7 (c2 := (13, [.ref 56, .ref 24], [.int ((446 : Int32)), .int ((0 : Int32)), .ref 57, .int ((0 : Int32)), .ref 25], S, 0)) rfl ?_
  refine ev_gd (c1 := (16, [.ref 56, .ref 24], [], (seS S ((56 + 1)) (va_cpy (S ((24 + 1))) (S ((56 + 1))) ((0 : Int32)).toNatClampNeg ((0 : Int32)).toNatClampNeg ((446 : Int32)).toNatClampNeg)), 0)) hf rfl rfl (fun hf => ?_)
  refine ev_let (P := fun S1 => Ev (d) Mx0 (16, [.ref 56, .ref 24], [], S1, 0) r) (fun S1 hf => ?_) hf
  exact ev_ret hf rfl rfl
theorem f_X0_copy_ok_54_24 {d : Nat} {S : mS} {r : mR} (hf : f_X0_copy 54 24 S = some r) : Ev (d) Mx0 (entry Mx0 [.ref 54, .ref 24] S) r := by
  unfold f_X0_copy at hf
  refine ev_sts 7 (c2 := (13, [.ref 54, .ref 24], [.int ((446 : Int32)), .int ((0 : Int32)), .ref 55, .int ((0 : Int32)), .ref 25], S, 0)) rfl ?_
  refine ev_gd (c1 := (16, [.ref 54, .ref 24], [], (seS S ((54 + 1)) (va_cpy (S ((24 + 1))) (S ((54 + 1))) ((0 : Int32)).toNatClampNeg ((0 : Int32)).toNatClampNeg ((446 : Int32)).toNatClampNeg)), 0)) hf rfl rfl (fun hf => ?_)
  refine ev_let (P := fun S1 => Ev (d) Mx0 (16, [.ref 54, .ref 24], [], S1, 0) r) (fun S1 hf => ?_) hf
  exact ev_ret hf rfl rfl
theorem f_X0_copy_ok_52_24 {d : Nat} {S : mS} {r : mR} (hf : f_X0_copy 52 24 S = some r) : Ev (d) Mx0 (entry Mx0 [.ref 52, .ref 24] S) r := by
  unfold f_X0_copy at hf
  refine ev_sts 7 (c2 := (13, [.ref 52, .ref 24], [.int ((446 : Int32)), .int ((0 : Int32)), .ref 53, .int ((0 : Int32)), .ref 25], S, 0)) rfl ?_
  refine ev_gd (c1 := (16, [.ref 52, .ref 24], [], (seS S ((52 + 1)) (va_cpy (S ((24 + 1))) (S ((52 + 1))) ((0 : Int32)).toNatClampNeg ((0 : Int32)).toNatClampNeg ((446 : Int32)).toNatClampNeg)), 0)) hf rfl rfl (fun hf => ?_)
  refine ev_let (P := fun S1 => Ev (d) Mx0 (16, [.ref 52, .ref 24], [], S1, 0) r) (fun S1 hf => ?_) hf
  exact ev_ret hf rfl rfl
theorem f_X0_copy_ok_50_24 {d : Nat} {S : mS} {r : mR} (hf : f_X0_copy 50 24 S = some r) : Ev (d) Mx0 (entry Mx0 [.ref 50, .ref 24] S) r := by
  unfold f_X0_copy at hf
  refine ev_sts 7 (c2 := (13, [.ref 50, .ref 24], [.int ((446 : Int32)), .int ((0 : Int32)), .ref 51, .int ((0 : Int32)), .ref 25], S, 0)) rfl ?_
  refine ev_gd (c1 := (16, [.ref 50, .ref 24], [], (seS S ((50 + 1)) (va_cpy (S ((24 + 1))) (S ((50 + 1))) ((0 : Int32)).toNatClampNeg ((0 : Int32)).toNatClampNeg ((446 : Int32)).toNatClampNeg)), 0)) hf rfl rfl (fun hf => ?_)
  refine ev_let (P := fun S1 => Ev (d) Mx0 (16, [.ref 50, .ref 24], [], S1, 0) r) (fun S1 hf => ?_) hf
  exact ev_ret hf rfl rfl
theorem f_X0_copy_ok_48_24 {d : Nat} {S : mS} {r : mR} (hf : f_X0_copy 48 24 S = some r) : Ev (d) Mx0 (entry Mx0 [.ref 48, .ref 24] S) r := by
  unfold f_X0_copy at hf
  refine ev_sts 7 (c2 := (13, [.ref 48, .ref 24], [.int ((446 : Int32)), .int ((0 : Int32)), .ref 49, .int ((0 : Int32)), .ref 25], S, 0)) rfl ?_
  refine ev_gd (c1 := (16, [.ref 48, .ref 24], [], (seS S ((48 + 1)) (va_cpy (S ((24 + 1))) (S ((48 + 1))) ((0 : Int32)).toNatClampNeg ((0 : Int32)).toNatClampNeg ((446 : Int32)).toNatClampNeg)), 0)) hf rfl rfl (fun hf => ?_)
  refine ev_let (P := fun S1 => Ev (d) Mx0 (16, [.ref 48, .ref 24], [], S1, 0) r) (fun S1 hf => ?_) hf
  exact ev_ret hf rfl rfl
theorem f_X0_copy_ok_46_24 {d : Nat} {S : mS} {r : mR} (hf : f_X0_copy 46 24 S = some r) : Ev (d) Mx0 (entry Mx0 [.ref 46, .ref 24] S) r := by
  unfold f_X0_copy at hf
  refine ev_sts 7 (c2 := (13, [.ref 46, .ref 24], [.int ((446 : Int32)), .int ((0 : Int32)), .ref 47, .int ((0 : Int32)), .ref 25], S, 0)) rfl ?_
  refine ev_gd (c1 := (16, [.ref 46, .ref 24], [], (seS S ((46 + 1)) (va_cpy (S ((24 + 1))) (S ((46 + 1))) ((0 : Int32)).toNatClampNeg ((0 : Int32)).toNatClampNeg ((446 : Int32)).toNatClampNeg)), 0)) hf rfl rfl (fun hf => ?_)
  refine ev_let (P := fun S1 => Ev (d) Mx0 (16, [.ref 46, .ref 24], [], S1, 0) r) (fun S1 hf => ?_) hf
  exact ev_ret hf rfl rfl
theorem f_X0_copy_ok_44_24 {d : Nat} {S : mS} {r : mR} (hf : f_X0_copy 44 24 S = some r) : Ev (d) Mx0 (entry Mx0 [.ref 44, .ref 24] S) r := by
  unfold f_X0_copy at hf
  refine ev_sts 7 (c2 := (13, [.ref 44, .ref 24], [.int ((446 : Int32)), .int ((0 : Int32)), .ref 45, .int ((0 : Int32)), .ref 25], S, 0)) rfl ?_
  refine ev_gd (c1 := (16, [.ref 44, .ref 24], [], (seS S ((44 + 1)) (va_cpy (S ((24 + 1))) (S ((44 + 1))) ((0 : Int32)).toNatClampNeg ((0 : Int32)).toNatClampNeg ((446 : Int32)).toNatClampNeg)), 0)) hf rfl rfl (fun hf => ?_)
  refine ev_let (P := fun S1 => Ev (d) Mx0 (16, [.ref 44, .ref 24], [], S1, 0) r) (fun S1 hf => ?_) hf
  exact ev_ret hf rfl rfl
theorem f_X0_copy_ok_42_24 {d : Nat} {S : mS} {r : mR} (hf : f_X0_copy 42 24 S = some r) : Ev (d) Mx0 (entry Mx0 [.ref 42, .ref 24] S) r := by
  unfold f_X0_copy at hf
  refine ev_sts 7 (c2 := (13, [.ref 42, .ref 24], [.int ((446 : Int32)), .int ((0 : Int32)), .ref 43, .int ((0 : Int32)), .ref 25], S, 0)) rfl ?_
  refine ev_gd (c1 := (16, [.ref 42, .ref 24], [], (seS S ((42 + 1)) (va_cpy (S ((24 + 1))) (S ((42 + 1))) ((0 : Int32)).toNatClampNeg ((0 : Int32)).toNatClampNeg ((446 : Int32)).toNatClampNeg)), 0)) hf rfl rfl (fun hf => ?_)
  refine ev_let (P := fun S1 => Ev (d) Mx0 (16, [.ref 42, .ref 24], [], S1, 0) r) (fun S1 hf => ?_) hf
  exact ev_ret hf rfl rfl
theorem f_X0_copy_ok_40_24 {d : Nat} {S : mS} {r : mR} (hf : f_X0_copy 40 24 S = some r) : Ev (d) Mx0 (entry Mx0 [.ref 40, .ref 24] S) r := by
  unfold f_X0_copy at hf
  refine ev_sts 7 (c2 := (13, [.ref 40, .ref 24], [.int ((446 : Int32)), .int ((0 : Int32)), .ref 41, .int ((0 : Int32)), .ref 25], S, 0)) rfl ?_
  refine ev_gd (c1 := (16, [.ref 40, .ref 24], [], (seS S ((40 + 1)) (va_cpy (S ((24 + 1))) (S ((40 + 1))) ((0 : Int32)).toNatClampNeg ((0 : Int32)).toNatClampNeg ((446 : Int32)).toNatClampNeg)), 0)) hf rfl rfl (fun hf => ?_)
  refine ev_let (P := fun S1 => Ev (d) Mx0 (16, [.ref 40, .ref 24], [], S1, 0) r) (fun S1 hf => ?_) hf
  exact ev_ret hf rfl rfl
theorem f_X0_copy_ok_38_24 {d : Nat} {S : mS} {r : mR} (hf : f_X0_copy 38 24 S = some r) : Ev (d) Mx0 (entry Mx0 [.ref 38, .ref 24] S) r := by
  unfold f_X0_copy at hf
  refine ev_sts 7 (c2 := (13, [.ref 38, .ref 24], [.int ((446 : Int32)), .int ((0 : Int32)), .ref 39, .int ((0 : Int32)), .ref 25], S, 0)) rfl ?_
  refine ev_gd (c1 := (16, [.ref 38, .ref 24], [], (seS S ((38 + 1)) (va_cpy (S ((24 + 1))) (S ((38 + 1))) ((0 : Int32)).toNatClampNeg ((0 : Int32)).toNatClampNeg ((446 : Int32)).toNatClampNeg)), 0)) hf rfl rfl (fun hf => ?_)
  refine ev_let (P := fun S1 => Ev (d) Mx0 (16, [.ref 38, .ref 24], [], S1, 0) r) (fun S1 hf => ?_) hf
  exact ev_ret hf rfl rfl
theorem f_X0_copy_ok_24_26 {d : Nat} {S : mS} {r : mR} (hf : f_X0_copy 24 26 S = some r) : Ev (d) Mx0 (entry Mx0 [.ref 24, .ref 26] S) r := by
  unfold f_X0_copy at hf
  refine ev_sts 7 (c2 := (13, [.ref 24, .ref 26], [.int ((446 : Int32)), .int ((0 : Int32)), .ref 25, .int ((0 : Int32)), .ref 27], S, 0)) rfl ?_
  refine ev_gd (c1 := (16, [.ref 24, .ref 26], [], (seS S ((24 + 1)) (va_cpy (S ((26 + 1))) (S ((24 + 1))) ((0 : Int32)).toNatClampNeg ((0 : Int32)).toNatClampNeg ((446 : Int32)).toNatClampNeg)), 0)) hf rfl rfl (fun hf => ?_)
  refine ev_let (P := fun S1 => Ev (d) Mx0 (16, [.ref 24, .ref 26], [], S1, 0) r) (fun S1 hf => ?_) hf
  exact ev_ret hf rfl rfl
def f_X0_ofLedge (u0 : Nat) (p1 : Int32) (p2 : Int32) (S : mS) : Option mR := bI0 (f_X0_at u0 ((((16 : Int32)) + (p1 * ((5 : Int32)))) + p2) S) (fun r2 S1 => some (.inl (some (.int r2)), S1))
theorem f_X0_ofLedge_ok_24 {d : Nat} {p1 : Int32} {p2 : Int32} {S : mS} {r : mR} (hf : f_X0_ofLedge 24 p1 p2 S = some r) : Ev (d + 1) Mx4 (entry Mx4 [.ref 24, .int p1, .int p2] S) r := by
  unfold f_X0_ofLedge at hf
  refine ev_sts 8 (c2 := (9, [.ref 24, .int p1, .int p2], [.int ((((16 : Int32)) + (p1 * ((5 : Int32)))) + p2), .ref 24], S, 0)) rfl ?_
  refine ev_bI0 (d := d) (M' := Mx1) (ct := (12, [.ref 24, .int p1, .int p2], [], S, 0)) hf rfl rfl rfl rfl (fun r9 h9 => f_X0_at_ok_24 (d := d) h9) (fun r2 S1 hf => ?_)
  show Ev (d + 1) Mx4 (12, [.ref 24, .int p1, .int p2], [.int r2], S1, 0) r
  exact ev_ret hf rfl rfl
theorem f_X0_ofLedge_ok_26 {d : Nat} {p1 : Int32} {p2 : Int32} {S : mS} {r : mR} (hf : f_X0_ofLedge 26 p1 p2 S = some r) : Ev (d + 1) Mx4 (entry Mx4 [.ref 26, .int p1, .int p2] S) r := by
  unfold f_X0_ofLedge at hf
  refine ev_sts 8 (c2 := (9, [.ref 26, .int p1, .int p2], [.int ((((16 : Int32)) + (p1 * ((5 : Int32)))) + p2), .ref 26], S, 0)) rfl ?_
  refine ev_bI0 (d := d) (M' := Mx1) (ct := (12, [.ref 26, .int p1, .int p2], [], S, 0)) hf rfl rfl rfl rfl (fun r9 h9 => f_X0_at_ok_26 (d := d) h9) (fun r2 S1 hf => ?_)
  show Ev (d + 1) Mx4 (12, [.ref 26, .int p1, .int p2], [.int r2], S1, 0) r
  exact ev_ret hf rfl rfl
def f_X0_passDay (u0 : Nat) (S : mS) : Option mR := gd (inb ((3 : Int32)) 446) (gd (inb ((3 : Int32)) 446) (bnd (upS S ((u0 + 1)) ((3 : Int32)).toNatClampNeg (if ((S ((u0 + 1)) ((3 : Int32)).toNatClampNeg) + ((1 : Int32))) < ((9999 : Int32)) then ((S ((u0 + 1)) ((3 : Int32)).toNatClampNeg) + ((1 : Int32))) else ((9999 : Int32)))) (fun S1 => some (.inl none, S1))))
theorem f_X0_passDay_ok_26 {d : Nat} {S : mS} {r : mR} (hf : f_X0_passDay 26 S = some r) : Ev (d) Mx19 (entry Mx19 [.ref 26] S) r := by
  unfold f_X0_passDay at hf
  refine ev_sts 7 (c2 := (13, [.ref 26], [.int ((3 : Int32)), .ref 27, .int ((9999 : Int32)), .int ((3 : Int32)), .ref 27], S, 0)) rfl ?_
  refine ev_gd (c1 := (14, [.ref 26], [.int (S ((26 + 1)) ((3 : Int32)).toNatClampNeg), .int ((9999 : Int32)), .int ((3 : Int32)), .ref 27], S, 0)) hf rfl rfl (fun hf => ?_)
  refine ev_sts 3 (c2 := (19, [.ref 26], [.int (if ((S ((26 + 1)) ((3 : Int32)).toNatClampNeg) + ((1 : Int32))) < ((9999 : Int32)) then ((S ((26 + 1)) ((3 : Int32)).toNatClampNeg) + ((1 : Int32))) else ((9999 : Int32))), .int ((3 : Int32)), .ref 27], S, 0)) rfl ?_
  refine ev_gd (c1 := (20, [.ref 26], [], (upS S ((26 + 1)) ((3 : Int32)).toNatClampNeg (if ((S ((26 + 1)) ((3 : Int32)).toNatClampNeg) + ((1 : Int32))) < ((9999 : Int32)) then ((S ((26 + 1)) ((3 : Int32)).toNatClampNeg) + ((1 : Int32))) else ((9999 : Int32)))), 0)) hf rfl rfl (fun hf => ?_)
  refine ev_let (P := fun S1 => Ev (d) Mx19 (20, [.ref 26], [], S1, 0) r) (fun S1 hf => ?_) hf
  exact ev_ret hf rfl rfl
theorem f_X0_passDay_ok_24 {d : Nat} {S : mS} {r : mR} (hf : f_X0_passDay 24 S = some r) : Ev (d) Mx19 (entry Mx19 [.ref 24] S) r := by
  unfold f_X0_passDay at hf
  refine ev_sts 7 (c2 := (13, [.ref 24], [.int ((3 : Int32)), .ref 25, .int ((9999 : Int32)), .int ((3 : Int32)), .ref 25], S, 0)) rfl ?_
  refine ev_gd (c1 := (14, [.ref 24], [.int (S ((24 + 1)) ((3 : Int32)).toNatClampNeg), .int ((9999 : Int32)), .int ((3 : Int32)), .ref 25], S, 0)) hf rfl rfl (fun hf => ?_)
  refine ev_sts 3 (c2 := (19, [.ref 24], [.int (if ((S ((24 + 1)) ((3 : Int32)).toNatClampNeg) + ((1 : Int32))) < ((9999 : Int32)) then ((S ((24 + 1)) ((3 : Int32)).toNatClampNeg) + ((1 : Int32))) else ((9999 : Int32))), .int ((3 : Int32)), .ref 25], S, 0)) rfl ?_
  refine ev_gd (c1 := (20, [.ref 24], [], (upS S ((24 + 1)) ((3 : Int32)).toNatClampNeg (if ((S ((24 + 1)) ((3 : Int32)).toNatClampNeg) + ((1 : Int32))) < ((9999 : Int32)) then ((S ((24 + 1)) ((3 : Int32)).toNatClampNeg) + ((1 : Int32))) else ((9999 : Int32)))), 0)) hf rfl rfl (fun hf => ?_)
  refine ev_let (P := fun S1 => Ev (d) Mx19 (20, [.ref 24], [], S1, 0) r) (fun S1 hf => ?_) hf
  exact ev_ret hf rfl rfl
def f_X0_put_b18 (u0 : Nat) (S : mS) : Option mR := some (.inl none, S)
def f_X0_put (u0 : Nat) (p1 : Int32) (p2 : Int32) (S : mS) : Option mR := (if p1 < 0 then f_X0_put_b18 u0 S else (if ((446 : Int32)) ≤ p1 then f_X0_put_b18 u0 S else gd (inb p1 446) (bnd (upS S ((u0 + 1)) p1.toNatClampNeg p2) (fun S1 => f_X0_put_b18 u0 S1))))
theorem f_X0_put_b18_ok_24 {d : Nat} {S : mS} {r : mR} (hf : f_X0_put_b18 24  S = some r) : Ev (d) Mx2 (18, [mK, mK, mK], [], S, 0) r := by
  unfold f_X0_put_b18 at hf
  exact ev_ret hf rfl rfl
theorem f_X0_put_ok_24 {d : Nat} {p1 : Int32} {p2 : Int32} {S : mS} {r : mR} (hf : f_X0_put 24 p1 p2 S = some r) : Ev (d) Mx2 (entry Mx2 [.ref 24, .int p1, .int p2] S) r := by
  unfold f_X0_put at hf
  refine ev_sts 1 (c2 := (1, [.ref 24, .int p1, .int p2], [.int p1], S, 0)) rfl ?_
  refine ev_if (c1 := (18, [mK, mK, mK], [], S, 0)) (c2 := (4, [.ref 24, .int p1, .int p2], [], S, 0)) hf rfl rfl (fun _ hf => ?_) (fun _ hf => ?_)
  · exact f_X0_put_b18_ok_24 hf
  · refine ev_sts 2 (c2 := (8, [.ref 24, .int p1, .int p2], [.int ((446 : Int32)), .int p1], S, 0)) rfl ?_
    refine ev_if (c1 := (18, [mK, mK, mK], [], S, 0)) (c2 := (11, [.ref 24, .int p1, .int p2], [], S, 0)) hf rfl rfl (fun _ hf => ?_) (fun _ hf => ?_)
    · exact f_X0_put_b18_ok_24 hf
    · refine ev_sts 4 (c2 := (17, [.ref 24, .int p1, .int p2], [.int p2, .int p1, .ref 25], S, 0)) rfl ?_
      refine ev_gd (c1 := (18, [mK, mK, mK], [], (upS S ((24 + 1)) p1.toNatClampNeg p2), 0)) hf rfl rfl (fun hf => ?_)
      refine ev_let (P := fun S1 => Ev (d) Mx2 (18, [mK, mK, mK], [], S1, 0) r) (fun S1 hf => ?_) hf
      exact f_X0_put_b18_ok_24 hf
theorem f_X0_put_b18_ok_26 {d : Nat} {S : mS} {r : mR} (hf : f_X0_put_b18 26  S = some r) : Ev (d) Mx2 (18, [mK, mK, mK], [], S, 0) r := by
  unfold f_X0_put_b18 at hf
  exact ev_ret hf rfl rfl
theorem f_X0_put_ok_26 {d : Nat} {p1 : Int32} {p2 : Int32} {S : mS} {r : mR} (hf : f_X0_put 26 p1 p2 S = some r) : Ev (d) Mx2 (entry Mx2 [.ref 26, .int p1, .int p2] S) r := by
  unfold f_X0_put at hf
  refine ev_sts 1 (c2 := (1, [.ref 26, .int p1, .int p2], [.int p1], S, 0)) rfl ?_
  refine ev_if (c1 := (18, [mK, mK, mK], [], S, 0)) (c2 := (4, [.ref 26, .int p1, .int p2], [], S, 0)) hf rfl rfl (fun _ hf => ?_) (fun _ hf => ?_)
  · exact f_X0_put_b18_ok_26 hf
  · refine ev_sts 2 (c2 := (8, [.ref 26, .int p1, .int p2], [.int ((446 : Int32)), .int p1], S, 0)) rfl ?_
    refine ev_if (c1 := (18, [mK, mK, mK], [], S, 0)) (c2 := (11, [.ref 26, .int p1, .int p2], [], S, 0)) hf rfl rfl (fun _ hf => ?_) (fun _ hf => ?_)
    · exact f_X0_put_b18_ok_26 hf
    · refine ev_sts 4 (c2 := (17, [.ref 26, .int p1, .int p2], [.int p2, .int p1, .ref 27], S, 0)) rfl ?_
      refine ev_gd (c1 := (18, [mK, mK, mK], [], (upS S ((26 + 1)) p1.toNatClampNeg p2), 0)) hf rfl rfl (fun hf => ?_)
      refine ev_let (P := fun S1 => Ev (d) Mx2 (18, [mK, mK, mK], [], S1, 0) r) (fun S1 hf => ?_) hf
      exact f_X0_put_b18_ok_26 hf
def f_X0_putLedge (u0 : Nat) (p1 : Int32) (p2 : Int32) (p3 : Int32) (S : mS) : Option mR := bV0 (f_X0_put u0 ((((16 : Int32)) + (p1 * ((5 : Int32)))) + p2) p3 S) (fun S1 => some (.inl none, S1))
theorem f_X0_putLedge_ok_26 {d : Nat} {p1 : Int32} {p2 : Int32} {p3 : Int32} {S : mS} {r : mR} (hf : f_X0_putLedge 26 p1 p2 p3 S = some r) : Ev (d + 1) Mx5 (entry Mx5 [.ref 26, .int p1, .int p2, .int p3] S) r := by
  unfold f_X0_putLedge at hf
  refine ev_sts 9 (c2 := (10, [.ref 26, .int p1, .int p2, .int p3], [.int p3, .int ((((16 : Int32)) + (p1 * ((5 : Int32)))) + p2), .ref 26], S, 0)) rfl ?_
  refine ev_bV0 (d := d) (M' := Mx2) (ct := (13, [.ref 26, .int p1, .int p2, .int p3], [], S, 0)) hf rfl rfl rfl rfl (fun r9 h9 => f_X0_put_ok_26 (d := d) h9) (fun S1 hf => ?_)
  show Ev (d + 1) Mx5 (13, [.ref 26, .int p1, .int p2, .int p3], [], S1, 0) r
  exact ev_ret hf rfl rfl
theorem f_X0_putLedge_ok_24 {d : Nat} {p1 : Int32} {p2 : Int32} {p3 : Int32} {S : mS} {r : mR} (hf : f_X0_putLedge 24 p1 p2 p3 S = some r) : Ev (d + 1) Mx5 (entry Mx5 [.ref 24, .int p1, .int p2, .int p3] S) r := by
  unfold f_X0_putLedge at hf
  refine ev_sts 9 (c2 := (10, [.ref 24, .int p1, .int p2, .int p3], [.int p3, .int ((((16 : Int32)) + (p1 * ((5 : Int32)))) + p2), .ref 24], S, 0)) rfl ?_
  refine ev_bV0 (d := d) (M' := Mx2) (ct := (13, [.ref 24, .int p1, .int p2, .int p3], [], S, 0)) hf rfl rfl rfl rfl (fun r9 h9 => f_X0_put_ok_24 (d := d) h9) (fun S1 hf => ?_)
  show Ev (d + 1) Mx5 (13, [.ref 24, .int p1, .int p2, .int p3], [], S1, 0) r
  exact ev_ret hf rfl rfl
def f_X2_joined_b50 (t0 : Int32) (S : mS) : Option mR := some (.inl (some (.int t0)), S)
def f_X2_joined_b61 (t0 : Int32) (S : mS) : Option mR := some (.inl (some (.int t0)), S)
def f_X2_joined (p0 : Int32) (p1 : Int32) (p2 : Int32) (S : mS) : Option mR := (if p0 = (2001 : Int32) then some (.inl (some (.int (p1 &&& p2))), S) else if p0 = (2002 : Int32) then some (.inl (some (.int (p1 ||| p2))), S) else if p0 = (2003 : Int32) then (if p2 ≤ p1 then f_X2_joined_b50 ((0 : Int32)) S else f_X2_joined_b50 ((1 : Int32)) S) else if p0 = (2004 : Int32) then (if p1 ≤ p2 then f_X2_joined_b61 ((0 : Int32)) S else f_X2_joined_b61 ((1 : Int32)) S) else some (.inl (some (.int (p1 + p2))), S))
theorem f_X2_joined_b50_ok {d : Nat} {t0 : Int32} {S : mS} {r : mR} (hf : f_X2_joined_b50 t0 S = some r) : Ev (d) Mx35 (50, [mK, mK, mK], [.int t0], S, 0) r := by
  unfold f_X2_joined_b50 at hf
  exact ev_ret hf rfl rfl
theorem f_X2_joined_b61_ok {d : Nat} {t0 : Int32} {S : mS} {r : mR} (hf : f_X2_joined_b61 t0 S = some r) : Ev (d) Mx35 (61, [mK, mK, mK], [.int t0], S, 0) r := by
  unfold f_X2_joined_b61 at hf
  exact ev_ret hf rfl rfl
theorem f_X2_joined_ok {d : Nat} {p0 : Int32} {p1 : Int32} {p2 : Int32} {S : mS} {r : mR} (hf : f_X2_joined p0 p1 p2 S = some r) : Ev (d) Mx35 (entry Mx35 [.int p0, .int p1, .int p2] S) r := by
  unfold f_X2_joined at hf
  refine ev_sts 1 (c2 := (1, [.int p0, .int p1, .int p2], [.int p0], S, 0)) rfl ?_
  rcases ite_or hf with ⟨h0, hf⟩ | ⟨h0, hf⟩
  · refine ev_sw (l2 := [.int p0, .int p1, .int p2]) (st2 := []) (msw_p h0) rfl rfl ?_
    show Ev (d) Mx35 (32, [.int p0, .int p1, .int p2], [], S, 0) r
    refine ev_sts 3 (c2 := (35, [.int p0, .int p1, .int p2], [.int (p1 &&& p2)], S, 0)) rfl ?_
    exact ev_ret hf rfl rfl
  rcases ite_or hf with ⟨h1, hf⟩ | ⟨h1, hf⟩
  · refine ev_sw (l2 := [.int p0, .int p1, .int p2]) (st2 := []) (msw_n h0 (msw_p h1)) rfl rfl ?_
    show Ev (d) Mx35 (36, [.int p0, .int p1, .int p2], [], S, 0) r
    refine ev_sts 3 (c2 := (39, [.int p0, .int p1, .int p2], [.int (p1 ||| p2)], S, 0)) rfl ?_
    exact ev_ret hf rfl rfl
  rcases ite_or hf with ⟨h2, hf⟩ | ⟨h2, hf⟩
  · refine ev_sw (l2 := [.int p0, .int p1, .int p2]) (st2 := []) (msw_n h0 (msw_n h1 (msw_p h2))) rfl rfl ?_
    show Ev (d) Mx35 (40, [.int p0, .int p1, .int p2], [], S, 0) r
    refine ev_sts 2 (c2 := (42, [.int p0, .int p1, .int p2], [.int p2, .int p1], S, 0)) rfl ?_
    refine ev_if (c1 := (49, [.int p0, .int p1, .int p2], [], S, 0)) (c2 := (45, [.int p0, .int p1, .int p2], [], S, 0)) hf rfl rfl (fun _ hf => ?_) (fun _ hf => ?_)
    · exact ev_sts 1 (c2 := (50, [mK, mK, mK], [.int ((0 : Int32))], S, 0)) rfl (f_X2_joined_b50_ok hf)
    · exact ev_sts 2 (c2 := (50, [mK, mK, mK], [.int ((1 : Int32))], S, 0)) rfl (f_X2_joined_b50_ok hf)
  rcases ite_or hf with ⟨h3, hf⟩ | ⟨h3, hf⟩
  · refine ev_sw (l2 := [.int p0, .int p1, .int p2]) (st2 := []) (msw_n h0 (msw_n h1 (msw_n h2 (msw_p h3)))) rfl rfl ?_
    show Ev (d) Mx35 (51, [.int p0, .int p1, .int p2], [], S, 0) r
    refine ev_sts 2 (c2 := (53, [.int p0, .int p1, .int p2], [.int p2, .int p1], S, 0)) rfl ?_
    refine ev_if (c1 := (60, [.int p0, .int p1, .int p2], [], S, 0)) (c2 := (56, [.int p0, .int p1, .int p2], [], S, 0)) hf rfl rfl (fun _ hf => ?_) (fun _ hf => ?_)
    · exact ev_sts 1 (c2 := (61, [mK, mK, mK], [.int ((0 : Int32))], S, 0)) rfl (f_X2_joined_b61_ok hf)
    · exact ev_sts 2 (c2 := (61, [mK, mK, mK], [.int ((1 : Int32))], S, 0)) rfl (f_X2_joined_b61_ok hf)
  refine ev_sw (l2 := [.int p0, .int p1, .int p2]) (st2 := []) (msw_n h0 (msw_n h1 (msw_n h2 (msw_n h3 rfl)))) rfl rfl ?_
  show Ev (d) Mx35 (62, [.int p0, .int p1, .int p2], [], S, 0) r
  refine ev_sts 3 (c2 := (65, [.int p0, .int p1, .int p2], [.int (p1 + p2)], S, 0)) rfl ?_
  exact ev_ret hf rfl rfl
def f_X2_partAt_b20 (t0 : Int32) (S : mS) : Option mR := some (.inl (some (.int t0)), S)
def f_X2_partAt_b19 (S : mS) : Option mR := f_X2_partAt_b20 ((0 : Int32)) S
def f_X2_partAt (p1 : Int32) (S : mS) : Option mR := (if p1 < 0 then f_X2_partAt_b19 S else (if ((9 : Int32)) ≤ p1 then f_X2_partAt_b19 S else gd (inb p1 9) (f_X2_partAt_b20 (S 8 p1.toNatClampNeg) S)))
theorem f_X2_partAt_b20_ok {d : Nat} {t0 : Int32} {S : mS} {r : mR} (hf : f_X2_partAt_b20 t0 S = some r) : Ev (d) Mx34 (20, [mK, mK], [.int t0], S, 0) r := by
  unfold f_X2_partAt_b20 at hf
  exact ev_ret hf rfl rfl
theorem f_X2_partAt_b19_ok {d : Nat} {S : mS} {r : mR} (hf : f_X2_partAt_b19  S = some r) : Ev (d) Mx34 (19, [mK, mK], [], S, 0) r := by
  unfold f_X2_partAt_b19 at hf
  exact ev_sts 1 (c2 := (20, [mK, mK], [.int ((0 : Int32))], S, 0)) rfl (f_X2_partAt_b20_ok hf)
theorem f_X2_partAt_ok {d : Nat} {p1 : Int32} {S : mS} {r : mR} (hf : f_X2_partAt p1 S = some r) : Ev (d) Mx34 (entry Mx34 [.ref 3, .int p1] S) r := by
  unfold f_X2_partAt at hf
  refine ev_sts 1 (c2 := (1, [.ref 3, .int p1], [.int p1], S, 0)) rfl ?_
  refine ev_if (c1 := (19, [mK, mK], [], S, 0)) (c2 := (4, [.ref 3, .int p1], [], S, 0)) hf rfl rfl (fun _ hf => ?_) (fun _ hf => ?_)
  · exact f_X2_partAt_b19_ok hf
  · refine ev_sts 2 (c2 := (7, [.ref 3, .int p1], [.int ((9 : Int32)), .int p1], S, 0)) rfl ?_
    refine ev_if (c1 := (19, [mK, mK], [], S, 0)) (c2 := (10, [.ref 3, .int p1], [], S, 0)) hf rfl rfl (fun _ hf => ?_) (fun _ hf => ?_)
    · exact f_X2_partAt_b19_ok hf
    · refine ev_sts 3 (c2 := (15, [.ref 3, .int p1], [.int p1, .ref 8], S, 0)) rfl ?_
      refine ev_gd (c1 := (16, [.ref 3, .int p1], [.int (S 8 p1.toNatClampNeg)], S, 0)) hf rfl rfl (fun hf => ?_)
      exact ev_sts 1 (c2 := (20, [mK, mK], [.int (S 8 p1.toNatClampNeg)], S, 0)) rfl (f_X2_partAt_b20_ok hf)
def f_X2_holds_b185 (F : Nat) (t0 : Int32) (S : mS) : Option mR := some (.inl (some (.int (t0 &&& 1))), S)
def f_X2_holds_b180 (F : Nat) (S : mS) : Option mR := f_X2_holds_b185 F ((1 : Int32)) S
def f_X2_holds_b166 (F : Nat) (x3 : Int32) (S : mS) : Option mR := (if x3 = 0 then f_X2_holds_b180 F S else gd (inb ((0 : Int32)) 24) ((if ¬ (S 9 ((0 : Int32)).toNatClampNeg) = ((1 : Int32)) then f_X2_holds_b185 F ((0 : Int32)) S else f_X2_holds_b180 F S)))
def f_X2_holds_b160 (K9 : Int32 → Int32 → Int32 → mS → Option mR) (F : Nat) (x2 : Int32) (x3 : Int32) (x4 : Int32) (S : mS) : Option mR := K9 x2 x3 (x4 + (1 : Int32)) S
def f_X2_holds_b115 (K9 : Int32 → Int32 → Int32 → mS → Option mR) (F : Nat) (x2 : Int32) (x3 : Int32) (x4 : Int32) (x5 : Int32) (S : mS) : Option mR := (if x5 ≤ ((2000 : Int32)) then f_X2_holds_b160 K9 F x2 x3 x4 S else (if x3 < ((2 : Int32)) then f_X2_holds_b160 K9 F x2 x3 x4 S else gd (inb (x3 - ((2 : Int32))) 24) (gd (inb (x3 - ((1 : Int32))) 24) (bI0 (f_X2_joined x5 (S 9 (x3 - ((2 : Int32))).toNatClampNeg) (S 9 (x3 - ((1 : Int32))).toNatClampNeg) S) (fun r4 S3 => gd (inb (x3 - ((2 : Int32))) 24) (bnd (upS S3 9 (x3 - ((2 : Int32))).toNatClampNeg r4) (fun S5 => f_X2_holds_b160 K9 F x2 (x3 + (-1 : Int32)) x4 S5)))))))
def f_X2_holds_b81 (K9 : Int32 → Int32 → Int32 → mS → Option mR) (F : Nat) (x2 : Int32) (x3 : Int32) (x4 : Int32) (x5 : Int32) (S : mS) : Option mR := (if ¬ x5 = ((2000 : Int32)) then f_X2_holds_b115 K9 F x2 x3 x4 x5 S else (if x3 < ((1 : Int32)) then f_X2_holds_b115 K9 F x2 x3 x4 x5 S else gd (inb (x3 - ((1 : Int32))) 24) (gd (inb (x3 - ((1 : Int32))) 24) (bnd (upS S 9 (x3 - ((1 : Int32))).toNatClampNeg (((1 : Int32)) - (S 9 (x3 - ((1 : Int32))).toNatClampNeg))) (fun S6 => f_X2_holds_b160 K9 F x2 x3 x4 S6)))))
def f_X2_holds_b74 (K9 : Int32 → Int32 → Int32 → mS → Option mR) (F : Nat) (x2 : Int32) (x3 : Int32) (x4 : Int32) (t2 : Int32) (t1 : Int32) (S : mS) : Option mR := gd (inb t1 24) (bnd (upS S 9 t1.toNatClampNeg t2) (fun S9 => f_X2_holds_b160 K9 F x2 (x3 + (1 : Int32)) x4 S9))
def f_X2_holds_b9 (F : Nat) : Nat → Int32 → Int32 → Int32 → mS → Option mR
  | 0, _, _, _, _ => none
  | n + 1, x2, x3, x4, S => (if x2 ≤ x4 then f_X2_holds_b166 F x3 S else (if ((400 : Int32)) ≤ x4 then f_X2_holds_b166 F x3 S else gd (inb x4 400) (bnd (S 7 x4.toNatClampNeg : Int32) (fun y2 => (if ((2000 : Int32)) ≤ y2 then f_X2_holds_b81 (fun x2 x3 x4 S => f_X2_holds_b9 F n x2 x3 x4 S) F x2 x3 x4 y2 S else (if ((24 : Int32)) ≤ x3 then f_X2_holds_b81 (fun x2 x3 x4 S => f_X2_holds_b9 F n x2 x3 x4 S) F x2 x3 x4 y2 S else (if ((1000 : Int32)) ≤ y2 then bI0 (f_X2_partAt (y2 - ((1000 : Int32))) S) (fun r8 S7 => f_X2_holds_b74 (fun x2 x3 x4 S => f_X2_holds_b9 F n x2 x3 x4 S) F x2 x3 x4 r8 x3 S7) else f_X2_holds_b74 (fun x2 x3 x4 S => f_X2_holds_b9 F n x2 x3 x4 S) F x2 x3 x4 y2 x3 S)))))))
def f_X2_holds (F : Nat) (p1 : Int32) (p2 : Int32) (S : mS) : Option mR := bnd (if ((0 : Int32)) < p1 then p1 else ((0 : Int32)) : Int32) (fun y1 => f_X2_holds_b9 F F p2 ((0 : Int32)) y1 S)
theorem f_X2_holds_b185_ok {d F : Nat} {t0 : Int32} {S : mS} {r : mR} (hf : f_X2_holds_b185 F t0 S = some r) : Ev (d + 1) Mx33 (185, [mK, mK, mK, mK, mK, mK], [.int t0], S, 0) r := by
  unfold f_X2_holds_b185 at hf
  exact ev_ret hf rfl rfl
theorem f_X2_holds_b180_ok {d F : Nat} {S : mS} {r : mR} (hf : f_X2_holds_b180 F  S = some r) : Ev (d + 1) Mx33 (180, [mK, mK, mK, mK, mK, mK], [], S, 0) r := by
  unfold f_X2_holds_b180 at hf
  exact ev_sts 2 (c2 := (185, [mK, mK, mK, mK, mK, mK], [.int ((1 : Int32))], S, 0)) rfl (f_X2_holds_b185_ok hf)
theorem f_X2_holds_b166_ok {d F : Nat} {x3 : Int32} {S : mS} {r : mR} (hf : f_X2_holds_b166 F x3 S = some r) : Ev (d + 1) Mx33 (166, [.ref 3, mK, mK, .int x3, mK, mK], [], S, 0) r := by
  unfold f_X2_holds_b166 at hf
  refine ev_sts 1 (c2 := (167, [.ref 3, mK, mK, .int x3, mK, mK], [.int x3], S, 0)) rfl ?_
  refine ev_if (c1 := (180, [mK, mK, mK, mK, mK, mK], [], S, 0)) (c2 := (170, [.ref 3, mK, mK, .int x3, mK, mK], [], S, 0)) hf rfl rfl (fun _ hf => ?_) (fun _ hf => ?_)
  · exact f_X2_holds_b180_ok hf
  · refine ev_sts 3 (c2 := (175, [.ref 3, mK, mK, .int x3, mK, mK], [.int ((0 : Int32)), .ref 9], S, 0)) rfl ?_
    refine ev_gd (c1 := (176, [.ref 3, mK, mK, .int x3, mK, mK], [.int (S 9 ((0 : Int32)).toNatClampNeg)], S, 0)) hf rfl rfl (fun hf => ?_)
    refine ev_sts 1 (c2 := (177, [.ref 3, mK, mK, .int x3, mK, mK], [.int ((1 : Int32)), .int (S 9 ((0 : Int32)).toNatClampNeg)], S, 0)) rfl ?_
    refine ev_if (c1 := (184, [.ref 3, mK, mK, .int x3, mK, mK], [], S, 0)) (c2 := (180, [mK, mK, mK, mK, mK, mK], [], S, 0)) hf rfl rfl (fun _ hf => ?_) (fun _ hf => ?_)
    · exact ev_sts 1 (c2 := (185, [mK, mK, mK, mK, mK, mK], [.int ((0 : Int32))], S, 0)) rfl (f_X2_holds_b185_ok hf)
    · exact f_X2_holds_b180_ok hf
theorem f_X2_holds_b160_ok {d F : Nat} {K9 : Int32 → Int32 → Int32 → mS → Option mR} (hK9 : ∀ {x2 : Int32} {x3 : Int32} {x4 : Int32} {S : mS} {r : mR}, K9 x2 x3 x4 S = some r → Ev (d + 1) Mx33 (9, [.ref 3, mK, .int x2, .int x3, .int x4, mK], [], S, 0) r) {x2 : Int32} {x3 : Int32} {x4 : Int32} {S : mS} {r : mR} (hf : f_X2_holds_b160 K9 F x2 x3 x4 S = some r) : Ev (d + 1) Mx33 (160, [.ref 3, mK, .int x2, .int x3, .int x4, mK], [], S, 0) r := by
  unfold f_X2_holds_b160 at hf
  exact ev_sts 2 (c2 := (9, [.ref 3, mK, .int x2, .int x3, .int (x4 + (1 : Int32)), mK], [], S, 0)) rfl (hK9 hf)
theorem f_X2_holds_b115_ok {d F : Nat} {K9 : Int32 → Int32 → Int32 → mS → Option mR} (hK9 : ∀ {x2 : Int32} {x3 : Int32} {x4 : Int32} {S : mS} {r : mR}, K9 x2 x3 x4 S = some r → Ev (d + 1) Mx33 (9, [.ref 3, mK, .int x2, .int x3, .int x4, mK], [], S, 0) r) {x2 : Int32} {x3 : Int32} {x4 : Int32} {x5 : Int32} {S : mS} {r : mR} (hf : f_X2_holds_b115 K9 F x2 x3 x4 x5 S = some r) : Ev (d + 1) Mx33 (115, [.ref 3, mK, .int x2, .int x3, .int x4, .int x5], [], S, 0) r := by
  unfold f_X2_holds_b115 at hf
  refine ev_sts 2 (c2 := (120, [.ref 3, mK, .int x2, .int x3, .int x4, .int x5], [.int ((2000 : Int32)), .int x5], S, 0)) rfl ?_
  refine ev_if (c1 := (160, [.ref 3, mK, .int x2, .int x3, .int x4, mK], [], S, 0)) (c2 := (123, [.ref 3, mK, .int x2, .int x3, .int x4, .int x5], [], S, 0)) hf rfl rfl (fun _ hf => ?_) (fun _ hf => ?_)
  · exact f_X2_holds_b160_ok hK9 hf
  · refine ev_sts 2 (c2 := (125, [.ref 3, mK, .int x2, .int x3, .int x4, .int x5], [.int ((2 : Int32)), .int x3], S, 0)) rfl ?_
    refine ev_if (c1 := (160, [.ref 3, mK, .int x2, .int x3, .int x4, mK], [], S, 0)) (c2 := (128, [.ref 3, mK, .int x2, .int x3, .int x4, .int x5], [], S, 0)) hf rfl rfl (fun _ hf => ?_) (fun _ hf => ?_)
    · exact f_X2_holds_b160_ok hK9 hf
    · refine ev_sts 11 (c2 := (144, [.ref 3, mK, .int x2, .int x3, .int x4, .int x5], [.int (x3 - ((2 : Int32))), .ref 9, .int x5, .int (x3 - ((2 : Int32))), .ref 9], S, 0)) rfl ?_
      refine ev_gd (c1 := (145, [.ref 3, mK, .int x2, .int x3, .int x4, .int x5], [.int (S 9 (x3 - ((2 : Int32))).toNatClampNeg), .int x5, .int (x3 - ((2 : Int32))), .ref 9], S, 0)) hf rfl rfl (fun hf => ?_)
      refine ev_sts 5 (c2 := (152, [.ref 3, mK, .int x2, .int x3, .int x4, .int x5], [.int (x3 - ((1 : Int32))), .ref 9, .int (S 9 (x3 - ((2 : Int32))).toNatClampNeg), .int x5, .int (x3 - ((2 : Int32))), .ref 9], S, 0)) rfl ?_
      refine ev_gd (c1 := (153, [.ref 3, mK, .int x2, .int x3, .int x4, .int x5], [.int (S 9 (x3 - ((1 : Int32))).toNatClampNeg), .int (S 9 (x3 - ((2 : Int32))).toNatClampNeg), .int x5, .int (x3 - ((2 : Int32))), .ref 9], S, 0)) hf rfl rfl (fun hf => ?_)
      refine ev_bI0 (d := d) (M' := Mx35) (ct := (156, [.ref 3, mK, .int x2, .int x3, .int x4, .int x5], [.int (x3 - ((2 : Int32))), .ref 9], S, 0)) hf rfl rfl rfl rfl (fun r9 h9 => f_X2_joined_ok (d := d) h9) (fun r4 S3 hf => ?_)
      show Ev (d + 1) Mx33 (156, [.ref 3, mK, .int x2, .int x3, .int x4, .int x5], [.int r4, .int (x3 - ((2 : Int32))), .ref 9], S3, 0) r
      refine ev_gd (c1 := (157, [.ref 3, mK, .int x2, .int x3, .int x4, .int x5], [], (upS S3 9 (x3 - ((2 : Int32))).toNatClampNeg r4), 0)) hf rfl rfl (fun hf => ?_)
      refine ev_let (P := fun S5 => Ev (d + 1) Mx33 (157, [.ref 3, mK, .int x2, .int x3, .int x4, .int x5], [], S5, 0) r) (fun S5 hf => ?_) hf
      exact ev_sts 1 (c2 := (160, [.ref 3, mK, .int x2, .int (x3 + (-1 : Int32)), .int x4, mK], [], S5, 0)) rfl (f_X2_holds_b160_ok hK9 hf)
theorem f_X2_holds_b81_ok {d F : Nat} {K9 : Int32 → Int32 → Int32 → mS → Option mR} (hK9 : ∀ {x2 : Int32} {x3 : Int32} {x4 : Int32} {S : mS} {r : mR}, K9 x2 x3 x4 S = some r → Ev (d + 1) Mx33 (9, [.ref 3, mK, .int x2, .int x3, .int x4, mK], [], S, 0) r) {x2 : Int32} {x3 : Int32} {x4 : Int32} {x5 : Int32} {S : mS} {r : mR} (hf : f_X2_holds_b81 K9 F x2 x3 x4 x5 S = some r) : Ev (d + 1) Mx33 (81, [.ref 3, mK, .int x2, .int x3, .int x4, .int x5], [], S, 0) r := by
  unfold f_X2_holds_b81 at hf
  refine ev_sts 2 (c2 := (86, [.ref 3, mK, .int x2, .int x3, .int x4, .int x5], [.int ((2000 : Int32)), .int x5], S, 0)) rfl ?_
  refine ev_if (c1 := (115, [.ref 3, mK, .int x2, .int x3, .int x4, .int x5], [], S, 0)) (c2 := (89, [.ref 3, mK, .int x2, .int x3, .int x4, .int x5], [], S, 0)) hf rfl rfl (fun _ hf => ?_) (fun _ hf => ?_)
  · exact f_X2_holds_b115_ok hK9 hf
  · refine ev_sts 2 (c2 := (91, [.ref 3, mK, .int x2, .int x3, .int x4, .int x5], [.int ((1 : Int32)), .int x3], S, 0)) rfl ?_
    refine ev_if (c1 := (115, [.ref 3, mK, .int x2, .int x3, .int x4, .int x5], [], S, 0)) (c2 := (94, [.ref 3, mK, .int x2, .int x3, .int x4, .int x5], [], S, 0)) hf rfl rfl (fun _ hf => ?_) (fun _ hf => ?_)
    · exact f_X2_holds_b115_ok hK9 hf
    · refine ev_sts 11 (c2 := (109, [.ref 3, mK, .int x2, .int x3, .int x4, .int x5], [.int (x3 - ((1 : Int32))), .ref 9, .int ((1 : Int32)), .int (x3 - ((1 : Int32))), .ref 9], S, 0)) rfl ?_
      refine ev_gd (c1 := (110, [.ref 3, mK, .int x2, .int x3, .int x4, .int x5], [.int (S 9 (x3 - ((1 : Int32))).toNatClampNeg), .int ((1 : Int32)), .int (x3 - ((1 : Int32))), .ref 9], S, 0)) hf rfl rfl (fun hf => ?_)
      refine ev_sts 1 (c2 := (111, [.ref 3, mK, .int x2, .int x3, .int x4, .int x5], [.int (((1 : Int32)) - (S 9 (x3 - ((1 : Int32))).toNatClampNeg)), .int (x3 - ((1 : Int32))), .ref 9], S, 0)) rfl ?_
      refine ev_gd (c1 := (112, [.ref 3, mK, .int x2, .int x3, .int x4, .int x5], [], (upS S 9 (x3 - ((1 : Int32))).toNatClampNeg (((1 : Int32)) - (S 9 (x3 - ((1 : Int32))).toNatClampNeg))), 0)) hf rfl rfl (fun hf => ?_)
      refine ev_let (P := fun S6 => Ev (d + 1) Mx33 (112, [.ref 3, mK, .int x2, .int x3, .int x4, .int x5], [], S6, 0) r) (fun S6 hf => ?_) hf
      exact ev_sts 1 (c2 := (160, [.ref 3, mK, .int x2, .int x3, .int x4, mK], [], S6, 0)) rfl (f_X2_holds_b160_ok hK9 hf)
theorem f_X2_holds_b74_ok {d F : Nat} {K9 : Int32 → Int32 → Int32 → mS → Option mR} (hK9 : ∀ {x2 : Int32} {x3 : Int32} {x4 : Int32} {S : mS} {r : mR}, K9 x2 x3 x4 S = some r → Ev (d + 1) Mx33 (9, [.ref 3, mK, .int x2, .int x3, .int x4, mK], [], S, 0) r) {x2 : Int32} {x3 : Int32} {x4 : Int32} {t2 : Int32} {t1 : Int32} {S : mS} {r : mR} (hf : f_X2_holds_b74 K9 F x2 x3 x4 t2 t1 S = some r) : Ev (d + 1) Mx33 (74, [.ref 3, mK, .int x2, .int x3, .int x4, mK], [.int t2, .int t1, .ref 9], S, 0) r := by
  unfold f_X2_holds_b74 at hf
  refine ev_gd (c1 := (75, [.ref 3, mK, .int x2, .int x3, .int x4, mK], [], (upS S 9 t1.toNatClampNeg t2), 0)) hf rfl rfl (fun hf => ?_)
  refine ev_let (P := fun S9 => Ev (d + 1) Mx33 (75, [.ref 3, mK, .int x2, .int x3, .int x4, mK], [], S9, 0) r) (fun S9 hf => ?_) hf
  exact ev_sts 2 (c2 := (160, [.ref 3, mK, .int x2, .int (x3 + (1 : Int32)), .int x4, mK], [], S9, 0)) rfl (f_X2_holds_b160_ok hK9 hf)
theorem f_X2_holds_b9_ok {d F : Nat} : ∀ (n : Nat) {x2 : Int32} {x3 : Int32} {x4 : Int32} {S : mS} {r : mR}, f_X2_holds_b9 F n x2 x3 x4 S = some r → Ev (d + 1) Mx33 (9, [.ref 3, mK, .int x2, .int x3, .int x4, mK], [], S, 0) r := by
  intro n
  induction n with
  | zero => intro x2 x3 x4 S r hf; cases hf
  | succ n ih =>
    intro x2 x3 x4 S r hf
    rw [f_X2_holds_b9] at hf
    refine ev_sts 2 (c2 := (12, [.ref 3, mK, .int x2, .int x3, .int x4, mK], [.int x2, .int x4], S, 0)) rfl ?_
    refine ev_if (c1 := (166, [.ref 3, mK, mK, .int x3, mK, mK], [], S, 0)) (c2 := (15, [.ref 3, mK, .int x2, .int x3, .int x4, mK], [], S, 0)) hf rfl rfl (fun _ hf => ?_) (fun _ hf => ?_)
    · exact f_X2_holds_b166_ok hf
    · refine ev_sts 2 (c2 := (20, [.ref 3, mK, .int x2, .int x3, .int x4, mK], [.int ((400 : Int32)), .int x4], S, 0)) rfl ?_
      refine ev_if (c1 := (166, [.ref 3, mK, mK, .int x3, mK, mK], [], S, 0)) (c2 := (23, [.ref 3, mK, .int x2, .int x3, .int x4, mK], [], S, 0)) hf rfl rfl (fun _ hf => ?_) (fun _ hf => ?_)
      · exact f_X2_holds_b166_ok hf
      · refine ev_sts 3 (c2 := (29, [.ref 3, mK, .int x2, .int x3, .int x4, mK], [.int x4, .ref 7], S, 0)) rfl ?_
        refine ev_gd (c1 := (30, [.ref 3, mK, .int x2, .int x3, .int x4, mK], [.int (S 7 x4.toNatClampNeg)], S, 0)) hf rfl rfl (fun hf => ?_)
        refine ev_sts 1 (c2 := (32, [.ref 3, mK, .int x2, .int x3, .int x4, .int (S 7 x4.toNatClampNeg)], [], S, 0)) rfl ?_
        refine ev_let (P := fun y2 => Ev (d + 1) Mx33 (32, [.ref 3, mK, .int x2, .int x3, .int x4, .int y2], [], S, 0) r) (fun y2 hf => ?_) hf
        refine ev_sts 2 (c2 := (37, [.ref 3, mK, .int x2, .int x3, .int x4, .int y2], [.int ((2000 : Int32)), .int y2], S, 0)) rfl ?_
        refine ev_if (c1 := (81, [.ref 3, mK, .int x2, .int x3, .int x4, .int y2], [], S, 0)) (c2 := (40, [.ref 3, mK, .int x2, .int x3, .int x4, .int y2], [], S, 0)) hf rfl rfl (fun _ hf => ?_) (fun _ hf => ?_)
        · exact f_X2_holds_b81_ok (fun h9 => ih h9) hf
        · refine ev_sts 2 (c2 := (43, [.ref 3, mK, .int x2, .int x3, .int x4, .int y2], [.int ((24 : Int32)), .int x3], S, 0)) rfl ?_
          refine ev_if (c1 := (81, [.ref 3, mK, .int x2, .int x3, .int x4, .int y2], [], S, 0)) (c2 := (46, [.ref 3, mK, .int x2, .int x3, .int x4, .int y2], [], S, 0)) hf rfl rfl (fun _ hf => ?_) (fun _ hf => ?_)
          · exact f_X2_holds_b81_ok (fun h9 => ih h9) hf
          · refine ev_sts 5 (c2 := (56, [.ref 3, mK, .int x2, .int x3, .int x4, .int y2], [.int ((1000 : Int32)), .int y2, .int x3, .ref 9], S, 0)) rfl ?_
            refine ev_if (c1 := (64, [.ref 3, mK, .int x2, .int x3, .int x4, .int y2], [.int x3, .ref 9], S, 0)) (c2 := (59, [.ref 3, mK, .int x2, .int x3, .int x4, .int y2], [.int x3, .ref 9], S, 0)) hf rfl rfl (fun _ hf => ?_) (fun _ hf => ?_)
            · refine ev_sts 4 (c2 := (71, [.ref 3, mK, .int x2, .int x3, .int x4, .int y2], [.int (y2 - ((1000 : Int32))), .ref 3, .int x3, .ref 9], S, 0)) rfl ?_
              refine ev_bI0 (d := d) (M' := Mx34) (ct := (74, [.ref 3, mK, .int x2, .int x3, .int x4, mK], [.int x3, .ref 9], S, 0)) hf rfl rfl rfl rfl (fun r9 h9 => f_X2_partAt_ok (d := d) h9) (fun r8 S7 hf => ?_)
              show Ev (d + 1) Mx33 (74, [.ref 3, mK, .int x2, .int x3, .int x4, mK], [.int r8, .int x3, .ref 9], S7, 0) r
              exact f_X2_holds_b74_ok (fun h9 => ih h9) hf
            · exact ev_sts 2 (c2 := (74, [.ref 3, mK, .int x2, .int x3, .int x4, mK], [.int y2, .int x3, .ref 9], S, 0)) rfl (f_X2_holds_b74_ok (fun h9 => ih h9) hf)
theorem f_X2_holds_ok {d F : Nat} {p1 : Int32} {p2 : Int32} {S : mS} {r : mR} (hf : f_X2_holds F p1 p2 S = some r) : Ev (d + 1) Mx33 (entry Mx33 [.ref 3, .int p1, .int p2] S) r := by
  unfold f_X2_holds at hf
  refine ev_sts 6 (c2 := (9, [.ref 3, mK, .int p2, .int ((0 : Int32)), .int (if ((0 : Int32)) < p1 then p1 else ((0 : Int32))), mK], [], S, 0)) rfl ?_
  refine ev_let (P := fun y1 => Ev (d + 1) Mx33 (9, [.ref 3, mK, .int p2, .int ((0 : Int32)), .int y1, mK], [], S, 0) r) (fun y1 hf => ?_) hf
  exact f_X2_holds_b9_ok _ hf
def f_X2_sum_b168 (F : Nat) (u1 : Nat) (x6 : Int32) (S : mS) : Option mR := some (.inl (some (.int x6)), S)
def f_X2_sum_b153 (K98 : Int32 → Int32 → Int32 → Int32 → mS → Option mR) (F : Nat) (u1 : Nat) (x1 : Int32) (x6 : Int32) (x8 : Int32) (S : mS) : Option mR := gd (inb x8 12) (bnd (S 6 x8.toNatClampNeg : Int32) (fun y7 => K98 x1 x6 y7 (x8 + (1 : Int32)) S))
def f_X2_sum_b98 (F : Nat) (u1 : Nat) : Nat → Int32 → Int32 → Int32 → Int32 → mS → Option mR
  | 0, _, _, _, _, _ => none
  | n + 1, x1, x6, x7, x8, S => (if (S 3 6) ≤ x8 then f_X2_sum_b168 F u1 x6 S else (if ((12 : Int32)) ≤ x8 then f_X2_sum_b168 F u1 x6 S else gd (inb x8 12) ((if ¬ (S 4 x8.toNatClampNeg) = x1 then f_X2_sum_b153 (fun x1 x6 x7 x8 S => f_X2_sum_b98 F u1 n x1 x6 x7 x8 S) F u1 x1 x6 x8 S else gd (inb x8 12) (bI0 (f_X2_holds F x7 (S 6 x8.toNatClampNeg) S) (fun r9 S8 => (if r9 = 0 then f_X2_sum_b153 (fun x1 x6 x7 x8 S => f_X2_sum_b98 F u1 n x1 x6 x7 x8 S) F u1 x1 x6 x8 S8 else gd (inb x8 12) (bnd (x6 + (S8 5 x8.toNatClampNeg) : Int32) (fun y10 => f_X2_sum_b153 (fun x1 x6 x7 x8 S => f_X2_sum_b98 F u1 n x1 x6 x7 x8 S) F u1 x1 y10 x8 S8)))))))))
def f_X2_sum_b88 (F : Nat) (u1 : Nat) (x1 : Int32) (t2 : Int32) (t1 : Int32) (S : mS) : Option mR := gd (inb t1 9) (bnd (upS S 8 t1.toNatClampNeg t2) (fun S6 => f_X2_sum_b98 F u1 F x1 ((0 : Int32)) ((0 : Int32)) ((0 : Int32)) S6))
def f_X2_sum_b87 (F : Nat) (u1 : Nat) (x1 : Int32) (t1 : Int32) (S : mS) : Option mR := f_X2_sum_b88 F u1 x1 ((0 : Int32)) t1 S
def f_X2_sum_b3 (F : Nat) (u1 : Nat) : Nat → Int32 → Int32 → Int32 → Int32 → Int32 → mS → Option mR
  | 0, _, _, _, _, _, _ => none
  | n + 1, x1, x3, x4, x5, x6, S => (if ((5 : Int32)) ≤ x6 then gd (inb ((5 : Int32)) 9) (bnd (upS S 8 ((5 : Int32)).toNatClampNeg x4) (fun S1 => gd (inb ((6 : Int32)) 9) (bnd (upS S1 8 ((6 : Int32)).toNatClampNeg x5) (fun S2 => bI0 (f_X0_at u1 ((3 : Int32)) S2) (fun r4 S3 => gd (inb ((7 : Int32)) 9) (bnd (upS S3 8 ((7 : Int32)).toNatClampNeg r4) (fun S5 => gd (inb ((2 : Int32)) 9) ((if (S5 8 ((2 : Int32)).toNatClampNeg) ≤ 0 then f_X2_sum_b87 F u1 x1 ((8 : Int32)) S5 else gd (inb ((3 : Int32)) 9) ((if ((3 : Int32)) < (S5 8 ((3 : Int32)).toNatClampNeg) then f_X2_sum_b87 F u1 x1 ((8 : Int32)) S5 else f_X2_sum_b88 F u1 x1 ((1 : Int32)) ((8 : Int32)) S5))))))))))) else bI0 (f_X0_ofLedge u1 x3 x6 S) (fun r12 S11 => gd (inb x6 9) (bnd (upS S11 8 x6.toNatClampNeg r12) (fun S13 => f_X2_sum_b3 F u1 n x1 x3 x4 x5 (x6 + (1 : Int32)) S13))))
def f_X2_sum (F : Nat) (u1 : Nat) (p1 : Int32) (p3 : Int32) (p4 : Int32) (p5 : Int32) (S : mS) : Option mR := f_X2_sum_b3 F u1 F p1 p3 p4 p5 ((0 : Int32)) S
theorem f_X2_sum_b168_ok_26 {d F : Nat} {x6 : Int32} {S : mS} {r : mR} (hf : f_X2_sum_b168 F 26 x6 S = some r) : Ev (d + 2) Mx32 (168, [mK, mK, mK, mK, mK, mK, .int x6, mK, mK], [], S, 0) r := by
  unfold f_X2_sum_b168 at hf
  refine ev_sts 1 (c2 := (170, [mK, mK, mK, mK, mK, mK, .int x6, mK, mK], [.int x6], S, 0)) rfl ?_
  exact ev_ret hf rfl rfl
theorem f_X2_sum_b153_ok_26 {d F : Nat} {K98 : Int32 → Int32 → Int32 → Int32 → mS → Option mR} (hK98 : ∀ {x1 : Int32} {x6 : Int32} {x7 : Int32} {x8 : Int32} {S : mS} {r : mR}, K98 x1 x6 x7 x8 S = some r → Ev (d + 2) Mx32 (98, [.ref 3, .int x1, mK, mK, mK, mK, .int x6, .int x7, .int x8], [], S, 0) r) {x1 : Int32} {x6 : Int32} {x8 : Int32} {S : mS} {r : mR} (hf : f_X2_sum_b153 K98 F 26 x1 x6 x8 S = some r) : Ev (d + 2) Mx32 (153, [.ref 3, .int x1, mK, mK, mK, mK, .int x6, mK, .int x8], [], S, 0) r := by
  unfold f_X2_sum_b153 at hf
  refine ev_sts 3 (c2 := (159, [.ref 3, .int x1, mK, mK, mK, mK, .int x6, mK, .int x8], [.int x8, .ref 6], S, 0)) rfl ?_
  refine ev_gd (c1 := (160, [.ref 3, .int x1, mK, mK, mK, mK, .int x6, mK, .int x8], [.int (S 6 x8.toNatClampNeg)], S, 0)) hf rfl rfl (fun hf => ?_)
  refine ev_sts 1 (c2 := (162, [.ref 3, .int x1, mK, mK, mK, mK, .int x6, .int (S 6 x8.toNatClampNeg), .int x8], [], S, 0)) rfl ?_
  refine ev_let (P := fun y7 => Ev (d + 2) Mx32 (162, [.ref 3, .int x1, mK, mK, mK, mK, .int x6, .int y7, .int x8], [], S, 0) r) (fun y7 hf => ?_) hf
  exact ev_sts 2 (c2 := (98, [.ref 3, .int x1, mK, mK, mK, mK, .int x6, .int y7, .int (x8 + (1 : Int32))], [], S, 0)) rfl (hK98 hf)
theorem f_X2_sum_b98_ok_26 {d F : Nat} : ∀ (n : Nat) {x1 : Int32} {x6 : Int32} {x7 : Int32} {x8 : Int32} {S : mS} {r : mR}, f_X2_sum_b98 F 26 n x1 x6 x7 x8 S = some r → Ev (d + 2) Mx32 (98, [.ref 3, .int x1, mK, mK, mK, mK, .int x6, .int x7, .int x8], [], S, 0) r := by
  intro n
  induction n with
  | zero => intro x1 x6 x7 x8 S r hf; cases hf
  | succ n ih =>
    intro x1 x6 x7 x8 S r hf
    rw [f_X2_sum_b98] at hf
    refine ev_sts 3 (c2 := (104, [.ref 3, .int x1, mK, mK, mK, mK, .int x6, .int x7, .int x8], [.int (S 3 6), .int x8], S, 0)) rfl ?_
    refine ev_if (c1 := (168, [mK, mK, mK, mK, mK, mK, .int x6, mK, mK], [], S, 0)) (c2 := (107, [.ref 3, .int x1, mK, mK, mK, mK, .int x6, .int x7, .int x8], [], S, 0)) hf rfl rfl (fun _ hf => ?_) (fun _ hf => ?_)
    · exact f_X2_sum_b168_ok_26 hf
    · refine ev_sts 2 (c2 := (111, [.ref 3, .int x1, mK, mK, mK, mK, .int x6, .int x7, .int x8], [.int ((12 : Int32)), .int x8], S, 0)) rfl ?_
      refine ev_if (c1 := (168, [mK, mK, mK, mK, mK, mK, .int x6, mK, mK], [], S, 0)) (c2 := (114, [.ref 3, .int x1, mK, mK, mK, mK, .int x6, .int x7, .int x8], [], S, 0)) hf rfl rfl (fun _ hf => ?_) (fun _ hf => ?_)
      · exact f_X2_sum_b168_ok_26 hf
      · refine ev_sts 3 (c2 := (120, [.ref 3, .int x1, mK, mK, mK, mK, .int x6, .int x7, .int x8], [.int x8, .ref 4], S, 0)) rfl ?_
        refine ev_gd (c1 := (121, [.ref 3, .int x1, mK, mK, mK, mK, .int x6, .int x7, .int x8], [.int (S 4 x8.toNatClampNeg)], S, 0)) hf rfl rfl (fun hf => ?_)
        refine ev_sts 1 (c2 := (122, [.ref 3, .int x1, mK, mK, mK, mK, .int x6, .int x7, .int x8], [.int x1, .int (S 4 x8.toNatClampNeg)], S, 0)) rfl ?_
        refine ev_if (c1 := (153, [.ref 3, .int x1, mK, mK, mK, mK, .int x6, mK, .int x8], [], S, 0)) (c2 := (125, [.ref 3, .int x1, mK, mK, mK, mK, .int x6, .int x7, .int x8], [], S, 0)) hf rfl rfl (fun _ hf => ?_) (fun _ hf => ?_)
        · exact f_X2_sum_b153_ok_26 (fun h9 => ih h9) hf
        · refine ev_sts 5 (c2 := (134, [.ref 3, .int x1, mK, mK, mK, mK, .int x6, .int x7, .int x8], [.int x8, .ref 6, .int x7, .ref 3], S, 0)) rfl ?_
          refine ev_gd (c1 := (135, [.ref 3, .int x1, mK, mK, mK, mK, .int x6, .int x7, .int x8], [.int (S 6 x8.toNatClampNeg), .int x7, .ref 3], S, 0)) hf rfl rfl (fun hf => ?_)
          refine ev_bI0 (d := d + 1) (M' := Mx33) (ct := (138, [.ref 3, .int x1, mK, mK, mK, mK, .int x6, .int x7, .int x8], [], S, 0)) hf rfl rfl rfl rfl (fun r9 h9 => f_X2_holds_ok (d := d) h9) (fun r9 S8 hf => ?_)
          show Ev (d + 2) Mx32 (138, [.ref 3, .int x1, mK, mK, mK, mK, .int x6, .int x7, .int x8], [.int r9], S8, 0) r
          refine ev_if (c1 := (153, [.ref 3, .int x1, mK, mK, mK, mK, .int x6, mK, .int x8], [], S8, 0)) (c2 := (141, [.ref 3, .int x1, mK, mK, mK, mK, .int x6, .int x7, .int x8], [], S8, 0)) hf rfl rfl (fun _ hf => ?_) (fun _ hf => ?_)
          · exact f_X2_sum_b153_ok_26 (fun h9 => ih h9) hf
          · refine ev_sts 4 (c2 := (149, [.ref 3, .int x1, mK, mK, mK, mK, .int x6, .int x7, .int x8], [.int x8, .ref 5, .int x6], S8, 0)) rfl ?_
            refine ev_gd (c1 := (150, [.ref 3, .int x1, mK, mK, mK, mK, .int x6, .int x7, .int x8], [.int (S8 5 x8.toNatClampNeg), .int x6], S8, 0)) hf rfl rfl (fun hf => ?_)
            refine ev_sts 2 (c2 := (153, [.ref 3, .int x1, mK, mK, mK, mK, .int (x6 + (S8 5 x8.toNatClampNeg)), mK, .int x8], [], S8, 0)) rfl ?_
            refine ev_let (P := fun y10 => Ev (d + 2) Mx32 (153, [.ref 3, .int x1, mK, mK, mK, mK, .int y10, mK, .int x8], [], S8, 0) r) (fun y10 hf => ?_) hf
            exact f_X2_sum_b153_ok_26 (fun h9 => ih h9) hf
theorem f_X2_sum_b88_ok_26 {d F : Nat} {x1 : Int32} {t2 : Int32} {t1 : Int32} {S : mS} {r : mR} (hf : f_X2_sum_b88 F 26 x1 t2 t1 S = some r) : Ev (d + 2) Mx32 (88, [.ref 3, .int x1, mK, mK, mK, mK, mK, mK, mK], [.int t2, .int t1, .ref 8], S, 0) r := by
  unfold f_X2_sum_b88 at hf
  refine ev_gd (c1 := (89, [.ref 3, .int x1, mK, mK, mK, mK, mK, mK, mK], [], (upS S 8 t1.toNatClampNeg t2), 0)) hf rfl rfl (fun hf => ?_)
  refine ev_let (P := fun S6 => Ev (d + 2) Mx32 (89, [.ref 3, .int x1, mK, mK, mK, mK, mK, mK, mK], [], S6, 0) r) (fun S6 hf => ?_) hf
  exact ev_sts 6 (c2 := (98, [.ref 3, .int x1, mK, mK, mK, mK, .int ((0 : Int32)), .int ((0 : Int32)), .int ((0 : Int32))], [], S6, 0)) rfl (f_X2_sum_b98_ok_26 _ hf)
theorem f_X2_sum_b87_ok_26 {d F : Nat} {x1 : Int32} {t1 : Int32} {S : mS} {r : mR} (hf : f_X2_sum_b87 F 26 x1 t1 S = some r) : Ev (d + 2) Mx32 (87, [.ref 3, .int x1, mK, mK, mK, mK, mK, mK, mK], [.int t1, .ref 8], S, 0) r := by
  unfold f_X2_sum_b87 at hf
  exact ev_sts 1 (c2 := (88, [.ref 3, .int x1, mK, mK, mK, mK, mK, mK, mK], [.int ((0 : Int32)), .int t1, .ref 8], S, 0)) rfl (f_X2_sum_b88_ok_26 hf)
theorem f_X2_sum_b3_ok_26 {d F : Nat} : ∀ (n : Nat) {x1 : Int32} {x3 : Int32} {x4 : Int32} {x5 : Int32} {x6 : Int32} {S : mS} {r : mR}, f_X2_sum_b3 F 26 n x1 x3 x4 x5 x6 S = some r → Ev (d + 2) Mx32 (3, [.ref 3, .int x1, .ref 26, .int x3, .int x4, .int x5, .int x6, mK, mK], [], S, 0) r := by
  intro n
  induction n with
  | zero => intro x1 x3 x4 x5 x6 S r hf; cases hf
  | succ n ih =>
    intro x1 x3 x4 x5 x6 S r hf
    rw [f_X2_sum_b3] at hf
    refine ev_sts 2 (c2 := (6, [.ref 3, .int x1, .ref 26, .int x3, .int x4, .int x5, .int x6, mK, mK], [.int ((5 : Int32)), .int x6], S, 0)) rfl ?_
    refine ev_if (c1 := (29, [.ref 3, .int x1, .ref 26, .int x3, .int x4, .int x5, .int x6, mK, mK], [], S, 0)) (c2 := (9, [.ref 3, .int x1, .ref 26, .int x3, .int x4, .int x5, .int x6, mK, mK], [], S, 0)) hf rfl rfl (fun _ hf => ?_) (fun _ hf => ?_)
    · refine ev_sts 4 (c2 := (36, [.ref 3, .int x1, .ref 26, .int x3, .int x4, .int x5, .int x6, mK, mK], [.int x4, .int ((5 : Int32)), .ref 8], S, 0)) rfl ?_
      refine ev_gd (c1 := (37, [.ref 3, .int x1, .ref 26, .int x3, .int x4, .int x5, .int x6, mK, mK], [], (upS S 8 ((5 : Int32)).toNatClampNeg x4), 0)) hf rfl rfl (fun hf => ?_)
      refine ev_let (P := fun S1 => Ev (d + 2) Mx32 (37, [.ref 3, .int x1, .ref 26, .int x3, .int x4, .int x5, .int x6, mK, mK], [], S1, 0) r) (fun S1 hf => ?_) hf
      refine ev_sts 4 (c2 := (45, [.ref 3, .int x1, .ref 26, .int x3, .int x4, .int x5, .int x6, mK, mK], [.int x5, .int ((6 : Int32)), .ref 8], S1, 0)) rfl ?_
      refine ev_gd (c1 := (46, [.ref 3, .int x1, .ref 26, .int x3, .int x4, .int x5, .int x6, mK, mK], [], (upS S1 8 ((6 : Int32)).toNatClampNeg x5), 0)) hf rfl rfl (fun hf => ?_)
      refine ev_let (P := fun S2 => Ev (d + 2) Mx32 (46, [.ref 3, .int x1, .ref 26, .int x3, .int x4, .int x5, .int x6, mK, mK], [], S2, 0) r) (fun S2 hf => ?_) hf
      refine ev_sts 5 (c2 := (54, [.ref 3, .int x1, .ref 26, .int x3, .int x4, .int x5, .int x6, mK, mK], [.int ((3 : Int32)), .ref 26, .int ((7 : Int32)), .ref 8], S2, 0)) rfl ?_
      refine ev_bI0 (d := d + 1) (M' := Mx1) (ct := (57, [.ref 3, .int x1, .ref 26, .int x3, .int x4, .int x5, .int x6, mK, mK], [.int ((7 : Int32)), .ref 8], S2, 0)) hf rfl rfl rfl rfl (fun r9 h9 => f_X0_at_ok_26 (d := d + 1) h9) (fun r4 S3 hf => ?_)
      show Ev (d + 2) Mx32 (57, [.ref 3, .int x1, .ref 26, .int x3, .int x4, .int x5, .int x6, mK, mK], [.int r4, .int ((7 : Int32)), .ref 8], S3, 0) r
      refine ev_gd (c1 := (58, [.ref 3, .int x1, .ref 26, .int x3, .int x4, .int x5, .int x6, mK, mK], [], (upS S3 8 ((7 : Int32)).toNatClampNeg r4), 0)) hf rfl rfl (fun hf => ?_)
      refine ev_let (P := fun S5 => Ev (d + 2) Mx32 (58, [.ref 3, .int x1, .ref 26, .int x3, .int x4, .int x5, .int x6, mK, mK], [], S5, 0) r) (fun S5 hf => ?_) hf
      refine ev_sts 6 (c2 := (69, [.ref 3, .int x1, .ref 26, .int x3, .int x4, .int x5, .int x6, mK, mK], [.int ((2 : Int32)), .ref 8, .int ((8 : Int32)), .ref 8], S5, 0)) rfl ?_
      refine ev_gd (c1 := (70, [.ref 3, .int x1, .ref 26, .int x3, .int x4, .int x5, .int x6, mK, mK], [.int (S5 8 ((2 : Int32)).toNatClampNeg), .int ((8 : Int32)), .ref 8], S5, 0)) hf rfl rfl (fun hf => ?_)
      refine ev_if (c1 := (87, [.ref 3, .int x1, mK, mK, mK, mK, mK, mK, mK], [.int ((8 : Int32)), .ref 8], S5, 0)) (c2 := (73, [.ref 3, .int x1, .ref 26, .int x3, .int x4, .int x5, .int x6, mK, mK], [.int ((8 : Int32)), .ref 8], S5, 0)) hf rfl rfl (fun _ hf => ?_) (fun _ hf => ?_)
      · exact f_X2_sum_b87_ok_26 hf
      · refine ev_sts 3 (c2 := (78, [.ref 3, .int x1, .ref 26, .int x3, .int x4, .int x5, .int x6, mK, mK], [.int ((3 : Int32)), .ref 8, .int ((8 : Int32)), .ref 8], S5, 0)) rfl ?_
        refine ev_gd (c1 := (79, [.ref 3, .int x1, .ref 26, .int x3, .int x4, .int x5, .int x6, mK, mK], [.int (S5 8 ((3 : Int32)).toNatClampNeg), .int ((8 : Int32)), .ref 8], S5, 0)) hf rfl rfl (fun hf => ?_)
        refine ev_sts 1 (c2 := (80, [.ref 3, .int x1, .ref 26, .int x3, .int x4, .int x5, .int x6, mK, mK], [.int ((3 : Int32)), .int (S5 8 ((3 : Int32)).toNatClampNeg), .int ((8 : Int32)), .ref 8], S5, 0)) rfl ?_
        refine ev_if (c1 := (87, [.ref 3, .int x1, mK, mK, mK, mK, mK, mK, mK], [.int ((8 : Int32)), .ref 8], S5, 0)) (c2 := (83, [.ref 3, .int x1, .ref 26, .int x3, .int x4, .int x5, .int x6, mK, mK], [.int ((8 : Int32)), .ref 8], S5, 0)) hf rfl rfl (fun _ hf => ?_) (fun _ hf => ?_)
        · exact f_X2_sum_b87_ok_26 hf
        · exact ev_sts 2 (c2 := (88, [.ref 3, .int x1, mK, mK, mK, mK, mK, mK, mK], [.int ((1 : Int32)), .int ((8 : Int32)), .ref 8], S5, 0)) rfl (f_X2_sum_b88_ok_26 hf)
    · refine ev_sts 6 (c2 := (19, [.ref 3, .int x1, .ref 26, .int x3, .int x4, .int x5, .int x6, mK, mK], [.int x6, .int x3, .ref 26, .int x6, .ref 8], S, 0)) rfl ?_
      refine ev_bI0 (d := d + 1) (M' := Mx4) (ct := (22, [.ref 3, .int x1, .ref 26, .int x3, .int x4, .int x5, .int x6, mK, mK], [.int x6, .ref 8], S, 0)) hf rfl rfl rfl rfl (fun r9 h9 => f_X0_ofLedge_ok_26 (d := d) h9) (fun r12 S11 hf => ?_)
      show Ev (d + 2) Mx32 (22, [.ref 3, .int x1, .ref 26, .int x3, .int x4, .int x5, .int x6, mK, mK], [.int r12, .int x6, .ref 8], S11, 0) r
      refine ev_gd (c1 := (23, [.ref 3, .int x1, .ref 26, .int x3, .int x4, .int x5, .int x6, mK, mK], [], (upS S11 8 x6.toNatClampNeg r12), 0)) hf rfl rfl (fun hf => ?_)
      refine ev_let (P := fun S13 => Ev (d + 2) Mx32 (23, [.ref 3, .int x1, .ref 26, .int x3, .int x4, .int x5, .int x6, mK, mK], [], S13, 0) r) (fun S13 hf => ?_) hf
      exact ev_sts 2 (c2 := (3, [.ref 3, .int x1, .ref 26, .int x3, .int x4, .int x5, .int (x6 + (1 : Int32)), mK, mK], [], S13, 0)) rfl (ih hf)
theorem f_X2_sum_ok_26 {d F : Nat} {p1 : Int32} {p3 : Int32} {p4 : Int32} {p5 : Int32} {S : mS} {r : mR} (hf : f_X2_sum F 26 p1 p3 p4 p5 S = some r) : Ev (d + 2) Mx32 (entry Mx32 [.ref 3, .int p1, .ref 26, .int p3, .int p4, .int p5] S) r := by
  unfold f_X2_sum at hf
  exact ev_sts 2 (c2 := (3, [.ref 3, .int p1, .ref 26, .int p3, .int p4, .int p5, .int ((0 : Int32)), mK, mK], [], S, 0)) rfl (f_X2_sum_b3_ok_26 _ hf)
theorem f_X2_sum_b168_ok_24 {d F : Nat} {x6 : Int32} {S : mS} {r : mR} (hf : f_X2_sum_b168 F 24 x6 S = some r) : Ev (d + 2) Mx32 (168, [mK, mK, mK, mK, mK, mK, .int x6, mK, mK], [], S, 0) r := by
  unfold f_X2_sum_b168 at hf
  refine ev_sts 1 (c2 := (170, [mK, mK, mK, mK, mK, mK, .int x6, mK, mK], [.int x6], S, 0)) rfl ?_
  exact ev_ret hf rfl rfl
theorem f_X2_sum_b153_ok_24 {d F : Nat} {K98 : Int32 → Int32 → Int32 → Int32 → mS → Option mR} (hK98 : ∀ {x1 : Int32} {x6 : Int32} {x7 : Int32} {x8 : Int32} {S : mS} {r : mR}, K98 x1 x6 x7 x8 S = some r → Ev (d + 2) Mx32 (98, [.ref 3, .int x1, mK, mK, mK, mK, .int x6, .int x7, .int x8], [], S, 0) r) {x1 : Int32} {x6 : Int32} {x8 : Int32} {S : mS} {r : mR} (hf : f_X2_sum_b153 K98 F 24 x1 x6 x8 S = some r) : Ev (d + 2) Mx32 (153, [.ref 3, .int x1, mK, mK, mK, mK, .int x6, mK, .int x8], [], S, 0) r := by
  unfold f_X2_sum_b153 at hf
  refine ev_sts 3 (c2 := (159, [.ref 3, .int x1, mK, mK, mK, mK, .int x6, mK, .int x8], [.int x8, .ref 6], S, 0)) rfl ?_
  refine ev_gd (c1 := (160, [.ref 3, .int x1, mK, mK, mK, mK, .int x6, mK, .int x8], [.int (S 6 x8.toNatClampNeg)], S, 0)) hf rfl rfl (fun hf => ?_)
  refine ev_sts 1 (c2 := (162, [.ref 3, .int x1, mK, mK, mK, mK, .int x6, .int (S 6 x8.toNatClampNeg), .int x8], [], S, 0)) rfl ?_
  refine ev_let (P := fun y7 => Ev (d + 2) Mx32 (162, [.ref 3, .int x1, mK, mK, mK, mK, .int x6, .int y7, .int x8], [], S, 0) r) (fun y7 hf => ?_) hf
  exact ev_sts 2 (c2 := (98, [.ref 3, .int x1, mK, mK, mK, mK, .int x6, .int y7, .int (x8 + (1 : Int32))], [], S, 0)) rfl (hK98 hf)
theorem f_X2_sum_b98_ok_24 {d F : Nat} : ∀ (n : Nat) {x1 : Int32} {x6 : Int32} {x7 : Int32} {x8 : Int32} {S : mS} {r : mR}, f_X2_sum_b98 F 24 n x1 x6 x7 x8 S = some r → Ev (d + 2) Mx32 (98, [.ref 3, .int x1, mK, mK, mK, mK, .int x6, .int x7, .int x8], [], S, 0) r := by
  intro n
  induction n with
  | zero => intro x1 x6 x7 x8 S r hf; cases hf
  | succ n ih =>
    intro x1 x6 x7 x8 S r hf
    rw [f_X2_sum_b98] at hf
    refine ev_sts 3 (c2 := (104, [.ref 3, .int x1, mK, mK, mK, mK, .int x6, .int x7, .int x8], [.int (S 3 6), .int x8], S, 0)) rfl ?_
    refine ev_if (c1 := (168, [mK, mK, mK, mK, mK, mK, .int x6, mK, mK], [], S, 0)) (c2 := (107, [.ref 3, .int x1, mK, mK, mK, mK, .int x6, .int x7, .int x8], [], S, 0)) hf rfl rfl (fun _ hf => ?_) (fun _ hf => ?_)
    · exact f_X2_sum_b168_ok_24 hf
    · refine ev_sts 2 (c2 := (111, [.ref 3, .int x1, mK, mK, mK, mK, .int x6, .int x7, .int x8], [.int ((12 : Int32)), .int x8], S, 0)) rfl ?_
      refine ev_if (c1 := (168, [mK, mK, mK, mK, mK, mK, .int x6, mK, mK], [], S, 0)) (c2 := (114, [.ref 3, .int x1, mK, mK, mK, mK, .int x6, .int x7, .int x8], [], S, 0)) hf rfl rfl (fun _ hf => ?_) (fun _ hf => ?_)
      · exact f_X2_sum_b168_ok_24 hf
      · refine ev_sts 3 (c2 := (120, [.ref 3, .int x1, mK, mK, mK, mK, .int x6, .int x7, .int x8], [.int x8, .ref 4], S, 0)) rfl ?_
        refine ev_gd (c1 := (121, [.ref 3, .int x1, mK, mK, mK, mK, .int x6, .int x7, .int x8], [.int (S 4 x8.toNatClampNeg)], S, 0)) hf rfl rfl (fun hf => ?_)
        refine ev_sts 1 (c2 := (122, [.ref 3, .int x1, mK, mK, mK, mK, .int x6, .int x7, .int x8], [.int x1, .int (S 4 x8.toNatClampNeg)], S, 0)) rfl ?_
        refine ev_if (c1 := (153, [.ref 3, .int x1, mK, mK, mK, mK, .int x6, mK, .int x8], [], S, 0)) (c2 := (125, [.ref 3, .int x1, mK, mK, mK, mK, .int x6, .int x7, .int x8], [], S, 0)) hf rfl rfl (fun _ hf => ?_) (fun _ hf => ?_)
        · exact f_X2_sum_b153_ok_24 (fun h9 => ih h9) hf
        · refine ev_sts 5 (c2 := (134, [.ref 3, .int x1, mK, mK, mK, mK, .int x6, .int x7, .int x8], [.int x8, .ref 6, .int x7, .ref 3], S, 0)) rfl ?_
          refine ev_gd (c1 := (135, [.ref 3, .int x1, mK, mK, mK, mK, .int x6, .int x7, .int x8], [.int (S 6 x8.toNatClampNeg), .int x7, .ref 3], S, 0)) hf rfl rfl (fun hf => ?_)
          refine ev_bI0 (d := d + 1) (M' := Mx33) (ct := (138, [.ref 3, .int x1, mK, mK, mK, mK, .int x6, .int x7, .int x8], [], S, 0)) hf rfl rfl rfl rfl (fun r9 h9 => f_X2_holds_ok (d := d) h9) (fun r9 S8 hf => ?_)
          show Ev (d + 2) Mx32 (138, [.ref 3, .int x1, mK, mK, mK, mK, .int x6, .int x7, .int x8], [.int r9], S8, 0) r
          refine ev_if (c1 := (153, [.ref 3, .int x1, mK, mK, mK, mK, .int x6, mK, .int x8], [], S8, 0)) (c2 := (141, [.ref 3, .int x1, mK, mK, mK, mK, .int x6, .int x7, .int x8], [], S8, 0)) hf rfl rfl (fun _ hf => ?_) (fun _ hf => ?_)
          · exact f_X2_sum_b153_ok_24 (fun h9 => ih h9) hf
          · refine ev_sts 4 (c2 := (149, [.ref 3, .int x1, mK, mK, mK, mK, .int x6, .int x7, .int x8], [.int x8, .ref 5, .int x6], S8, 0)) rfl ?_
            refine ev_gd (c1 := (150, [.ref 3, .int x1, mK, mK, mK, mK, .int x6, .int x7, .int x8], [.int (S8 5 x8.toNatClampNeg), .int x6], S8, 0)) hf rfl rfl (fun hf => ?_)
            refine ev_sts 2 (c2 := (153, [.ref 3, .int x1, mK, mK, mK, mK, .int (x6 + (S8 5 x8.toNatClampNeg)), mK, .int x8], [], S8, 0)) rfl ?_
            refine ev_let (P := fun y10 => Ev (d + 2) Mx32 (153, [.ref 3, .int x1, mK, mK, mK, mK, .int y10, mK, .int x8], [], S8, 0) r) (fun y10 hf => ?_) hf
            exact f_X2_sum_b153_ok_24 (fun h9 => ih h9) hf
theorem f_X2_sum_b88_ok_24 {d F : Nat} {x1 : Int32} {t2 : Int32} {t1 : Int32} {S : mS} {r : mR} (hf : f_X2_sum_b88 F 24 x1 t2 t1 S = some r) : Ev (d + 2) Mx32 (88, [.ref 3, .int x1, mK, mK, mK, mK, mK, mK, mK], [.int t2, .int t1, .ref 8], S, 0) r := by
  unfold f_X2_sum_b88 at hf
  refine ev_gd (c1 := (89, [.ref 3, .int x1, mK, mK, mK, mK, mK, mK, mK], [], (upS S 8 t1.toNatClampNeg t2), 0)) hf rfl rfl (fun hf => ?_)
  refine ev_let (P := fun S6 => Ev (d + 2) Mx32 (89, [.ref 3, .int x1, mK, mK, mK, mK, mK, mK, mK], [], S6, 0) r) (fun S6 hf => ?_) hf
  exact ev_sts 6 (c2 := (98, [.ref 3, .int x1, mK, mK, mK, mK, .int ((0 : Int32)), .int ((0 : Int32)), .int ((0 : Int32))], [], S6, 0)) rfl (f_X2_sum_b98_ok_24 _ hf)
theorem f_X2_sum_b87_ok_24 {d F : Nat} {x1 : Int32} {t1 : Int32} {S : mS} {r : mR} (hf : f_X2_sum_b87 F 24 x1 t1 S = some r) : Ev (d + 2) Mx32 (87, [.ref 3, .int x1, mK, mK, mK, mK, mK, mK, mK], [.int t1, .ref 8], S, 0) r := by
  unfold f_X2_sum_b87 at hf
  exact ev_sts 1 (c2 := (88, [.ref 3, .int x1, mK, mK, mK, mK, mK, mK, mK], [.int ((0 : Int32)), .int t1, .ref 8], S, 0)) rfl (f_X2_sum_b88_ok_24 hf)
theorem f_X2_sum_b3_ok_24 {d F : Nat} : ∀ (n : Nat) {x1 : Int32} {x3 : Int32} {x4 : Int32} {x5 : Int32} {x6 : Int32} {S : mS} {r : mR}, f_X2_sum_b3 F 24 n x1 x3 x4 x5 x6 S = some r → Ev (d + 2) Mx32 (3, [.ref 3, .int x1, .ref 24, .int x3, .int x4, .int x5, .int x6, mK, mK], [], S, 0) r := by
  intro n
  induction n with
  | zero => intro x1 x3 x4 x5 x6 S r hf; cases hf
  | succ n ih =>
    intro x1 x3 x4 x5 x6 S r hf
    rw [f_X2_sum_b3] at hf
    refine ev_sts 2 (c2 := (6, [.ref 3, .int x1, .ref 24, .int x3, .int x4, .int x5, .int x6, mK, mK], [.int ((5 : Int32)), .int x6], S, 0)) rfl ?_
    refine ev_if (c1 := (29, [.ref 3, .int x1, .ref 24, .int x3, .int x4, .int x5, .int x6, mK, mK], [], S, 0)) (c2 := (9, [.ref 3, .int x1, .ref 24, .int x3, .int x4, .int x5, .int x6, mK, mK], [], S, 0)) hf rfl rfl (fun _ hf => ?_) (fun _ hf => ?_)
    · refine ev_sts 4 (c2 := (36, [.ref 3, .int x1, .ref 24, .int x3, .int x4, .int x5, .int x6, mK, mK], [.int x4, .int ((5 : Int32)), .ref 8], S, 0)) rfl ?_
      refine ev_gd (c1 := (37, [.ref 3, .int x1, .ref 24, .int x3, .int x4, .int x5, .int x6, mK, mK], [], (upS S 8 ((5 : Int32)).toNatClampNeg x4), 0)) hf rfl rfl (fun hf => ?_)
      refine ev_let (P := fun S1 => Ev (d + 2) Mx32 (37, [.ref 3, .int x1, .ref 24, .int x3, .int x4, .int x5, .int x6, mK, mK], [], S1, 0) r) (fun S1 hf => ?_) hf
      refine ev_sts 4 (c2 := (45, [.ref 3, .int x1, .ref 24, .int x3, .int x4, .int x5, .int x6, mK, mK], [.int x5, .int ((6 : Int32)), .ref 8], S1, 0)) rfl ?_
      refine ev_gd (c1 := (46, [.ref 3, .int x1, .ref 24, .int x3, .int x4, .int x5, .int x6, mK, mK], [], (upS S1 8 ((6 : Int32)).toNatClampNeg x5), 0)) hf rfl rfl (fun hf => ?_)
      refine ev_let (P := fun S2 => Ev (d + 2) Mx32 (46, [.ref 3, .int x1, .ref 24, .int x3, .int x4, .int x5, .int x6, mK, mK], [], S2, 0) r) (fun S2 hf => ?_) hf
      refine ev_sts 5 (c2 := (54, [.ref 3, .int x1, .ref 24, .int x3, .int x4, .int x5, .int x6, mK, mK], [.int ((3 : Int32)), .ref 24, .int ((7 : Int32)), .ref 8], S2, 0)) rfl ?_
      refine ev_bI0 (d := d + 1) (M' := Mx1) (ct := (57, [.ref 3, .int x1, .ref 24, .int x3, .int x4, .int x5, .int x6, mK, mK], [.int ((7 : Int32)), .ref 8], S2, 0)) hf rfl rfl rfl rfl (fun r9 h9 => f_X0_at_ok_24 (d := d + 1) h9) (fun r4 S3 hf => ?_)
      show Ev (d + 2) Mx32 (57, [.ref 3, .int x1, .ref 24, .int x3, .int x4, .int x5, .int x6, mK, mK], [.int r4, .int ((7 : Int32)), .ref 8], S3, 0) r
      refine ev_gd (c1 := (58, [.ref 3, .int x1, .ref 24, .int x3, .int x4, .int x5, .int x6, mK, mK], [], (upS S3 8 ((7 : Int32)).toNatClampNeg r4), 0)) hf rfl rfl (fun hf => ?_)
      refine ev_let (P := fun S5 => Ev (d + 2) Mx32 (58, [.ref 3, .int x1, .ref 24, .int x3, .int x4, .int x5, .int x6, mK, mK], [], S5, 0) r) (fun S5 hf => ?_) hf
      refine ev_sts 6 (c2 := (69, [.ref 3, .int x1, .ref 24, .int x3, .int x4, .int x5, .int x6, mK, mK], [.int ((2 : Int32)), .ref 8, .int ((8 : Int32)), .ref 8], S5, 0)) rfl ?_
      refine ev_gd (c1 := (70, [.ref 3, .int x1, .ref 24, .int x3, .int x4, .int x5, .int x6, mK, mK], [.int (S5 8 ((2 : Int32)).toNatClampNeg), .int ((8 : Int32)), .ref 8], S5, 0)) hf rfl rfl (fun hf => ?_)
      refine ev_if (c1 := (87, [.ref 3, .int x1, mK, mK, mK, mK, mK, mK, mK], [.int ((8 : Int32)), .ref 8], S5, 0)) (c2 := (73, [.ref 3, .int x1, .ref 24, .int x3, .int x4, .int x5, .int x6, mK, mK], [.int ((8 : Int32)), .ref 8], S5, 0)) hf rfl rfl (fun _ hf => ?_) (fun _ hf => ?_)
      · exact f_X2_sum_b87_ok_24 hf
      · refine ev_sts 3 (c2 := (78, [.ref 3, .int x1, .ref 24, .int x3, .int x4, .int x5, .int x6, mK, mK], [.int ((3 : Int32)), .ref 8, .int ((8 : Int32)), .ref 8], S5, 0)) rfl ?_
        refine ev_gd (c1 := (79, [.ref 3, .int x1, .ref 24, .int x3, .int x4, .int x5, .int x6, mK, mK], [.int (S5 8 ((3 : Int32)).toNatClampNeg), .int ((8 : Int32)), .ref 8], S5, 0)) hf rfl rfl (fun hf => ?_)
        refine ev_sts 1 (c2 := (80, [.ref 3, .int x1, .ref 24, .int x3, .int x4, .int x5, .int x6, mK, mK], [.int ((3 : Int32)), .int (S5 8 ((3 : Int32)).toNatClampNeg), .int ((8 : Int32)), .ref 8], S5, 0)) rfl ?_
        refine ev_if (c1 := (87, [.ref 3, .int x1, mK, mK, mK, mK, mK, mK, mK], [.int ((8 : Int32)), .ref 8], S5, 0)) (c2 := (83, [.ref 3, .int x1, .ref 24, .int x3, .int x4, .int x5, .int x6, mK, mK], [.int ((8 : Int32)), .ref 8], S5, 0)) hf rfl rfl (fun _ hf => ?_) (fun _ hf => ?_)
        · exact f_X2_sum_b87_ok_24 hf
        · exact ev_sts 2 (c2 := (88, [.ref 3, .int x1, mK, mK, mK, mK, mK, mK, mK], [.int ((1 : Int32)), .int ((8 : Int32)), .ref 8], S5, 0)) rfl (f_X2_sum_b88_ok_24 hf)
    · refine ev_sts 6 (c2 := (19, [.ref 3, .int x1, .ref 24, .int x3, .int x4, .int x5, .int x6, mK, mK], [.int x6, .int x3, .ref 24, .int x6, .ref 8], S, 0)) rfl ?_
      refine ev_bI0 (d := d + 1) (M' := Mx4) (ct := (22, [.ref 3, .int x1, .ref 24, .int x3, .int x4, .int x5, .int x6, mK, mK], [.int x6, .ref 8], S, 0)) hf rfl rfl rfl rfl (fun r9 h9 => f_X0_ofLedge_ok_24 (d := d) h9) (fun r12 S11 hf => ?_)
      show Ev (d + 2) Mx32 (22, [.ref 3, .int x1, .ref 24, .int x3, .int x4, .int x5, .int x6, mK, mK], [.int r12, .int x6, .ref 8], S11, 0) r
      refine ev_gd (c1 := (23, [.ref 3, .int x1, .ref 24, .int x3, .int x4, .int x5, .int x6, mK, mK], [], (upS S11 8 x6.toNatClampNeg r12), 0)) hf rfl rfl (fun hf => ?_)
      refine ev_let (P := fun S13 => Ev (d + 2) Mx32 (23, [.ref 3, .int x1, .ref 24, .int x3, .int x4, .int x5, .int x6, mK, mK], [], S13, 0) r) (fun S13 hf => ?_) hf
      exact ev_sts 2 (c2 := (3, [.ref 3, .int x1, .ref 24, .int x3, .int x4, .int x5, .int (x6 + (1 : Int32)), mK, mK], [], S13, 0)) rfl (ih hf)
theorem f_X2_sum_ok_24 {d F : Nat} {p1 : Int32} {p3 : Int32} {p4 : Int32} {p5 : Int32} {S : mS} {r : mR} (hf : f_X2_sum F 24 p1 p3 p4 p5 S = some r) : Ev (d + 2) Mx32 (entry Mx32 [.ref 3, .int p1, .ref 24, .int p3, .int p4, .int p5] S) r := by
  unfold f_X2_sum at hf
  exact ev_sts 2 (c2 := (3, [.ref 3, .int p1, .ref 24, .int p3, .int p4, .int p5, .int ((0 : Int32)), mK, mK], [], S, 0)) rfl (f_X2_sum_b3_ok_24 _ hf)
def f_X7_laysAt (F : Nat) (u1 : Nat) (p2 : Int32) (S : mS) : Option mR := bI0 (f_X0_at u1 ((4 : Int32)) S) (fun r2 S1 => bI0 (f_X2_sum F u1 ((2 : Int32)) p2 ((0 : Int32)) r2 S1) (fun r4 S3 => bI0 (f_X0_ofLedge u1 p2 ((4 : Int32)) S3) (fun r6 S5 => some (.inl (some (.int (if r6 < r4 then r6 else r4))), S5))))
theorem f_X7_laysAt_ok_26 {d F : Nat} {p2 : Int32} {S : mS} {r : mR} (hf : f_X7_laysAt F 26 p2 S = some r) : Ev (d + 3) Mx59 (entry Mx59 [.ref 32, .ref 26, .int p2] S) r := by
  unfold f_X7_laysAt at hf
  refine ev_sts 8 (c2 := (10, [.ref 32, .ref 26, .int p2, mK], [.int ((4 : Int32)), .ref 26, .int ((0 : Int32)), .int p2, .ref 26, .int ((2 : Int32)), .ref 3], S, 0)) rfl ?_
  refine ev_bI0 (d := d + 2) (M' := Mx1) (ct := (13, [.ref 32, .ref 26, .int p2, mK], [.int ((0 : Int32)), .int p2, .ref 26, .int ((2 : Int32)), .ref 3], S, 0)) hf rfl rfl rfl rfl (fun r9 h9 => f_X0_at_ok_26 (d := d + 2) h9) (fun r2 S1 hf => ?_)
  show Ev (d + 3) Mx59 (13, [.ref 32, .ref 26, .int p2, mK], [.int r2, .int ((0 : Int32)), .int p2, .ref 26, .int ((2 : Int32)), .ref 3], S1, 0) r
  refine ev_bI0 (d := d + 2) (M' := Mx32) (ct := (16, [.ref 32, .ref 26, .int p2, mK], [], S1, 0)) hf rfl rfl rfl rfl (fun r9 h9 => f_X2_sum_ok_26 (d := d) h9) (fun r4 S3 hf => ?_)
  show Ev (d + 3) Mx59 (16, [.ref 32, .ref 26, .int p2, mK], [.int r4], S3, 0) r
  refine ev_sts 5 (c2 := (21, [.ref 32, .ref 26, .int p2, .int r4], [.int ((4 : Int32)), .int p2, .ref 26, .int r4], S3, 0)) rfl ?_
  refine ev_bI0 (d := d + 2) (M' := Mx4) (ct := (24, [.ref 32, .ref 26, .int p2, .int r4], [.int r4], S3, 0)) hf rfl rfl rfl rfl (fun r9 h9 => f_X0_ofLedge_ok_26 (d := d + 1) h9) (fun r6 S5 hf => ?_)
  show Ev (d + 3) Mx59 (24, [.ref 32, .ref 26, .int p2, .int r4], [.int r6, .int r4], S5, 0) r
  refine ev_sts 1 (c2 := (27, [.ref 32, .ref 26, .int p2, .int r4], [.int (if r6 < r4 then r6 else r4)], S5, 0)) rfl ?_
  exact ev_ret hf rfl rfl
theorem f_X7_laysAt_ok_24 {d F : Nat} {p2 : Int32} {S : mS} {r : mR} (hf : f_X7_laysAt F 24 p2 S = some r) : Ev (d + 3) Mx59 (entry Mx59 [.ref 32, .ref 24, .int p2] S) r := by
  unfold f_X7_laysAt at hf
  refine ev_sts 8 (c2 := (10, [.ref 32, .ref 24, .int p2, mK], [.int ((4 : Int32)), .ref 24, .int ((0 : Int32)), .int p2, .ref 24, .int ((2 : Int32)), .ref 3], S, 0)) rfl ?_
  refine ev_bI0 (d := d + 2) (M' := Mx1) (ct := (13, [.ref 32, .ref 24, .int p2, mK], [.int ((0 : Int32)), .int p2, .ref 24, .int ((2 : Int32)), .ref 3], S, 0)) hf rfl rfl rfl rfl (fun r9 h9 => f_X0_at_ok_24 (d := d + 2) h9) (fun r2 S1 hf => ?_)
  show Ev (d + 3) Mx59 (13, [.ref 32, .ref 24, .int p2, mK], [.int r2, .int ((0 : Int32)), .int p2, .ref 24, .int ((2 : Int32)), .ref 3], S1, 0) r
  refine ev_bI0 (d := d + 2) (M' := Mx32) (ct := (16, [.ref 32, .ref 24, .int p2, mK], [], S1, 0)) hf rfl rfl rfl rfl (fun r9 h9 => f_X2_sum_ok_24 (d := d) h9) (fun r4 S3 hf => ?_)
  show Ev (d + 3) Mx59 (16, [.ref 32, .ref 24, .int p2, mK], [.int r4], S3, 0) r
  refine ev_sts 5 (c2 := (21, [.ref 32, .ref 24, .int p2, .int r4], [.int ((4 : Int32)), .int p2, .ref 24, .int r4], S3, 0)) rfl ?_
  refine ev_bI0 (d := d + 2) (M' := Mx4) (ct := (24, [.ref 32, .ref 24, .int p2, .int r4], [.int r4], S3, 0)) hf rfl rfl rfl rfl (fun r9 h9 => f_X0_ofLedge_ok_24 (d := d + 1) h9) (fun r6 S5 hf => ?_)
  show Ev (d + 3) Mx59 (24, [.ref 32, .ref 24, .int p2, .int r4], [.int r6, .int r4], S5, 0) r
  refine ev_sts 1 (c2 := (27, [.ref 32, .ref 24, .int p2, .int r4], [.int (if r6 < r4 then r6 else r4)], S5, 0)) rfl ?_
  exact ev_ret hf rfl rfl
def f_X7_layOn_b48 (F : Nat) (u1 : Nat) (x2 : Int32) (x4 : Int32) (x5 : Int32) (t0 : Int32) (S : mS) : Option mR := bV0 (f_X0_putLedge u1 x2 ((3 : Int32)) t0 S) (fun S8 => bV0 (f_X0_putLedge u1 x2 ((2 : Int32)) x5 S8) (fun S9 => some (.inl (some (.int (x5 - x4))), S9)))
def f_X7_layOn (F : Nat) (u1 : Nat) (p2 : Int32) (S : mS) : Option mR := bI0 (f_X7_laysAt F u1 p2 S) (fun r2 S1 => bI0 (f_X0_ofLedge u1 p2 ((2 : Int32)) S1) (fun r4 S3 => bnd (if (r4 + r2) < ((20 : Int32)) then (r4 + r2) else ((20 : Int32)) : Int32) (fun y5 => (if ¬ r4 = 0 then bI0 (f_X0_ofLedge u1 p2 ((3 : Int32)) S3) (fun r7 S6 => f_X7_layOn_b48 F u1 p2 r4 y5 (if (r7 + ((1 : Int32))) < ((99 : Int32)) then (r7 + ((1 : Int32))) else ((99 : Int32))) S6) else f_X7_layOn_b48 F u1 p2 r4 y5 ((0 : Int32)) S3))))
theorem f_X7_layOn_b48_ok_26 {d F : Nat} {x2 : Int32} {x4 : Int32} {x5 : Int32} {t0 : Int32} {S : mS} {r : mR} (hf : f_X7_layOn_b48 F 26 x2 x4 x5 t0 S = some r) : Ev (d + 4) Mx69 (48, [mK, .ref 26, .int x2, mK, .int x4, .int x5, mK], [.int t0], S, 0) r := by
  unfold f_X7_layOn_b48 at hf
  refine ev_sts 5 (c2 := (55, [mK, .ref 26, .int x2, mK, .int x4, .int x5, .int t0], [.int t0, .int ((3 : Int32)), .int x2, .ref 26], S, 0)) rfl ?_
  refine ev_bV0 (d := d + 3) (M' := Mx5) (ct := (58, [mK, .ref 26, .int x2, mK, .int x4, .int x5, .int t0], [], S, 0)) hf rfl rfl rfl rfl (fun r9 h9 => f_X0_putLedge_ok_26 (d := d + 2) h9) (fun S8 hf => ?_)
  show Ev (d + 4) Mx69 (58, [mK, .ref 26, .int x2, mK, .int x4, .int x5, .int t0], [], S8, 0) r
  refine ev_sts 4 (c2 := (63, [mK, .ref 26, .int x2, mK, .int x4, .int x5, .int t0], [.int x5, .int ((2 : Int32)), .int x2, .ref 26], S8, 0)) rfl ?_
  refine ev_bV0 (d := d + 3) (M' := Mx5) (ct := (66, [mK, .ref 26, .int x2, mK, .int x4, .int x5, .int t0], [], S8, 0)) hf rfl rfl rfl rfl (fun r9 h9 => f_X0_putLedge_ok_26 (d := d + 2) h9) (fun S9 hf => ?_)
  show Ev (d + 4) Mx69 (66, [mK, .ref 26, .int x2, mK, .int x4, .int x5, .int t0], [], S9, 0) r
  refine ev_sts 3 (c2 := (71, [mK, .ref 26, .int x2, mK, .int x4, .int x5, .int t0], [.int (x5 - x4)], S9, 0)) rfl ?_
  exact ev_ret hf rfl rfl
theorem f_X7_layOn_ok_26 {d F : Nat} {p2 : Int32} {S : mS} {r : mR} (hf : f_X7_layOn F 26 p2 S = some r) : Ev (d + 4) Mx69 (entry Mx69 [.ref 32, .ref 26, .int p2] S) r := by
  unfold f_X7_layOn at hf
  refine ev_sts 3 (c2 := (3, [.ref 32, .ref 26, .int p2, mK, mK, mK, mK], [.int p2, .ref 26, .ref 32], S, 0)) rfl ?_
  refine ev_bI0 (d := d + 3) (M' := Mx59) (ct := (6, [.ref 32, .ref 26, .int p2, mK, mK, mK, mK], [], S, 0)) hf rfl rfl rfl rfl (fun r9 h9 => f_X7_laysAt_ok_26 (d := d) h9) (fun r2 S1 hf => ?_)
  show Ev (d + 4) Mx69 (6, [.ref 32, .ref 26, .int p2, mK, mK, mK, mK], [.int r2], S1, 0) r
  refine ev_sts 4 (c2 := (10, [.ref 32, .ref 26, .int p2, .int r2, mK, mK, mK], [.int ((2 : Int32)), .int p2, .ref 26], S1, 0)) rfl ?_
  refine ev_bI0 (d := d + 3) (M' := Mx4) (ct := (13, [.ref 32, .ref 26, .int p2, .int r2, mK, mK, mK], [], S1, 0)) hf rfl rfl rfl rfl (fun r9 h9 => f_X0_ofLedge_ok_26 (d := d + 2) h9) (fun r4 S3 hf => ?_)
  show Ev (d + 4) Mx69 (13, [.ref 32, .ref 26, .int p2, .int r2, mK, mK, mK], [.int r4], S3, 0) r
  refine ev_sts 7 (c2 := (26, [.ref 32, .ref 26, .int p2, .int r2, .int r4, .int (if (r4 + r2) < ((20 : Int32)) then (r4 + r2) else ((20 : Int32))), mK], [], S3, 0)) rfl ?_
  refine ev_let (P := fun y5 => Ev (d + 4) Mx69 (26, [.ref 32, .ref 26, .int p2, .int r2, .int r4, .int y5, mK], [], S3, 0) r) (fun y5 hf => ?_) hf
  refine ev_sts 1 (c2 := (28, [.ref 32, .ref 26, .int p2, .int r2, .int r4, .int y5, mK], [.int r4], S3, 0)) rfl ?_
  refine ev_if (c1 := (35, [.ref 32, .ref 26, .int p2, .int r2, .int r4, .int y5, mK], [], S3, 0)) (c2 := (31, [.ref 32, .ref 26, .int p2, .int r2, .int r4, .int y5, mK], [], S3, 0)) hf rfl rfl (fun _ hf => ?_) (fun _ hf => ?_)
  · refine ev_sts 4 (c2 := (40, [.ref 32, .ref 26, .int p2, .int r2, .int r4, .int y5, mK], [.int ((3 : Int32)), .int p2, .ref 26, .int ((99 : Int32))], S3, 0)) rfl ?_
    refine ev_bI0 (d := d + 3) (M' := Mx4) (ct := (43, [.ref 32, .ref 26, .int p2, .int r2, .int r4, .int y5, mK], [.int ((99 : Int32))], S3, 0)) hf rfl rfl rfl rfl (fun r9 h9 => f_X0_ofLedge_ok_26 (d := d + 2) h9) (fun r7 S6 hf => ?_)
    show Ev (d + 4) Mx69 (43, [.ref 32, .ref 26, .int p2, .int r2, .int r4, .int y5, mK], [.int r7, .int ((99 : Int32))], S6, 0) r
    exact ev_sts 3 (c2 := (48, [mK, .ref 26, .int p2, mK, .int r4, .int y5, mK], [.int (if (r7 + ((1 : Int32))) < ((99 : Int32)) then (r7 + ((1 : Int32))) else ((99 : Int32)))], S6, 0)) rfl (f_X7_layOn_b48_ok_26 hf)
  · exact ev_sts 2 (c2 := (48, [mK, .ref 26, .int p2, mK, .int r4, .int y5, mK], [.int ((0 : Int32))], S3, 0)) rfl (f_X7_layOn_b48_ok_26 hf)
theorem f_X7_layOn_b48_ok_24 {d F : Nat} {x2 : Int32} {x4 : Int32} {x5 : Int32} {t0 : Int32} {S : mS} {r : mR} (hf : f_X7_layOn_b48 F 24 x2 x4 x5 t0 S = some r) : Ev (d + 4) Mx69 (48, [mK, .ref 24, .int x2, mK, .int x4, .int x5, mK], [.int t0], S, 0) r := by
  unfold f_X7_layOn_b48 at hf
  refine ev_sts 5 (c2 := (55, [mK, .ref 24, .int x2, mK, .int x4, .int x5, .int t0], [.int t0, .int ((3 : Int32)), .int x2, .ref 24], S, 0)) rfl ?_
  refine ev_bV0 (d := d + 3) (M' := Mx5) (ct := (58, [mK, .ref 24, .int x2, mK, .int x4, .int x5, .int t0], [], S, 0)) hf rfl rfl rfl rfl (fun r9 h9 => f_X0_putLedge_ok_24 (d := d + 2) h9) (fun S8 hf => ?_)
  show Ev (d + 4) Mx69 (58, [mK, .ref 24, .int x2, mK, .int x4, .int x5, .int t0], [], S8, 0) r
  refine ev_sts 4 (c2 := (63, [mK, .ref 24, .int x2, mK, .int x4, .int x5, .int t0], [.int x5, .int ((2 : Int32)), .int x2, .ref 24], S8, 0)) rfl ?_
  refine ev_bV0 (d := d + 3) (M' := Mx5) (ct := (66, [mK, .ref 24, .int x2, mK, .int x4, .int x5, .int t0], [], S8, 0)) hf rfl rfl rfl rfl (fun r9 h9 => f_X0_putLedge_ok_24 (d := d + 2) h9) (fun S9 hf => ?_)
  show Ev (d + 4) Mx69 (66, [mK, .ref 24, .int x2, mK, .int x4, .int x5, .int t0], [], S9, 0) r
  refine ev_sts 3 (c2 := (71, [mK, .ref 24, .int x2, mK, .int x4, .int x5, .int t0], [.int (x5 - x4)], S9, 0)) rfl ?_
  exact ev_ret hf rfl rfl
theorem f_X7_layOn_ok_24 {d F : Nat} {p2 : Int32} {S : mS} {r : mR} (hf : f_X7_layOn F 24 p2 S = some r) : Ev (d + 4) Mx69 (entry Mx69 [.ref 32, .ref 24, .int p2] S) r := by
  unfold f_X7_layOn at hf
  refine ev_sts 3 (c2 := (3, [.ref 32, .ref 24, .int p2, mK, mK, mK, mK], [.int p2, .ref 24, .ref 32], S, 0)) rfl ?_
  refine ev_bI0 (d := d + 3) (M' := Mx59) (ct := (6, [.ref 32, .ref 24, .int p2, mK, mK, mK, mK], [], S, 0)) hf rfl rfl rfl rfl (fun r9 h9 => f_X7_laysAt_ok_24 (d := d) h9) (fun r2 S1 hf => ?_)
  show Ev (d + 4) Mx69 (6, [.ref 32, .ref 24, .int p2, mK, mK, mK, mK], [.int r2], S1, 0) r
  refine ev_sts 4 (c2 := (10, [.ref 32, .ref 24, .int p2, .int r2, mK, mK, mK], [.int ((2 : Int32)), .int p2, .ref 24], S1, 0)) rfl ?_
  refine ev_bI0 (d := d + 3) (M' := Mx4) (ct := (13, [.ref 32, .ref 24, .int p2, .int r2, mK, mK, mK], [], S1, 0)) hf rfl rfl rfl rfl (fun r9 h9 => f_X0_ofLedge_ok_24 (d := d + 2) h9) (fun r4 S3 hf => ?_)
  show Ev (d + 4) Mx69 (13, [.ref 32, .ref 24, .int p2, .int r2, mK, mK, mK], [.int r4], S3, 0) r
  refine ev_sts 7 (c2 := (26, [.ref 32, .ref 24, .int p2, .int r2, .int r4, .int (if (r4 + r2) < ((20 : Int32)) then (r4 + r2) else ((20 : Int32))), mK], [], S3, 0)) rfl ?_
  refine ev_let (P := fun y5 => Ev (d + 4) Mx69 (26, [.ref 32, .ref 24, .int p2, .int r2, .int r4, .int y5, mK], [], S3, 0) r) (fun y5 hf => ?_) hf
  refine ev_sts 1 (c2 := (28, [.ref 32, .ref 24, .int p2, .int r2, .int r4, .int y5, mK], [.int r4], S3, 0)) rfl ?_
  refine ev_if (c1 := (35, [.ref 32, .ref 24, .int p2, .int r2, .int r4, .int y5, mK], [], S3, 0)) (c2 := (31, [.ref 32, .ref 24, .int p2, .int r2, .int r4, .int y5, mK], [], S3, 0)) hf rfl rfl (fun _ hf => ?_) (fun _ hf => ?_)
  · refine ev_sts 4 (c2 := (40, [.ref 32, .ref 24, .int p2, .int r2, .int r4, .int y5, mK], [.int ((3 : Int32)), .int p2, .ref 24, .int ((99 : Int32))], S3, 0)) rfl ?_
    refine ev_bI0 (d := d + 3) (M' := Mx4) (ct := (43, [.ref 32, .ref 24, .int p2, .int r2, .int r4, .int y5, mK], [.int ((99 : Int32))], S3, 0)) hf rfl rfl rfl rfl (fun r9 h9 => f_X0_ofLedge_ok_24 (d := d + 2) h9) (fun r7 S6 hf => ?_)
    show Ev (d + 4) Mx69 (43, [.ref 32, .ref 24, .int p2, .int r2, .int r4, .int y5, mK], [.int r7, .int ((99 : Int32))], S6, 0) r
    exact ev_sts 3 (c2 := (48, [mK, .ref 24, .int p2, mK, .int r4, .int y5, mK], [.int (if (r7 + ((1 : Int32))) < ((99 : Int32)) then (r7 + ((1 : Int32))) else ((99 : Int32)))], S6, 0)) rfl (f_X7_layOn_b48_ok_24 hf)
  · exact ev_sts 2 (c2 := (48, [mK, .ref 24, .int p2, mK, .int r4, .int y5, mK], [.int ((0 : Int32))], S3, 0)) rfl (f_X7_layOn_b48_ok_24 hf)
def f_X7_stillDayOf (F : Nat) (p2 : Int32) (S : mS) : Option mR := bI0 (f_X7_layOn F 26 p2 S) (fun r2 S1 => bV0 (f_X0_passDay 26 S1) (fun S3 => some (.inl none, S3)))
theorem f_X7_stillDayOf_ok {d F : Nat} {p2 : Int32} {S : mS} {r : mR} (hf : f_X7_stillDayOf F p2 S = some r) : Ev (d + 5) Mx68 (entry Mx68 [.ref 32, .ref 26, .int p2] S) r := by
  unfold f_X7_stillDayOf at hf
  refine ev_sts 3 (c2 := (3, [.ref 32, .ref 26, .int p2], [.int p2, .ref 26, .ref 32], S, 0)) rfl ?_
  refine ev_bI0 (d := d + 4) (M' := Mx69) (ct := (6, [.ref 32, .ref 26, .int p2], [], S, 0)) hf rfl rfl rfl rfl (fun r9 h9 => f_X7_layOn_ok_26 (d := d) h9) (fun r2 S1 hf => ?_)
  show Ev (d + 5) Mx68 (6, [.ref 32, .ref 26, .int p2], [.int r2], S1, 0) r
  refine ev_sts 2 (c2 := (8, [.ref 32, .ref 26, .int p2], [.ref 26], S1, 0)) rfl ?_
  refine ev_bV0 (d := d + 4) (M' := Mx19) (ct := (11, [.ref 32, .ref 26, .int p2], [], S1, 0)) hf rfl rfl rfl rfl (fun r9 h9 => f_X0_passDay_ok_26 (d := d + 4) h9) (fun S3 hf => ?_)
  show Ev (d + 5) Mx68 (11, [.ref 32, .ref 26, .int p2], [], S3, 0) r
  exact ev_ret hf rfl rfl
def f_X9_ahead_b64 (F : Nat) (t2 : Int32) (t1 : Int32) (S : mS) : Option mR := bI0 (f_X0_ofLedge 26 t1 t2 S) (fun r5 S4 => some (.inl (some (.int r5)), S4))
def f_X9_ahead_b26 (F : Nat) : Nat → Int32 → Int32 → Int32 → Int32 → mS → Option mR
  | 0, _, _, _, _, _ => none
  | n + 1, x1, x2, x3, x4, S => (if x2 ≤ x4 then (if x3 = 0 then f_X9_ahead_b64 F ((2 : Int32)) x1 S else f_X9_ahead_b64 F ((3 : Int32)) x1 S) else bV0 (f_X7_stillDayOf F x1 S) (fun S6 => f_X9_ahead_b26 F n x1 x2 x3 (x4 + (1 : Int32)) S6))
def f_X9_ahead (F : Nat) (p1 : Int32) (p2 : Int32) (p3 : Int32) (S : mS) : Option mR := bV (f_X9_needLedge p1 S) (fun S1 => bV (f_X9_needWithin p2 ((0 : Int32)) ((40 : Int32)) S1) (fun S2 => bV0 (f_X0_copy 26 24 S2) (fun S3 => f_X9_ahead_b26 F F p1 p2 p3 ((0 : Int32)) S3)))
theorem f_X9_ahead_b64_ok {d F : Nat} {t2 : Int32} {t1 : Int32} {S : mS} {r : mR} (hf : f_X9_ahead_b64 F t2 t1 S = some r) : Ev (d + 6) Mx104 (64, [mK, mK, mK, mK, mK], [.int t2, .int t1, .ref 26], S, 2) r := by
  unfold f_X9_ahead_b64 at hf
  refine ev_bI0 (d := d + 5) (M' := Mx4) (ct := (67, [mK, mK, mK, mK, mK], [], S, 2)) hf rfl rfl rfl rfl (fun r9 h9 => f_X0_ofLedge_ok_26 (d := d + 4) h9) (fun r5 S4 hf => ?_)
  show Ev (d + 6) Mx104 (67, [mK, mK, mK, mK, mK], [.int r5], S4, 2) r
  exact ev_ret hf rfl rfl
theorem f_X9_ahead_b26_ok {d F : Nat} : ∀ (n : Nat) {x1 : Int32} {x2 : Int32} {x3 : Int32} {x4 : Int32} {S : mS} {r : mR}, f_X9_ahead_b26 F n x1 x2 x3 x4 S = some r → Ev (d + 6) Mx104 (26, [.ref 0, .int x1, .int x2, .int x3, .int x4], [], S, 2) r := by
  intro n
  induction n with
  | zero => intro x1 x2 x3 x4 S r hf; cases hf
  | succ n ih =>
    intro x1 x2 x3 x4 S r hf
    rw [f_X9_ahead_b26] at hf
    refine ev_sts 2 (c2 := (29, [.ref 0, .int x1, .int x2, .int x3, .int x4], [.int x2, .int x4], S, 2)) rfl ?_
    refine ev_if (c1 := (50, [.ref 0, .int x1, .int x2, .int x3, .int x4], [], S, 2)) (c2 := (32, [.ref 0, .int x1, .int x2, .int x3, .int x4], [], S, 2)) hf rfl rfl (fun _ hf => ?_) (fun _ hf => ?_)
    · refine ev_sts 4 (c2 := (56, [.ref 0, .int x1, .int x2, .int x3, .int x4], [.int x3, .int x1, .ref 26], S, 2)) rfl ?_
      refine ev_if (c1 := (63, [.ref 0, .int x1, .int x2, .int x3, .int x4], [.int x1, .ref 26], S, 2)) (c2 := (59, [.ref 0, .int x1, .int x2, .int x3, .int x4], [.int x1, .ref 26], S, 2)) hf rfl rfl (fun _ hf => ?_) (fun _ hf => ?_)
      · exact ev_sts 1 (c2 := (64, [mK, mK, mK, mK, mK], [.int ((2 : Int32)), .int x1, .ref 26], S, 2)) rfl (f_X9_ahead_b64_ok hf)
      · exact ev_sts 2 (c2 := (64, [mK, mK, mK, mK, mK], [.int ((3 : Int32)), .int x1, .ref 26], S, 2)) rfl (f_X9_ahead_b64_ok hf)
    · refine ev_sts 5 (c2 := (41, [.ref 0, .int x1, .int x2, .int x3, .int x4], [.int x1, .ref 26, .ref 32], S, 2)) rfl ?_
      refine ev_bV0 (d := d + 5) (M' := Mx68) (ct := (44, [.ref 0, .int x1, .int x2, .int x3, .int x4], [], S, 2)) hf rfl rfl rfl rfl (fun r9 h9 => f_X7_stillDayOf_ok (d := d) h9) (fun S6 hf => ?_)
      show Ev (d + 6) Mx104 (44, [.ref 0, .int x1, .int x2, .int x3, .int x4], [], S6, 2) r
      exact ev_sts 2 (c2 := (26, [.ref 0, .int x1, .int x2, .int x3, .int (x4 + (1 : Int32))], [], S6, 2)) rfl (ih hf)
theorem f_X9_ahead_ok {d F : Nat} {p1 : Int32} {p2 : Int32} {p3 : Int32} {S : mS} {r : mR} (hf : f_X9_ahead F p1 p2 p3 S = some r) : Ev (d + 6) Mx104 (entry Mx104 [.ref 0, .int p1, .int p2, .int p3] S) r := by
  unfold f_X9_ahead at hf
  refine ev_sts 2 (c2 := (2, [.ref 0, .int p1, .int p2, .int p3, mK], [.int p1, .ref 0], S, 0)) rfl ?_
  refine ev_bV (d := d + 5) (M' := Mx139) (ct := (5, [.ref 0, .int p1, .int p2, .int p3, mK], [], S, 1)) hf rfl rfl rfl rfl (by decide) (fun r9 h9 => f_X9_needLedge_ok (d := d + 4) h9) (fun S1 hf => ?_)
  show Ev (d + 6) Mx104 (5, [.ref 0, .int p1, .int p2, .int p3, mK], [], S1, 1) r
  refine ev_sts 3 (c2 := (9, [.ref 0, .int p1, .int p2, .int p3, mK], [.int ((40 : Int32)), .int ((0 : Int32)), .int p2], S1, 1)) rfl ?_
  refine ev_bV (d := d + 5) (M' := Mx142) (ct := (12, [.ref 0, .int p1, .int p2, .int p3, mK], [], S1, 2)) hf rfl rfl rfl rfl (by decide) (fun r9 h9 => f_X9_needWithin_ok (d := d + 5) h9) (fun S2 hf => ?_)
  show Ev (d + 6) Mx104 (12, [.ref 0, .int p1, .int p2, .int p3, mK], [], S2, 2) r
  refine ev_sts 4 (c2 := (20, [.ref 0, .int p1, .int p2, .int p3, mK], [.ref 24, .ref 26], S2, 2)) rfl ?_
  refine ev_bV0 (d := d + 5) (M' := Mx0) (ct := (23, [.ref 0, .int p1, .int p2, .int p3, mK], [], S2, 2)) hf rfl rfl rfl rfl (fun r9 h9 => f_X0_copy_ok_26_24 (d := d + 5) h9) (fun S3 hf => ?_)
  show Ev (d + 6) Mx104 (23, [.ref 0, .int p1, .int p2, .int p3, mK], [], S3, 2) r
  exact ev_sts 2 (c2 := (26, [.ref 0, .int p1, .int p2, .int p3, .int ((0 : Int32))], [], S3, 2)) rfl (f_X9_ahead_b26_ok _ hf)
def f_X9_apart (p1 : Int32) (p2 : Int32) (S : mS) : Option mR := bI0 (f_X0_ofLedge 24 p1 ((0 : Int32)) S) (fun r2 S1 => bI0 (f_X0_ofLedge 24 p2 ((0 : Int32)) S1) (fun r4 S3 => some (.inl (some (.int (if 0 ≤ (r2 - r4) then (r2 - r4) else 0 - (r2 - r4)))), S3)))
theorem f_X9_apart_ok {d : Nat} {p1 : Int32} {p2 : Int32} {S : mS} {r : mR} (hf : f_X9_apart p1 p2 S = some r) : Ev (d + 2) Mx148 (entry Mx148 [.ref 0, .int p1, .int p2] S) r := by
  unfold f_X9_apart at hf
  refine ev_sts 4 (c2 := (6, [.ref 0, .int p1, .int p2], [.int ((0 : Int32)), .int p1, .ref 24], S, 0)) rfl ?_
  refine ev_bI0 (d := d + 1) (M' := Mx4) (ct := (9, [.ref 0, .int p1, .int p2], [], S, 0)) hf rfl rfl rfl rfl (fun r9 h9 => f_X0_ofLedge_ok_24 (d := d) h9) (fun r2 S1 hf => ?_)
  show Ev (d + 2) Mx148 (9, [.ref 0, .int p1, .int p2], [.int r2], S1, 0) r
  refine ev_sts 4 (c2 := (15, [.ref 0, .int p1, .int p2], [.int ((0 : Int32)), .int p2, .ref 24, .int r2], S1, 0)) rfl ?_
  refine ev_bI0 (d := d + 1) (M' := Mx4) (ct := (18, [.ref 0, .int p1, .int p2], [.int r2], S1, 0)) hf rfl rfl rfl rfl (fun r9 h9 => f_X0_ofLedge_ok_24 (d := d) h9) (fun r4 S3 hf => ?_)
  show Ev (d + 2) Mx148 (18, [.ref 0, .int p1, .int p2], [.int r4, .int r2], S3, 0) r
  refine ev_sts 2 (c2 := (22, [.ref 0, .int p1, .int p2], [.int (if 0 ≤ (r2 - r4) then (r2 - r4) else 0 - (r2 - r4))], S3, 0)) rfl ?_
  exact ev_ret hf rfl rfl
def f_X2_copy (u0 : Nat) (u1 : Nat) (S : mS) : Option mR := gd (decide (¬ ((0 : Int32)) < 0 ∧ ¬ ((0 : Int32)) < 0 ∧ ¬ ((12 : Int32)) < 0 ∧ ((0 : Int32)).toNatClampNeg + ((12 : Int32)).toNatClampNeg ≤ 12 ∧ ((0 : Int32)).toNatClampNeg + ((12 : Int32)).toNatClampNeg ≤ 12)) (bnd (seS S ((u0 + 1)) (va_cpy (S ((u1 + 1))) (S ((u0 + 1))) ((0 : Int32)).toNatClampNeg ((0 : Int32)).toNatClampNeg ((12 : Int32)).toNatClampNeg)) (fun S1 => gd (decide (¬ ((0 : Int32)) < 0 ∧ ¬ ((0 : Int32)) < 0 ∧ ¬ ((12 : Int32)) < 0 ∧ ((0 : Int32)).toNatClampNeg + ((12 : Int32)).toNatClampNeg ≤ 12 ∧ ((0 : Int32)).toNatClampNeg + ((12 : Int32)).toNatClampNeg ≤ 12)) (bnd (seS S1 ((u0 + 2)) (va_cpy (S1 ((u1 + 2))) (S1 ((u0 + 2))) ((0 : Int32)).toNatClampNeg ((0 : Int32)).toNatClampNeg ((12 : Int32)).toNatClampNeg)) (fun S2 => gd (decide (¬ ((0 : Int32)) < 0 ∧ ¬ ((0 : Int32)) < 0 ∧ ¬ ((12 : Int32)) < 0 ∧ ((0 : Int32)).toNatClampNeg + ((12 : Int32)).toNatClampNeg ≤ 12 ∧ ((0 : Int32)).toNatClampNeg + ((12 : Int32)).toNatClampNeg ≤ 12)) (bnd (seS S2 ((u0 + 3)) (va_cpy (S2 ((u1 + 3))) (S2 ((u0 + 3))) ((0 : Int32)).toNatClampNeg ((0 : Int32)).toNatClampNeg ((12 : Int32)).toNatClampNeg)) (fun S3 => gd (decide (¬ ((0 : Int32)) < 0 ∧ ¬ ((0 : Int32)) < 0 ∧ ¬ ((400 : Int32)) < 0 ∧ ((0 : Int32)).toNatClampNeg + ((400 : Int32)).toNatClampNeg ≤ 400 ∧ ((0 : Int32)).toNatClampNeg + ((400 : Int32)).toNatClampNeg ≤ 400)) (bnd (seS S3 ((u0 + 4)) (va_cpy (S3 ((u1 + 4))) (S3 ((u0 + 4))) ((0 : Int32)).toNatClampNeg ((0 : Int32)).toNatClampNeg ((400 : Int32)).toNatClampNeg)) (fun S4 => bnd (upS S4 u0 6 (S4 u1 6)) (fun S5 => bnd (upS S5 u0 7 (S5 u1 7)) (fun S6 => some (.inl none, S6)))))))))))
theorem f_X2_copy_ok_3_17 {d : Nat} {S : mS} {r : mR} (hf : f_X2_copy 3 17 S = some r) : Ev (d) Mx31 (entry Mx31 [.ref 3, .ref 17] S) r := by
  unfold f_X2_copy at hf
  refine ev_sts 7 (c2 := (12, [.ref 3, .ref 17], [.int ((12 : Int32)), .int ((0 : Int32)), .ref 4, .int ((0 : Int32)), .ref 18], S, 0)) rfl ?_
  refine ev_gd (c1 := (15, [.ref 3, .ref 17], [], (seS S ((3 + 1)) (va_cpy (S ((17 + 1))) (S ((3 + 1))) ((0 : Int32)).toNatClampNeg ((0 : Int32)).toNatClampNeg ((12 : Int32)).toNatClampNeg)), 0)) hf rfl rfl (fun hf => ?_)
  refine ev_let (P := fun S1 => Ev (d) Mx31 (15, [.ref 3, .ref 17], [], S1, 0) r) (fun S1 hf => ?_) hf
  refine ev_sts 7 (c2 := (27, [.ref 3, .ref 17], [.int ((12 : Int32)), .int ((0 : Int32)), .ref 5, .int ((0 : Int32)), .ref 19], S1, 0)) rfl ?_
  refine ev_gd (c1 := (30, [.ref 3, .ref 17], [], (seS S1 ((3 + 2)) (va_cpy (S1 ((17 + 2))) (S1 ((3 + 2))) ((0 : Int32)).toNatClampNeg ((0 : Int32)).toNatClampNeg ((12 : Int32)).toNatClampNeg)), 0)) hf rfl rfl (fun hf => ?_)
  refine ev_let (P := fun S2 => Ev (d) Mx31 (30, [.ref 3, .ref 17], [], S2, 0) r) (fun S2 hf => ?_) hf
  refine ev_sts 7 (c2 := (42, [.ref 3, .ref 17], [.int ((12 : Int32)), .int ((0 : Int32)), .ref 6, .int ((0 : Int32)), .ref 20], S2, 0)) rfl ?_
  refine ev_gd (c1 := (45, [.ref 3, .ref 17], [], (seS S2 ((3 + 3)) (va_cpy (S2 ((17 + 3))) (S2 ((3 + 3))) ((0 : Int32)).toNatClampNeg ((0 : Int32)).toNatClampNeg ((12 : Int32)).toNatClampNeg)), 0)) hf rfl rfl (fun hf => ?_)
  refine ev_let (P := fun S3 => Ev (d) Mx31 (45, [.ref 3, .ref 17], [], S3, 0) r) (fun S3 hf => ?_) hf
  refine ev_sts 7 (c2 := (58, [.ref 3, .ref 17], [.int ((400 : Int32)), .int ((0 : Int32)), .ref 7, .int ((0 : Int32)), .ref 21], S3, 0)) rfl ?_
  refine ev_gd (c1 := (61, [.ref 3, .ref 17], [], (seS S3 ((3 + 4)) (va_cpy (S3 ((17 + 4))) (S3 ((3 + 4))) ((0 : Int32)).toNatClampNeg ((0 : Int32)).toNatClampNeg ((400 : Int32)).toNatClampNeg)), 0)) hf rfl rfl (fun hf => ?_)
  refine ev_let (P := fun S4 => Ev (d) Mx31 (61, [.ref 3, .ref 17], [], S4, 0) r) (fun S4 hf => ?_) hf
  refine ev_sts 4 (c2 := (69, [.ref 3, .ref 17], [], (upS S4 3 6 (S4 17 6)), 0)) rfl ?_
  refine ev_let (P := fun S5 => Ev (d) Mx31 (69, [.ref 3, .ref 17], [], S5, 0) r) (fun S5 hf => ?_) hf
  refine ev_sts 4 (c2 := (77, [.ref 3, .ref 17], [], (upS S5 3 7 (S5 17 7)), 0)) rfl ?_
  refine ev_let (P := fun S6 => Ev (d) Mx31 (77, [.ref 3, .ref 17], [], S6, 0) r) (fun S6 hf => ?_) hf
  exact ev_ret hf rfl rfl
theorem f_X2_copy_ok_17_3 {d : Nat} {S : mS} {r : mR} (hf : f_X2_copy 17 3 S = some r) : Ev (d) Mx31 (entry Mx31 [.ref 17, .ref 3] S) r := by
  unfold f_X2_copy at hf
  refine ev_sts 7 (c2 := (12, [.ref 17, .ref 3], [.int ((12 : Int32)), .int ((0 : Int32)), .ref 18, .int ((0 : Int32)), .ref 4], S, 0)) rfl ?_
  refine ev_gd (c1 := (15, [.ref 17, .ref 3], [], (seS S ((17 + 1)) (va_cpy (S ((3 + 1))) (S ((17 + 1))) ((0 : Int32)).toNatClampNeg ((0 : Int32)).toNatClampNeg ((12 : Int32)).toNatClampNeg)), 0)) hf rfl rfl (fun hf => ?_)
  refine ev_let (P := fun S1 => Ev (d) Mx31 (15, [.ref 17, .ref 3], [], S1, 0) r) (fun S1 hf => ?_) hf
  refine ev_sts 7 (c2 := (27, [.ref 17, .ref 3], [.int ((12 : Int32)), .int ((0 : Int32)), .ref 19, .int ((0 : Int32)), .ref 5], S1, 0)) rfl ?_
  refine ev_gd (c1 := (30, [.ref 17, .ref 3], [], (seS S1 ((17 + 2)) (va_cpy (S1 ((3 + 2))) (S1 ((17 + 2))) ((0 : Int32)).toNatClampNeg ((0 : Int32)).toNatClampNeg ((12 : Int32)).toNatClampNeg)), 0)) hf rfl rfl (fun hf => ?_)
  refine ev_let (P := fun S2 => Ev (d) Mx31 (30, [.ref 17, .ref 3], [], S2, 0) r) (fun S2 hf => ?_) hf
  refine ev_sts 7 (c2 := (42, [.ref 17, .ref 3], [.int ((12 : Int32)), .int ((0 : Int32)), .ref 20, .int ((0 : Int32)), .ref 6], S2, 0)) rfl ?_
  refine ev_gd (c1 := (45, [.ref 17, .ref 3], [], (seS S2 ((17 + 3)) (va_cpy (S2 ((3 + 3))) (S2 ((17 + 3))) ((0 : Int32)).toNatClampNeg ((0 : Int32)).toNatClampNeg ((12 : Int32)).toNatClampNeg)), 0)) hf rfl rfl (fun hf => ?_)
  refine ev_let (P := fun S3 => Ev (d) Mx31 (45, [.ref 17, .ref 3], [], S3, 0) r) (fun S3 hf => ?_) hf
  refine ev_sts 7 (c2 := (58, [.ref 17, .ref 3], [.int ((400 : Int32)), .int ((0 : Int32)), .ref 21, .int ((0 : Int32)), .ref 7], S3, 0)) rfl ?_
  refine ev_gd (c1 := (61, [.ref 17, .ref 3], [], (seS S3 ((17 + 4)) (va_cpy (S3 ((3 + 4))) (S3 ((17 + 4))) ((0 : Int32)).toNatClampNeg ((0 : Int32)).toNatClampNeg ((400 : Int32)).toNatClampNeg)), 0)) hf rfl rfl (fun hf => ?_)
  refine ev_let (P := fun S4 => Ev (d) Mx31 (61, [.ref 17, .ref 3], [], S4, 0) r) (fun S4 hf => ?_) hf
  refine ev_sts 4 (c2 := (69, [.ref 17, .ref 3], [], (upS S4 17 6 (S4 3 6)), 0)) rfl ?_
  refine ev_let (P := fun S5 => Ev (d) Mx31 (69, [.ref 17, .ref 3], [], S5, 0) r) (fun S5 hf => ?_) hf
  refine ev_sts 4 (c2 := (77, [.ref 17, .ref 3], [], (upS S5 17 7 (S5 3 7)), 0)) rfl ?_
  refine ev_let (P := fun S6 => Ev (d) Mx31 (77, [.ref 17, .ref 3], [], S6, 0) r) (fun S6 hf => ?_) hf
  exact ev_ret hf rfl rfl
theorem f_X2_copy_ok_3_10 {d : Nat} {S : mS} {r : mR} (hf : f_X2_copy 3 10 S = some r) : Ev (d) Mx31 (entry Mx31 [.ref 3, .ref 10] S) r := by
  unfold f_X2_copy at hf
  refine ev_sts 7 (c2 := (12, [.ref 3, .ref 10], [.int ((12 : Int32)), .int ((0 : Int32)), .ref 4, .int ((0 : Int32)), .ref 11], S, 0)) rfl ?_
  refine ev_gd (c1 := (15, [.ref 3, .ref 10], [], (seS S ((3 + 1)) (va_cpy (S ((10 + 1))) (S ((3 + 1))) ((0 : Int32)).toNatClampNeg ((0 : Int32)).toNatClampNeg ((12 : Int32)).toNatClampNeg)), 0)) hf rfl rfl (fun hf => ?_)
  refine ev_let (P := fun S1 => Ev (d) Mx31 (15, [.ref 3, .ref 10], [], S1, 0) r) (fun S1 hf => ?_) hf
  refine ev_sts 7 (c2 := (27, [.ref 3, .ref 10], [.int ((12 : Int32)), .int ((0 : Int32)), .ref 5, .int ((0 : Int32)), .ref 12], S1, 0)) rfl ?_
  refine ev_gd (c1 := (30, [.ref 3, .ref 10], [], (seS S1 ((3 + 2)) (va_cpy (S1 ((10 + 2))) (S1 ((3 + 2))) ((0 : Int32)).toNatClampNeg ((0 : Int32)).toNatClampNeg ((12 : Int32)).toNatClampNeg)), 0)) hf rfl rfl (fun hf => ?_)
  refine ev_let (P := fun S2 => Ev (d) Mx31 (30, [.ref 3, .ref 10], [], S2, 0) r) (fun S2 hf => ?_) hf
  refine ev_sts 7 (c2 := (42, [.ref 3, .ref 10], [.int ((12 : Int32)), .int ((0 : Int32)), .ref 6, .int ((0 : Int32)), .ref 13], S2, 0)) rfl ?_
  refine ev_gd (c1 := (45, [.ref 3, .ref 10], [], (seS S2 ((3 + 3)) (va_cpy (S2 ((10 + 3))) (S2 ((3 + 3))) ((0 : Int32)).toNatClampNeg ((0 : Int32)).toNatClampNeg ((12 : Int32)).toNatClampNeg)), 0)) hf rfl rfl (fun hf => ?_)
  refine ev_let (P := fun S3 => Ev (d) Mx31 (45, [.ref 3, .ref 10], [], S3, 0) r) (fun S3 hf => ?_) hf
  refine ev_sts 7 (c2 := (58, [.ref 3, .ref 10], [.int ((400 : Int32)), .int ((0 : Int32)), .ref 7, .int ((0 : Int32)), .ref 14], S3, 0)) rfl ?_
  refine ev_gd (c1 := (61, [.ref 3, .ref 10], [], (seS S3 ((3 + 4)) (va_cpy (S3 ((10 + 4))) (S3 ((3 + 4))) ((0 : Int32)).toNatClampNeg ((0 : Int32)).toNatClampNeg ((400 : Int32)).toNatClampNeg)), 0)) hf rfl rfl (fun hf => ?_)
  refine ev_let (P := fun S4 => Ev (d) Mx31 (61, [.ref 3, .ref 10], [], S4, 0) r) (fun S4 hf => ?_) hf
  refine ev_sts 4 (c2 := (69, [.ref 3, .ref 10], [], (upS S4 3 6 (S4 10 6)), 0)) rfl ?_
  refine ev_let (P := fun S5 => Ev (d) Mx31 (69, [.ref 3, .ref 10], [], S5, 0) r) (fun S5 hf => ?_) hf
  refine ev_sts 4 (c2 := (77, [.ref 3, .ref 10], [], (upS S5 3 7 (S5 10 7)), 0)) rfl ?_
  refine ev_let (P := fun S6 => Ev (d) Mx31 (77, [.ref 3, .ref 10], [], S6, 0) r) (fun S6 hf => ?_) hf
  exact ev_ret hf rfl rfl
