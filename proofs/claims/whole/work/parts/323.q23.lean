/-! undo, image, back, feed -/
section O
variable {F : Nat} {S : mS}
theorem cpy_at {f g : Nat → Int32} {n i : Nat} (h : i < n) : va_cpy f g 0 0 n i = f i := by
  unfold va_cpy; rw [if_pos (by omega)]; congr 1; omega
theorem z446 (n : Int32) (m : Nat) (h : decide (¬ (0 : Int32) < 0 ∧ ¬ (0 : Int32) < 0 ∧ ¬ n < 0 ∧ (0 : Int32).toNatClampNeg + n.toNatClampNeg ≤ m ∧ (0 : Int32).toNatClampNeg + n.toNatClampNeg ≤ m) = true) : True := trivial
/-- a law is copied -/
theorem x_lawcopy {u0 u1 : Nat} (h : u0 + 4 < u1 ∨ u1 + 4 < u0) : ∃ S', f_X2_copy u0 u1 S = some (.inl none, S') ∧ (∀ A, LW A → LX A S u1 → LX A S' u0) ∧ ∀ o, o < u0 ∨ u0 + 4 < o → S' o = S o := by
  have c12 : decide (¬ ((0 : Int32)) < 0 ∧ ¬ ((0 : Int32)) < 0 ∧ ¬ ((12 : Int32)) < 0 ∧ ((0 : Int32)).toNatClampNeg + ((12 : Int32)).toNatClampNeg ≤ 12 ∧ ((0 : Int32)).toNatClampNeg + ((12 : Int32)).toNatClampNeg ≤ 12) = true := by decide
  have c400 : decide (¬ ((0 : Int32)) < 0 ∧ ¬ ((0 : Int32)) < 0 ∧ ¬ ((400 : Int32)) < 0 ∧ ((0 : Int32)).toNatClampNeg + ((400 : Int32)).toNatClampNeg ≤ 400 ∧ ((0 : Int32)).toNatClampNeg + ((400 : Int32)).toNatClampNeg ≤ 400) = true := by decide
  have d0 : ((0 : Int32)).toNatClampNeg = 0 := by decide
  have d12 : ((12 : Int32)).toNatClampNeg = 12 := by decide
  have d400 : ((400 : Int32)).toNatClampNeg = 400 := by decide
  unfold f_X2_copy
  simp only [c12, c400, gd_t, bnd_e, d0, d12, d400]
  refine ⟨_, rfl, fun A hW hA => ?_, fun o ho => ?_⟩
  · unfold LX at *
    split at hA
    · simp (disch := omega) only [upS_s, upS_n, upd_s, upd_n, seS_n, seS_s]; exact hA
    · obtain ⟨a1, a2, a3⟩ := hA
      have hn := hW.1
      refine ⟨?_, fun i hi => ?_, fun j hj i hi => ?_⟩
      · simp (disch := omega) only [upS_s, upS_n, upd_s, upd_n, seS_n, seS_s]; exact a1
      · simp (disch := omega) only [upS_s, upS_n, upd_s, upd_n, seS_n, seS_s, cpy_at]; exact a2 i hi
      · have := (hW.2 j hj).2.2.2.1
        simp (disch := omega) only [upS_s, upS_n, upd_s, upd_n, seS_n, seS_s, cpy_at]; exact a3 j hj i hi
  · simp (disch := omega) only [upS_n, seS_n]
def AgV (fX fM : mS → Option mR) (S : mS) : Prop := ∃ S1, fX S = some (.inl none, S1) ∧ ∀ T, (∀ o, o < 75 → T o = S1 o) → ∃ T2, fM T = some (.inl none, T2) ∧ Inv T2
theorem ag_image (hF : 6000 ≤ F) (hI : Inv S) : AgV f_X9_image (f_X10_image F) S := by
  obtain ⟨h1, h2, ⟨A, a1, a2, a3⟩, h4, h5, h6, h7, h8, h9⟩ := hI
  obtain ⟨S2, g1, g2, g3⟩ := x_lawcopy (S := seS S 29 (S 25)) (u0 := 17) (u1 := 3) (by omega)
  have eS : ∀ o, o < 17 ∨ 21 < o → o ≠ 29 → S2 o = S o := fun o q1 q2 => by rw [g3 o (by omega), seS_n q2]
  refine ⟨upS S2 0 13 (nI 1), ?_, fun T hT => ?_⟩
  · unfold f_X9_image
    simp (disch := omega) only [fa_lit, nI_ad, nI_mul, nI_cl, inb_nI, nI_ltE, nI_leE, nI_eqE, nI_m1, nI_m1', m1_lt, lt_m1, m1_le, le_m1, eq_self, not_true_eq_false, not_false_eq_true, ↓reduceIte, leT, leF, ltT, ltF, eqT, eqF, decide_true, decide_false, true_and, and_true, Nat.reduceAdd, bI0_i, bI_i, bI_x, bV0_v, bV_v, bV_x, ↓bnd_e, gd_t, x_copy (S := S) (u0 := 28) (u1 := 24) h5 h1.2, g1]
  · have hL : LX A S2 17 := g2 A a1 (LX_of (fun o q1 q2 => seS_n (by omega)) a2)
    have e64 : T 64 = S 64 := by rw [hT 64 (by omega), upS_n (by omega), eS 64 (by omega) (by omega)]
    have h := m_imageL (F := F) 1296 0 F (upS T 63 0 (nI 0)) (by omega) (by omega)
    refine ⟨_, Eq.trans ?_ h, ?_⟩
    · unfold f_X10_image
      rw [bnd_e]
      rfl
    · have eo : ∀ o, o < 75 → o ≠ 0 → o < 17 ∨ 21 < o → o ≠ 29 → o ≠ 63 → o ≠ 65 → (upS (seS (upS T 63 0 (nI 0)) 65 (rngF 0 1296 ((upS T 63 0 (nI 0)) 64) ((upS T 63 0 (nI 0)) 65))) 63 6 (nI 1)) o = S o := by
        intro o q1 q2 q3 q4 q5 q6
        rw [upS_n q5, seS_n q6, upS_n q5, hT o q1, upS_n q2, eS o q3 q4]
      have e63 : ∀ k, k ≠ 0 → k ≠ 6 → (upS (seS (upS T 63 0 (nI 0)) 65 (rngF 0 1296 ((upS T 63 0 (nI 0)) 64) ((upS T 63 0 (nI 0)) 65))) 63 6 (nI 1)) 63 k = S 63 k := by
        intro k q1 q2
        rw [upS_s, upd_n q2, seS_n (by omega), upS_s, upd_n q1, hT 63 (by omega), upS_n (by omega), eS 63 (by omega) (by omega)]
      have e65 : ∀ k, k < 1296 → (upS (seS (upS T 63 0 (nI 0)) 65 (rngF 0 1296 ((upS T 63 0 (nI 0)) 64) ((upS T 63 0 (nI 0)) 65))) 63 6 (nI 1)) 65 k = S 64 k := by
        intro k hk
        rw [upS_n (by omega), seS_s, rng_in (by omega) hk, upS_n (by omega), e64]
      have e29 : (upS (seS (upS T 63 0 (nI 0)) 65 (rngF 0 1296 ((upS T 63 0 (nI 0)) 64) ((upS T 63 0 (nI 0)) 65))) 63 6 (nI 1)) 29 = S 25 := by
        rw [upS_n (by omega), seS_n (by omega), upS_n (by omega), hT 29 (by omega), upS_n (by omega), g3 29 (by omega), seS_s]
      have e17 : ∀ o, 17 ≤ o → o ≤ 21 → (upS (seS (upS T 63 0 (nI 0)) 65 (rngF 0 1296 ((upS T 63 0 (nI 0)) 64) ((upS T 63 0 (nI 0)) 65))) 63 6 (nI 1)) o = S2 o := by
        intro o q1 q2
        rw [upS_n (by omega), seS_n (by omega), upS_n (by omega), hT o (by omega), upS_n (by omega)]
      refine ⟨?_, ?_, ⟨A, a1, LX_of (fun o q1 q2 => eo o (by omega) (by omega) (by omega) (by omega) (by omega) (by omega)) a2, ?_⟩, ?_, ?_, ⟨?_, Or.inr ⟨?_, ?_, ?_, A, a1, LX_of (fun o q1 q2 => e17 o (by omega) (by omega)) hL, ?_⟩⟩, ?_, ?_, ?_⟩
      · rw [eo 25 (by omega) (by omega) (by omega) (by omega) (by omega) (by omega)]; exact h1
      · rw [eo 25 (by omega) (by omega) (by omega) (by omega) (by omega) (by omega), eo 64 (by omega) (by omega) (by omega) (by omega) (by omega) (by omega)]; exact h2
      · rw [eo 64 (by omega) (by omega) (by omega) (by omega) (by omega) (by omega)]; exact a3
      · rw [eo 27 (by omega) (by omega) (by omega) (by omega) (by omega) (by omega)]; exact h4
      · rw [e29]; exact h1.2
      · rw [upS_s, upd_s, upS_n (by omega), seS_n (by omega), upS_n (by omega), hT 0 (by omega), upS_s, upd_s]
      · rw [upS_n (by omega), seS_n (by omega), upS_n (by omega), hT 0 (by omega), upS_s, upd_s]
      · rw [e29]; exact h1
      · rw [e29, ← h2]; exact cM_congr (fun k hk => e65 k (by omega))
      · exact LM_of (e65 4 (by omega)) (fun k q1 q2 => e65 k q2) a1 a3
      · exact Past_of ⟨by rw [eo 36 (by omega) (by omega) (by omega) (by omega) (by omega) (by omega)], by rw [eo 36 (by omega) (by omega) (by omega) (by omega) (by omega) (by omega)]⟩ (e63 7 (by omega) (by omega)) (fun i hi => eo _ (by omega) (by omega) (by omega) (by omega) (by omega) (by omega)) (eo 68 (by omega) (by omega) (by omega) (by omega) (by omega) (by omega)) (by rw [eo 64 (by omega) (by omega) (by omega) (by omega) (by omega) (by omega)]) h7
      · exact Tape_of (by rw [eo 1 (by omega) (by omega) (by omega) (by omega) (by omega) (by omega)]) (eo 2 (by omega) (by omega) (by omega) (by omega) (by omega) (by omega)) (e63 9 (by omega) (by omega)) (eo 69 (by omega) (by omega) (by omega) (by omega) (by omega) (by omega)) h8
      · exact ⟨by rw [eo 1 (by omega) (by omega) (by omega) (by omega) (by omega) (by omega), e63 14 (by omega) (by omega)]; exact h9.1, by rw [eo 25 (by omega) (by omega) (by omega) (by omega) (by omega) (by omega)]; exact h9.2.1, by rw [e29]; exact h9.2.1, fun i hi => by rw [eo _ (by omega) (by omega) (by omega) (by omega) (by omega) (by omega)]; exact h9.2.2.2 i hi⟩
theorem ag_back (hF : 6000 ≤ F) (hI : Inv S) : Ag f_X9_back (f_X10_back F) [] S := by
  have hI0 := hI
  obtain ⟨h1, h2, ⟨A, a1, a2, a3⟩, h4, h5, h6, h7, h8, h9⟩ := hI
  rcases h6 with ⟨i1, i2 | ⟨i2, i3, i4, B, b1, b2, b3⟩⟩
  · refine ag_ok0 (b := nI 0) hI0 ?_ (fun T U hU h64 h63 => ?_)
    · unfold f_X9_back
      simp (disch := omega) only [fa_lit, nI_ad, nI_mul, nI_cl, inb_nI, nI_ltE, nI_leE, nI_eqE, nI_m1, nI_m1', m1_lt, lt_m1, m1_le, le_m1, eq_self, not_true_eq_false, not_false_eq_true, ↓reduceIte, leT, leF, ltT, ltF, eqT, eqF, decide_true, decide_false, true_and, and_true, Nat.reduceAdd, bI0_i, bI_i, bI_x, bV0_v, bV_v, bV_x, ↓bnd_e, gd_t, i2, and00]
    · have e6 : U 63 6 = nI 0 := by rw [h63, upd_n (by omega), ← i1, i2]
      unfold f_X10_back; rw [bnd_e, show upS T 63 0 (0 : Int32) = U from hU.symm]
      simp (disch := omega) only [fa_lit, nI_ad, nI_mul, nI_cl, inb_nI, nI_ltE, nI_leE, nI_eqE, nI_m1, nI_m1', m1_lt, lt_m1, m1_le, le_m1, eq_self, not_true_eq_false, not_false_eq_true, ↓reduceIte, leT, leF, ltT, ltF, eqT, eqF, decide_true, decide_false, true_and, and_true, Nat.reduceAdd, bI0_i, bI_i, bI_x, bV0_v, bV_v, bV_x, ↓bnd_e, gd_t, e6, and00]
  · obtain ⟨S2, g1, g2, g3⟩ := x_lawcopy (S := seS S 25 (S 29)) (u0 := 3) (u1 := 17) (by omega)
    have eS : ∀ o, o < 3 ∨ 7 < o → o ≠ 25 → S2 o = S o := fun o q1 q2 => by rw [g3 o (by omega), seS_n q2]
    refine ⟨.inl (some (.int (nI 1))), upS S2 36 2 (nI 0), ?_, fun T hT => ?_⟩
    · unfold f_X9_back f_X5_forget
      simp (disch := omega) only [fa_lit, nI_ad, nI_mul, nI_cl, inb_nI, nI_ltE, nI_leE, nI_eqE, nI_m1, nI_m1', m1_lt, lt_m1, m1_le, le_m1, eq_self, not_true_eq_false, not_false_eq_true, ↓reduceIte, leT, leF, ltT, ltF, eqT, eqF, decide_true, decide_false, true_and, and_true, Nat.reduceAdd, bI0_i, bI_i, bI_x, bV0_v, bV_v, bV_x, ↓bnd_e, gd_t, i2, x_copy (S := S) (u0 := 24) (u1 := 28) h1.2 h5, g1, and10]
    · have hL : LX B S2 3 := g2 B b1 (LX_of (fun o q1 q2 => seS_n (by omega)) b2)
      have e6 : (upS T 63 0 (nI 0)) 63 6 = nI 1 := by rw [upS_s, upd_n (by omega), hT 63 (by omega), upS_n (by omega), eS 63 (by omega) (by omega), ← i1, i2]
      have h := m_backL (F := F) 1296 0 F (upS T 63 0 (nI 0)) (by omega) (by omega)
      have eo : ∀ o, o < 75 → o < 3 ∨ 7 < o → o ≠ 25 → o ≠ 36 → o ≠ 63 → o ≠ 64 → (upS (seS (upS T 63 0 (nI 0)) 64 (rngF 0 1296 ((upS T 63 0 (nI 0)) 65) ((upS T 63 0 (nI 0)) 64))) 63 7 (nI 0)) o = S o := by
        intro o q1 q2 q3 q4 q5 q6
        rw [upS_n q5, seS_n q6, upS_n q5, hT o q1, upS_n q4, eS o q2 q3]
      have e63 : ∀ k, k ≠ 0 → k ≠ 7 → (upS (seS (upS T 63 0 (nI 0)) 64 (rngF 0 1296 ((upS T 63 0 (nI 0)) 65) ((upS T 63 0 (nI 0)) 64))) 63 7 (nI 0)) 63 k = S 63 k := by
        intro k q1 q2
        rw [upS_s, upd_n q2, seS_n (by omega), upS_s, upd_n q1, hT 63 (by omega), upS_n (by omega), eS 63 (by omega) (by omega)]
      have e64 : ∀ k, k < 1296 → (upS (seS (upS T 63 0 (nI 0)) 64 (rngF 0 1296 ((upS T 63 0 (nI 0)) 65) ((upS T 63 0 (nI 0)) 64))) 63 7 (nI 0)) 64 k = S 65 k := by
        intro k hk
        rw [upS_n (by omega), seS_s, rng_in (by omega) hk, upS_n (by omega), hT 65 (by omega), upS_n (by omega), eS 65 (by omega) (by omega)]
      have e25 : (upS (seS (upS T 63 0 (nI 0)) 64 (rngF 0 1296 ((upS T 63 0 (nI 0)) 65) ((upS T 63 0 (nI 0)) 64))) 63 7 (nI 0)) 25 = S 29 := by
        rw [upS_n (by omega), seS_n (by omega), upS_n (by omega), hT 25 (by omega), upS_n (by omega), g3 25 (by omega), seS_s]
      have e3 : ∀ o, 3 ≤ o → o ≤ 7 → (upS (seS (upS T 63 0 (nI 0)) 64 (rngF 0 1296 ((upS T 63 0 (nI 0)) 65) ((upS T 63 0 (nI 0)) 64))) 63 7 (nI 0)) o = S2 o := by
        intro o q1 q2
        rw [upS_n (by omega), seS_n (by omega), upS_n (by omega), hT o (by omega), upS_n (by omega)]
      have e36 : (upS (seS (upS T 63 0 (nI 0)) 64 (rngF 0 1296 ((upS T 63 0 (nI 0)) 65) ((upS T 63 0 (nI 0)) 64))) 63 7 (nI 0)) 36 = upd (S 36) 2 (nI 0) := by
        rw [upS_n (by omega), seS_n (by omega), upS_n (by omega), hT 36 (by omega), upS_s, eS 36 (by omega) (by omega)]
      refine ⟨nI 1, _, Eq.trans ?_ h, ?_, rfl, ?_⟩
      · unfold f_X10_back
        rw [bnd_e]
        show (if ¬ (upS T 63 0 (nI 0)) 63 6 = nI 0 then _ else _) = _
        rw [e6, if_pos (by decide)]
        rfl
      · refine ⟨?_, ?_, ⟨B, b1, LX_of (fun o q1 q2 => e3 o (by omega) (by omega)) hL, LM_of (e64 4 (by omega)) (fun k q1 q2 => e64 k q2) b1 b3⟩, ?_, ?_, ?_, ?_, ?_, ?_⟩
        · rw [e25]; exact i3
        · rw [e25, ← i4]; exact cM_congr (fun k hk => e64 k (by omega))
        · rw [eo 27 (by omega) (by omega) (by omega) (by omega) (by omega) (by omega)]; exact h4
        · rw [eo 29 (by omega) (by omega) (by omega) (by omega) (by omega) (by omega)]; exact h5
        · exact Img_of (by rw [eo 0 (by omega) (by omega) (by omega) (by omega) (by omega) (by omega)]) (e63 6 (by omega) (by omega)) (eo 29 (by omega) (by omega) (by omega) (by omega) (by omega) (by omega)) (eo 65 (by omega) (by omega) (by omega) (by omega) (by omega) (by omega)) (fun o q1 q2 => eo o (by omega) (by omega) (by omega) (by omega) (by omega) (by omega)) ⟨i1, Or.inr ⟨i2, i3, i4, B, b1, b2, b3⟩⟩
        · exact Past_none ⟨by rw [e36, upd_n (by omega)], by rw [e36, upd_s]⟩ (by rw [upS_s, upd_s]) (fun i hi => eo _ (by omega) (by omega) (by omega) (by omega) (by omega) (by omega)) h7
        · exact Tape_of (by rw [eo 1 (by omega) (by omega) (by omega) (by omega) (by omega) (by omega)]) (eo 2 (by omega) (by omega) (by omega) (by omega) (by omega) (by omega)) (e63 9 (by omega) (by omega)) (eo 69 (by omega) (by omega) (by omega) (by omega) (by omega) (by omega)) h8
        · exact ⟨by rw [eo 1 (by omega) (by omega) (by omega) (by omega) (by omega) (by omega), e63 14 (by omega) (by omega)]; exact h9.1, by rw [e25]; exact h9.2.2.1, by rw [eo 29 (by omega) (by omega) (by omega) (by omega) (by omega) (by omega)]; exact h9.2.2.1, fun i hi => by rw [eo _ (by omega) (by omega) (by omega) (by omega) (by omega) (by omega)]; exact h9.2.2.2 i hi⟩
      · rw [upS_s, upd_n (by omega), seS_n (by omega), upS_s, upd_s]
theorem x_undoInto {nx sz : Nat} (hn : nx < 12) (e1 : S 36 1 = nI nx) (hs : sz < 12) (e2 : S 36 2 = nI (sz + 1)) (h0 : zb (S (39 + 2 * ((nx + 11) % 12)))) (h1 : zb (S 25)) :
    f_X5_undoInto S = some (.inl (some (.int (nI 1))), upS (upS (seS S 25 (S (39 + 2 * ((nx + 11) % 12)))) 36 1 (nI ((nx + 11) % 12))) 36 2 (nI sz)) := by
  have em : nI (nx + 12) - nI 1 - (nI (nx + 12) - nI 1) / nI 12 * nI 12 = nI ((nx + 11) % 12) := by
    rw [sub1, nI_div (by omega) (by omega), nI_mul, nI_sub (by omega)]; congr 1; omega
  have ey : ((S 36 1 + (12 : Int32)) - (1 : Int32)) - ((S 36 1 + (12 : Int32)) - (1 : Int32)) / (12 : Int32) * (12 : Int32) = nI ((nx + 11) % 12) := by
    rw [e1]
    show nI nx + nI 12 - nI 1 - (nI nx + nI 12 - nI 1) / nI 12 * nI 12 = _
    rw [nI_ad]; exact em
  unfold f_X5_undoInto
  rw [z12, gd_t, bnd_e, ey]
  generalize hp : (nx + 11) % 12 = p at *
  have hp12 : p < 12 := by omega
  match p, hp12 with
  | 0, _ =>
    simp (disch := omega) only [fa_lit, nI_ad, nI_mul, nI_cl, inb_nI, nI_ltE, nI_leE, nI_eqE, nI_m1, nI_m1', m1_lt, lt_m1, m1_le, le_m1, eq_self, not_true_eq_false, not_false_eq_true, ↓reduceIte, leT, leF, ltT, ltF, eqT, eqF, decide_true, decide_false, true_and, and_true, Nat.reduceAdd, bI0_i, bI_i, bI_x, bV0_v, bV_v, bV_x, ↓bnd_e, gd_t, x_copy (S := S) (u0 := 24) (u1 := 38) h1 h0, e2, and10, upS_s, upS_n, upd_n, seS_n, sub1]
  | 1, _ =>
    simp (disch := omega) only [fa_lit, nI_ad, nI_mul, nI_cl, inb_nI, nI_ltE, nI_leE, nI_eqE, nI_m1, nI_m1', m1_lt, lt_m1, m1_le, le_m1, eq_self, not_true_eq_false, not_false_eq_true, ↓reduceIte, leT, leF, ltT, ltF, eqT, eqF, decide_true, decide_false, true_and, and_true, Nat.reduceAdd, bI0_i, bI_i, bI_x, bV0_v, bV_v, bV_x, ↓bnd_e, gd_t, x_copy (S := S) (u0 := 24) (u1 := 40) h1 h0, e2, and10, upS_s, upS_n, upd_n, seS_n, sub1]
  | 2, _ =>
    simp (disch := omega) only [fa_lit, nI_ad, nI_mul, nI_cl, inb_nI, nI_ltE, nI_leE, nI_eqE, nI_m1, nI_m1', m1_lt, lt_m1, m1_le, le_m1, eq_self, not_true_eq_false, not_false_eq_true, ↓reduceIte, leT, leF, ltT, ltF, eqT, eqF, decide_true, decide_false, true_and, and_true, Nat.reduceAdd, bI0_i, bI_i, bI_x, bV0_v, bV_v, bV_x, ↓bnd_e, gd_t, x_copy (S := S) (u0 := 24) (u1 := 42) h1 h0, e2, and10, upS_s, upS_n, upd_n, seS_n, sub1]
  | 3, _ =>
    simp (disch := omega) only [fa_lit, nI_ad, nI_mul, nI_cl, inb_nI, nI_ltE, nI_leE, nI_eqE, nI_m1, nI_m1', m1_lt, lt_m1, m1_le, le_m1, eq_self, not_true_eq_false, not_false_eq_true, ↓reduceIte, leT, leF, ltT, ltF, eqT, eqF, decide_true, decide_false, true_and, and_true, Nat.reduceAdd, bI0_i, bI_i, bI_x, bV0_v, bV_v, bV_x, ↓bnd_e, gd_t, x_copy (S := S) (u0 := 24) (u1 := 44) h1 h0, e2, and10, upS_s, upS_n, upd_n, seS_n, sub1]
  | 4, _ =>
    simp (disch := omega) only [fa_lit, nI_ad, nI_mul, nI_cl, inb_nI, nI_ltE, nI_leE, nI_eqE, nI_m1, nI_m1', m1_lt, lt_m1, m1_le, le_m1, eq_self, not_true_eq_false, not_false_eq_true, ↓reduceIte, leT, leF, ltT, ltF, eqT, eqF, decide_true, decide_false, true_and, and_true, Nat.reduceAdd, bI0_i, bI_i, bI_x, bV0_v, bV_v, bV_x, ↓bnd_e, gd_t, x_copy (S := S) (u0 := 24) (u1 := 46) h1 h0, e2, and10, upS_s, upS_n, upd_n, seS_n, sub1]
  | 5, _ =>
    simp (disch := omega) only [fa_lit, nI_ad, nI_mul, nI_cl, inb_nI, nI_ltE, nI_leE, nI_eqE, nI_m1, nI_m1', m1_lt, lt_m1, m1_le, le_m1, eq_self, not_true_eq_false, not_false_eq_true, ↓reduceIte, leT, leF, ltT, ltF, eqT, eqF, decide_true, decide_false, true_and, and_true, Nat.reduceAdd, bI0_i, bI_i, bI_x, bV0_v, bV_v, bV_x, ↓bnd_e, gd_t, x_copy (S := S) (u0 := 24) (u1 := 48) h1 h0, e2, and10, upS_s, upS_n, upd_n, seS_n, sub1]
  | 6, _ =>
    simp (disch := omega) only [fa_lit, nI_ad, nI_mul, nI_cl, inb_nI, nI_ltE, nI_leE, nI_eqE, nI_m1, nI_m1', m1_lt, lt_m1, m1_le, le_m1, eq_self, not_true_eq_false, not_false_eq_true, ↓reduceIte, leT, leF, ltT, ltF, eqT, eqF, decide_true, decide_false, true_and, and_true, Nat.reduceAdd, bI0_i, bI_i, bI_x, bV0_v, bV_v, bV_x, ↓bnd_e, gd_t, x_copy (S := S) (u0 := 24) (u1 := 50) h1 h0, e2, and10, upS_s, upS_n, upd_n, seS_n, sub1]
  | 7, _ =>
    simp (disch := omega) only [fa_lit, nI_ad, nI_mul, nI_cl, inb_nI, nI_ltE, nI_leE, nI_eqE, nI_m1, nI_m1', m1_lt, lt_m1, m1_le, le_m1, eq_self, not_true_eq_false, not_false_eq_true, ↓reduceIte, leT, leF, ltT, ltF, eqT, eqF, decide_true, decide_false, true_and, and_true, Nat.reduceAdd, bI0_i, bI_i, bI_x, bV0_v, bV_v, bV_x, ↓bnd_e, gd_t, x_copy (S := S) (u0 := 24) (u1 := 52) h1 h0, e2, and10, upS_s, upS_n, upd_n, seS_n, sub1]
  | 8, _ =>
    simp (disch := omega) only [fa_lit, nI_ad, nI_mul, nI_cl, inb_nI, nI_ltE, nI_leE, nI_eqE, nI_m1, nI_m1', m1_lt, lt_m1, m1_le, le_m1, eq_self, not_true_eq_false, not_false_eq_true, ↓reduceIte, leT, leF, ltT, ltF, eqT, eqF, decide_true, decide_false, true_and, and_true, Nat.reduceAdd, bI0_i, bI_i, bI_x, bV0_v, bV_v, bV_x, ↓bnd_e, gd_t, x_copy (S := S) (u0 := 24) (u1 := 54) h1 h0, e2, and10, upS_s, upS_n, upd_n, seS_n, sub1]
  | 9, _ =>
    simp (disch := omega) only [fa_lit, nI_ad, nI_mul, nI_cl, inb_nI, nI_ltE, nI_leE, nI_eqE, nI_m1, nI_m1', m1_lt, lt_m1, m1_le, le_m1, eq_self, not_true_eq_false, not_false_eq_true, ↓reduceIte, leT, leF, ltT, ltF, eqT, eqF, decide_true, decide_false, true_and, and_true, Nat.reduceAdd, bI0_i, bI_i, bI_x, bV0_v, bV_v, bV_x, ↓bnd_e, gd_t, x_copy (S := S) (u0 := 24) (u1 := 56) h1 h0, e2, and10, upS_s, upS_n, upd_n, seS_n, sub1]
  | 10, _ =>
    simp (disch := omega) only [fa_lit, nI_ad, nI_mul, nI_cl, inb_nI, nI_ltE, nI_leE, nI_eqE, nI_m1, nI_m1', m1_lt, lt_m1, m1_le, le_m1, eq_self, not_true_eq_false, not_false_eq_true, ↓reduceIte, leT, leF, ltT, ltF, eqT, eqF, decide_true, decide_false, true_and, and_true, Nat.reduceAdd, bI0_i, bI_i, bI_x, bV0_v, bV_v, bV_x, ↓bnd_e, gd_t, x_copy (S := S) (u0 := 24) (u1 := 58) h1 h0, e2, and10, upS_s, upS_n, upd_n, seS_n, sub1]
  | 11, _ =>
    simp (disch := omega) only [fa_lit, nI_ad, nI_mul, nI_cl, inb_nI, nI_ltE, nI_leE, nI_eqE, nI_m1, nI_m1', m1_lt, lt_m1, m1_le, le_m1, eq_self, not_true_eq_false, not_false_eq_true, ↓reduceIte, leT, leF, ltT, ltF, eqT, eqF, decide_true, decide_false, true_and, and_true, Nat.reduceAdd, bI0_i, bI_i, bI_x, bV0_v, bV_v, bV_x, ↓bnd_e, gd_t, x_copy (S := S) (u0 := 24) (u1 := 60) h1 h0, e2, and10, upS_s, upS_n, upd_n, seS_n, sub1]
theorem ag_undo (hF : 6000 ≤ F) (hI : Inv S) : Ag f_X9_undo (f_X10_undo F) [] S := by
  have hI0 := hI
  obtain ⟨h1, h2, ⟨A, a1, a2, a3⟩, h4, h5, h6, ⟨nx, sz, b1, b2, b3, b4, b5, b6, b7⟩, h8, h9⟩ := hI
  by_cases g : sz = 0
  · subst g
    refine ag_ok0 (b := nI 0) hI0 ?_ (fun T U hU h64 h63 => ?_)
    · have em : nI (nx + 12) - nI 1 - (nI (nx + 12) - nI 1) / nI 12 * nI 12 = nI ((nx + 11) % 12) := by
        rw [sub1, nI_div (by omega) (by omega), nI_mul, nI_sub (by omega)]; congr 1; omega
      have hk : f_X5_undoInto S = some (.inl (some (.int (nI 0))), S) := by
        have ey : ((S 36 1 + (12 : Int32)) - (1 : Int32)) - ((S 36 1 + (12 : Int32)) - (1 : Int32)) / (12 : Int32) * (12 : Int32) = nI ((nx + 11) % 12) := by
          rw [b3]
          show nI nx + nI 12 - nI 1 - (nI nx + nI 12 - nI 1) / nI 12 * nI 12 = _
          rw [nI_ad]; exact em
        unfold f_X5_undoInto f_X5_undoInto_b30
        rw [z12, gd_t, bnd_e, ey]
        generalize hp : (nx + 11) % 12 = p at *
        have hp12 : p < 12 := by omega
        match p, hp12 with
        | 0, _ => simp (disch := omega) only [fa_lit, nI_ad, nI_mul, nI_cl, inb_nI, nI_ltE, nI_leE, nI_eqE, nI_m1, nI_m1', m1_lt, lt_m1, m1_le, le_m1, eq_self, not_true_eq_false, not_false_eq_true, ↓reduceIte, leT, leF, ltT, ltF, eqT, eqF, decide_true, decide_false, true_and, and_true, Nat.reduceAdd, bI0_i, bI_i, bI_x, bV0_v, bV_v, bV_x, ↓bnd_e, gd_t, b4, and00]
        | 1, _ => simp (disch := omega) only [fa_lit, nI_ad, nI_mul, nI_cl, inb_nI, nI_ltE, nI_leE, nI_eqE, nI_m1, nI_m1', m1_lt, lt_m1, m1_le, le_m1, eq_self, not_true_eq_false, not_false_eq_true, ↓reduceIte, leT, leF, ltT, ltF, eqT, eqF, decide_true, decide_false, true_and, and_true, Nat.reduceAdd, bI0_i, bI_i, bI_x, bV0_v, bV_v, bV_x, ↓bnd_e, gd_t, b4, and00]
        | 2, _ => simp (disch := omega) only [fa_lit, nI_ad, nI_mul, nI_cl, inb_nI, nI_ltE, nI_leE, nI_eqE, nI_m1, nI_m1', m1_lt, lt_m1, m1_le, le_m1, eq_self, not_true_eq_false, not_false_eq_true, ↓reduceIte, leT, leF, ltT, ltF, eqT, eqF, decide_true, decide_false, true_and, and_true, Nat.reduceAdd, bI0_i, bI_i, bI_x, bV0_v, bV_v, bV_x, ↓bnd_e, gd_t, b4, and00]
        | 3, _ => simp (disch := omega) only [fa_lit, nI_ad, nI_mul, nI_cl, inb_nI, nI_ltE, nI_leE, nI_eqE, nI_m1, nI_m1', m1_lt, lt_m1, m1_le, le_m1, eq_self, not_true_eq_false, not_false_eq_true, ↓reduceIte, leT, leF, ltT, ltF, eqT, eqF, decide_true, decide_false, true_and, and_true, Nat.reduceAdd, bI0_i, bI_i, bI_x, bV0_v, bV_v, bV_x, ↓bnd_e, gd_t, b4, and00]
        | 4, _ => simp (disch := omega) only [fa_lit, nI_ad, nI_mul, nI_cl, inb_nI, nI_ltE, nI_leE, nI_eqE, nI_m1, nI_m1', m1_lt, lt_m1, m1_le, le_m1, eq_self, not_true_eq_false, not_false_eq_true, ↓reduceIte, leT, leF, ltT, ltF, eqT, eqF, decide_true, decide_false, true_and, and_true, Nat.reduceAdd, bI0_i, bI_i, bI_x, bV0_v, bV_v, bV_x, ↓bnd_e, gd_t, b4, and00]
        | 5, _ => simp (disch := omega) only [fa_lit, nI_ad, nI_mul, nI_cl, inb_nI, nI_ltE, nI_leE, nI_eqE, nI_m1, nI_m1', m1_lt, lt_m1, m1_le, le_m1, eq_self, not_true_eq_false, not_false_eq_true, ↓reduceIte, leT, leF, ltT, ltF, eqT, eqF, decide_true, decide_false, true_and, and_true, Nat.reduceAdd, bI0_i, bI_i, bI_x, bV0_v, bV_v, bV_x, ↓bnd_e, gd_t, b4, and00]
        | 6, _ => simp (disch := omega) only [fa_lit, nI_ad, nI_mul, nI_cl, inb_nI, nI_ltE, nI_leE, nI_eqE, nI_m1, nI_m1', m1_lt, lt_m1, m1_le, le_m1, eq_self, not_true_eq_false, not_false_eq_true, ↓reduceIte, leT, leF, ltT, ltF, eqT, eqF, decide_true, decide_false, true_and, and_true, Nat.reduceAdd, bI0_i, bI_i, bI_x, bV0_v, bV_v, bV_x, ↓bnd_e, gd_t, b4, and00]
        | 7, _ => simp (disch := omega) only [fa_lit, nI_ad, nI_mul, nI_cl, inb_nI, nI_ltE, nI_leE, nI_eqE, nI_m1, nI_m1', m1_lt, lt_m1, m1_le, le_m1, eq_self, not_true_eq_false, not_false_eq_true, ↓reduceIte, leT, leF, ltT, ltF, eqT, eqF, decide_true, decide_false, true_and, and_true, Nat.reduceAdd, bI0_i, bI_i, bI_x, bV0_v, bV_v, bV_x, ↓bnd_e, gd_t, b4, and00]
        | 8, _ => simp (disch := omega) only [fa_lit, nI_ad, nI_mul, nI_cl, inb_nI, nI_ltE, nI_leE, nI_eqE, nI_m1, nI_m1', m1_lt, lt_m1, m1_le, le_m1, eq_self, not_true_eq_false, not_false_eq_true, ↓reduceIte, leT, leF, ltT, ltF, eqT, eqF, decide_true, decide_false, true_and, and_true, Nat.reduceAdd, bI0_i, bI_i, bI_x, bV0_v, bV_v, bV_x, ↓bnd_e, gd_t, b4, and00]
        | 9, _ => simp (disch := omega) only [fa_lit, nI_ad, nI_mul, nI_cl, inb_nI, nI_ltE, nI_leE, nI_eqE, nI_m1, nI_m1', m1_lt, lt_m1, m1_le, le_m1, eq_self, not_true_eq_false, not_false_eq_true, ↓reduceIte, leT, leF, ltT, ltF, eqT, eqF, decide_true, decide_false, true_and, and_true, Nat.reduceAdd, bI0_i, bI_i, bI_x, bV0_v, bV_v, bV_x, ↓bnd_e, gd_t, b4, and00]
        | 10, _ => simp (disch := omega) only [fa_lit, nI_ad, nI_mul, nI_cl, inb_nI, nI_ltE, nI_leE, nI_eqE, nI_m1, nI_m1', m1_lt, lt_m1, m1_le, le_m1, eq_self, not_true_eq_false, not_false_eq_true, ↓reduceIte, leT, leF, ltT, ltF, eqT, eqF, decide_true, decide_false, true_and, and_true, Nat.reduceAdd, bI0_i, bI_i, bI_x, bV0_v, bV_v, bV_x, ↓bnd_e, gd_t, b4, and00]
        | 11, _ => simp (disch := omega) only [fa_lit, nI_ad, nI_mul, nI_cl, inb_nI, nI_ltE, nI_leE, nI_eqE, nI_m1, nI_m1', m1_lt, lt_m1, m1_le, le_m1, eq_self, not_true_eq_false, not_false_eq_true, ↓reduceIte, leT, leF, ltT, ltF, eqT, eqF, decide_true, decide_false, true_and, and_true, Nat.reduceAdd, bI0_i, bI_i, bI_x, bV0_v, bV_v, bV_x, ↓bnd_e, gd_t, b4, and00]
      unfold f_X9_undo
      simp (disch := omega) only [fa_lit, nI_ad, nI_mul, nI_cl, inb_nI, nI_ltE, nI_leE, nI_eqE, nI_m1, nI_m1', m1_lt, lt_m1, m1_le, le_m1, eq_self, not_true_eq_false, not_false_eq_true, ↓reduceIte, leT, leF, ltT, ltF, eqT, eqF, decide_true, decide_false, true_and, and_true, Nat.reduceAdd, bI0_i, bI_i, bI_x, bV0_v, bV_v, bV_x, ↓bnd_e, gd_t, hk, and00]
    · have e7 : U 63 7 = nI 0 := by rw [h63, upd_n (by omega)]; exact b5
      unfold f_X10_undo; rw [bnd_e, show upS T 63 0 (0 : Int32) = U from hU.symm]
      simp (disch := omega) only [fa_lit, nI_ad, nI_mul, nI_cl, inb_nI, nI_ltE, nI_leE, nI_eqE, nI_m1, nI_m1', m1_lt, lt_m1, m1_le, le_m1, eq_self, not_true_eq_false, not_false_eq_true, ↓reduceIte, leT, leF, ltT, ltF, eqT, eqF, decide_true, decide_false, true_and, and_true, Nat.reduceAdd, bI0_i, bI_i, bI_x, bV0_v, bV_v, bV_x, ↓bnd_e, gd_t, e7, and00]
  · obtain ⟨s, rfl⟩ : ∃ s, sz = s + 1 := ⟨sz - 1, by omega⟩
    obtain ⟨c1, c2, c3⟩ := b7 s (by omega)
    have ei : (nx + 12 - (s + 1) + s) % 12 = (nx + 11) % 12 := by omega
    rw [ei] at c1 c2
    have hx := x_undoInto b1 b3 (by omega : s < 12) b4 (b6 ((nx + 11) % 12) (by omega)) h1.2
    refine ⟨.inl (some (.int (nI 1))), upS (upS (seS S 25 (S (39 + 2 * ((nx + 11) % 12)))) 36 1 (nI ((nx + 11) % 12))) 36 2 (nI s), ?_, fun T hT => ?_⟩
    · unfold f_X9_undo
      rw [hx]
      simp (disch := omega) only [fa_lit, nI_ad, nI_mul, nI_cl, inb_nI, nI_ltE, nI_leE, nI_eqE, nI_m1, nI_m1', m1_lt, lt_m1, m1_le, le_m1, eq_self, not_true_eq_false, not_false_eq_true, ↓reduceIte, leT, leF, ltT, ltF, eqT, eqF, decide_true, decide_false, true_and, and_true, Nat.reduceAdd, bI0_i, bI_i, bI_x, bV0_v, bV_v, bV_x, ↓bnd_e, gd_t, and10]
    · have eT : ∀ o, o < 75 → o ≠ 25 → o ≠ 36 → T o = S o := fun o q1 q2 q3 => by rw [hT o q1, upS_n q3, upS_n q3, seS_n q2]
      have e7 : (upS T 63 0 (nI 0)) 63 7 = nI (s + 1) := by rw [upS_s, upd_n (by omega), eT 63 (by omega) (by omega) (by omega)]; exact b5
      have h := m_undoL (F := F) (r := s) (by omega) 447 0 F (upS (upS T 63 0 (nI 0)) 63 7 (nI s)) (by omega) (by omega) (by rw [upS_s, upd_s])
      have ew : rngF 0 447 (fun j => (upS (upS T 63 0 (nI 0)) 63 7 (nI s)) 68 (447 * s + j)) ((upS (upS T 63 0 (nI 0)) 63 7 (nI s)) 64) = wO (S 64) (S (39 + 2 * ((nx + 11) % 12))) := by
        rw [upS_n (by omega), upS_n (by omega), upS_n (by omega), upS_n (by omega), eT 68 (by omega) (by omega) (by omega), eT 64 (by omega) (by omega) (by omega), ← c2]
        conv => lhs; arg 4; rw [← wO_self (w := S 64)]
        exact rng_wO c3
      rw [ew] at h
      refine ⟨nI 1, _, Eq.trans ?_ h, ?_, rfl, ?_⟩
      · unfold f_X10_undo
        rw [bnd_e]
        show (if ¬ (upS T 63 0 (nI 0)) 63 7 = nI 0 then bnd (upS (upS T 63 0 (nI 0)) 63 7 ((upS T 63 0 (nI 0)) 63 7 - nI 1)) _ else _) = _
        rw [e7, if_pos (by rw [nI_eqE (by omega) (by omega)]; omega), bnd_e, sub1]
        rfl
      · have eo : ∀ o, o < 75 → o ≠ 25 → o ≠ 36 → o ≠ 63 → o ≠ 64 → (seS (upS (upS T 63 0 (nI 0)) 63 7 (nI s)) 64 (wO (S 64) (S (39 + 2 * ((nx + 11) % 12))))) o = S o := by
          intro o q1 q2 q3 q4 q5
          rw [seS_n q5, upS_n q4, upS_n q4, eT o q1 q2 q3]
        have e63 : ∀ k, k ≠ 0 → k ≠ 7 → (seS (upS (upS T 63 0 (nI 0)) 63 7 (nI s)) 64 (wO (S 64) (S (39 + 2 * ((nx + 11) % 12))))) 63 k = S 63 k := by
          intro k q1 q2
          rw [seS_n (by omega), upS_s, upd_n q2, upS_s, upd_n q1, eT 63 (by omega) (by omega) (by omega)]
        have e25 : (seS (upS (upS T 63 0 (nI 0)) 63 7 (nI s)) 64 (wO (S 64) (S (39 + 2 * ((nx + 11) % 12))))) 25 = S (39 + 2 * ((nx + 11) % 12)) := by
          rw [seS_n (by omega), upS_n (by omega), upS_n (by omega), hT 25 (by omega), upS_n (by omega), upS_n (by omega), seS_s]
        have e36 : (seS (upS (upS T 63 0 (nI 0)) 63 7 (nI s)) 64 (wO (S 64) (S (39 + 2 * ((nx + 11) % 12))))) 36 = upd (upd (S 36) 1 (nI ((nx + 11) % 12))) 2 (nI s) := by
          rw [seS_n (by omega), upS_n (by omega), upS_n (by omega), hT 36 (by omega), upS_s, upS_s, seS_n (by omega)]
        refine ⟨by rw [e25]; exact c1, by rw [e25, seS_s, cM_wO c1.2], ⟨A, a1, LX_of (fun o q1 q2 => eo o (by omega) (by omega) (by omega) (by omega) (by omega)) a2, by rw [seS_s]; exact LM_wO a1 a3⟩, ?_, ?_, ?_, ?_, ?_, ?_⟩
        · rw [eo 27 (by omega) (by omega) (by omega) (by omega) (by omega)]; exact h4
        · rw [eo 29 (by omega) (by omega) (by omega) (by omega) (by omega)]; exact h5
        · exact Img_of (by rw [eo 0 (by omega) (by omega) (by omega) (by omega) (by omega)]) (e63 6 (by omega) (by omega)) (eo 29 (by omega) (by omega) (by omega) (by omega) (by omega)) (eo 65 (by omega) (by omega) (by omega) (by omega) (by omega)) (fun o q1 q2 => eo o (by omega) (by omega) (by omega) (by omega) (by omega)) h6
        · refine ⟨(nx + 11) % 12, s, by omega, by omega, by rw [e36, upd_n (by omega), upd_s], by rw [e36, upd_s], by rw [seS_n (by omega), upS_s, upd_s], fun i hi => by rw [eo _ (by omega) (by omega) (by omega) (by omega) (by omega)]; exact b6 i hi, fun j hj => ?_⟩
          have ej : ((nx + 11) % 12 + 12 - s + j) % 12 = (nx + 12 - (s + 1) + j) % 12 := by omega
          rw [ej, eo (39 + 2 * ((nx + 12 - (s + 1) + j) % 12)) (by omega) (by omega) (by omega) (by omega) (by omega), eo 68 (by omega) (by omega) (by omega) (by omega) (by omega), seS_s, wO_out (Or.inl rfl)]
          exact b7 j (by omega)
        · exact Tape_of (by rw [eo 1 (by omega) (by omega) (by omega) (by omega) (by omega)]) (eo 2 (by omega) (by omega) (by omega) (by omega) (by omega)) (e63 9 (by omega) (by omega)) (eo 69 (by omega) (by omega) (by omega) (by omega) (by omega)) h8
        · exact ⟨by rw [eo 1 (by omega) (by omega) (by omega) (by omega) (by omega), e63 14 (by omega) (by omega)]; exact h9.1, by rw [e25]; exact h9.2.2.2 _ (by omega), by rw [eo 29 (by omega) (by omega) (by omega) (by omega) (by omega)]; exact h9.2.2.1, fun i hi => by rw [eo _ (by omega) (by omega) (by omega) (by omega) (by omega)]; exact h9.2.2.2 i hi⟩
      · rw [seS_n (by omega), upS_s, upd_n (by omega), upS_s, upd_s]
end O
