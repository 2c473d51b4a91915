/-! calls that only look, third lot -/
section O
variable {F : Nat} {S : mS}
theorem ag_ro2 {fX fM : mS → Option mR} {cs : List Nat} (hI : Inv S)
    (h : ∀ n nh nk A, n ≤ 10 → S 25 12 = nI n → nh ≤ 6 → S 25 13 = nI nh → nk ≤ 4 → S 25 14 = nI nk → LX A S 3 → LW A → Rg (S 25) →
      ∃ r1, (∃ p q, fX S = some (r1, sX S p q)) ∧ ∀ U, cM (U 64) = S 25 → LM A (U 64) → U 63 7 = S 36 2 → U 63 14 = S 1 3 → ∃ b t a b' q, (∀ T, U = upS T 63 0 (nI 0) → fM T = some (.inl (some (.int b)), sM (upS U 63 0 t) a b' q)) ∧ Res r1 b t cs) : Ag fX fM cs S := by
  have hI0 := hI
  obtain ⟨h1, h2, ⟨A, a1, a2, a3⟩, h4, -, -, h7, -, h9⟩ := hI
  obtain ⟨nx, sz, -, -, -, z4, z5, -⟩ := h7
  obtain ⟨n, hn, en⟩ := h1.n12
  obtain ⟨nh, hnh, enh⟩ := h1.n13
  obtain ⟨nk, hnk, enk⟩ := h1.n14
  obtain ⟨r1, ⟨p, q, hX⟩, hM⟩ := h n nh nk A hn en hnh enh hnk enk a2 a1 h1
  refine ⟨r1, _, hX, fun T hT => ?_⟩
  have eU : (upS T 63 0 (nI 0)) 64 = S 64 := by rw [upS_n (by omega), hT 64 (by omega), sX_n (by omega) (by omega)]
  have e63 : ∀ k, k ≠ 0 → (upS T 63 0 (nI 0)) 63 k = S 63 k := fun k hk => by rw [upS_s, upd_n hk, hT 63 (by omega), sX_n (by omega) (by omega)]
  obtain ⟨b, t, a, b', q', hf, hr⟩ := hM (upS T 63 0 (nI 0)) (by rw [eU]; exact h2) (by rw [eU]; exact a3) (by rw [e63 7 (by omega), z5, z4]) (by rw [e63 14 (by omega), h9.1])
  refine ⟨b, _, hf T rfl, ?_, ?_⟩
  · refine Inv_same hI0 ⟨fun o ho => ?_, fun k hk => ?_, ?_⟩
    · unfold keepO at ho
      rw [sM_n (by omega) (by omega), upS_n (by omega), upS_n (by omega), hT o (by omega), sX_n (by omega) (by omega)]
    · rw [sM_63, upd_n (by omega), upd_n (by omega), upS_s, upd_n (by omega), upS_s, upd_n (by omega), hT 63 (by omega), sX_n (by omega) (by omega)]
    · rw [sM_n (by omega) (by omega), upS_n (by omega), upS_n (by omega), hT 27 (by omega), sX_n (by omega) (by omega)]; exact h4
  · have e : (sM (upS (upS T 63 0 (nI 0)) 63 0 t) a b' q') 63 0 = t := by
      rw [sM_63, upd_n (by omega), upd_n (by omega), upS_s, upd_s]
    rw [e]; exact hr
theorem ag_fault (hI : Inv S) : Ag f_X9_fault f_X10_fault [] S := by
  refine ag_ro2 hI (fun n nh nk A hn en hnh enh hnk enk hX hW hR => ?_)
  refine ⟨.inl (some (.int (S 1 3))), idX ?_, fun U hC hM h7 h14 => res_ok' fun T hU => ?_⟩
  · unfold f_X9_fault f_X8_firstWrong
    simp (disch := omega) only [fa_lit, nI_ad, nI_mul, nI_cl, inb_nI, nI_ltE, nI_leE, nI_eqE, nI_m1, nI_m1', m1_lt, lt_m1, m1_le, le_m1, eq_self, not_true_eq_false, not_false_eq_true, ↓reduceIte, leT, leF, ltT, ltF, eqT, eqF, decide_true, decide_false, true_and, and_true, Nat.reduceAdd, bI0_i, bI_i, bI_x, bV0_v, bV_v, bV_x, ↓bnd_e, gd_t]
  · unfold f_X10_fault; rw [bnd_e, show upS T 63 0 (0 : Int32) = U from hU.symm]
    rw [h14]
theorem ag_log {p1 p2 : Int32} (hI : Inv S) : Ag (f_X9_log p1 p2) (f_X10_log p1 p2) [4] S := by
  refine ag_ro hI (fun n nh nk A hn en hnh enh hnk enk hX hW hR => ?_)
  obtain ⟨nr, hnr, enr⟩ := hR.n15
  by_cases g : nI 0 ≤ p2 ∧ p2 ≤ nI 5
  · have d : decide (nI 0 ≤ p2 ∧ p2 ≤ nI 5) = true := decide_eq_true g
    obtain ⟨w, -, hw, rfl⟩ := withinN (by omega) g (by omega)
    by_cases g1 : ∃ r, r < nr ∧ p1 = nI r
    · obtain ⟨r, hr, rfl⟩ := g1
      refine ⟨.inl (some (.int (S 25 (86 + r * 6 + w)))), idX ?_, fun U hC hM => res_ok' fun T hU => ?_⟩
      · unfold f_X9_log f_X9_log_b49
        simp (disch := omega) only [fa_lit, nI_ad, nI_mul, nI_cl, inb_nI, nI_ltE, nI_leE, nI_eqE, nI_m1, nI_m1', m1_lt, lt_m1, m1_le, le_m1, eq_self, not_true_eq_false, not_false_eq_true, ↓reduceIte, leT, leF, ltT, ltF, eqT, eqF, decide_true, decide_false, true_and, and_true, Nat.reduceAdd, bI0_i, bI_i, bI_x, bV0_v, bV_v, bV_x, ↓bnd_e, gd_t, x_at, enr, x_ofRow]
      · have e15 := w15 (U 64)
        rw [hC, enr] at e15
        unfold f_X10_log f_X10_log_b20 f_X10_log_b56; rw [bnd_e, show upS T 63 0 (0 : Int32) = U from hU.symm]
        simp (disch := omega) only [fa_lit, nI_ad, nI_mul, nI_cl, inb_nI, nI_ltE, nI_leE, nI_eqE, nI_m1, nI_m1', m1_lt, lt_m1, m1_le, le_m1, eq_self, not_true_eq_false, not_false_eq_true, ↓reduceIte, leT, leF, ltT, ltF, eqT, eqF, decide_true, decide_false, true_and, and_true, Nat.reduceAdd, bI0_i, bI_i, bI_x, bV0_v, bV_v, bV_x, ↓bnd_e, gd_t, m_in, m_throw0, bT, e15, le_sub1, m_ofLog, hC]
    · refine ⟨.inl (some (.int (-nI 1))), idX ?_, fun U hC hM => res_ok' fun T hU => ?_⟩
      · unfold f_X9_log f_X9_log_b36 f_X9_log_b49
        rcases bad_idx (by omega) g1 with g2 | g2 <;> simp (disch := omega) only [fa_lit, nI_ad, nI_mul, nI_cl, inb_nI, nI_ltE, nI_leE, nI_eqE, nI_m1, nI_m1', m1_lt, lt_m1, m1_le, le_m1, eq_self, not_true_eq_false, not_false_eq_true, ↓reduceIte, leT, leF, ltT, ltF, eqT, eqF, decide_true, decide_false, true_and, and_true, Nat.reduceAdd, bI0_i, bI_i, bI_x, bV0_v, bV_v, bV_x, ↓bnd_e, gd_t, x_at, enr, g2, ite_self]
      · have e15 := w15 (U 64)
        rw [hC, enr] at e15
        have d2 : decide (nI 0 ≤ p1 ∧ p1 < nI nr) = false := by
          apply decide_eq_false
          rw [nle_lt]
          exact fun g => g1 (lt_nI (by omega) g.1 g.2)
        unfold f_X10_log f_X10_log_b20 f_X10_log_b56; rw [bnd_e, show upS T 63 0 (0 : Int32) = U from hU.symm]
        simp (disch := omega) only [fa_lit, nI_ad, nI_mul, nI_cl, inb_nI, nI_ltE, nI_leE, nI_eqE, nI_m1, nI_m1', m1_lt, lt_m1, m1_le, le_m1, eq_self, not_true_eq_false, not_false_eq_true, ↓reduceIte, leT, leF, ltT, ltF, eqT, eqF, decide_true, decide_false, true_and, and_true, Nat.reduceAdd, bI0_i, bI_i, bI_x, bV0_v, bV_v, bV_x, ↓bnd_e, gd_t, m_in, m_throw0, bT, bF, e15, le_sub1, d2]
  · refine ⟨.inr 4, idX ?_, fun U hC hM => res_ex (b := nI 0) 0 rfl (by omega) fun T hU => ?_⟩
    · unfold f_X9_log f_X9_log_b9
      by_cases g1 : p2 < nI 0
      · simp (disch := omega) only [fa_lit, nI_ad, nI_mul, nI_cl, inb_nI, nI_ltE, nI_leE, nI_eqE, nI_m1, nI_m1', m1_lt, lt_m1, m1_le, le_m1, eq_self, not_true_eq_false, not_false_eq_true, ↓reduceIte, leT, leF, ltT, ltF, eqT, eqF, decide_true, decide_false, true_and, and_true, Nat.reduceAdd, bI0_i, bI_i, bI_x, bV0_v, bV_v, bV_x, ↓bnd_e, gd_t, g1]
      · have g2 : ¬ p2 ≤ nI 5 := fun q => g ⟨by rw [nle_lt]; exact g1, q⟩
        simp (disch := omega) only [fa_lit, nI_ad, nI_mul, nI_cl, inb_nI, nI_ltE, nI_leE, nI_eqE, nI_m1, nI_m1', m1_lt, lt_m1, m1_le, le_m1, eq_self, not_true_eq_false, not_false_eq_true, ↓reduceIte, leT, leF, ltT, ltF, eqT, eqF, decide_true, decide_false, true_and, and_true, Nat.reduceAdd, bI0_i, bI_i, bI_x, bV0_v, bV_v, bV_x, ↓bnd_e, gd_t, g1, g2]
    · have d : decide (nI 0 ≤ p2 ∧ p2 ≤ nI 5) = false := decide_eq_false g
      unfold f_X10_log f_X10_log_b20 f_X10_log_b56; rw [bnd_e, show upS T 63 0 (0 : Int32) = U from hU.symm]
      simp (disch := omega) only [fa_lit, nI_ad, nI_mul, nI_cl, inb_nI, nI_ltE, nI_leE, nI_eqE, nI_m1, nI_m1', m1_lt, lt_m1, m1_le, le_m1, eq_self, not_true_eq_false, not_false_eq_true, ↓reduceIte, leT, leF, ltT, ltF, eqT, eqF, decide_true, decide_false, true_and, and_true, Nat.reduceAdd, bI0_i, bI_i, bI_x, bV0_v, bV_v, bV_x, ↓bnd_e, gd_t, m_in, m_throw, d, bF]
theorem ag_count {p1 : Int32} (hF : 6000 ≤ F) (hI : Inv S) : Ag (f_X9_count F p1) (f_X10_count F p1) [] S := by
  refine ag_ro2 hI (fun n nh nk A hn en hnh enh hnk enk hX hW hR => ?_)
  by_cases g : ∃ j, j < 17 ∧ p1 = nI j
  · obtain ⟨j, hj, rfl⟩ := g
    match j, hj with
    | 0, _ =>
      refine ⟨.inl (some (.int (S 25 12))), idX ?_, fun U hC hM h7 h14 => res_ok' fun T hU => ?_⟩
      · unfold f_X9_count
        simp (disch := omega) only [fa_lit, nI_ad, nI_mul, nI_cl, inb_nI, nI_ltE, nI_leE, nI_eqE, nI_m1, nI_m1', m1_lt, lt_m1, m1_le, le_m1, eq_self, not_true_eq_false, not_false_eq_true, ↓reduceIte, leT, leF, ltT, ltF, eqT, eqF, decide_true, decide_false, true_and, and_true, Nat.reduceAdd, bI0_i, bI_i, bI_x, bV0_v, bV_v, bV_x, ↓bnd_e, gd_t, x_at]
      · have e := w0 (U 64)
        rw [hC] at e
        unfold f_X10_count f_X10_count_b148; rw [bnd_e, show upS T 63 0 (0 : Int32) = U from hU.symm]
        simp (disch := omega) only [fa_lit, nI_ad, nI_mul, nI_cl, inb_nI, nI_ltE, nI_leE, nI_eqE, nI_m1, nI_m1', m1_lt, lt_m1, m1_le, le_m1, eq_self, not_true_eq_false, not_false_eq_true, ↓reduceIte, leT, leF, ltT, ltF, eqT, eqF, decide_true, decide_false, true_and, and_true, Nat.reduceAdd, bI0_i, bI_i, bI_x, bV0_v, bV_v, bV_x, ↓bnd_e, gd_t, m_in, bT, e]
    | 1, _ =>
      refine ⟨.inl (some (.int (S 25 13))), idX ?_, fun U hC hM h7 h14 => res_ok' fun T hU => ?_⟩
      · unfold f_X9_count
        simp (disch := omega) only [fa_lit, nI_ad, nI_mul, nI_cl, inb_nI, nI_ltE, nI_leE, nI_eqE, nI_m1, nI_m1', m1_lt, lt_m1, m1_le, le_m1, eq_self, not_true_eq_false, not_false_eq_true, ↓reduceIte, leT, leF, ltT, ltF, eqT, eqF, decide_true, decide_false, true_and, and_true, Nat.reduceAdd, bI0_i, bI_i, bI_x, bV0_v, bV_v, bV_x, ↓bnd_e, gd_t, x_at]
      · have e := w1 (U 64)
        rw [hC] at e
        unfold f_X10_count f_X10_count_b148; rw [bnd_e, show upS T 63 0 (0 : Int32) = U from hU.symm]
        simp (disch := omega) only [fa_lit, nI_ad, nI_mul, nI_cl, inb_nI, nI_ltE, nI_leE, nI_eqE, nI_m1, nI_m1', m1_lt, lt_m1, m1_le, le_m1, eq_self, not_true_eq_false, not_false_eq_true, ↓reduceIte, leT, leF, ltT, ltF, eqT, eqF, decide_true, decide_false, true_and, and_true, Nat.reduceAdd, bI0_i, bI_i, bI_x, bV0_v, bV_v, bV_x, ↓bnd_e, gd_t, m_in, bT, e]
    | 2, _ =>
      refine ⟨.inl (some (.int (S 25 14))), idX ?_, fun U hC hM h7 h14 => res_ok' fun T hU => ?_⟩
      · unfold f_X9_count
        simp (disch := omega) only [fa_lit, nI_ad, nI_mul, nI_cl, inb_nI, nI_ltE, nI_leE, nI_eqE, nI_m1, nI_m1', m1_lt, lt_m1, m1_le, le_m1, eq_self, not_true_eq_false, not_false_eq_true, ↓reduceIte, leT, leF, ltT, ltF, eqT, eqF, decide_true, decide_false, true_and, and_true, Nat.reduceAdd, bI0_i, bI_i, bI_x, bV0_v, bV_v, bV_x, ↓bnd_e, gd_t, x_at]
      · have e := w2 (U 64)
        rw [hC] at e
        unfold f_X10_count f_X10_count_b148; rw [bnd_e, show upS T 63 0 (0 : Int32) = U from hU.symm]
        simp (disch := omega) only [fa_lit, nI_ad, nI_mul, nI_cl, inb_nI, nI_ltE, nI_leE, nI_eqE, nI_m1, nI_m1', m1_lt, lt_m1, m1_le, le_m1, eq_self, not_true_eq_false, not_false_eq_true, ↓reduceIte, leT, leF, ltT, ltF, eqT, eqF, decide_true, decide_false, true_and, and_true, Nat.reduceAdd, bI0_i, bI_i, bI_x, bV0_v, bV_v, bV_x, ↓bnd_e, gd_t, m_in, bT, e]
    | 3, _ =>
      refine ⟨.inl (some (.int (S 25 11))), idX ?_, fun U hC hM h7 h14 => res_ok' fun T hU => ?_⟩
      · unfold f_X9_count
        simp (disch := omega) only [fa_lit, nI_ad, nI_mul, nI_cl, inb_nI, nI_ltE, nI_leE, nI_eqE, nI_m1, nI_m1', m1_lt, lt_m1, m1_le, le_m1, eq_self, not_true_eq_false, not_false_eq_true, ↓reduceIte, leT, leF, ltT, ltF, eqT, eqF, decide_true, decide_false, true_and, and_true, Nat.reduceAdd, bI0_i, bI_i, bI_x, bV0_v, bV_v, bV_x, ↓bnd_e, gd_t, x_at]
      · have e := w3 (U 64)
        rw [hC] at e
        unfold f_X10_count f_X10_count_b148; rw [bnd_e, show upS T 63 0 (0 : Int32) = U from hU.symm]
        simp (disch := omega) only [fa_lit, nI_ad, nI_mul, nI_cl, inb_nI, nI_ltE, nI_leE, nI_eqE, nI_m1, nI_m1', m1_lt, lt_m1, m1_le, le_m1, eq_self, not_true_eq_false, not_false_eq_true, ↓reduceIte, leT, leF, ltT, ltF, eqT, eqF, decide_true, decide_false, true_and, and_true, Nat.reduceAdd, bI0_i, bI_i, bI_x, bV0_v, bV_v, bV_x, ↓bnd_e, gd_t, m_in, bT, e]
    | 4, _ =>
      refine ⟨.inl (some (.int (S 3 6))), idX ?_, fun U hC hM h7 h14 => res_ok' fun T hU => ?_⟩
      · unfold f_X9_count f_X2_size
        simp (disch := omega) only [fa_lit, nI_ad, nI_mul, nI_cl, inb_nI, nI_ltE, nI_leE, nI_eqE, nI_m1, nI_m1', m1_lt, lt_m1, m1_le, le_m1, eq_self, not_true_eq_false, not_false_eq_true, ↓reduceIte, leT, leF, ltT, ltF, eqT, eqF, decide_true, decide_false, true_and, and_true, Nat.reduceAdd, bI0_i, bI_i, bI_x, bV0_v, bV_v, bV_x, ↓bnd_e, gd_t]
      · unfold f_X10_count f_X10_count_b94; rw [bnd_e, show upS T 63 0 (0 : Int32) = U from hU.symm]
        match A, hX, hM with
        | none, hX, hM =>
          have e1 : S 3 6 = -nI 1 := hX
          have e2 : U 64 4 = nI 0 := hM
          simp (disch := omega) only [fa_lit, nI_ad, nI_mul, nI_cl, inb_nI, nI_ltE, nI_leE, nI_eqE, nI_m1, nI_m1', m1_lt, lt_m1, m1_le, le_m1, eq_self, not_true_eq_false, not_false_eq_true, ↓reduceIte, leT, leF, ltT, ltF, eqT, eqF, decide_true, decide_false, true_and, and_true, Nat.reduceAdd, bI0_i, bI_i, bI_x, bV0_v, bV_v, bV_x, ↓bnd_e, gd_t, e1, e2]
        | some (n, kd, nm, en, cd), hX, hM =>
          have e1 : S 3 6 = nI n := hX.1
          have e2 : U 64 4 = nI 1 := hM.1
          have e3 : U 64 447 = nI n := hM.2.1
          simp (disch := omega) only [fa_lit, nI_ad, nI_mul, nI_cl, inb_nI, nI_ltE, nI_leE, nI_eqE, nI_m1, nI_m1', m1_lt, lt_m1, m1_le, le_m1, eq_self, not_true_eq_false, not_false_eq_true, ↓reduceIte, leT, leF, ltT, ltF, eqT, eqF, decide_true, decide_false, true_and, and_true, Nat.reduceAdd, bI0_i, bI_i, bI_x, bV0_v, bV_v, bV_x, ↓bnd_e, gd_t, e1, e2, e3]
    | 5, _ =>
      refine ⟨.inl (some (.int (S 25 3))), idX ?_, fun U hC hM h7 h14 => res_ok' fun T hU => ?_⟩
      · unfold f_X9_count
        simp (disch := omega) only [fa_lit, nI_ad, nI_mul, nI_cl, inb_nI, nI_ltE, nI_leE, nI_eqE, nI_m1, nI_m1', m1_lt, lt_m1, m1_le, le_m1, eq_self, not_true_eq_false, not_false_eq_true, ↓reduceIte, leT, leF, ltT, ltF, eqT, eqF, decide_true, decide_false, true_and, and_true, Nat.reduceAdd, bI0_i, bI_i, bI_x, bV0_v, bV_v, bV_x, ↓bnd_e, gd_t, x_at]
      · have e := w5 (U 64)
        rw [hC] at e
        unfold f_X10_count f_X10_count_b148; rw [bnd_e, show upS T 63 0 (0 : Int32) = U from hU.symm]
        simp (disch := omega) only [fa_lit, nI_ad, nI_mul, nI_cl, inb_nI, nI_ltE, nI_leE, nI_eqE, nI_m1, nI_m1', m1_lt, lt_m1, m1_le, le_m1, eq_self, not_true_eq_false, not_false_eq_true, ↓reduceIte, leT, leF, ltT, ltF, eqT, eqF, decide_true, decide_false, true_and, and_true, Nat.reduceAdd, bI0_i, bI_i, bI_x, bV0_v, bV_v, bV_x, ↓bnd_e, gd_t, m_in, bT, e]
    | 6, _ =>
      refine ⟨.inl (some (.int (S 25 4))), idX ?_, fun U hC hM h7 h14 => res_ok' fun T hU => ?_⟩
      · unfold f_X9_count
        simp (disch := omega) only [fa_lit, nI_ad, nI_mul, nI_cl, inb_nI, nI_ltE, nI_leE, nI_eqE, nI_m1, nI_m1', m1_lt, lt_m1, m1_le, le_m1, eq_self, not_true_eq_false, not_false_eq_true, ↓reduceIte, leT, leF, ltT, ltF, eqT, eqF, decide_true, decide_false, true_and, and_true, Nat.reduceAdd, bI0_i, bI_i, bI_x, bV0_v, bV_v, bV_x, ↓bnd_e, gd_t, x_at]
      · have e := w6 (U 64)
        rw [hC] at e
        unfold f_X10_count f_X10_count_b148; rw [bnd_e, show upS T 63 0 (0 : Int32) = U from hU.symm]
        simp (disch := omega) only [fa_lit, nI_ad, nI_mul, nI_cl, inb_nI, nI_ltE, nI_leE, nI_eqE, nI_m1, nI_m1', m1_lt, lt_m1, m1_le, le_m1, eq_self, not_true_eq_false, not_false_eq_true, ↓reduceIte, leT, leF, ltT, ltF, eqT, eqF, decide_true, decide_false, true_and, and_true, Nat.reduceAdd, bI0_i, bI_i, bI_x, bV0_v, bV_v, bV_x, ↓bnd_e, gd_t, m_in, bT, e]
    | 7, _ =>
      refine ⟨.inl (some (.int (S 25 0))), idX ?_, fun U hC hM h7 h14 => res_ok' fun T hU => ?_⟩
      · unfold f_X9_count
        simp (disch := omega) only [fa_lit, nI_ad, nI_mul, nI_cl, inb_nI, nI_ltE, nI_leE, nI_eqE, nI_m1, nI_m1', m1_lt, lt_m1, m1_le, le_m1, eq_self, not_true_eq_false, not_false_eq_true, ↓reduceIte, leT, leF, ltT, ltF, eqT, eqF, decide_true, decide_false, true_and, and_true, Nat.reduceAdd, bI0_i, bI_i, bI_x, bV0_v, bV_v, bV_x, ↓bnd_e, gd_t, x_at]
      · have e := w7 (U 64)
        rw [hC] at e
        unfold f_X10_count f_X10_count_b148; rw [bnd_e, show upS T 63 0 (0 : Int32) = U from hU.symm]
        simp (disch := omega) only [fa_lit, nI_ad, nI_mul, nI_cl, inb_nI, nI_ltE, nI_leE, nI_eqE, nI_m1, nI_m1', m1_lt, lt_m1, m1_le, le_m1, eq_self, not_true_eq_false, not_false_eq_true, ↓reduceIte, leT, leF, ltT, ltF, eqT, eqF, decide_true, decide_false, true_and, and_true, Nat.reduceAdd, bI0_i, bI_i, bI_x, bV0_v, bV_v, bV_x, ↓bnd_e, gd_t, m_in, bT, e]
    | 8, _ =>
      refine ⟨.inl (some (.int (S 25 1))), idX ?_, fun U hC hM h7 h14 => res_ok' fun T hU => ?_⟩
      · unfold f_X9_count
        simp (disch := omega) only [fa_lit, nI_ad, nI_mul, nI_cl, inb_nI, nI_ltE, nI_leE, nI_eqE, nI_m1, nI_m1', m1_lt, lt_m1, m1_le, le_m1, eq_self, not_true_eq_false, not_false_eq_true, ↓reduceIte, leT, leF, ltT, ltF, eqT, eqF, decide_true, decide_false, true_and, and_true, Nat.reduceAdd, bI0_i, bI_i, bI_x, bV0_v, bV_v, bV_x, ↓bnd_e, gd_t, x_at]
      · have e := w8 (U 64)
        rw [hC] at e
        unfold f_X10_count f_X10_count_b148; rw [bnd_e, show upS T 63 0 (0 : Int32) = U from hU.symm]
        simp (disch := omega) only [fa_lit, nI_ad, nI_mul, nI_cl, inb_nI, nI_ltE, nI_leE, nI_eqE, nI_m1, nI_m1', m1_lt, lt_m1, m1_le, le_m1, eq_self, not_true_eq_false, not_false_eq_true, ↓reduceIte, leT, leF, ltT, ltF, eqT, eqF, decide_true, decide_false, true_and, and_true, Nat.reduceAdd, bI0_i, bI_i, bI_x, bV0_v, bV_v, bV_x, ↓bnd_e, gd_t, m_in, bT, e]
    | 9, _ =>
      refine ⟨.inl (some (.int (S 25 2))), idX ?_, fun U hC hM h7 h14 => res_ok' fun T hU => ?_⟩
      · unfold f_X9_count
        simp (disch := omega) only [fa_lit, nI_ad, nI_mul, nI_cl, inb_nI, nI_ltE, nI_leE, nI_eqE, nI_m1, nI_m1', m1_lt, lt_m1, m1_le, le_m1, eq_self, not_true_eq_false, not_false_eq_true, ↓reduceIte, leT, leF, ltT, ltF, eqT, eqF, decide_true, decide_false, true_and, and_true, Nat.reduceAdd, bI0_i, bI_i, bI_x, bV0_v, bV_v, bV_x, ↓bnd_e, gd_t, x_at]
      · have e := w9 (U 64)
        rw [hC] at e
        unfold f_X10_count f_X10_count_b148; rw [bnd_e, show upS T 63 0 (0 : Int32) = U from hU.symm]
        simp (disch := omega) only [fa_lit, nI_ad, nI_mul, nI_cl, inb_nI, nI_ltE, nI_leE, nI_eqE, nI_m1, nI_m1', m1_lt, lt_m1, m1_le, le_m1, eq_self, not_true_eq_false, not_false_eq_true, ↓reduceIte, leT, leF, ltT, ltF, eqT, eqF, decide_true, decide_false, true_and, and_true, Nat.reduceAdd, bI0_i, bI_i, bI_x, bV0_v, bV_v, bV_x, ↓bnd_e, gd_t, m_in, bT, e]
    | 10, _ =>
      refine ⟨.inl (some (.int (S 25 8))), idX ?_, fun U hC hM h7 h14 => res_ok' fun T hU => ?_⟩
      · unfold f_X9_count
        simp (disch := omega) only [fa_lit, nI_ad, nI_mul, nI_cl, inb_nI, nI_ltE, nI_leE, nI_eqE, nI_m1, nI_m1', m1_lt, lt_m1, m1_le, le_m1, eq_self, not_true_eq_false, not_false_eq_true, ↓reduceIte, leT, leF, ltT, ltF, eqT, eqF, decide_true, decide_false, true_and, and_true, Nat.reduceAdd, bI0_i, bI_i, bI_x, bV0_v, bV_v, bV_x, ↓bnd_e, gd_t, x_at]
      · have e := w10 (U 64)
        rw [hC] at e
        unfold f_X10_count f_X10_count_b148; rw [bnd_e, show upS T 63 0 (0 : Int32) = U from hU.symm]
        simp (disch := omega) only [fa_lit, nI_ad, nI_mul, nI_cl, inb_nI, nI_ltE, nI_leE, nI_eqE, nI_m1, nI_m1', m1_lt, lt_m1, m1_le, le_m1, eq_self, not_true_eq_false, not_false_eq_true, ↓reduceIte, leT, leF, ltT, ltF, eqT, eqF, decide_true, decide_false, true_and, and_true, Nat.reduceAdd, bI0_i, bI_i, bI_x, bV0_v, bV_v, bV_x, ↓bnd_e, gd_t, m_in, bT, e]
    | 11, _ =>
      refine ⟨.inl (some (.int (S 25 9))), idX ?_, fun U hC hM h7 h14 => res_ok' fun T hU => ?_⟩
      · unfold f_X9_count
        simp (disch := omega) only [fa_lit, nI_ad, nI_mul, nI_cl, inb_nI, nI_ltE, nI_leE, nI_eqE, nI_m1, nI_m1', m1_lt, lt_m1, m1_le, le_m1, eq_self, not_true_eq_false, not_false_eq_true, ↓reduceIte, leT, leF, ltT, ltF, eqT, eqF, decide_true, decide_false, true_and, and_true, Nat.reduceAdd, bI0_i, bI_i, bI_x, bV0_v, bV_v, bV_x, ↓bnd_e, gd_t, x_at]
      · have e := w11 (U 64)
        rw [hC] at e
        unfold f_X10_count f_X10_count_b148; rw [bnd_e, show upS T 63 0 (0 : Int32) = U from hU.symm]
        simp (disch := omega) only [fa_lit, nI_ad, nI_mul, nI_cl, inb_nI, nI_ltE, nI_leE, nI_eqE, nI_m1, nI_m1', m1_lt, lt_m1, m1_le, le_m1, eq_self, not_true_eq_false, not_false_eq_true, ↓reduceIte, leT, leF, ltT, ltF, eqT, eqF, decide_true, decide_false, true_and, and_true, Nat.reduceAdd, bI0_i, bI_i, bI_x, bV0_v, bV_v, bV_x, ↓bnd_e, gd_t, m_in, bT, e]
    | 12, _ =>
      refine ⟨.inl (some (.int (S 25 7))), idX ?_, fun U hC hM h7 h14 => res_ok' fun T hU => ?_⟩
      · unfold f_X9_count
        simp (disch := omega) only [fa_lit, nI_ad, nI_mul, nI_cl, inb_nI, nI_ltE, nI_leE, nI_eqE, nI_m1, nI_m1', m1_lt, lt_m1, m1_le, le_m1, eq_self, not_true_eq_false, not_false_eq_true, ↓reduceIte, leT, leF, ltT, ltF, eqT, eqF, decide_true, decide_false, true_and, and_true, Nat.reduceAdd, bI0_i, bI_i, bI_x, bV0_v, bV_v, bV_x, ↓bnd_e, gd_t, x_at]
      · have e := w12 (U 64)
        rw [hC] at e
        unfold f_X10_count f_X10_count_b148; rw [bnd_e, show upS T 63 0 (0 : Int32) = U from hU.symm]
        simp (disch := omega) only [fa_lit, nI_ad, nI_mul, nI_cl, inb_nI, nI_ltE, nI_leE, nI_eqE, nI_m1, nI_m1', m1_lt, lt_m1, m1_le, le_m1, eq_self, not_true_eq_false, not_false_eq_true, ↓reduceIte, leT, leF, ltT, ltF, eqT, eqF, decide_true, decide_false, true_and, and_true, Nat.reduceAdd, bI0_i, bI_i, bI_x, bV0_v, bV_v, bV_x, ↓bnd_e, gd_t, m_in, bT, e]
    | 13, _ =>
      have h0 := x_totalOf (F := F) (S := S) (u := 24) hF (by omega : 2 < 5) en hn
      refine ⟨.inl (some (.int (totV (S 25) 2 n))), idX ?_, fun U hC hM h7 h14 => res_ok' fun T hU => ?_⟩
      · unfold f_X9_count
        simp (disch := omega) only [fa_lit, nI_ad, nI_mul, nI_cl, inb_nI, nI_ltE, nI_leE, nI_eqE, nI_m1, nI_m1', m1_lt, lt_m1, m1_le, le_m1, eq_self, not_true_eq_false, not_false_eq_true, ↓reduceIte, leT, leF, ltT, ltF, eqT, eqF, decide_true, decide_false, true_and, and_true, Nat.reduceAdd, bI0_i, bI_i, bI_x, bV0_v, bV_v, bV_x, ↓bnd_e, gd_t, h0]
      · have en' : cM (U 64) 12 = nI n := by rw [hC]; exact en
        have h0 := m_sumIn (F := F) (S := U) (set := nI (2 ^ n - 1)) hF (by omega : 2 < 5) en' hn
        rw [hC, sum_all hn (Nat.le_refl n)] at h0
        unfold f_X10_count; rw [bnd_e, show upS T 63 0 (0 : Int32) = U from hU.symm]
        simp (disch := omega) only [fa_lit, nI_ad, nI_mul, nI_cl, inb_nI, nI_ltE, nI_leE, nI_eqE, nI_m1, nI_m1', m1_lt, lt_m1, m1_le, le_m1, eq_self, not_true_eq_false, not_false_eq_true, ↓reduceIte, leT, leF, ltT, ltF, eqT, eqF, decide_true, decide_false, true_and, and_true, Nat.reduceAdd, bI0_i, bI_i, bI_x, bV0_v, bV_v, bV_x, ↓bnd_e, gd_t, m_allLedges en' hn, h0]
    | 14, _ =>
      have h0 := x_totalOf (F := F) (S := S) (u := 24) hF (by omega : 4 < 5) en hn
      refine ⟨.inl (some (.int (totV (S 25) 4 n))), idX ?_, fun U hC hM h7 h14 => res_ok' fun T hU => ?_⟩
      · unfold f_X9_count
        simp (disch := omega) only [fa_lit, nI_ad, nI_mul, nI_cl, inb_nI, nI_ltE, nI_leE, nI_eqE, nI_m1, nI_m1', m1_lt, lt_m1, m1_le, le_m1, eq_self, not_true_eq_false, not_false_eq_true, ↓reduceIte, leT, leF, ltT, ltF, eqT, eqF, decide_true, decide_false, true_and, and_true, Nat.reduceAdd, bI0_i, bI_i, bI_x, bV0_v, bV_v, bV_x, ↓bnd_e, gd_t, h0]
      · have en' : cM (U 64) 12 = nI n := by rw [hC]; exact en
        have h0 := m_sumIn (F := F) (S := U) (set := nI (2 ^ n - 1)) hF (by omega : 4 < 5) en' hn
        rw [hC, sum_all hn (Nat.le_refl n)] at h0
        unfold f_X10_count; rw [bnd_e, show upS T 63 0 (0 : Int32) = U from hU.symm]
        simp (disch := omega) only [fa_lit, nI_ad, nI_mul, nI_cl, inb_nI, nI_ltE, nI_leE, nI_eqE, nI_m1, nI_m1', m1_lt, lt_m1, m1_le, le_m1, eq_self, not_true_eq_false, not_false_eq_true, ↓reduceIte, leT, leF, ltT, ltF, eqT, eqF, decide_true, decide_false, true_and, and_true, Nat.reduceAdd, bI0_i, bI_i, bI_x, bV0_v, bV_v, bV_x, ↓bnd_e, gd_t, m_allLedges en' hn, h0]
    | 15, _ =>
      refine ⟨.inl (some (.int (S 25 15))), idX ?_, fun U hC hM h7 h14 => res_ok' fun T hU => ?_⟩
      · unfold f_X9_count
        simp (disch := omega) only [fa_lit, nI_ad, nI_mul, nI_cl, inb_nI, nI_ltE, nI_leE, nI_eqE, nI_m1, nI_m1', m1_lt, lt_m1, m1_le, le_m1, eq_self, not_true_eq_false, not_false_eq_true, ↓reduceIte, leT, leF, ltT, ltF, eqT, eqF, decide_true, decide_false, true_and, and_true, Nat.reduceAdd, bI0_i, bI_i, bI_x, bV0_v, bV_v, bV_x, ↓bnd_e, gd_t, x_at]
      · have e := w15 (U 64)
        rw [hC] at e
        unfold f_X10_count f_X10_count_b148; rw [bnd_e, show upS T 63 0 (0 : Int32) = U from hU.symm]
        simp (disch := omega) only [fa_lit, nI_ad, nI_mul, nI_cl, inb_nI, nI_ltE, nI_leE, nI_eqE, nI_m1, nI_m1', m1_lt, lt_m1, m1_le, le_m1, eq_self, not_true_eq_false, not_false_eq_true, ↓reduceIte, leT, leF, ltT, ltF, eqT, eqF, decide_true, decide_false, true_and, and_true, Nat.reduceAdd, bI0_i, bI_i, bI_x, bV0_v, bV_v, bV_x, ↓bnd_e, gd_t, m_in, bT, e]
    | 16, _ =>
      refine ⟨.inl (some (.int (S 36 2))), idX ?_, fun U hC hM h7 h14 => res_ok' fun T hU => ?_⟩
      · unfold f_X9_count f_X5_size
        simp (disch := omega) only [fa_lit, nI_ad, nI_mul, nI_cl, inb_nI, nI_ltE, nI_leE, nI_eqE, nI_m1, nI_m1', m1_lt, lt_m1, m1_le, le_m1, eq_self, not_true_eq_false, not_false_eq_true, ↓reduceIte, leT, leF, ltT, ltF, eqT, eqF, decide_true, decide_false, true_and, and_true, Nat.reduceAdd, bI0_i, bI_i, bI_x, bV0_v, bV_v, bV_x, ↓bnd_e, gd_t]
      · unfold f_X10_count; rw [bnd_e, show upS T 63 0 (0 : Int32) = U from hU.symm]
        simp (disch := omega) only [fa_lit, nI_ad, nI_mul, nI_cl, inb_nI, nI_ltE, nI_leE, nI_eqE, nI_m1, nI_m1', m1_lt, lt_m1, m1_le, le_m1, eq_self, not_true_eq_false, not_false_eq_true, ↓reduceIte, leT, leF, ltT, ltF, eqT, eqF, decide_true, decide_false, true_and, and_true, Nat.reduceAdd, bI0_i, bI_i, bI_x, bV0_v, bV_v, bV_x, ↓bnd_e, gd_t, h7]
    | j + 17, hj => exact absurd hj (by omega)
  · have hk : ∀ k, k < 17 → (p1 = nI k) = False := fun k hk => eq_false (fun e => g ⟨k, hk, e⟩)
    refine ⟨.inl (some (.int (-nI 1))), idX ?_, fun U hC hM h7 h14 => res_ok' fun T hU => ?_⟩
    · unfold f_X9_count
      simp (disch := omega) only [fa_lit, nI_ad, nI_mul, nI_cl, inb_nI, nI_ltE, nI_leE, nI_eqE, nI_m1, nI_m1', m1_lt, lt_m1, m1_le, le_m1, eq_self, not_true_eq_false, not_false_eq_true, ↓reduceIte, leT, leF, ltT, ltF, eqT, eqF, decide_true, decide_false, true_and, and_true, Nat.reduceAdd, bI0_i, bI_i, bI_x, bV0_v, bV_v, bV_x, ↓bnd_e, gd_t, hk]
    · have d : decide (nI 0 ≤ p1 ∧ p1 ≤ nI 12) = false := by
        apply decide_eq_false
        intro q
        obtain ⟨m, _, h2, h3⟩ := withinN (by omega) q (by omega)
        exact g ⟨m, by omega, h3⟩
      unfold f_X10_count f_X10_count_b148; rw [bnd_e, show upS T 63 0 (0 : Int32) = U from hU.symm]
      simp (disch := omega) only [fa_lit, nI_ad, nI_mul, nI_cl, inb_nI, nI_ltE, nI_leE, nI_eqE, nI_m1, nI_m1', m1_lt, lt_m1, m1_le, le_m1, eq_self, not_true_eq_false, not_false_eq_true, ↓reduceIte, leT, leF, ltT, ltF, eqT, eqF, decide_true, decide_false, true_and, and_true, Nat.reduceAdd, bI0_i, bI_i, bI_x, bV0_v, bV_v, bV_x, ↓bnd_e, gd_t, hk, m_in, d, bF]
theorem m_noEar {x : Int32} : f_X10_noEar x S = some (.inl (some (.int (bV32 (!decide (nI 0 ≤ x ∧ x ≤ nI 5))))), S) := by
  unfold f_X10_noEar f_X10_noEar_b14
  cases g : decide (nI 0 ≤ x ∧ x ≤ nI 5) <;> simp (disch := omega) only [fa_lit, nI_ad, nI_mul, nI_cl, inb_nI, nI_ltE, nI_leE, nI_eqE, nI_m1, nI_m1', m1_lt, lt_m1, m1_le, le_m1, eq_self, not_true_eq_false, not_false_eq_true, ↓reduceIte, leT, leF, ltT, ltF, eqT, eqF, decide_true, decide_false, true_and, and_true, Nat.reduceAdd, bI0_i, bI_i, bI_x, bV0_v, bV_v, bV_x, ↓bnd_e, gd_t, m_in, g, bF, bT, and10, and00] <;> rfl
def pairIn (c : Nat → Int32) (w : Int32) (one : Nat) (a : Int32) : Nat → Int32
  | 0 => a
  | o + 1 => pairIn c w one a o + (if w < absV (c (16 + one * 5 + 0) - c (16 + o * 5 + 0)) then nI 0 else nI 1)
def pairOut (c : Nat → Int32) (w : Int32) : Nat → Int32
  | 0 => nI 0
  | i + 1 => pairIn c w i (pairOut c w i) i
theorem x_apart {a b : Nat} (ha : a < 10) (hb : b < 10) : f_X9_apart (nI a) (nI b) S = some (.inl (some (.int (absV (S 25 (16 + a * 5 + 0) - S 25 (16 + b * 5 + 0))))), S) := by
  unfold f_X9_apart absV
  simp (disch := omega) only [fa_lit, nI_ad, nI_mul, nI_cl, inb_nI, nI_ltE, nI_leE, nI_eqE, nI_m1, nI_m1', m1_lt, lt_m1, m1_le, le_m1, eq_self, not_true_eq_false, not_false_eq_true, ↓reduceIte, leT, leF, ltT, ltF, eqT, eqF, decide_true, decide_false, true_and, and_true, Nat.reduceAdd, bI0_i, bI_i, bI_x, bV0_v, bV_v, bV_x, ↓bnd_e, gd_t, x_ofLedge]
theorem x_pairIn {K : Int32 → Int32 → Int32 → mS → Option mR} {w a : Int32} {one : Nat} (h1 : one < 10) : ∀ (m i k : Nat), i + m = one → m < k →
    f_X9_pairs_b27 K F k w (pairIn (S 25) w one a i) (nI one) (nI i) S = K w (pairIn (S 25) w one a one) (nI (one + 1)) S
  | 0, i, k + 1, hi, hk => by
    have hie : i = one := by omega
    subst hie
    rw [f_X9_pairs_b27]
    simp (disch := omega) only [fa_lit, nI_ad, nI_mul, nI_cl, inb_nI, nI_ltE, nI_leE, nI_eqE, nI_m1, nI_m1', m1_lt, lt_m1, m1_le, le_m1, eq_self, not_true_eq_false, not_false_eq_true, ↓reduceIte, leT, leF, ltT, ltF, eqT, eqF, decide_true, decide_false, true_and, and_true, Nat.reduceAdd, bI0_i, bI_i, bI_x, bV0_v, bV_v, bV_x, ↓bnd_e, gd_t]
  | m + 1, i, k + 1, hi, hk => by
    have ih := x_pairIn (K := K) (w := w) (a := a) h1 m (i + 1) k (by omega) (by omega)
    rw [pairIn] at ih
    rw [f_X9_pairs_b27]
    unfold f_X9_pairs_b47
    by_cases g : w < absV (S 25 (16 + one * 5 + 0) - S 25 (16 + i * 5 + 0))
    · rw [if_pos g, add_n0] at ih
      simp (disch := omega) only [fa_lit, nI_ad, nI_mul, nI_cl, inb_nI, nI_ltE, nI_leE, nI_eqE, nI_m1, nI_m1', m1_lt, lt_m1, m1_le, le_m1, eq_self, not_true_eq_false, not_false_eq_true, ↓reduceIte, leT, leF, ltT, ltF, eqT, eqF, decide_true, decide_false, true_and, and_true, Nat.reduceAdd, bI0_i, bI_i, bI_x, bV0_v, bV_v, bV_x, ↓bnd_e, gd_t, x_apart, g]
      exact ih
    · rw [if_neg g] at ih
      simp (disch := omega) only [fa_lit, nI_ad, nI_mul, nI_cl, inb_nI, nI_ltE, nI_leE, nI_eqE, nI_m1, nI_m1', m1_lt, lt_m1, m1_le, le_m1, eq_self, not_true_eq_false, not_false_eq_true, ↓reduceIte, leT, leF, ltT, ltF, eqT, eqF, decide_true, decide_false, true_and, and_true, Nat.reduceAdd, bI0_i, bI_i, bI_x, bV0_v, bV_v, bV_x, ↓bnd_e, gd_t, x_apart, g]
      exact ih
theorem m_pairIn {K : Int32 → Int32 → Int32 → mS → Option mR} {w a : Int32} {one : Nat} (h1 : one < 10) : ∀ (m i k : Nat), i + m = one → m < k →
    f_X10_pairs_b45 K F k w (pairIn (cM (S 64)) w one a i) (nI one) (nI i) S = K w (pairIn (cM (S 64)) w one a one) (nI (one + 1)) S
  | 0, i, k + 1, hi, hk => by
    have hie : i = one := by omega
    subst hie
    rw [f_X10_pairs_b45]
    simp (disch := omega) only [fa_lit, nI_ad, nI_mul, nI_cl, inb_nI, nI_ltE, nI_leE, nI_eqE, nI_m1, nI_m1', m1_lt, lt_m1, m1_le, le_m1, eq_self, not_true_eq_false, not_false_eq_true, ↓reduceIte, leT, leF, ltT, ltF, eqT, eqF, decide_true, decide_false, true_and, and_true, Nat.reduceAdd, bI0_i, bI_i, bI_x, bV0_v, bV_v, bV_x, ↓bnd_e, gd_t]
  | m + 1, i, k + 1, hi, hk => by
    have ih := m_pairIn (K := K) (w := w) (a := a) h1 m (i + 1) k (by omega) (by omega)
    rw [pairIn, absV] at ih
    rw [f_X10_pairs_b45]
    unfold f_X10_pairs_b78
    by_cases g : w < (if nI 0 ≤ cM (S 64) (16 + one * 5 + 0) - cM (S 64) (16 + i * 5 + 0) then cM (S 64) (16 + one * 5 + 0) - cM (S 64) (16 + i * 5 + 0) else nI 0 - (cM (S 64) (16 + one * 5 + 0) - cM (S 64) (16 + i * 5 + 0)))
    · rw [if_pos g] at ih
      simp (disch := omega) only [fa_lit, nI_ad, nI_mul, nI_cl, inb_nI, nI_ltE, nI_leE, nI_eqE, nI_m1, nI_m1', m1_lt, lt_m1, m1_le, le_m1, eq_self, not_true_eq_false, not_false_eq_true, ↓reduceIte, leT, leF, ltT, ltF, eqT, eqF, decide_true, decide_false, true_and, and_true, Nat.reduceAdd, bI0_i, bI_i, bI_x, bV0_v, bV_v, bV_x, ↓bnd_e, gd_t, m_of, g]
      exact ih
    · rw [if_neg g] at ih
      simp (disch := omega) only [fa_lit, nI_ad, nI_mul, nI_cl, inb_nI, nI_ltE, nI_leE, nI_eqE, nI_m1, nI_m1', m1_lt, lt_m1, m1_le, le_m1, eq_self, not_true_eq_false, not_false_eq_true, ↓reduceIte, leT, leF, ltT, ltF, eqT, eqF, decide_true, decide_false, true_and, and_true, Nat.reduceAdd, bI0_i, bI_i, bI_x, bV0_v, bV_v, bV_x, ↓bnd_e, gd_t, m_of, g]
      exact ih
theorem x_pairs {w : Int32} {n : Nat} (hF : 6000 ≤ F) (hn : S 25 12 = nI n) (hn10 : n ≤ 10) : ∀ (m i k : Nat) , i + m = n → m < k →
    f_X9_pairs_b11 F k w (pairOut (S 25) w (i)) (nI (i)) S = some (.inl (some (.int (pairOut (S 25) w n))), S)
  | 0, i, k + 1, hi, hk => by
    have hie : i = n := by omega
    subst hie
    rw [f_X9_pairs_b11]
    simp (disch := omega) only [fa_lit, nI_ad, nI_mul, nI_cl, inb_nI, nI_ltE, nI_leE, nI_eqE, nI_m1, nI_m1', m1_lt, lt_m1, m1_le, le_m1, eq_self, not_true_eq_false, not_false_eq_true, ↓reduceIte, leT, leF, ltT, ltF, eqT, eqF, decide_true, decide_false, true_and, and_true, Nat.reduceAdd, bI0_i, bI_i, bI_x, bV0_v, bV_v, bV_x, ↓bnd_e, gd_t, x_at, hn]
  | m + 1, i, k + 1, hi, hk => by
    have hin := x_pairIn (F := F) (S := S) (K := fun x1 x2 x3 S => f_X9_pairs_b11 F k x1 x2 x3 S) (w := w) (a := pairOut (S 25) w i) (one := i) (by omega) i 0 F (by omega) (by omega)
    rw [pairIn] at hin
    have ih := x_pairs (w := w) (n := n) hF hn hn10 m (i + 1) k (by omega) (by omega)
    rw [pairOut] at ih
    rw [f_X9_pairs_b11]
    simp (disch := omega) only [fa_lit, nI_ad, nI_mul, nI_cl, inb_nI, nI_ltE, nI_leE, nI_eqE, nI_m1, nI_m1', m1_lt, lt_m1, m1_le, le_m1, eq_self, not_true_eq_false, not_false_eq_true, ↓reduceIte, leT, leF, ltT, ltF, eqT, eqF, decide_true, decide_false, true_and, and_true, Nat.reduceAdd, bI0_i, bI_i, bI_x, bV0_v, bV_v, bV_x, ↓bnd_e, gd_t, x_at, hn, hin]
    exact ih
theorem m_pairs {w : Int32} {n : Nat} (hF : 6000 ≤ F) (hn : cM (S 64) 12 = nI n) (hn10 : n ≤ 10) : ∀ (m i k : Nat) , i + m = n → m < k →
    f_X10_pairs_b34 F k w (pairOut (cM (S 64)) w (i)) (nI (i)) S = some (.inl (some (.int (pairOut (cM (S 64)) w n))), S)
  | 0, i, k + 1, hi, hk => by
    have hie : i = n := by omega
    subst hie
    rw [f_X10_pairs_b34]
    simp (disch := omega) only [fa_lit, nI_ad, nI_mul, nI_cl, inb_nI, nI_ltE, nI_leE, nI_eqE, nI_m1, nI_m1', m1_lt, lt_m1, m1_le, le_m1, eq_self, not_true_eq_false, not_false_eq_true, ↓reduceIte, leT, leF, ltT, ltF, eqT, eqF, decide_true, decide_false, true_and, and_true, Nat.reduceAdd, bI0_i, bI_i, bI_x, bV0_v, bV_v, bV_x, ↓bnd_e, gd_t, m_ledges, hn]
  | m + 1, i, k + 1, hi, hk => by
    have hin := m_pairIn (F := F) (S := S) (K := fun x1 x2 x3 S => f_X10_pairs_b34 F k x1 x2 x3 S) (w := w) (a := pairOut (cM (S 64)) w i) (one := i) (by omega) i 0 F (by omega) (by omega)
    rw [pairIn] at hin
    have ih := m_pairs (w := w) (n := n) hF hn hn10 m (i + 1) k (by omega) (by omega)
    rw [pairOut] at ih
    rw [f_X10_pairs_b34]
    simp (disch := omega) only [fa_lit, nI_ad, nI_mul, nI_cl, inb_nI, nI_ltE, nI_leE, nI_eqE, nI_m1, nI_m1', m1_lt, lt_m1, m1_le, le_m1, eq_self, not_true_eq_false, not_false_eq_true, ↓reduceIte, leT, leF, ltT, ltF, eqT, eqF, decide_true, decide_false, true_and, and_true, Nat.reduceAdd, bI0_i, bI_i, bI_x, bV0_v, bV_v, bV_x, ↓bnd_e, gd_t, m_ledges, hn, hin]
    exact ih
theorem ag_pairs {p1 : Int32} (hF : 6000 ≤ F) (hI : Inv S) : Ag (f_X9_pairs F p1) (f_X10_pairs F p1) [1] S := by
  refine ag_ro hI (fun n nh nk A hn en hnh enh hnk enk hX hW hR => ?_)
  by_cases g_p1 : nI 0 ≤ p1 ∧ p1 ≤ nI 39
  · skip
    have h := x_pairs (F := F) (w := p1) hF en hn n 0 F (by omega) (by omega)
    refine ⟨.inl (some (.int (pairOut (S 25) p1 n))), idX ?_, fun U hC hM => ?_⟩
    · unfold f_X9_pairs 
      simp (disch := omega) only [fa_lit, nI_ad, nI_mul, nI_cl, inb_nI, nI_ltE, nI_leE, nI_eqE, nI_m1, nI_m1', m1_lt, lt_m1, m1_le, le_m1, eq_self, not_true_eq_false, not_false_eq_true, ↓reduceIte, leT, leF, ltT, ltF, eqT, eqF, decide_true, decide_false, true_and, and_true, Nat.reduceAdd, bI0_i, bI_i, bI_x, bV0_v, bV_v, bV_x, ↓bnd_e, gd_t, x_need g_p1, show f_X9_pairs_b11 F F p1 (nI 0) (nI 0) S = _ from h]
    · skip
      have en' : cM (U 64) 12 = nI n := by rw [hC]; exact en
      have enh' : cM (U 64) 13 = nI nh := by rw [hC]; exact enh
      have enk' : cM (U 64) 14 = nI nk := by rw [hC]; exact enk
      have d_p1 : decide (nI 0 ≤ p1 ∧ p1 ≤ nI 39) = true := decide_eq_true g_p1
      have h := m_pairs (F := F) (S := U) (w := p1) hF en' hn n 0 F (by omega) (by omega)
      rw [hC] at h
      refine res_ok' fun T hU => ?_
      unfold f_X10_pairs f_X10_pairs_b21; rw [bnd_e, show upS T 63 0 (0 : Int32) = U from hU.symm]
      simp (disch := omega) only [fa_lit, nI_ad, nI_mul, nI_cl, inb_nI, nI_ltE, nI_leE, nI_eqE, nI_m1, nI_m1', m1_lt, lt_m1, m1_le, le_m1, eq_self, not_true_eq_false, not_false_eq_true, ↓reduceIte, leT, leF, ltT, ltF, eqT, eqF, decide_true, decide_false, true_and, and_true, Nat.reduceAdd, bI0_i, bI_i, bI_x, bV0_v, bV_v, bV_x, ↓bnd_e, gd_t, and10, and00, m_throw0, m_throw, Bool.not_true, Bool.not_false, bT, bF, d_p1, m_in, m_noWind, show f_X10_pairs_b34 F F p1 (nI 0) (nI 0) U = _ from h, hC]
  · refine ⟨.inr 1, idX ?_, fun U hC hM => res_ex (b := nI 0) 0 rfl (by omega) fun T hU => ?_⟩
    · unfold f_X9_pairs 
      simp (disch := omega) only [fa_lit, nI_ad, nI_mul, nI_cl, inb_nI, nI_ltE, nI_leE, nI_eqE, nI_m1, nI_m1', m1_lt, lt_m1, m1_le, le_m1, eq_self, not_true_eq_false, not_false_eq_true, ↓reduceIte, leT, leF, ltT, ltF, eqT, eqF, decide_true, decide_false, true_and, and_true, Nat.reduceAdd, bI0_i, bI_i, bI_x, bV0_v, bV_v, bV_x, ↓bnd_e, gd_t, x_need_x g_p1]
    · unfold f_X10_pairs f_X10_pairs_b21; rw [bnd_e, show upS T 63 0 (0 : Int32) = U from hU.symm]
      have en' : cM (U 64) 12 = nI n := by rw [hC]; exact en
      have enh' : cM (U 64) 13 = nI nh := by rw [hC]; exact enh
      have enk' : cM (U 64) 14 = nI nk := by rw [hC]; exact enk
      have d_p1 : decide (nI 0 ≤ p1 ∧ p1 ≤ nI 39) = false := decide_eq_false g_p1
      simp (disch := omega) only [fa_lit, nI_ad, nI_mul, nI_cl, inb_nI, nI_ltE, nI_leE, nI_eqE, nI_m1, nI_m1', m1_lt, lt_m1, m1_le, le_m1, eq_self, not_true_eq_false, not_false_eq_true, ↓reduceIte, leT, leF, ltT, ltF, eqT, eqF, decide_true, decide_false, true_and, and_true, Nat.reduceAdd, bI0_i, bI_i, bI_x, bV0_v, bV_v, bV_x, ↓bnd_e, gd_t, and10, and00, m_throw0, m_throw, Bool.not_true, Bool.not_false, bT, bF, d_p1, m_in, m_noWind]
end O
