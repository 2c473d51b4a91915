/-! calls that only look, fourth lot -/
theorem nI_div {a b : Nat} (ha : a < 2147483648) (hb : b < 2147483648) : nI a / nI b = nI (a / b) := by
  apply Int32.toInt_inj.1
  have h1 : a / b ≤ a := Nat.div_le_self a b
  rw [Int32.toInt_div, nI_toInt ha, nI_toInt hb, nI_toInt (by omega), ← Int.ofNat_tdiv]
  generalize a / b = d at h1 ⊢
  rw [Int.bmod_eq_of_le (by omega) (by omega)]
section O
variable {F : Nat} {S : mS}
theorem ag_share {p1 p2 : Int32} (hI : Inv S) : Ag (f_X9_share p1 p2) (f_X10_share p1 p2) [1] S := by
  refine ag_ro hI (fun n nh nk A hn en hnh enh hnk enk hX hW hR => ?_)
  by_cases g_p1 : nI 0 ≤ p1 ∧ p1 ≤ nI 9999
  · skip
    obtain ⟨m, m_lo, m_hi, rfl⟩ := withinN (by omega) g_p1 (by omega)
    have hy : (if 0 < nk + nh then nI (nk + nh) else nI 0) = nI (nk + nh) := by
      split
      · rfl
      · congr 1; omega
    have hle : m / (nk + nh + 2) * (nk + nh + 2) ≤ m := Nat.div_mul_le_self m _
    have hq : m / (nk + nh + 2) ≤ m := Nat.div_le_self m _
    have hm : m / (nk + nh + 2) * (nk + nh + 2) = m / (nk + nh + 2) * (nk + nh + 1) + m / (nk + nh + 2) := by
      rw [show nk + nh + 2 = (nk + nh + 1) + 1 by omega, Nat.mul_add, Nat.mul_one]
    have hfin : m / (nk + nh + 2) + (m - m / (nk + nh + 2) * (nk + nh + 2)) = m - m / (nk + nh + 2) * (nk + nh + 1) := by
      generalize m / (nk + nh + 2) = q at hle hq hm ⊢
      generalize q * (nk + nh + 2) = y at *
      generalize q * (nk + nh + 1) = z at *
      omega
    have hle2 : m / (nk + nh + 2) * (nk + nh + 1) ≤ m := by
      generalize m / (nk + nh + 2) = q at hle hq hm ⊢
      generalize q * (nk + nh + 2) = y at *
      generalize q * (nk + nh + 1) = z at *
      omega
    by_cases g2 : p2 = nI 0
    · skip
      refine ⟨.inl (some (.int (nI (m / (nk + nh + 2))))), idX ?_, fun U hC hM => ?_⟩
      · unfold f_X9_share f_X9_share_b56
        simp (disch := omega) only [fa_lit, nI_ad, nI_mul, nI_cl, inb_nI, nI_ltE, nI_leE, nI_eqE, nI_m1, nI_m1', m1_lt, lt_m1, m1_le, le_m1, eq_self, not_true_eq_false, not_false_eq_true, ↓reduceIte, leT, leF, ltT, ltF, eqT, eqF, decide_true, decide_false, true_and, and_true, Nat.reduceAdd, bI0_i, bI_i, bI_x, bV0_v, bV_v, bV_x, ↓bnd_e, gd_t, x_need g_p1, x_at, enk, enh, nI_ad, hy, nI_div, g2]
      · skip
        have en' : cM (U 64) 12 = nI n := by rw [hC]; exact en
        have enh' : cM (U 64) 13 = nI nh := by rw [hC]; exact enh
        have enk' : cM (U 64) 14 = nI nk := by rw [hC]; exact enk
        have d_p1 : decide (nI 0 ≤ (nI m) ∧ (nI m) ≤ nI 9999) = true := decide_eq_true g_p1
        refine res_ok' fun T hU => ?_
        unfold f_X10_share f_X10_share_b22 f_X10_share_b60; rw [bnd_e, show upS T 63 0 (0 : Int32) = U from hU.symm]
        simp (disch := omega) only [fa_lit, nI_ad, nI_mul, nI_cl, inb_nI, nI_ltE, nI_leE, nI_eqE, nI_m1, nI_m1', m1_lt, lt_m1, m1_le, le_m1, eq_self, not_true_eq_false, not_false_eq_true, ↓reduceIte, leT, leF, ltT, ltF, eqT, eqF, decide_true, decide_false, true_and, and_true, Nat.reduceAdd, bI0_i, bI_i, bI_x, bV0_v, bV_v, bV_x, ↓bnd_e, gd_t, and10, and00, m_throw0, m_throw, Bool.not_true, Bool.not_false, bT, bF, d_p1, m_in, m_noWind, m_climbers, enk', m_holders, enh', nI_div, g2, hC]
    · skip
      refine ⟨.inl (some (.int (nI (m - m / (nk + nh + 2) * (nk + nh + 1))))), idX ?_, fun U hC hM => ?_⟩
      · unfold f_X9_share f_X9_share_b56
        simp (disch := omega) only [fa_lit, nI_ad, nI_mul, nI_cl, inb_nI, nI_ltE, nI_leE, nI_eqE, nI_m1, nI_m1', m1_lt, lt_m1, m1_le, le_m1, eq_self, not_true_eq_false, not_false_eq_true, ↓reduceIte, leT, leF, ltT, ltF, eqT, eqF, decide_true, decide_false, true_and, and_true, Nat.reduceAdd, bI0_i, bI_i, bI_x, bV0_v, bV_v, bV_x, ↓bnd_e, gd_t, x_need g_p1, x_at, enk, enh, nI_ad, hy, nI_div, g2]
        rw [show nI (nk + nh + 2) - nI 1 = nI (nk + nh + 1) from sub1, nI_mul, nI_sub hle2]
      · skip
        have en' : cM (U 64) 12 = nI n := by rw [hC]; exact en
        have enh' : cM (U 64) 13 = nI nh := by rw [hC]; exact enh
        have enk' : cM (U 64) 14 = nI nk := by rw [hC]; exact enk
        have d_p1 : decide (nI 0 ≤ (nI m) ∧ (nI m) ≤ nI 9999) = true := decide_eq_true g_p1
        refine res_ok' fun T hU => ?_
        unfold f_X10_share f_X10_share_b22 f_X10_share_b60; rw [bnd_e, show upS T 63 0 (0 : Int32) = U from hU.symm]
        simp (disch := omega) only [fa_lit, nI_ad, nI_mul, nI_cl, inb_nI, nI_ltE, nI_leE, nI_eqE, nI_m1, nI_m1', m1_lt, lt_m1, m1_le, le_m1, eq_self, not_true_eq_false, not_false_eq_true, ↓reduceIte, leT, leF, ltT, ltF, eqT, eqF, decide_true, decide_false, true_and, and_true, Nat.reduceAdd, bI0_i, bI_i, bI_x, bV0_v, bV_v, bV_x, ↓bnd_e, gd_t, and10, and00, m_throw0, m_throw, Bool.not_true, Bool.not_false, bT, bF, d_p1, m_in, m_noWind, m_climbers, enk', m_holders, enh', nI_div, g2, hC]
        rw [nI_sub hle, nI_ad, hfin]
  · refine ⟨.inr 1, idX ?_, fun U hC hM => res_ex (b := nI 0) 0 rfl (by omega) fun T hU => ?_⟩
    · unfold f_X9_share f_X9_share_b56
      simp (disch := omega) only [fa_lit, nI_ad, nI_mul, nI_cl, inb_nI, nI_ltE, nI_leE, nI_eqE, nI_m1, nI_m1', m1_lt, lt_m1, m1_le, le_m1, eq_self, not_true_eq_false, not_false_eq_true, ↓reduceIte, leT, leF, ltT, ltF, eqT, eqF, decide_true, decide_false, true_and, and_true, Nat.reduceAdd, bI0_i, bI_i, bI_x, bV0_v, bV_v, bV_x, ↓bnd_e, gd_t, x_need_x g_p1]
    · unfold f_X10_share f_X10_share_b22 f_X10_share_b60; rw [bnd_e, show upS T 63 0 (0 : Int32) = U from hU.symm]
      have en' : cM (U 64) 12 = nI n := by rw [hC]; exact en
      have enh' : cM (U 64) 13 = nI nh := by rw [hC]; exact enh
      have enk' : cM (U 64) 14 = nI nk := by rw [hC]; exact enk
      have d_p1 : decide (nI 0 ≤ p1 ∧ p1 ≤ nI 9999) = false := decide_eq_false g_p1
      simp (disch := omega) only [fa_lit, nI_ad, nI_mul, nI_cl, inb_nI, nI_ltE, nI_leE, nI_eqE, nI_m1, nI_m1', m1_lt, lt_m1, m1_le, le_m1, eq_self, not_true_eq_false, not_false_eq_true, ↓reduceIte, leT, leF, ltT, ltF, eqT, eqF, decide_true, decide_false, true_and, and_true, Nat.reduceAdd, bI0_i, bI_i, bI_x, bV0_v, bV_v, bV_x, ↓bnd_e, gd_t, and10, and00, m_throw0, m_throw, Bool.not_true, Bool.not_false, bT, bF, d_p1, m_in, m_noWind]
theorem x_jerks {n e : Nat} (hn : n ≤ 12) (he : e ≤ 5) : ∀ (m j k : Nat), j + m = (n + 2 * e) / (2 * e + 1) → m < k →
    f_X9_jerks_b18 F k (nI n) (nI e) (nI j) (nI (1 + j * (2 * e + 1))) S = some (.inl (some (.int (nI ((n + 2 * e) / (2 * e + 1))))), S)
  | 0, j, k + 1, hj, hk => by
    have hjn : n < 1 + j * (2 * e + 1) := by
      have : e = 0 ∨ e = 1 ∨ e = 2 ∨ e = 3 ∨ e = 4 ∨ e = 5 := by omega
      rcases this with rfl | rfl | rfl | rfl | rfl | rfl <;> omega
    have hj2 : 1 + j * (2 * e + 1) < 1000 := by
      have h1 : j ≤ 22 := by
        have := Nat.div_le_self (n + 2 * e) (2 * e + 1)
        omega
      have h2 : j * (2 * e + 1) ≤ 22 * 11 := Nat.mul_le_mul h1 (by omega)
      omega
    rw [f_X9_jerks_b18]
    simp (disch := omega) only [fa_lit, nI_ad, nI_mul, nI_cl, inb_nI, nI_ltE, nI_leE, nI_eqE, nI_m1, nI_m1', m1_lt, lt_m1, m1_le, le_m1, eq_self, not_true_eq_false, not_false_eq_true, ↓reduceIte, leT, leF, ltT, ltF, eqT, eqF, decide_true, decide_false, true_and, and_true, Nat.reduceAdd, bI0_i, bI_i, bI_x, bV0_v, bV_v, bV_x, ↓bnd_e, gd_t]
    rw [← hj]; rfl
  | m + 1, j, k + 1, hj, hk => by
    have hjn : 1 + j * (2 * e + 1) ≤ n := by
      have : e = 0 ∨ e = 1 ∨ e = 2 ∨ e = 3 ∨ e = 4 ∨ e = 5 := by omega
      rcases this with rfl | rfl | rfl | rfl | rfl | rfl <;> omega
    have ih := x_jerks hn he m (j + 1) k (by omega) (by omega)
    rw [f_X9_jerks_b18]
    simp (disch := omega) only [fa_lit, nI_ad, nI_mul, nI_cl, inb_nI, nI_ltE, nI_leE, nI_eqE, nI_m1, nI_m1', m1_lt, lt_m1, m1_le, le_m1, eq_self, not_true_eq_false, not_false_eq_true, ↓reduceIte, leT, leF, ltT, ltF, eqT, eqF, decide_true, decide_false, true_and, and_true, Nat.reduceAdd, bI0_i, bI_i, bI_x, bV0_v, bV_v, bV_x, ↓bnd_e, gd_t]
    rw [show 1 + j * (2 * e + 1) + (2 * e + 1) = 1 + (j + 1) * (2 * e + 1) by rw [Nat.add_mul, Nat.one_mul]; omega]
    exact ih
theorem ag_jerks {p1 p2 : Int32} (hF : 6000 ≤ F) (hI : Inv S) : Ag (f_X9_jerks F p1 p2) (f_X10_jerks p1 p2) [1] S := by
  refine ag_ro hI (fun n nh nk A hn en hnh enh hnk enk hX hW hR => ?_)
  by_cases g_p1 : nI 1 ≤ p1 ∧ p1 ≤ nI 12
  · skip
    obtain ⟨m, m_lo, m_hi, rfl⟩ := withinN (by omega) g_p1 (by omega)
    by_cases g_p2 : nI 0 ≤ p2 ∧ p2 ≤ nI 5
    · skip
      obtain ⟨e, e_lo, e_hi, rfl⟩ := withinN (by omega) g_p2 (by omega)
      have h := x_jerks (F := F) (S := S) m_hi e_hi ((m + 2 * e) / (2 * e + 1)) 0 F (by omega) (by have := Nat.div_le_self (m + 2 * e) (2 * e + 1); omega)
      rw [Nat.zero_mul] at h
      refine ⟨.inl (some (.int (nI ((m + 2 * e) / (2 * e + 1))))), idX ?_, fun U hC hM => ?_⟩
      · unfold f_X9_jerks 
        simp (disch := omega) only [fa_lit, nI_ad, nI_mul, nI_cl, inb_nI, nI_ltE, nI_leE, nI_eqE, nI_m1, nI_m1', m1_lt, lt_m1, m1_le, le_m1, eq_self, not_true_eq_false, not_false_eq_true, ↓reduceIte, leT, leF, ltT, ltF, eqT, eqF, decide_true, decide_false, true_and, and_true, Nat.reduceAdd, bI0_i, bI_i, bI_x, bV0_v, bV_v, bV_x, ↓bnd_e, gd_t, x_need g_p1, x_need g_p2, show f_X9_jerks_b18 F F (nI m) (nI e) (nI 0) (nI 1) S = _ from h]
      · skip
        have en' : cM (U 64) 12 = nI n := by rw [hC]; exact en
        have enh' : cM (U 64) 13 = nI nh := by rw [hC]; exact enh
        have enk' : cM (U 64) 14 = nI nk := by rw [hC]; exact enk
        have d_p1 : decide (nI 1 ≤ (nI m) ∧ (nI m) ≤ nI 12) = true := decide_eq_true g_p1
        have d_p2 : decide (nI 0 ≤ (nI e) ∧ (nI e) ≤ nI 5) = true := decide_eq_true g_p2
        refine res_ok' fun T hU => ?_
        unfold f_X10_jerks f_X10_jerks_b23 f_X10_jerks_b28 f_X10_jerks_b50; rw [bnd_e, show upS T 63 0 (0 : Int32) = U from hU.symm]
        simp (disch := omega) only [fa_lit, nI_ad, nI_mul, nI_cl, inb_nI, nI_ltE, nI_leE, nI_eqE, nI_m1, nI_m1', m1_lt, lt_m1, m1_le, le_m1, eq_self, not_true_eq_false, not_false_eq_true, ↓reduceIte, leT, leF, ltT, ltF, eqT, eqF, decide_true, decide_false, true_and, and_true, Nat.reduceAdd, bI0_i, bI_i, bI_x, bV0_v, bV_v, bV_x, ↓bnd_e, gd_t, and10, and00, m_throw0, m_throw, Bool.not_true, Bool.not_false, bT, bF, d_p1, d_p2, m_in, m_noWind, m_noEar, nI_div, hC]
    · refine ⟨.inr 1, idX ?_, fun U hC hM => res_ex (b := nI 0) 0 rfl (by omega) fun T hU => ?_⟩
      · unfold f_X9_jerks 
        simp (disch := omega) only [fa_lit, nI_ad, nI_mul, nI_cl, inb_nI, nI_ltE, nI_leE, nI_eqE, nI_m1, nI_m1', m1_lt, lt_m1, m1_le, le_m1, eq_self, not_true_eq_false, not_false_eq_true, ↓reduceIte, leT, leF, ltT, ltF, eqT, eqF, decide_true, decide_false, true_and, and_true, Nat.reduceAdd, bI0_i, bI_i, bI_x, bV0_v, bV_v, bV_x, ↓bnd_e, gd_t, x_need g_p1, x_need_x g_p2]
      · unfold f_X10_jerks f_X10_jerks_b23 f_X10_jerks_b28 f_X10_jerks_b50; rw [bnd_e, show upS T 63 0 (0 : Int32) = U from hU.symm]
        have en' : cM (U 64) 12 = nI n := by rw [hC]; exact en
        have enh' : cM (U 64) 13 = nI nh := by rw [hC]; exact enh
        have enk' : cM (U 64) 14 = nI nk := by rw [hC]; exact enk
        have d_p1 : decide (nI 1 ≤ (nI m) ∧ (nI m) ≤ nI 12) = true := decide_eq_true g_p1
        have d_p2 : decide (nI 0 ≤ p2 ∧ p2 ≤ nI 5) = false := decide_eq_false g_p2
        simp (disch := omega) only [fa_lit, nI_ad, nI_mul, nI_cl, inb_nI, nI_ltE, nI_leE, nI_eqE, nI_m1, nI_m1', m1_lt, lt_m1, m1_le, le_m1, eq_self, not_true_eq_false, not_false_eq_true, ↓reduceIte, leT, leF, ltT, ltF, eqT, eqF, decide_true, decide_false, true_and, and_true, Nat.reduceAdd, bI0_i, bI_i, bI_x, bV0_v, bV_v, bV_x, ↓bnd_e, gd_t, and10, and00, m_throw0, m_throw, Bool.not_true, Bool.not_false, bT, bF, d_p1, d_p2, m_in, m_noEar, m_noWind]
  · refine ⟨.inr 1, idX ?_, fun U hC hM => res_ex (b := nI 0) 0 rfl (by omega) fun T hU => ?_⟩
    · unfold f_X9_jerks 
      simp (disch := omega) only [fa_lit, nI_ad, nI_mul, nI_cl, inb_nI, nI_ltE, nI_leE, nI_eqE, nI_m1, nI_m1', m1_lt, lt_m1, m1_le, le_m1, eq_self, not_true_eq_false, not_false_eq_true, ↓reduceIte, leT, leF, ltT, ltF, eqT, eqF, decide_true, decide_false, true_and, and_true, Nat.reduceAdd, bI0_i, bI_i, bI_x, bV0_v, bV_v, bV_x, ↓bnd_e, gd_t, x_need_x g_p1]
    · unfold f_X10_jerks f_X10_jerks_b23 f_X10_jerks_b28 f_X10_jerks_b50; rw [bnd_e, show upS T 63 0 (0 : Int32) = U from hU.symm]
      have en' : cM (U 64) 12 = nI n := by rw [hC]; exact en
      have enh' : cM (U 64) 13 = nI nh := by rw [hC]; exact enh
      have enk' : cM (U 64) 14 = nI nk := by rw [hC]; exact enk
      have d_p1 : decide (nI 1 ≤ p1 ∧ p1 ≤ nI 12) = false := decide_eq_false g_p1
      simp (disch := omega) only [fa_lit, nI_ad, nI_mul, nI_cl, inb_nI, nI_ltE, nI_leE, nI_eqE, nI_m1, nI_m1', m1_lt, lt_m1, m1_le, le_m1, eq_self, not_true_eq_false, not_false_eq_true, ↓reduceIte, leT, leF, ltT, ltF, eqT, eqF, decide_true, decide_false, true_and, and_true, Nat.reduceAdd, bI0_i, bI_i, bI_x, bV0_v, bV_v, bV_x, ↓bnd_e, gd_t, and10, and00, m_throw0, m_throw, Bool.not_true, Bool.not_false, bT, bF, d_p1, m_in, m_noEar, m_noWind]
theorem x_farloop {A : aL} {l : Nat} {wind : Int32} {n : Nat} (hn : n ≤ 13) (hF : 401 ≤ F) (hl : l < 10) (hA : LX A S 3) (hW : LW A) : ∀ (m i k : Nat) (p q : Nat → Int32), i + m = n → m < k →
    ∃ p' q', f_X9_farthest_b25 F k (nI l) (nI n) wind (farV A (S 25) l wind i) (nI (i + 1)) (sX S p q) = some (.inl (some (.int (farV A (S 25) l wind n))), sX S p' q')
  | 0, i, k + 1, p, q, hi, hk => by
    have hie : i = n := by omega
    subst hie
    refine ⟨p, q, ?_⟩
    rw [f_X9_farthest_b25]
    simp (disch := omega) only [fa_lit, nI_ad, nI_mul, nI_cl, inb_nI, nI_ltE, nI_leE, nI_eqE, nI_m1, nI_m1', m1_lt, lt_m1, m1_le, le_m1, eq_self, not_true_eq_false, not_false_eq_true, ↓reduceIte, leT, leF, ltT, ltF, eqT, eqF, decide_true, decide_false, true_and, and_true, Nat.reduceAdd, bI0_i, bI_i, bI_x, bV0_v, bV_v, bV_x, ↓bnd_e, gd_t]
  | m + 1, i, k + 1, p, q, hi, hk => by
    obtain ⟨p1, q1, h⟩ := x_swingOf (kick := nI (i + 1)) (wind := wind) (S := sX S p q) (u := 24) hF (by omega) hl (LX_sX hA) hW
    obtain ⟨p2, q2, ih⟩ := x_farloop (A := A) (l := l) (wind := wind) hn hF hl hA hW m (i + 1) k p1 q1 (by omega) (by omega)
    refine ⟨p2, q2, ?_⟩
    rw [sX_sX, sX_n (by omega) (by omega)] at h
    rw [f_X9_farthest_b25]
    simp (disch := omega) only [fa_lit, nI_ad, nI_mul, nI_cl, inb_nI, nI_ltE, nI_leE, nI_eqE, nI_m1, nI_m1', m1_lt, lt_m1, m1_le, le_m1, eq_self, not_true_eq_false, not_false_eq_true, ↓reduceIte, leT, leF, ltT, ltF, eqT, eqF, decide_true, decide_false, true_and, and_true, Nat.reduceAdd, bI0_i, bI_i, bI_x, bV0_v, bV_v, bV_x, ↓bnd_e, gd_t, h]
    exact ih
theorem ag_farthest {p1 p2 p3 : Int32} (hF : 6000 ≤ F) (hI : Inv S) : Ag (f_X9_farthest F p1 p2 p3) (f_X10_farthest F p1 p2 p3) [3, 1] S := by
  refine ag_ro hI (fun n nh nk A hn en hnh enh hnk enk hX hW hR => ?_)
  by_cases g_p1 : ∃ z, z < n ∧ p1 = nI z
  · obtain ⟨l, h_p1, rfl⟩ := g_p1
    by_cases g_p2 : nI 0 ≤ p2 ∧ p2 ≤ nI 12
    · skip
      obtain ⟨m, m_lo, m_hi, rfl⟩ := withinN (by omega) g_p2 (by omega)
      by_cases g_p3 : nI 0 ≤ p3 ∧ p3 ≤ nI 9
      · skip
        obtain ⟨p, q, h⟩ := x_farloop (F := F) (wind := p3) (n := m) (by omega) (by omega) (by omega : l < 10) hX hW m 0 F (S 8) (S 9) (by omega) (by omega)
        rw [sX_id] at h
        refine ⟨.inl (some (.int (farV A (S 25) l p3 m))), ⟨p, q, ?_⟩, fun U hC hM => ?_⟩
        · unfold f_X9_farthest 
          simp (disch := omega) only [fa_lit, nI_ad, nI_mul, nI_cl, inb_nI, nI_ltE, nI_leE, nI_eqE, nI_m1, nI_m1', m1_lt, lt_m1, m1_le, le_m1, eq_self, not_true_eq_false, not_false_eq_true, ↓reduceIte, leT, leF, ltT, ltF, eqT, eqF, decide_true, decide_false, true_and, and_true, Nat.reduceAdd, bI0_i, bI_i, bI_x, bV0_v, bV_v, bV_x, ↓bnd_e, gd_t, x_needLedge hn en h_p1, x_need g_p2, x_need g_p3, show f_X9_farthest_b25 F F (nI l) (nI m) p3 (nI 0) (nI 1) S = _ from h]
        · skip
          have en' : cM (U 64) 12 = nI n := by rw [hC]; exact en
          have enh' : cM (U 64) 13 = nI nh := by rw [hC]; exact enh
          have enk' : cM (U 64) 14 = nI nk := by rw [hC]; exact enk
          have d_p2 : decide (nI 0 ≤ (nI m) ∧ (nI m) ≤ nI 12) = true := decide_eq_true g_p2
          have d_p3 : decide (nI 0 ≤ p3 ∧ p3 ≤ nI 9) = true := decide_eq_true g_p3
          obtain ⟨a, b, q, h⟩ := m_swings (F := F) (S := U) (wind := p3) (n := m) (by omega) (by omega) (by omega : l < 10) hM hW
          refine res_ok (a := a) (b' := b) (q := q) fun T hU => ?_
          unfold f_X10_farthest f_X10_farthest_b36 f_X10_farthest_b41 f_X10_farthest_b48 f_X10_farthest_b59; rw [bnd_e, show upS T 63 0 (0 : Int32) = U from hU.symm]
          simp (disch := omega) only [fa_lit, nI_ad, nI_mul, nI_cl, inb_nI, nI_ltE, nI_leE, nI_eqE, nI_m1, nI_m1', m1_lt, lt_m1, m1_le, le_m1, eq_self, not_true_eq_false, not_false_eq_true, ↓reduceIte, leT, leF, ltT, ltF, eqT, eqF, decide_true, decide_false, true_and, and_true, Nat.reduceAdd, bI0_i, bI_i, bI_x, bV0_v, bV_v, bV_x, ↓bnd_e, gd_t, and10, and00, m_throw0, m_throw, Bool.not_true, Bool.not_false, bT, bF, m_noLedge hn en' h_p1, d_p2, d_p3, m_in, m_noWind, h, hC]
      · refine ⟨.inr 1, idX ?_, fun U hC hM => res_ex (b := nI 0) 1 rfl (by omega) fun T hU => ?_⟩
        · unfold f_X9_farthest 
          simp (disch := omega) only [fa_lit, nI_ad, nI_mul, nI_cl, inb_nI, nI_ltE, nI_leE, nI_eqE, nI_m1, nI_m1', m1_lt, lt_m1, m1_le, le_m1, eq_self, not_true_eq_false, not_false_eq_true, ↓reduceIte, leT, leF, ltT, ltF, eqT, eqF, decide_true, decide_false, true_and, and_true, Nat.reduceAdd, bI0_i, bI_i, bI_x, bV0_v, bV_v, bV_x, ↓bnd_e, gd_t, x_needLedge hn en h_p1, x_need g_p2, x_need_x g_p3]
        · unfold f_X10_farthest f_X10_farthest_b36 f_X10_farthest_b41 f_X10_farthest_b48 f_X10_farthest_b59; rw [bnd_e, show upS T 63 0 (0 : Int32) = U from hU.symm]
          have en' : cM (U 64) 12 = nI n := by rw [hC]; exact en
          have enh' : cM (U 64) 13 = nI nh := by rw [hC]; exact enh
          have enk' : cM (U 64) 14 = nI nk := by rw [hC]; exact enk
          have d_p2 : decide (nI 0 ≤ (nI m) ∧ (nI m) ≤ nI 12) = true := decide_eq_true g_p2
          have d_p3 : decide (nI 0 ≤ p3 ∧ p3 ≤ nI 9) = false := decide_eq_false g_p3
          simp (disch := omega) only [fa_lit, nI_ad, nI_mul, nI_cl, inb_nI, nI_ltE, nI_leE, nI_eqE, nI_m1, nI_m1', m1_lt, lt_m1, m1_le, le_m1, eq_self, not_true_eq_false, not_false_eq_true, ↓reduceIte, leT, leF, ltT, ltF, eqT, eqF, decide_true, decide_false, true_and, and_true, Nat.reduceAdd, bI0_i, bI_i, bI_x, bV0_v, bV_v, bV_x, ↓bnd_e, gd_t, and10, and00, m_throw0, m_throw, Bool.not_true, Bool.not_false, bT, bF, m_noLedge hn en' h_p1, d_p2, d_p3, m_in, m_noWind]
    · refine ⟨.inr 1, idX ?_, fun U hC hM => res_ex (b := nI 0) 1 rfl (by omega) fun T hU => ?_⟩
      · unfold f_X9_farthest 
        simp (disch := omega) only [fa_lit, nI_ad, nI_mul, nI_cl, inb_nI, nI_ltE, nI_leE, nI_eqE, nI_m1, nI_m1', m1_lt, lt_m1, m1_le, le_m1, eq_self, not_true_eq_false, not_false_eq_true, ↓reduceIte, leT, leF, ltT, ltF, eqT, eqF, decide_true, decide_false, true_and, and_true, Nat.reduceAdd, bI0_i, bI_i, bI_x, bV0_v, bV_v, bV_x, ↓bnd_e, gd_t, x_needLedge hn en h_p1, x_need_x g_p2]
      · unfold f_X10_farthest f_X10_farthest_b36 f_X10_farthest_b41 f_X10_farthest_b48 f_X10_farthest_b59; rw [bnd_e, show upS T 63 0 (0 : Int32) = U from hU.symm]
        have en' : cM (U 64) 12 = nI n := by rw [hC]; exact en
        have enh' : cM (U 64) 13 = nI nh := by rw [hC]; exact enh
        have enk' : cM (U 64) 14 = nI nk := by rw [hC]; exact enk
        have d_p2 : decide (nI 0 ≤ p2 ∧ p2 ≤ nI 12) = false := decide_eq_false g_p2
        simp (disch := omega) only [fa_lit, nI_ad, nI_mul, nI_cl, inb_nI, nI_ltE, nI_leE, nI_eqE, nI_m1, nI_m1', m1_lt, lt_m1, m1_le, le_m1, eq_self, not_true_eq_false, not_false_eq_true, ↓reduceIte, leT, leF, ltT, ltF, eqT, eqF, decide_true, decide_false, true_and, and_true, Nat.reduceAdd, bI0_i, bI_i, bI_x, bV0_v, bV_v, bV_x, ↓bnd_e, gd_t, and10, and00, m_throw0, m_throw, Bool.not_true, Bool.not_false, bT, bF, m_noLedge hn en' h_p1, d_p2, m_in, m_noWind]
  · refine ⟨.inr 3, idX ?_, fun U hC hM => res_ex (b := nI 0) 0 rfl (by omega) fun T hU => ?_⟩
    · unfold f_X9_farthest 
      simp (disch := omega) only [fa_lit, nI_ad, nI_mul, nI_cl, inb_nI, nI_ltE, nI_leE, nI_eqE, nI_m1, nI_m1', m1_lt, lt_m1, m1_le, le_m1, eq_self, not_true_eq_false, not_false_eq_true, ↓reduceIte, leT, leF, ltT, ltF, eqT, eqF, decide_true, decide_false, true_and, and_true, Nat.reduceAdd, bI0_i, bI_i, bI_x, bV0_v, bV_v, bV_x, ↓bnd_e, gd_t, x_needLedge_x hn en g_p1]
    · unfold f_X10_farthest f_X10_farthest_b36 f_X10_farthest_b41 f_X10_farthest_b48 f_X10_farthest_b59; rw [bnd_e, show upS T 63 0 (0 : Int32) = U from hU.symm]
      have en' : cM (U 64) 12 = nI n := by rw [hC]; exact en
      have enh' : cM (U 64) 13 = nI nh := by rw [hC]; exact enh
      have enk' : cM (U 64) 14 = nI nk := by rw [hC]; exact enk
      simp (disch := omega) only [fa_lit, nI_ad, nI_mul, nI_cl, inb_nI, nI_ltE, nI_leE, nI_eqE, nI_m1, nI_m1', m1_lt, lt_m1, m1_le, le_m1, eq_self, not_true_eq_false, not_false_eq_true, ↓reduceIte, leT, leF, ltT, ltF, eqT, eqF, decide_true, decide_false, true_and, and_true, Nat.reduceAdd, bI0_i, bI_i, bI_x, bV0_v, bV_v, bV_x, ↓bnd_e, gd_t, and10, and00, m_throw0, m_throw, Bool.not_true, Bool.not_false, bT, bF, m_noLedge_x hn en' g_p1, m_in, m_noWind]
end O
