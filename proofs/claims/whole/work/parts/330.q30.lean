/-! late -/
section D
variable {F : Nat} {S : mS} {A : aL}
theorem x_lateL {l : Nat} {c : Nat → Int32} (hF : 6000 ≤ F) (hl : l < 10) (hA : LX A S 3) (hW : LW A) (hR : Rg c) : ∀ (m i k : Nat) (p q : Nat → Int32), i + m = 41 → m < k →
    ∃ c' p' q', zb c' ∧ f_X9_late_b18 F k (nI l) (nI i) (sX (seS S 27 (stC A l c i)) p q) = some (.inl (some (.int (whF (fun i => ltB (stC A l c i) l) m i))), sX (seS S 27 c') p' q')
  | 0, i, k + 1, p, q, hi, hk => by
    have hie : i = 41 := by omega
    rw [hie]
    refine ⟨_, p, q, (stC_rg hW hR hl (i := 41)).2, ?_⟩
    rw [f_X9_late_b18, whF]
    simp (disch := omega) only [fa_lit, nI_ad, nI_mul, nI_cl, inb_nI, nI_ltE, nI_leE, nI_eqE, nI_m1, nI_m1', m1_lt, lt_m1, m1_le, le_m1, eq_self, not_true_eq_false, not_false_eq_true, ↓reduceIte, leT, leF, ltT, ltF, eqT, eqF, decide_true, decide_false, true_and, and_true, Nat.reduceAdd, bI0_i, bI_i, bI_x, bV0_v, bV_v, bV_x, ↓bnd_e, gd_t]
  | m + 1, i, k + 1, p, q, hi, hk => by
    have hRi := stC_rg hW hR hl (i := i)
    have hb := ltB_x hRi hl
    obtain ⟨p1, q1, h⟩ := x_still (F := F) (S := S) (l := l) (c := stC A l c i) (p := p) (q := q) hF hl hA hW
    obtain ⟨c2, p2, q2, z2, ih⟩ := x_lateL hF hl hA hW hR m (i + 1) k p1 q1 (by omega) (by omega)
    rw [stC] at ih
    rw [whF]
    rw [hb, f_X9_late_b18]
    unfold f_X9_late_b49
    by_cases g2 : stC A l c i (16 + l * 5 + 2) ≤ nI 0
    · refine ⟨c2, p2, q2, z2, ?_⟩
      simp (disch := omega) only [fa_lit, nI_ad, nI_mul, nI_cl, inb_nI, nI_ltE, nI_leE, nI_eqE, nI_m1, nI_m1', m1_lt, lt_m1, m1_le, le_m1, eq_self, not_true_eq_false, not_false_eq_true, ↓reduceIte, leT, leF, ltT, ltF, eqT, eqF, decide_true, decide_false, true_and, and_true, Nat.reduceAdd, bI0_i, bI_i, bI_x, bV0_v, bV_v, bV_x, ↓bnd_e, gd_t, x_ofLedge, at_x, g2, Bool.false_and, Bool.false_eq_true, h]
      exact ih
    · cases g1 : isF (stC A l c i) l with
      | true =>
        refine ⟨c2, p2, q2, z2, ?_⟩
        simp (disch := omega) only [fa_lit, nI_ad, nI_mul, nI_cl, inb_nI, nI_ltE, nI_leE, nI_eqE, nI_m1, nI_m1', m1_lt, lt_m1, m1_le, le_m1, eq_self, not_true_eq_false, not_false_eq_true, ↓reduceIte, leT, leF, ltT, ltF, eqT, eqF, decide_true, decide_false, true_and, and_true, Nat.reduceAdd, bI0_i, bI_i, bI_x, bV0_v, bV_v, bV_x, ↓bnd_e, gd_t, x_isFresh, x_ofLedge, at_x, g1, bT, g2, Bool.not_true, Bool.and_false, Bool.false_eq_true, h]
        exact ih
      | false =>
        refine ⟨_, p, q, hRi.2, ?_⟩
        simp (disch := omega) only [fa_lit, nI_ad, nI_mul, nI_cl, inb_nI, nI_ltE, nI_leE, nI_eqE, nI_m1, nI_m1', m1_lt, lt_m1, m1_le, le_m1, eq_self, not_true_eq_false, not_false_eq_true, ↓reduceIte, leT, leF, ltT, ltF, eqT, eqF, decide_true, decide_false, true_and, and_true, Nat.reduceAdd, bI0_i, bI_i, bI_x, bV0_v, bV_v, bV_x, ↓bnd_e, gd_t, x_isFresh, x_ofLedge, at_x, g1, bF, g2, Bool.not_false, Bool.and_self]
theorem m_lateL {l n nh : Nat} {w c c0 : Nat → Int32} (hF : 6000 ≤ F) (hl : l < n) (h4 : S 67 4 = w 4) (hc : cM (S 67) = c0) (hA : LM A w) (hW : LW A) (hR : Rg c) (hn : n ≤ 10) (en : c 12 = nI n) (hnh : nh ≤ 6) (enh : c 13 = nI nh) : ∀ (m i k : Nat) (a b : Int32) (q : Nat → Int32), i + m = 41 → m + 1 < k →
    ∃ a' b' q', f_X10_late_b28 F k (nI l) (-nI 1) (nI i) (sM (seS S 64 (wO w (cdC A n nh c i))) a b q) = some (.inl (some (.int (whF (fun i => ltB (cdC A n nh c i) l) m i))), sM (seS S 64 (wO w c0)) a' b' q')
  | 0, i, k + 1, a, b, q, hi, hk => by
    have hie : i = 41 := by omega
    rw [hie]
    refine ⟨a, b, q, ?_⟩
    rw [f_X10_late_b28, whF]
    unfold f_X10_late_b75
    simp (disch := omega) only [fa_lit, nI_ad, nI_mul, nI_cl, inb_nI, nI_ltE, nI_leE, nI_eqE, nI_m1, nI_m1', m1_lt, lt_m1, m1_le, le_m1, eq_self, not_true_eq_false, not_false_eq_true, ↓reduceIte, leT, leF, ltT, ltF, eqT, eqF, decide_true, decide_false, true_and, and_true, Nat.reduceAdd, bI0_i, bI_i, bI_x, bV0_v, bV_v, bV_x, ↓bnd_e, gd_t, m_brings hF h4 hc]
  | m + 1, i, k + 2, a, b, q, hi, hk => by
    obtain ⟨a1, b1, q1, h⟩ := m_calmDay (F := F) (S := S) (x := nI 1) (w := w) (c := cdC A n nh c i) (a := a) (b := b) (q := q) (by decide) (by omega) hA hW (cdC_rg hW hR hn hnh) hn (by rw [cdC_out hn hnh (by omega) (by omega)]; exact en) hnh (by rw [cdC_out hn hnh (by omega) (by omega)]; exact enh)
    obtain ⟨a2, b2, q2, ih⟩ := m_lateL hF hl h4 hc hA hW hR hn en hnh enh m (i + 1) (k + 1) a1 b1 q1 (by omega) (by omega)
    rw [cdC] at ih
    rw [whF]
    have n0 : ¬ nI 0 ≤ -nI 1 := by decide
    unfold ltB at ih ⊢
    by_cases g1 : cdC A n nh c i (16 + l * 5 + 2) ≤ nI 0
    · refine ⟨a2, b2, q2, ?_⟩
      rw [if_neg (by simp [g1]), f_X10_late_b28]
      unfold f_X10_late_b61 f_X10_late_b62
      simp (disch := omega) only [fa_lit, nI_ad, nI_mul, nI_cl, inb_nI, nI_ltE, nI_leE, nI_eqE, nI_m1, nI_m1', m1_lt, lt_m1, m1_le, le_m1, eq_self, not_true_eq_false, not_false_eq_true, ↓reduceIte, leT, leF, ltT, ltF, eqT, eqF, decide_true, decide_false, true_and, and_true, Nat.reduceAdd, bI0_i, bI_i, bI_x, bV0_v, bV_v, bV_x, ↓bnd_e, gd_t, n0, m_of, at_m, cM_wOi, wO_at, up_m, pj_l, pj_h, pj_k, pj_0, pj_1, pj_2, pj_3, pj_5, pj_6, pj_7, pj_8, pj_9, pj_10, pj_11, pj_12, pj_13, pj_14, pj_15, pj_16, g1, h]
      exact ih
    · by_cases g2 : cdC A n nh c i (16 + l * 5 + 3) ≤ nI 3
      · refine ⟨a2, b2, q2, ?_⟩
        rw [if_neg (by simp [g2]), f_X10_late_b28]
        unfold f_X10_late_b61 f_X10_late_b62
        simp (disch := omega) only [fa_lit, nI_ad, nI_mul, nI_cl, inb_nI, nI_ltE, nI_leE, nI_eqE, nI_m1, nI_m1', m1_lt, lt_m1, m1_le, le_m1, eq_self, not_true_eq_false, not_false_eq_true, ↓reduceIte, leT, leF, ltT, ltF, eqT, eqF, decide_true, decide_false, true_and, and_true, Nat.reduceAdd, bI0_i, bI_i, bI_x, bV0_v, bV_v, bV_x, ↓bnd_e, gd_t, n0, m_of, at_m, cM_wOi, wO_at, up_m, pj_l, pj_h, pj_k, pj_0, pj_1, pj_2, pj_3, pj_5, pj_6, pj_7, pj_8, pj_9, pj_10, pj_11, pj_12, pj_13, pj_14, pj_15, pj_16, g1, g2, h]
        exact ih
      · refine ⟨a1, b1, q1, ?_⟩
        rw [if_pos (by simp [g1, g2]), f_X10_late_b28]
        unfold f_X10_late_b61 f_X10_late_b62
        simp (disch := omega) only [fa_lit, nI_ad, nI_mul, nI_cl, inb_nI, nI_ltE, nI_leE, nI_eqE, nI_m1, nI_m1', m1_lt, lt_m1, m1_le, le_m1, eq_self, not_true_eq_false, not_false_eq_true, ↓reduceIte, leT, leF, ltT, ltF, eqT, eqF, decide_true, decide_false, true_and, and_true, Nat.reduceAdd, bI0_i, bI_i, bI_x, bV0_v, bV_v, bV_x, ↓bnd_e, gd_t, n0, m_of, at_m, cM_wOi, wO_at, up_m, pj_l, pj_h, pj_k, pj_0, pj_1, pj_2, pj_3, pj_5, pj_6, pj_7, pj_8, pj_9, pj_10, pj_11, pj_12, pj_13, pj_14, pj_15, pj_16, g1, g2, h]
        rw [f_X10_late_b28]
        unfold f_X10_late_b75
        simp (disch := omega) only [fa_lit, nI_ad, nI_mul, nI_cl, inb_nI, nI_ltE, nI_leE, nI_eqE, nI_m1, nI_m1', m1_lt, lt_m1, m1_le, le_m1, eq_self, not_true_eq_false, not_false_eq_true, ↓reduceIte, leT, leF, ltT, ltF, eqT, eqF, decide_true, decide_false, true_and, and_true, Nat.reduceAdd, bI0_i, bI_i, bI_x, bV0_v, bV_v, bV_x, ↓bnd_e, gd_t, m_brings hF h4 hc, ite_self]
theorem ag_late {p1 : Int32} (hF : 6000 ≤ F) (hI : Inv S) : Ag (f_X9_late F p1) (f_X10_late F p1) [3] S := by
  obtain ⟨n, nh, nk, A, hn, en, hnh, enh, hnk, enk, hX, hW, hM, hR, hC⟩ := inv_b hI
  by_cases g1 : ∃ l, l < n ∧ p1 = nI l
  · obtain ⟨l, hl, rfl⟩ := g1
    refine ag_as (r := whF (fun i => ltB (stC A l (S 25) i) l) 41 0) hF hI (gX := _) (gM := _) (by unfold f_X9_late; rw [x_needLedge hn en hl, bV_v]) (fun T U hU h64 => by
      have en' : cM (U 64) 12 = nI n := by rw [h64, hC]; exact en
      unfold f_X10_late; rw [bnd_e, show upS T 63 0 (0 : Int32) = U from hU.symm]
      simp (disch := omega) only [fa_lit, nI_ad, nI_mul, nI_cl, inb_nI, nI_ltE, nI_leE, nI_eqE, nI_m1, nI_m1', m1_lt, lt_m1, m1_le, le_m1, eq_self, not_true_eq_false, not_false_eq_true, ↓reduceIte, leT, leF, ltT, ltF, eqT, eqF, decide_true, decide_false, true_and, and_true, Nat.reduceAdd, bI0_i, bI_i, bI_x, bV0_v, bV_v, bV_x, ↓bnd_e, gd_t, m_noLedge hn en' hl, m_throw0]
      rfl) (fun p q => ?_) (fun U a b q h4 hc => ?_)
    · exact x_lateL (F := F) (S := S) (c := S 25) hF (by omega) hX hW hR 41 0 F p q (by omega) (by omega)
    · have h := m_lateL (F := F) (S := U) (c := S 25) hF hl h4 hc hM hW hR hn en hnh enh 41 0 F a b q (by omega) (by omega)
      have e : whF (fun i => ltB (cdC A n nh (S 25) i) l) 41 0 = whF (fun i => ltB (stC A l (S 25) i) l) 41 0 := whF_congr (fun i => by
        have hs := st_cd (A := A) (c := S 25) hl hn hnh (i := i)
        unfold ltB; rw [hs.2.2 2 (by omega), hs.2.2 3 (by omega)])
      rw [e] at h
      exact h
  · refine ag_exc (b := nI 0) hI 0 rfl (by omega) ?_ (fun T U hU h64 => ?_)
    · unfold f_X9_late
      simp (disch := omega) only [fa_lit, nI_ad, nI_mul, nI_cl, inb_nI, nI_ltE, nI_leE, nI_eqE, nI_m1, nI_m1', m1_lt, lt_m1, m1_le, le_m1, eq_self, not_true_eq_false, not_false_eq_true, ↓reduceIte, leT, leF, ltT, ltF, eqT, eqF, decide_true, decide_false, true_and, and_true, Nat.reduceAdd, bI0_i, bI_i, bI_x, bV0_v, bV_v, bV_x, ↓bnd_e, gd_t, x_needLedge_x hn en g1]
    · have en' : cM (U 64) 12 = nI n := by rw [h64, hC]; exact en
      unfold f_X10_late; rw [bnd_e, show upS T 63 0 (0 : Int32) = U from hU.symm]
      simp (disch := omega) only [fa_lit, nI_ad, nI_mul, nI_cl, inb_nI, nI_ltE, nI_leE, nI_eqE, nI_m1, nI_m1', m1_lt, lt_m1, m1_le, le_m1, eq_self, not_true_eq_false, not_false_eq_true, ↓reduceIte, leT, leF, ltT, ltF, eqT, eqF, decide_true, decide_false, true_and, and_true, Nat.reduceAdd, bI0_i, bI_i, bI_x, bV0_v, bV_v, bV_x, ↓bnd_e, gd_t, m_noLedge_x hn en' g1, m_throw]
end D
