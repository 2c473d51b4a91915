/-! when -/
section D
variable {F : Nat} {S : mS} {A : aL}
/-- the first day of which something holds -/
def whF (B : Nat → Bool) : Nat → Nat → Int32
  | 0, _ => -nI 1
  | m + 1, i => if B i = true then nI i else whF B m (i + 1)
theorem whF_congr {B B' : Nat → Bool} (h : ∀ i, B i = B' i) : ∀ {m i : Nat}, whF B m i = whF B' m i
  | 0, _ => rfl
  | m + 1, i => by rw [whF, whF, h i, whF_congr h]
/-- so many fresh eggs; old eggs -/
def whB (c : Nat → Int32) (l e : Nat) : Bool := decide (¬ c (16 + l * 5 + 2) < nI e ∧ ¬ nI 3 < c (16 + l * 5 + 3))
def ltB (c : Nat → Int32) (l : Nat) : Bool := decide (¬ c (16 + l * 5 + 2) ≤ nI 0 ∧ ¬ c (16 + l * 5 + 3) ≤ nI 3)
theorem whB_x {c : Nat → Int32} {l e : Nat} (hR : Rg c) (hl : l < 10) (he : 1 ≤ e) (he2 : e ≤ 20) : whB c l e = (isF c l && decide (¬ c (16 + l * 5 + 2) < nI e)) := by
  obtain ⟨g, h3, h4⟩ := hR.eggs hl
  obtain ⟨a, h5, h6⟩ := hR.age hl
  unfold whB isF freshV
  simp (disch := omega) only [h4, h6, nI_ltE]
  by_cases g1 : 3 < a
  · simp (disch := omega) only [g1, ↓reduceIte, nI_ltE, not_true_eq_false, and_false, decide_false, Nat.lt_irrefl, Bool.false_and]
  · simp (disch := omega) only [g1, ↓reduceIte, nI_ltE, not_false_eq_true, and_true]
    by_cases g2 : g < e
    · simp only [g2, not_true_eq_false, decide_false, Bool.and_false]
    · have : 0 < g := by omega
      simp only [g2, this, not_false_eq_true, decide_true, Bool.and_self]
theorem ltB_x {c : Nat → Int32} {l : Nat} (hR : Rg c) (hl : l < 10) : ltB c l = (decide (¬ c (16 + l * 5 + 2) ≤ nI 0) && !isF c l) := by
  obtain ⟨g, h3, h4⟩ := hR.eggs hl
  obtain ⟨a, h5, h6⟩ := hR.age hl
  unfold ltB isF freshV
  simp (disch := omega) only [h4, h6, nI_ltE, nI_leE]
  by_cases g1 : 3 < a
  · have g2 : ¬ a ≤ 3 := by omega
    simp (disch := omega) only [g1, g2, ↓reduceIte, nI_ltE, not_false_eq_true, and_true, decide_false, Nat.lt_irrefl, Bool.not_false, Bool.and_true]
  · have g2 : a ≤ 3 := by omega
    simp (disch := omega) only [g1, g2, ↓reduceIte, nI_ltE, not_true_eq_false, and_false, decide_false]
    by_cases g3 : g ≤ 0
    · simp only [g3, not_true_eq_false, decide_false, Bool.false_and]
    · have : 0 < g := by omega
      simp only [this, decide_true, Bool.not_true, Bool.and_false]
theorem x_whenL {l e : Nat} {c : Nat → Int32} (hF : 6000 ≤ F) (hl : l < 10) (he : 1 ≤ e) (he2 : e ≤ 20) (hA : LX A S 3) (hW : LW A) (hR : Rg c) : ∀ (m i k : Nat) (p q : Nat → Int32), i + m = 41 → m < k →
    ∃ c' p' q', zb c' ∧ f_X9_when_b25 F k (nI l) (nI e) (nI i) (sX (seS S 27 (stC A l c i)) p q) = some (.inl (some (.int (whF (fun i => whB (stC A l c i) l e) m i))), sX (seS S 27 c') p' q')
  | 0, i, k + 1, p, q, hi, hk => by
    have hie : i = 41 := by omega
    rw [hie]
    refine ⟨_, p, q, (stC_rg hW hR hl (i := 41)).2, ?_⟩
    rw [f_X9_when_b25, whF]
    simp (disch := omega) only [fa_lit, nI_ad, nI_mul, nI_cl, inb_nI, nI_ltE, nI_leE, nI_eqE, nI_m1, nI_m1', m1_lt, lt_m1, m1_le, le_m1, eq_self, not_true_eq_false, not_false_eq_true, ↓reduceIte, leT, leF, ltT, ltF, eqT, eqF, decide_true, decide_false, true_and, and_true, Nat.reduceAdd, bI0_i, bI_i, bI_x, bV0_v, bV_v, bV_x, ↓bnd_e, gd_t]
  | m + 1, i, k + 1, p, q, hi, hk => by
    have hRi := stC_rg hW hR hl (i := i)
    have hb := whB_x hRi hl he he2
    obtain ⟨p1, q1, h⟩ := x_still (F := F) (S := S) (l := l) (c := stC A l c i) (p := p) (q := q) hF hl hA hW
    obtain ⟨c2, p2, q2, z2, ih⟩ := x_whenL hF hl he he2 hA hW hR m (i + 1) k p1 q1 (by omega) (by omega)
    rw [stC] at ih
    rw [whF]
    rw [hb, f_X9_when_b25]
    unfold f_X9_when_b57
    cases g1 : isF (stC A l c i) l with
    | false =>
      refine ⟨c2, p2, q2, z2, ?_⟩
      simp (disch := omega) only [fa_lit, nI_ad, nI_mul, nI_cl, inb_nI, nI_ltE, nI_leE, nI_eqE, nI_m1, nI_m1', m1_lt, lt_m1, m1_le, le_m1, eq_self, not_true_eq_false, not_false_eq_true, ↓reduceIte, leT, leF, ltT, ltF, eqT, eqF, decide_true, decide_false, true_and, and_true, Nat.reduceAdd, bI0_i, bI_i, bI_x, bV0_v, bV_v, bV_x, ↓bnd_e, gd_t, x_isFresh, at_x, g1, bF, Bool.false_and, Bool.false_eq_true, h]
      exact ih
    | true =>
      by_cases g2 : stC A l c i (16 + l * 5 + 2) < nI e
      · refine ⟨c2, p2, q2, z2, ?_⟩
        simp (disch := omega) only [fa_lit, nI_ad, nI_mul, nI_cl, inb_nI, nI_ltE, nI_leE, nI_eqE, nI_m1, nI_m1', m1_lt, lt_m1, m1_le, le_m1, eq_self, not_true_eq_false, not_false_eq_true, ↓reduceIte, leT, leF, ltT, ltF, eqT, eqF, decide_true, decide_false, true_and, and_true, Nat.reduceAdd, bI0_i, bI_i, bI_x, bV0_v, bV_v, bV_x, ↓bnd_e, gd_t, x_isFresh, x_ofLedge, at_x, g1, bT, g2, Bool.and_false, Bool.false_eq_true, h]
        exact ih
      · refine ⟨_, p, q, hRi.2, ?_⟩
        simp (disch := omega) only [fa_lit, nI_ad, nI_mul, nI_cl, inb_nI, nI_ltE, nI_leE, nI_eqE, nI_m1, nI_m1', m1_lt, lt_m1, m1_le, le_m1, eq_self, not_true_eq_false, not_false_eq_true, ↓reduceIte, leT, leF, ltT, ltF, eqT, eqF, decide_true, decide_false, true_and, and_true, Nat.reduceAdd, bI0_i, bI_i, bI_x, bV0_v, bV_v, bV_x, ↓bnd_e, gd_t, x_isFresh, x_ofLedge, at_x, g1, bT, g2, Bool.and_self]
theorem m_whenL {l e n nh : Nat} {w c c0 : Nat → Int32} (hF : 6000 ≤ F) (hl : l < n) (he2 : e ≤ 20) (h4 : S 67 4 = w 4) (hc : cM (S 67) = c0) (hA : LM A w) (hW : LW A) (hR : Rg c) (hn : n ≤ 10) (en : c 12 = nI n) (hnh : nh ≤ 6) (enh : c 13 = nI nh) : ∀ (m i k : Nat) (a b : Int32) (q : Nat → Int32), i + m = 41 → m + 1 < k →
    ∃ a' b' q', f_X10_when_b52 F k (nI l) (nI e) (-nI 1) (nI i) (sM (seS S 64 (wO w (cdC A n nh c i))) a b q) = some (.inl (some (.int (whF (fun i => whB (cdC A n nh c i) l e) m i))), sM (seS S 64 (wO w c0)) a' b' q')
  | 0, i, k + 1, a, b, q, hi, hk => by
    have hie : i = 41 := by omega
    rw [hie]
    refine ⟨a, b, q, ?_⟩
    rw [f_X10_when_b52, whF]
    unfold f_X10_when_b102
    simp (disch := omega) only [fa_lit, nI_ad, nI_mul, nI_cl, inb_nI, nI_ltE, nI_leE, nI_eqE, nI_m1, nI_m1', m1_lt, lt_m1, m1_le, le_m1, eq_self, not_true_eq_false, not_false_eq_true, ↓reduceIte, leT, leF, ltT, ltF, eqT, eqF, decide_true, decide_false, true_and, and_true, Nat.reduceAdd, bI0_i, bI_i, bI_x, bV0_v, bV_v, bV_x, ↓bnd_e, gd_t, m_brings hF h4 hc]
  | m + 1, i, k + 2, a, b, q, hi, hk => by
    obtain ⟨a1, b1, q1, h⟩ := m_calmDay (F := F) (S := S) (x := nI 1) (w := w) (c := cdC A n nh c i) (a := a) (b := b) (q := q) (by decide) (by omega) hA hW (cdC_rg hW hR hn hnh) hn (by rw [cdC_out hn hnh (by omega) (by omega)]; exact en) hnh (by rw [cdC_out hn hnh (by omega) (by omega)]; exact enh)
    obtain ⟨a2, b2, q2, ih⟩ := m_whenL hF hl he2 h4 hc hA hW hR hn en hnh enh m (i + 1) (k + 1) a1 b1 q1 (by omega) (by omega)
    rw [cdC] at ih
    rw [whF]
    have n0 : ¬ nI 0 ≤ -nI 1 := by decide
    unfold whB at ih ⊢
    by_cases g1 : cdC A n nh c i (16 + l * 5 + 2) < nI e
    · refine ⟨a2, b2, q2, ?_⟩
      rw [if_neg (by simp [g1]), f_X10_when_b52]
      unfold f_X10_when_b88 f_X10_when_b89
      simp (disch := omega) only [fa_lit, nI_ad, nI_mul, nI_cl, inb_nI, nI_ltE, nI_leE, nI_eqE, nI_m1, nI_m1', m1_lt, lt_m1, m1_le, le_m1, eq_self, not_true_eq_false, not_false_eq_true, ↓reduceIte, leT, leF, ltT, ltF, eqT, eqF, decide_true, decide_false, true_and, and_true, Nat.reduceAdd, bI0_i, bI_i, bI_x, bV0_v, bV_v, bV_x, ↓bnd_e, gd_t, n0, m_of, at_m, cM_wOi, wO_at, up_m, pj_l, pj_h, pj_k, pj_0, pj_1, pj_2, pj_3, pj_5, pj_6, pj_7, pj_8, pj_9, pj_10, pj_11, pj_12, pj_13, pj_14, pj_15, pj_16, g1, h]
      exact ih
    · by_cases g2 : nI 3 < cdC A n nh c i (16 + l * 5 + 3)
      · refine ⟨a2, b2, q2, ?_⟩
        rw [if_neg (by simp [g2]), f_X10_when_b52]
        unfold f_X10_when_b88 f_X10_when_b89
        simp (disch := omega) only [fa_lit, nI_ad, nI_mul, nI_cl, inb_nI, nI_ltE, nI_leE, nI_eqE, nI_m1, nI_m1', m1_lt, lt_m1, m1_le, le_m1, eq_self, not_true_eq_false, not_false_eq_true, ↓reduceIte, leT, leF, ltT, ltF, eqT, eqF, decide_true, decide_false, true_and, and_true, Nat.reduceAdd, bI0_i, bI_i, bI_x, bV0_v, bV_v, bV_x, ↓bnd_e, gd_t, n0, m_of, at_m, cM_wOi, wO_at, up_m, pj_l, pj_h, pj_k, pj_0, pj_1, pj_2, pj_3, pj_5, pj_6, pj_7, pj_8, pj_9, pj_10, pj_11, pj_12, pj_13, pj_14, pj_15, pj_16, g1, g2, h]
        exact ih
      · refine ⟨a1, b1, q1, ?_⟩
        rw [if_pos (by simp [g1, g2]), f_X10_when_b52]
        unfold f_X10_when_b88 f_X10_when_b89
        simp (disch := omega) only [fa_lit, nI_ad, nI_mul, nI_cl, inb_nI, nI_ltE, nI_leE, nI_eqE, nI_m1, nI_m1', m1_lt, lt_m1, m1_le, le_m1, eq_self, not_true_eq_false, not_false_eq_true, ↓reduceIte, leT, leF, ltT, ltF, eqT, eqF, decide_true, decide_false, true_and, and_true, Nat.reduceAdd, bI0_i, bI_i, bI_x, bV0_v, bV_v, bV_x, ↓bnd_e, gd_t, n0, m_of, at_m, cM_wOi, wO_at, up_m, pj_l, pj_h, pj_k, pj_0, pj_1, pj_2, pj_3, pj_5, pj_6, pj_7, pj_8, pj_9, pj_10, pj_11, pj_12, pj_13, pj_14, pj_15, pj_16, g1, g2, h]
        rw [f_X10_when_b52]
        unfold f_X10_when_b102
        simp (disch := omega) only [fa_lit, nI_ad, nI_mul, nI_cl, inb_nI, nI_ltE, nI_leE, nI_eqE, nI_m1, nI_m1', m1_lt, lt_m1, m1_le, le_m1, eq_self, not_true_eq_false, not_false_eq_true, ↓reduceIte, leT, leF, ltT, ltF, eqT, eqF, decide_true, decide_false, true_and, and_true, Nat.reduceAdd, bI0_i, bI_i, bI_x, bV0_v, bV_v, bV_x, ↓bnd_e, gd_t, m_brings hF h4 hc, ite_self]
theorem ag_when {p1 p2 : Int32} (hF : 6000 ≤ F) (hI : Inv S) : Ag (f_X9_when F p1 p2) (f_X10_when F p1 p2) [3, 1] S := by
  obtain ⟨n, nh, nk, A, hn, en, hnh, enh, hnk, enk, hX, hW, hM, hR, hC⟩ := inv_b hI
  by_cases g1 : ∃ l, l < n ∧ p1 = nI l
  · obtain ⟨l, hl, rfl⟩ := g1
    by_cases g : nI 1 ≤ p2 ∧ p2 ≤ nI 20
    · have gd1 : decide (nI 1 ≤ p2 ∧ p2 ≤ nI 20) = true := decide_eq_true g
      have xn : f_X9_needWithin p2 (1 : Int32) (20 : Int32) S = some (.inl none, S) := x_need g
      obtain ⟨d, hd1, hd2, rfl⟩ := withinN (by omega) g (by omega)
      refine ag_as (r := whF (fun i => whB (stC A l (S 25) i) l d) 41 0) hF hI (gX := _) (gM := _) (by unfold f_X9_when; rw [x_needLedge hn en hl, bV_v, xn, bV_v]) (fun T U hU h64 => by
        have en' : cM (U 64) 12 = nI n := by rw [h64, hC]; exact en
        unfold f_X10_when f_X10_when_b34; rw [bnd_e, show upS T 63 0 (0 : Int32) = U from hU.symm]
        simp (disch := omega) only [fa_lit, nI_ad, nI_mul, nI_cl, inb_nI, nI_ltE, nI_leE, nI_eqE, nI_m1, nI_m1', m1_lt, lt_m1, m1_le, le_m1, eq_self, not_true_eq_false, not_false_eq_true, ↓reduceIte, leT, leF, ltT, ltF, eqT, eqF, decide_true, decide_false, true_and, and_true, Nat.reduceAdd, bI0_i, bI_i, bI_x, bV0_v, bV_v, bV_x, ↓bnd_e, gd_t, m_noLedge hn en' hl, m_in, gd1, bT, m_throw0]
        rfl) (fun p q => ?_) (fun U a b q h4 hc => ?_)
      · exact x_whenL (F := F) (S := S) (c := S 25) hF (by omega) hd1 hd2 hX hW hR 41 0 F p q (by omega) (by omega)
      · have h := m_whenL (F := F) (S := U) (c := S 25) hF hl hd2 h4 hc hM hW hR hn en hnh enh 41 0 F a b q (by omega) (by omega)
        have e : whF (fun i => whB (cdC A n nh (S 25) i) l d) 41 0 = whF (fun i => whB (stC A l (S 25) i) l d) 41 0 := whF_congr (fun i => by
          have hs := st_cd (A := A) (c := S 25) hl hn hnh (i := i)
          unfold whB; rw [hs.2.2 2 (by omega), hs.2.2 3 (by omega)])
        rw [e] at h
        exact h
    · have gd1 : decide (nI 1 ≤ p2 ∧ p2 ≤ nI 20) = false := decide_eq_false g
      refine ag_exc (b := nI 0) hI 1 rfl (by omega) ?_ (fun T U hU h64 => ?_)
      · unfold f_X9_when
        simp (disch := omega) only [fa_lit, nI_ad, nI_mul, nI_cl, inb_nI, nI_ltE, nI_leE, nI_eqE, nI_m1, nI_m1', m1_lt, lt_m1, m1_le, le_m1, eq_self, not_true_eq_false, not_false_eq_true, ↓reduceIte, leT, leF, ltT, ltF, eqT, eqF, decide_true, decide_false, true_and, and_true, Nat.reduceAdd, bI0_i, bI_i, bI_x, bV0_v, bV_v, bV_x, ↓bnd_e, gd_t, x_needLedge hn en hl, x_need_x g]
      · have en' : cM (U 64) 12 = nI n := by rw [h64, hC]; exact en
        unfold f_X10_when f_X10_when_b34 f_X10_when_b41; rw [bnd_e, show upS T 63 0 (0 : Int32) = U from hU.symm]
        simp (disch := omega) only [fa_lit, nI_ad, nI_mul, nI_cl, inb_nI, nI_ltE, nI_leE, nI_eqE, nI_m1, nI_m1', m1_lt, lt_m1, m1_le, le_m1, eq_self, not_true_eq_false, not_false_eq_true, ↓reduceIte, leT, leF, ltT, ltF, eqT, eqF, decide_true, decide_false, true_and, and_true, Nat.reduceAdd, bI0_i, bI_i, bI_x, bV0_v, bV_v, bV_x, ↓bnd_e, gd_t, m_noLedge hn en' hl, m_in, gd1, bF, m_throw0, m_throw]
  · refine ag_exc (b := nI 0) hI 0 rfl (by omega) ?_ (fun T U hU h64 => ?_)
    · unfold f_X9_when
      simp (disch := omega) only [fa_lit, nI_ad, nI_mul, nI_cl, inb_nI, nI_ltE, nI_leE, nI_eqE, nI_m1, nI_m1', m1_lt, lt_m1, m1_le, le_m1, eq_self, not_true_eq_false, not_false_eq_true, ↓reduceIte, leT, leF, ltT, ltF, eqT, eqF, decide_true, decide_false, true_and, and_true, Nat.reduceAdd, bI0_i, bI_i, bI_x, bV0_v, bV_v, bV_x, ↓bnd_e, gd_t, x_needLedge_x hn en g1]
    · have en' : cM (U 64) 12 = nI n := by rw [h64, hC]; exact en
      unfold f_X10_when f_X10_when_b34 f_X10_when_b41; rw [bnd_e, show upS T 63 0 (0 : Int32) = U from hU.symm]
      simp (disch := omega) only [fa_lit, nI_ad, nI_mul, nI_cl, inb_nI, nI_ltE, nI_leE, nI_eqE, nI_m1, nI_m1', m1_lt, lt_m1, m1_le, le_m1, eq_self, not_true_eq_false, not_false_eq_true, ↓reduceIte, leT, leF, ltT, ltF, eqT, eqF, decide_true, decide_false, true_and, and_true, Nat.reduceAdd, bI0_i, bI_i, bI_x, bV0_v, bV_v, bV_x, ↓bnd_e, gd_t, m_noLedge_x hn en' g1, m_throw]
end D
