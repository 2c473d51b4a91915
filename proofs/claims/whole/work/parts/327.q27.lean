/-! span, ahead, when, late -/
section D
variable {F : Nat} {S : mS} {A : aL}
def frV (c : Nat → Int32) : Nat → Int32
  | 0 => nI 0
  | i + 1 => frV c i + freshV c i
theorem fresh_rng {c : Nat → Int32} {l : Nat} (hR : Rg c) (hl : l < 10) : ∃ t, t ≤ 20 ∧ freshV c l = nI t := by
  obtain ⟨e, h3, h4⟩ := hR.eggs hl
  unfold freshV
  rw [h4]
  split
  · exact ⟨0, by omega, rfl⟩
  · exact ⟨e, h3, rfl⟩
theorem fresh_eq {c : Nat → Int32} {l : Nat} (hR : Rg c) (hl : l < 10) : (if isF c l = false then nI 0 else c (16 + l * 5 + 2)) = freshV c l := by
  obtain ⟨t, h1, h2⟩ := fresh_rng hR hl
  unfold isF
  by_cases g : nI 0 < freshV c l
  · rw [decide_eq_true g, if_neg (by simp)]
    unfold freshV at g ⊢
    by_cases g2 : nI 3 < c (16 + l * 5 + 3)
    · rw [if_pos g2] at g; exact absurd g (by decide)
    · rw [if_neg g2]
  · rw [decide_eq_false g, if_pos rfl]
    rw [h2, nI_ltE (by omega) (by omega)] at g
    rw [h2]; congr 1; omega
theorem fr_rng {c : Nat → Int32} (hR : Rg c) : ∀ {n : Nat}, n ≤ 10 → ∃ t, t ≤ 20 * n ∧ frV c n = nI t
  | 0, _ => ⟨0, by omega, rfl⟩
  | n + 1, hn => by
    obtain ⟨t, h1, h2⟩ := fr_rng hR (n := n) (by omega)
    obtain ⟨s, h3, h4⟩ := fresh_rng hR (show n < 10 by omega)
    exact ⟨t + s, by omega, by rw [frV, h2, h4, nI_ad]⟩
theorem x_frL {n : Nat} {c p q : Nat → Int32} (hn : n ≤ 10) (en : c 12 = nI n) : ∀ (m i k : Nat), i + m = n → m < k →
    f_X9_freshBehind_b51 F k (frV c i) (nI i) (sX (seS S 27 c) p q) = some (.inl (some (.int (frV c n))), sX (seS S 27 c) p q)
  | 0, i, k + 1, hi, hk => by
    have hie : i = n := by omega
    subst hie
    rw [f_X9_freshBehind_b51]
    simp (disch := omega) only [fa_lit, nI_ad, nI_mul, nI_cl, inb_nI, nI_ltE, nI_leE, nI_eqE, nI_m1, nI_m1', m1_lt, lt_m1, m1_le, le_m1, eq_self, not_true_eq_false, not_false_eq_true, ↓reduceIte, leT, leF, ltT, ltF, eqT, eqF, decide_true, decide_false, true_and, and_true, Nat.reduceAdd, bI0_i, bI_i, bI_x, bV0_v, bV_v, bV_x, ↓bnd_e, gd_t, x_at, at_x, en, Nat.le_refl]
  | m + 1, i, k + 1, hi, hk => by
    have ih := x_frL (p := p) (q := q) hn en m (i + 1) k (by omega) (by omega)
    rw [f_X9_freshBehind_b51]
    rw [frV] at ih
    simp (disch := omega) only [fa_lit, nI_ad, nI_mul, nI_cl, inb_nI, nI_ltE, nI_leE, nI_eqE, nI_m1, nI_m1', m1_lt, lt_m1, m1_le, le_m1, eq_self, not_true_eq_false, not_false_eq_true, ↓reduceIte, leT, leF, ltT, ltF, eqT, eqF, decide_true, decide_false, true_and, and_true, Nat.reduceAdd, bI0_i, bI_i, bI_x, bV0_v, bV_v, bV_x, ↓bnd_e, gd_t, x_at, at_x, en, x_freshEggs]
    exact ih
theorem x_fbL {n nh d : Nat} {c : Nat → Int32} (hd : d ≤ 60) (hF : 6000 ≤ F) (hA : LX A S 3) (hW : LW A) (hn : n ≤ 10) (en : c 12 = nI n) (hnh : nh ≤ 6) (enh : c 13 = nI nh) : ∀ (m i k : Nat) (p q : Nat → Int32), i + m = d → m < k →
    ∃ p' q', f_X9_freshBehind_b23 F k (nI d) (nI i) (sX (seS S 27 (dys A n nh c i).1) p q) = some (.inl (some (.int (frV (dys A n nh c d).1 n))), sX (seS S 27 (dys A n nh c d).1) p' q')
  | 0, i, k + 1, p, q, hi, hk => by
    have hie : i = d := by omega
    subst hie
    have e12 : (dys A n nh c i).1 12 = nI n := by rw [dys_out hn hnh (by omega) (by omega) (by omega) (by omega)]; exact en
    have h := x_frL (F := F) (S := S) (c := (dys A n nh c i).1) (p := p) (q := q) hn e12 n 0 F (by omega) (by omega)
    refine ⟨p, q, ?_⟩
    rw [f_X9_freshBehind_b23]
    simp (disch := omega) only [fa_lit, nI_ad, nI_mul, nI_cl, inb_nI, nI_ltE, nI_leE, nI_eqE, nI_m1, nI_m1', m1_lt, lt_m1, m1_le, le_m1, eq_self, not_true_eq_false, not_false_eq_true, ↓reduceIte, leT, leF, ltT, ltF, eqT, eqF, decide_true, decide_false, true_and, and_true, Nat.reduceAdd, bI0_i, bI_i, bI_x, bV0_v, bV_v, bV_x, ↓bnd_e, gd_t, Nat.le_refl]
    exact h
  | m + 1, i, k + 1, p, q, hi, hk => by
    obtain ⟨p1, q1, h⟩ := x_dayMore (F := F) (S := S) (u := 26) (c := (dys A n nh c i).1) (p := p) (q := q) (by omega) (by omega) hA hW hn (by rw [dys_out hn hnh (by omega) (by omega) (by omega) (by omega)]; exact en) hnh (by rw [dys_out hn hnh (by omega) (by omega) (by omega) (by omega)]; exact enh)
    obtain ⟨p2, q2, ih⟩ := x_fbL hd hF hA hW hn en hnh enh m (i + 1) k p1 q1 (by omega) (by omega)
    refine ⟨p2, q2, ?_⟩
    rw [f_X9_freshBehind_b23]
    rw [dys] at ih
    simp (disch := omega) only [fa_lit, nI_ad, nI_mul, nI_cl, inb_nI, nI_ltE, nI_leE, nI_eqE, nI_m1, nI_m1', m1_lt, lt_m1, m1_le, le_m1, eq_self, not_true_eq_false, not_false_eq_true, ↓reduceIte, leT, leF, ltT, ltF, eqT, eqF, decide_true, decide_false, true_and, and_true, Nat.reduceAdd, bI0_i, bI_i, bI_x, bV0_v, bV_v, bV_x, ↓bnd_e, gd_t, show f_X7_dayMore F 26 (sX (seS S 27 (dys A n nh c i).1) p q) = _ from h]
    exact ih
def fbV (A : aL) (n nh : Nat) (c : Nat → Int32) (d : Nat) (s : Int32) : Int32 := frV (dys A n nh (upd c 10 s) d).1 n
theorem x_fb {n nh d : Nat} {s : Int32} {c p q : Nat → Int32} (hz : zb c) (hd : d ≤ 60) (hF : 6000 ≤ F) (hA : LX A S 3) (hW : LW A) (hR : Rg (S 25)) (hn : n ≤ 10) (en : S 25 12 = nI n) (hnh : nh ≤ 6) (enh : S 25 13 = nI nh) :
    ∃ c' p' q', zb c' ∧ f_X9_freshBehind F (nI d) s (sX (seS S 27 c) p q) = some (.inl (some (.int (fbV A n nh (S 25) d s))), sX (seS S 27 c') p' q') := by
  have hR2 : Rg (upd (S 25) 10 s) := hR.up (by omega) (fun b hb => by cases hb)
  obtain ⟨p', q', h⟩ := x_fbL (F := F) (S := S) (c := upd (S 25) 10 s) (d := d) hd hF hA hW hn (by rw [upd_n (by omega)]; exact en) hnh (by rw [upd_n (by omega)]; exact enh) d 0 F p q (by omega) (by omega)
  refine ⟨_, p', q', (dys_rg hW hR2 hn hnh (i := d)).2, ?_⟩
  unfold fbV
  rw [← h]
  unfold f_X9_freshBehind
  have hc := x_copy (S := sX (seS S 27 c) p q) (u0 := 26) (u1 := 24) (by rw [at_x (by omega) (by omega)]; exact hz) (by rw [sX_n (by omega) (by omega), seS_n (by omega)]; exact hR.2)
  rw [hc, bV0_v, se_sXn (by omega) (by omega), seS_seS, sX_n (by omega) (by omega), seS_n (by omega)]
  simp (disch := omega) only [fa_lit, nI_ad, nI_mul, nI_cl, inb_nI, nI_ltE, nI_leE, nI_eqE, nI_m1, nI_m1', m1_lt, lt_m1, m1_le, le_m1, eq_self, not_true_eq_false, not_false_eq_true, ↓reduceIte, leT, leF, ltT, ltF, eqT, eqF, decide_true, decide_false, true_and, and_true, Nat.reduceAdd, bI0_i, bI_i, bI_x, bV0_v, bV_v, bV_x, ↓bnd_e, gd_t, x_put, at_x, up_x]
  rfl
def stV (x2 x3 r : Int32) : Int32 := if nI 0 ≤ x3 then (if x2 = nI 0 then (if r < x3 then r else x3) else (if x3 < r then r else x3)) else r
def spV (f : Nat → Int32) (x2 : Int32) : Nat → Int32
  | 0 => -nI 1
  | j + 1 => stV x2 (spV f x2 j) (f (j + 1))
theorem sp_rng {f : Nat → Int32} {x2 : Int32} (hf : ∀ j, ∃ t, t ≤ 200 ∧ f j = nI t) : ∀ j, ∃ t, t ≤ 200 ∧ spV f x2 (j + 1) = nI t
  | 0 => by
    obtain ⟨t, h1, h2⟩ := hf (0 + 1)
    refine ⟨t, h1, ?_⟩
    rw [spV, spV]; unfold stV
    rw [if_neg (by decide), h2]
  | j + 1 => by
    obtain ⟨t, h1, h2⟩ := hf (j + 1 + 1)
    obtain ⟨s, h3, h4⟩ := sp_rng (x2 := x2) hf j
    rw [spV, h4, h2]; unfold stV
    rw [if_pos (by rw [nI_leE (by omega) (by omega)]; omega)]
    split
    · split
      · exact ⟨t, h1, rfl⟩
      · exact ⟨s, h3, rfl⟩
    · split
      · exact ⟨t, h1, rfl⟩
      · exact ⟨s, h3, rfl⟩
theorem fb_rng {n nh d : Nat} {c : Nat → Int32} {s : Int32} (hW : LW A) (hR : Rg c) (hn : n ≤ 10) (hnh : nh ≤ 6) : ∃ t, t ≤ 200 ∧ fbV A n nh c d s = nI t := by
  obtain ⟨t, h1, h2⟩ := fr_rng (dys_rg hW (hR.up (i := 10) (v := s) (by omega) (fun b hb => by cases hb)) hn hnh (i := d)) hn
  exact ⟨t, by omega, h2⟩
theorem x_spanL {n nh d : Nat} {x2 : Int32} (hd : d ≤ 60) (hF : 6000 ≤ F) (hA : LX A S 3) (hW : LW A) (hR : Rg (S 25)) (hn : n ≤ 10) (en : S 25 12 = nI n) (hnh : nh ≤ 6) (enh : S 25 13 = nI nh) : ∀ (m j k : Nat) (c p q : Nat → Int32), zb c → j + 1 + m = 6 → m < k →
    ∃ c' p' q', zb c' ∧ f_X9_span_b17 F k (nI d) x2 (spV (fun j => fbV A n nh (S 25) d (nI j)) x2 (j + 1)) (nI (j + 2)) (sX (seS S 27 c) p q) = some (.inl (some (.int (spV (fun j => fbV A n nh (S 25) d (nI j)) x2 6))), sX (seS S 27 c') p' q')
  | 0, j, k + 1, c, p, q, hz, hj, hk => by
    have hje : j = 5 := by omega
    subst hje
    refine ⟨c, p, q, hz, ?_⟩
    rw [f_X9_span_b17]
    simp (disch := omega) only [fa_lit, nI_ad, nI_mul, nI_cl, inb_nI, nI_ltE, nI_leE, nI_eqE, nI_m1, nI_m1', m1_lt, lt_m1, m1_le, le_m1, eq_self, not_true_eq_false, not_false_eq_true, ↓reduceIte, leT, leF, ltT, ltF, eqT, eqF, decide_true, decide_false, true_and, and_true, Nat.reduceAdd, bI0_i, bI_i, bI_x, bV0_v, bV_v, bV_x, ↓bnd_e, gd_t]
  | m + 1, j, k + 1, c, p, q, hz, hj, hk => by
    obtain ⟨c1, p1, q1, z1, h⟩ := x_fb (F := F) (S := S) (s := nI (j + 2)) (p := p) (q := q) hz hd hF hA hW hR hn en hnh enh
    obtain ⟨c2, p2, q2, z2, ih⟩ := x_spanL (x2 := x2) hd hF hA hW hR hn en hnh enh m (j + 1) k c1 p1 q1 z1 (by omega) (by omega)
    refine ⟨c2, p2, q2, z2, ?_⟩
    obtain ⟨t, h1, h2⟩ := sp_rng (f := fun j => fbV A n nh (S 25) d (nI j)) (x2 := x2) (fun j => fb_rng hW hR hn hnh) j
    rw [f_X9_span_b17]
    unfold f_X9_span_b52
    rw [spV] at ih
    unfold stV at ih
    rw [if_pos (by rw [h2, nI_leE (by omega) (by omega)]; omega)] at ih
    by_cases g : x2 = nI 0
    · rw [if_pos g] at ih
      simp (disch := omega) only [fa_lit, nI_ad, nI_mul, nI_cl, inb_nI, nI_ltE, nI_leE, nI_eqE, nI_m1, nI_m1', m1_lt, lt_m1, m1_le, le_m1, eq_self, not_true_eq_false, not_false_eq_true, ↓reduceIte, leT, leF, ltT, ltF, eqT, eqF, decide_true, decide_false, true_and, and_true, Nat.reduceAdd, bI0_i, bI_i, bI_x, bV0_v, bV_v, bV_x, ↓bnd_e, gd_t, h, g]
      rw [g] at ih
      exact ih
    · rw [if_neg g] at ih
      simp (disch := omega) only [fa_lit, nI_ad, nI_mul, nI_cl, inb_nI, nI_ltE, nI_leE, nI_eqE, nI_m1, nI_m1', m1_lt, lt_m1, m1_le, le_m1, eq_self, not_true_eq_false, not_false_eq_true, ↓reduceIte, leT, leF, ltT, ltF, eqT, eqF, decide_true, decide_false, true_and, and_true, Nat.reduceAdd, bI0_i, bI_i, bI_x, bV0_v, bV_v, bV_x, ↓bnd_e, gd_t, h, g]
      exact ih
theorem m_frL {n : Nat} {c w q : Nat → Int32} {a b : Int32} (hR : Rg c) (hn : n ≤ 10) (en : c 12 = nI n) : ∀ (m i k : Nat), i + m = n → m < k →
    f_X10_freshEggs_b4 F k (frV c i) (nI i) (sM (seS S 64 (wO w c)) a b q) = some (.inl (some (.int (frV c n))), sM (seS S 64 (wO w c)) a b q)
  | 0, i, k + 1, hi, hk => by
    have hie : i = n := by omega
    subst hie
    rw [f_X10_freshEggs_b4]
    simp (disch := omega) only [fa_lit, nI_ad, nI_mul, nI_cl, inb_nI, nI_ltE, nI_leE, nI_eqE, nI_m1, nI_m1', m1_lt, lt_m1, m1_le, le_m1, eq_self, not_true_eq_false, not_false_eq_true, ↓reduceIte, leT, leF, ltT, ltF, eqT, eqF, decide_true, decide_false, true_and, and_true, Nat.reduceAdd, bI0_i, bI_i, bI_x, bV0_v, bV_v, bV_x, ↓bnd_e, gd_t, m_ledges, at_m, cM_wOi, wO_at, up_m, pj_l, pj_h, pj_k, pj_0, pj_1, pj_2, pj_3, pj_5, pj_6, pj_7, pj_8, pj_9, pj_10, pj_11, pj_12, pj_13, pj_14, pj_15, pj_16, en, Nat.le_refl]
  | m + 1, i, k + 1, hi, hk => by
    have ih := m_frL (w := w) (q := q) (a := a) (b := b) hR hn en m (i + 1) k (by omega) (by omega)
    have hf := fresh_eq hR (show i < 10 by omega)
    rw [f_X10_freshEggs_b4]
    unfold f_X10_freshEggs_b31
    rw [frV, ← hf] at ih
    cases g : isF c i with
    | false =>
      rw [g, if_pos rfl] at ih
      simp (disch := omega) only [fa_lit, nI_ad, nI_mul, nI_cl, inb_nI, nI_ltE, nI_leE, nI_eqE, nI_m1, nI_m1', m1_lt, lt_m1, m1_le, le_m1, eq_self, not_true_eq_false, not_false_eq_true, ↓reduceIte, leT, leF, ltT, ltF, eqT, eqF, decide_true, decide_false, true_and, and_true, Nat.reduceAdd, bI0_i, bI_i, bI_x, bV0_v, bV_v, bV_x, ↓bnd_e, gd_t, m_ledges, at_m, cM_wOi, wO_at, up_m, pj_l, pj_h, pj_k, pj_0, pj_1, pj_2, pj_3, pj_5, pj_6, pj_7, pj_8, pj_9, pj_10, pj_11, pj_12, pj_13, pj_14, pj_15, pj_16, en, m_isFresh, cM_wO hR.2, g, bF]
      exact ih
    | true =>
      rw [g, if_neg (by simp)] at ih
      simp (disch := omega) only [fa_lit, nI_ad, nI_mul, nI_cl, inb_nI, nI_ltE, nI_leE, nI_eqE, nI_m1, nI_m1', m1_lt, lt_m1, m1_le, le_m1, eq_self, not_true_eq_false, not_false_eq_true, ↓reduceIte, leT, leF, ltT, ltF, eqT, eqF, decide_true, decide_false, true_and, and_true, Nat.reduceAdd, bI0_i, bI_i, bI_x, bV0_v, bV_v, bV_x, ↓bnd_e, gd_t, m_ledges, at_m, cM_wOi, wO_at, up_m, pj_l, pj_h, pj_k, pj_0, pj_1, pj_2, pj_3, pj_5, pj_6, pj_7, pj_8, pj_9, pj_10, pj_11, pj_12, pj_13, pj_14, pj_15, pj_16, en, m_isFresh, cM_wO hR.2, g, bT, m_of]
      exact ih
theorem m_spanI {n nh d : Nat} {x2 x3 x4 : Int32} {w c c0 : Nat → Int32} {K : Int32 → Int32 → Int32 → Int32 → mS → Option mR} (hd : d ≤ 60) (hF : 6000 ≤ F) (h4 : S 67 4 = w 4) (hc : cM (S 67) = c0) (hA : LM A w) (hW : LW A) (hR : Rg c) (hn : n ≤ 10) (en : c 12 = nI n) (hnh : nh ≤ 6) (enh : c 13 = nI nh) : ∀ (m i k : Nat) (a b : Int32) (q : Nat → Int32), i + m = d → m < k →
    ∃ a' b' q', f_X10_span_b58 K F k (nI d) x2 x3 x4 (nI i) (sM (seS S 64 (wO w (dys A n nh c i).1)) a b q) = K (nI d) x2 (stV x2 x3 (frV (dys A n nh c d).1 n)) (x4 + nI 1) (sM (seS S 64 (wO w c0)) a' b' q')
  | 0, i, k + 1, a, b, q, hi, hk => by
    have hie : i = d := by omega
    subst hie
    have hz : Rg (dys A n nh c i).1 := dys_rg hW hR hn hnh
    have e12 : (dys A n nh c i).1 12 = nI n := by rw [dys_out hn hnh (by omega) (by omega) (by omega) (by omega)]; exact en
    have h := m_frL (F := F) (S := S) (w := w) (q := q) (a := a) (b := b) hz hn e12 n 0 F (by omega) (by omega)
    refine ⟨a, b, q, ?_⟩
    rw [f_X10_span_b58]
    unfold f_X10_span_b114 f_X10_freshEggs stV
    simp (disch := omega) only [fa_lit, nI_ad, nI_mul, nI_cl, inb_nI, nI_ltE, nI_leE, nI_eqE, nI_m1, nI_m1', m1_lt, lt_m1, m1_le, le_m1, eq_self, not_true_eq_false, not_false_eq_true, ↓reduceIte, leT, leF, ltT, ltF, eqT, eqF, decide_true, decide_false, true_and, and_true, Nat.reduceAdd, bI0_i, bI_i, bI_x, bV0_v, bV_v, bV_x, ↓bnd_e, gd_t, Nat.le_refl, show f_X10_freshEggs_b4 F F (nI 0) (nI 0) (sM (seS S 64 (wO w (dys A n nh c i).1)) a b q) = _ from h, m_brings hF h4 hc]
    by_cases g : nI 0 ≤ x3
    · by_cases g2 : x2 = nI 0
      · simp only [g, g2, ↓reduceIte]
      · simp only [g, g2, ↓reduceIte]
    · simp only [g, ↓reduceIte]
  | m + 1, i, k + 1, a, b, q, hi, hk => by
    obtain ⟨a1, b1, q1, h⟩ := m_oneDay (F := F) (S := S) (w := w) (c := (dys A n nh c i).1) (a := a) (b := b) (q := q) (by omega) hA hW (dys_rg hW hR hn hnh) hn (by rw [dys_out hn hnh (by omega) (by omega) (by omega) (by omega)]; exact en) hnh (by rw [dys_out hn hnh (by omega) (by omega) (by omega) (by omega)]; exact enh)
    obtain ⟨a2, b2, q2, ih⟩ := m_spanI (x2 := x2) (x3 := x3) (x4 := x4) (K := K) hd hF h4 hc hA hW hR hn en hnh enh m (i + 1) k a1 b1 q1 (by omega) (by omega)
    refine ⟨a2, b2, q2, ?_⟩
    rw [f_X10_span_b58]
    rw [dys] at ih
    simp (disch := omega) only [fa_lit, nI_ad, nI_mul, nI_cl, inb_nI, nI_ltE, nI_leE, nI_eqE, nI_m1, nI_m1', m1_lt, lt_m1, m1_le, le_m1, eq_self, not_true_eq_false, not_false_eq_true, ↓reduceIte, leT, leF, ltT, ltF, eqT, eqF, decide_true, decide_false, true_and, and_true, Nat.reduceAdd, bI0_i, bI_i, bI_x, bV0_v, bV_v, bV_x, ↓bnd_e, gd_t, h]
    exact ih
theorem m_spanL {n nh d : Nat} {x2 : Int32} {w c : Nat → Int32} (hd : d ≤ 60) (hF : 6000 ≤ F) (h4 : S 67 4 = w 4) (hc : cM (S 67) = c) (hA : LM A w) (hW : LW A) (hR : Rg c) (hn : n ≤ 10) (en : c 12 = nI n) (hnh : nh ≤ 6) (enh : c 13 = nI nh) : ∀ (m j k : Nat) (a b : Int32) (q : Nat → Int32), j + m = 6 → m < k →
    ∃ a' b' q', f_X10_span_b39 F k (nI d) x2 (spV (fun j => fbV A n nh c d (nI j)) x2 j) (nI (j + 1)) (sM (seS S 64 (wO w c)) a b q) = some (.inl (some (.int (spV (fun j => fbV A n nh c d (nI j)) x2 6))), sM (seS S 64 (wO w c)) a' b' q')
  | 0, j, k + 1, a, b, q, hj, hk => by
    have hje : j = 6 := by omega
    subst hje
    refine ⟨a, b, q, ?_⟩
    rw [f_X10_span_b39]
    simp (disch := omega) only [fa_lit, nI_ad, nI_mul, nI_cl, inb_nI, nI_ltE, nI_leE, nI_eqE, nI_m1, nI_m1', m1_lt, lt_m1, m1_le, le_m1, eq_self, not_true_eq_false, not_false_eq_true, ↓reduceIte, leT, leF, ltT, ltF, eqT, eqF, decide_true, decide_false, true_and, and_true, Nat.reduceAdd, bI0_i, bI_i, bI_x, bV0_v, bV_v, bV_x, ↓bnd_e, gd_t]
  | m + 1, j, k + 1, a, b, q, hj, hk => by
    have hR2 : Rg (upd c 10 (nI (j + 1))) := hR.up (by omega) (fun b hb => by cases hb)
    obtain ⟨a1, b1, q1, h⟩ := m_spanI (F := F) (S := S) (n := n) (nh := nh) (d := d) (x2 := x2) (x3 := spV (fun j => fbV A n nh c d (nI j)) x2 j) (x4 := nI (j + 1)) (w := w) (c := upd c 10 (nI (j + 1))) (K := fun x1 x2 x3 x4 S => f_X10_span_b39 F k x1 x2 x3 x4 S) hd hF h4 hc hA hW hR2 hn (by rw [upd_n (by omega)]; exact en) hnh (by rw [upd_n (by omega)]; exact enh) d 0 F a b q (by omega) (by omega)
    obtain ⟨a2, b2, q2, ih⟩ := m_spanL (x2 := x2) hd hF h4 hc hA hW hR hn en hnh enh m (j + 1) k a1 b1 q1 (by omega) (by omega)
    refine ⟨a2, b2, q2, ?_⟩
    rw [f_X10_span_b39]
    simp (disch := omega) only [fa_lit, nI_ad, nI_mul, nI_cl, inb_nI, nI_ltE, nI_leE, nI_eqE, nI_m1, nI_m1', m1_lt, lt_m1, m1_le, le_m1, eq_self, not_true_eq_false, not_false_eq_true, ↓reduceIte, leT, leF, ltT, ltF, eqT, eqF, decide_true, decide_false, true_and, and_true, Nat.reduceAdd, bI0_i, bI_i, bI_x, bV0_v, bV_v, bV_x, ↓bnd_e, gd_t, at_m, cM_wOi, wO_at, up_m, pj_l, pj_h, pj_k, pj_0, pj_1, pj_2, pj_3, pj_5, pj_6, pj_7, pj_8, pj_9, pj_10, pj_11, pj_12, pj_13, pj_14, pj_15, pj_16]
    rw [nI_ad] at h
    exact Eq.trans h ih
theorem ag_span {p1 p2 : Int32} (hF : 6000 ≤ F) (hI : Inv S) : Ag (f_X9_span F p1 p2) (f_X10_span F p1 p2) [1] S := by
  obtain ⟨n, nh, nk, A, hn, en, hnh, enh, hnk, enk, hX, hW, hM, hR, hC⟩ := inv_b hI
  by_cases g : nI 0 ≤ p1 ∧ p1 ≤ nI 40
  · have gd1 : decide (nI 0 ≤ p1 ∧ p1 ≤ nI 40) = true := decide_eq_true g
    have xn : f_X9_needWithin p1 (0 : Int32) (40 : Int32) S = some (.inl none, S) := x_need g
    obtain ⟨d, hd1, hd2, rfl⟩ := withinN (by omega) g (by omega)
    refine ag_as0 (r := spV (fun j => fbV A n nh (S 25) d (nI j)) p2 6) hF hI ?_ (gM := _) (fun T U hU h64 => by
      unfold f_X10_span f_X10_span_b21; rw [bnd_e, show upS T 63 0 (0 : Int32) = U from hU.symm]
      simp (disch := omega) only [fa_lit, nI_ad, nI_mul, nI_cl, inb_nI, nI_ltE, nI_leE, nI_eqE, nI_m1, nI_m1', m1_lt, lt_m1, m1_le, le_m1, eq_self, not_true_eq_false, not_false_eq_true, ↓reduceIte, leT, leF, ltT, ltF, eqT, eqF, decide_true, decide_false, true_and, and_true, Nat.reduceAdd, bI0_i, bI_i, bI_x, bV0_v, bV_v, bV_x, ↓bnd_e, gd_t, m_in, gd1, bT, m_throw0]
      rfl) (fun U a b q h4 hc => ?_)
    · obtain ⟨c1, q1, q2, z1, h⟩ := x_fb (F := F) (S := S) (s := nI 1) (c := S 27) (p := S 8) (q := S 9) (d := d) hI.2.2.2.1 (by omega) hF hX hW hR hn en hnh enh
      rw [se_id, sX_id] at h
      obtain ⟨c2, q3, q4, z2, h2⟩ := x_spanL (F := F) (S := S) (x2 := p2) (d := d) (by omega) hF hX hW hR hn en hnh enh 5 0 F c1 q1 q2 z1 (by omega) (by omega)
      refine ⟨c2, q3, q4, z2, ?_⟩
      rw [← h2]
      unfold f_X9_span
      simp (disch := omega) only [fa_lit, nI_ad, nI_mul, nI_cl, inb_nI, nI_ltE, nI_leE, nI_eqE, nI_m1, nI_m1', m1_lt, lt_m1, m1_le, le_m1, eq_self, not_true_eq_false, not_false_eq_true, ↓reduceIte, leT, leF, ltT, ltF, eqT, eqF, decide_true, decide_false, true_and, and_true, Nat.reduceAdd, bI0_i, bI_i, bI_x, bV0_v, bV_v, bV_x, ↓bnd_e, gd_t, x_need g, h]
      rw [spV, spV]
      unfold stV
      rw [if_neg (by decide)]
    · have h := m_spanL (F := F) (S := U) (x2 := p2) (w := S 64) (d := d) (by omega) hF h4 hc hM hW hR hn en hnh enh 6 0 F a b q (by omega) (by omega)
      exact h
  · have gd1 : decide (nI 0 ≤ p1 ∧ p1 ≤ nI 40) = false := decide_eq_false g
    refine ag_exc (b := nI 0) hI 0 rfl (by omega) ?_ (fun T U hU h64 => ?_)
    · unfold f_X9_span
      simp (disch := omega) only [fa_lit, nI_ad, nI_mul, nI_cl, inb_nI, nI_ltE, nI_leE, nI_eqE, nI_m1, nI_m1', m1_lt, lt_m1, m1_le, le_m1, eq_self, not_true_eq_false, not_false_eq_true, ↓reduceIte, leT, leF, ltT, ltF, eqT, eqF, decide_true, decide_false, true_and, and_true, Nat.reduceAdd, bI0_i, bI_i, bI_x, bV0_v, bV_v, bV_x, ↓bnd_e, gd_t, x_need_x g]
    · unfold f_X10_span f_X10_span_b21; rw [bnd_e, show upS T 63 0 (0 : Int32) = U from hU.symm]
      simp (disch := omega) only [fa_lit, nI_ad, nI_mul, nI_cl, inb_nI, nI_ltE, nI_leE, nI_eqE, nI_m1, nI_m1', m1_lt, lt_m1, m1_le, le_m1, eq_self, not_true_eq_false, not_false_eq_true, ↓reduceIte, leT, leF, ltT, ltF, eqT, eqF, decide_true, decide_false, true_and, and_true, Nat.reduceAdd, bI0_i, bI_i, bI_x, bV0_v, bV_v, bV_x, ↓bnd_e, gd_t, m_in, gd1, bF, m_throw]
end D
