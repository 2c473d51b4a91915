/-! harvest, loss: the model's worths; the calls -/
section H
variable {F D L : Nat} {w : Nat → Nat → Int32} {V S U : mS} {A : aL}
theorem up73 {k : Nat} {v a b : Int32} {g c q : Nat → Int32} : upS (sM (seS (seS S 73 g) 64 c) a b q) 73 k v = sM (seS (seS S 73 (upd g k v)) 64 c) a b q := by
  rw [up_sMn (by omega) (by omega)]
  congr 1
  funext o
  by_cases h : o = 73
  · subst h; rw [upS_s, seS_n (by omega), seS_s, seS_n (by omega), seS_s]
  · rw [upS_n h]
    by_cases h2 : o = 64
    · subst h2; rw [seS_s, seS_s]
    · rw [seS_n h2, seS_n h, seS_n h2, seS_n h]
theorem m_wI {d nh : Nat} {wd c : Nat → Int32} {K : Int32 → Int32 → mS → Option mR} {x : Int32} (hF : 6000 ≤ F) (hd : d < D) (hD : D ≤ 10) (hL : L ≤ 10) (hA : LM A wd) (hW : LW A) (hR : Rg c) (en : c 12 = nI L) (hnh : nh ≤ 6) (enh : c 13 = nI nh) : ∀ (m i f : Nat) (g q : Nat → Int32) (a b : Int32), i + m = L → m < f →
    (∀ d', d' < d → ∀ l, l < L → g (10 * d' + l) = eg_ww A c d' l) → (∀ l, l < i → g (10 * d + l) = eg_ww A c d l) →
    ∃ g' a' b' q', (∀ d', d' < d + 1 → ∀ l, l < L → g' (10 * d' + l) = eg_ww A c d' l) ∧ f_X10_laysWorths_b13 K F f x (nI d) (nI i) (sM (seS (seS S 73 g) 64 (wO wd (cdC A L nh c d))) a b q) = K x (nI (d + 1)) (sM (seS (seS S 73 g') 64 (wO wd (cdC A L nh c (d + 1)))) a' b' q')
  | 0, i, f + 1, g, q, a, b, hi, hf, g1, g2 => by
    have hie : i = L := by omega
    subst hie
    have hRd := cdC_rg (A := A) (c := c) (i := d) hW hR hL hnh
    have e12 : cdC A i nh c d 12 = nI i := by rw [cdC_out hL hnh (by omega) (by omega)]; exact en
    have e13 : cdC A i nh c d 13 = nI nh := by rw [cdC_out hL hnh (by omega) (by omega)]; exact enh
    obtain ⟨a1, b1, q1, h⟩ := m_calmDay (F := F) (S := seS S 73 g) (x := nI 1) (w := wd) (c := cdC A i nh c d) (a := a) (b := b) (q := q) (by decide) (by omega) hA hW hRd hL e12 hnh e13
    refine ⟨g, a1, b1, q1, fun d' h1 l hl => ?_, ?_⟩
    · by_cases e : d' = d
      · subst e; exact g2 l hl
      · exact g1 d' (by omega) l hl
    · rw [f_X10_laysWorths_b13]
      simp (disch := omega) only [fa_lit, nI_ad, nI_mul, nI_cl, inb_nI, nI_ltE, nI_leE, nI_eqE, nI_m1, nI_m1', m1_lt, lt_m1, m1_le, le_m1, eq_self, not_true_eq_false, not_false_eq_true, ↓reduceIte, leT, leF, ltT, ltF, eqT, eqF, decide_true, decide_false, true_and, and_true, Nat.reduceAdd, bI0_i, bI_i, bI_x, bV0_v, bV_v, bV_x, ↓bnd_e, gd_t, m_ledges, at_m, cM_wOi, wO_at, up_m, pj_l, pj_h, pj_k, pj_0, pj_1, pj_2, pj_3, pj_5, pj_6, pj_7, pj_8, pj_9, pj_10, pj_11, pj_12, pj_13, pj_14, pj_15, pj_16, e12, Nat.le_refl, h]
      rw [cdC]
  | m + 1, i, f + 1, g, q, a, b, hi, hf, g1, g2 => by
    have hRd := cdC_rg (A := A) (c := c) (i := d) hW hR hL hnh
    have e12 : cdC A L nh c d 12 = nI L := by rw [cdC_out hL hnh (by omega) (by omega)]; exact en
    have hfr : freshV (cdC A L nh c d) i = eg_ww A c d i := (eg_al_fresh (st_cd (A := A) (c := c) (show i < L by omega) hL hnh (i := d))).symm
    have hfe := fresh_eq hRd (show i < 10 by omega)
    rw [hfr] at hfe
    obtain ⟨g', a2, b2, q2, hg, ih⟩ := m_wI (K := K) (x := x) hF hd hD hL hA hW hR en hnh enh m (i + 1) f (upd g (10 * d + i) (eg_ww A c d i)) q a b (by omega) (by omega) (fun d' h1 l hl => by
      rw [upd_n (by omega)]; exact g1 d' h1 l hl) (fun l hl => by
      by_cases e : l = i
      · subst e; rw [upd_s]
      · rw [upd_n (by omega)]; exact g2 l (by omega))
    refine ⟨g', a2, b2, q2, hg, ?_⟩
    rw [f_X10_laysWorths_b13]
    unfold f_X10_laysWorths_b49
    have hif := m_isFresh (S := sM (seS (seS S 73 g) 64 (wO wd (cdC A L nh c d))) a b q) (l := i) (by omega)
    rw [at_m, cM_wO hRd.2] at hif
    cases gg : isF (cdC A L nh c d) i with
    | false =>
      rw [gg, if_pos rfl] at hfe
      rw [gg] at hif
      simp (disch := omega) only [fa_lit, nI_ad, nI_mul, nI_cl, inb_nI, nI_ltE, nI_leE, nI_eqE, nI_m1, nI_m1', m1_lt, lt_m1, m1_le, le_m1, eq_self, not_true_eq_false, not_false_eq_true, ↓reduceIte, leT, leF, ltT, ltF, eqT, eqF, decide_true, decide_false, true_and, and_true, Nat.reduceAdd, bI0_i, bI_i, bI_x, bV0_v, bV_v, bV_x, ↓bnd_e, gd_t, m_ledges, at_m, cM_wOi, wO_at, up_m, pj_l, pj_h, pj_k, pj_0, pj_1, pj_2, pj_3, pj_5, pj_6, pj_7, pj_8, pj_9, pj_10, pj_11, pj_12, pj_13, pj_14, pj_15, pj_16, e12, hif, bF, up73, hfe]
      exact ih
    | true =>
      rw [gg, if_neg (by simp)] at hfe
      rw [gg] at hif
      simp (disch := omega) only [fa_lit, nI_ad, nI_mul, nI_cl, inb_nI, nI_ltE, nI_leE, nI_eqE, nI_m1, nI_m1', m1_lt, lt_m1, m1_le, le_m1, eq_self, not_true_eq_false, not_false_eq_true, ↓reduceIte, leT, leF, ltT, ltF, eqT, eqF, decide_true, decide_false, true_and, and_true, Nat.reduceAdd, bI0_i, bI_i, bI_x, bV0_v, bV_v, bV_x, ↓bnd_e, gd_t, m_ledges, m_of, at_m, cM_wOi, wO_at, up_m, pj_l, pj_h, pj_k, pj_0, pj_1, pj_2, pj_3, pj_5, pj_6, pj_7, pj_8, pj_9, pj_10, pj_11, pj_12, pj_13, pj_14, pj_15, pj_16, e12, hif, bT, up73, hfe]
      exact ih
theorem m_wO {nh : Nat} {wd c c0 : Nat → Int32} (hF : 6000 ≤ F) (h4 : S 67 4 = wd 4) (hc : cM (S 67) = c0) (hD : D ≤ 10) (hL : L ≤ 10) (hA : LM A wd) (hW : LW A) (hR : Rg c) (en : c 12 = nI L) (hnh : nh ≤ 6) (enh : c 13 = nI nh) : ∀ (m d f : Nat) (g q : Nat → Int32) (a b : Int32), d + m = D → m < f →
    (∀ d', d' < d → ∀ l, l < L → g (10 * d' + l) = eg_ww A c d' l) →
    ∃ g' a' b' q', (∀ d', d' < D → ∀ l, l < L → g' (10 * d' + l) = eg_ww A c d' l) ∧ f_X10_laysWorths_b6 F f (nI D) (nI d) (sM (seS (seS S 73 g) 64 (wO wd (cdC A L nh c d))) a b q) = some (.inl none, sM (seS (seS S 73 g') 64 (wO wd c0)) a' b' q')
  | 0, d, f + 1, g, q, a, b, hi, hf, g1 => by
    have hie : d = D := by omega
    subst hie
    refine ⟨g, a, b, q, g1, ?_⟩
    have hb := m_brings (F := F) (S := seS S 73 g) (w := wd) (c := cdC A L nh c d) (q := q) (c0 := c0) (a := a) (b := b) hF (by rw [seS_n (by omega)]; exact h4) (by rw [seS_n (by omega)]; exact hc)
    rw [f_X10_laysWorths_b6]
    simp (disch := omega) only [fa_lit, nI_ad, nI_mul, nI_cl, inb_nI, nI_ltE, nI_leE, nI_eqE, nI_m1, nI_m1', m1_lt, lt_m1, m1_le, le_m1, eq_self, not_true_eq_false, not_false_eq_true, ↓reduceIte, leT, leF, ltT, ltF, eqT, eqF, decide_true, decide_false, true_and, and_true, Nat.reduceAdd, bI0_i, bI_i, bI_x, bV0_v, bV_v, bV_x, ↓bnd_e, gd_t, Nat.le_refl, hb]
  | m + 1, d, f + 1, g, q, a, b, hi, hf, g1 => by
    obtain ⟨g2, a2, b2, q2, hg2, h1⟩ := m_wI (F := F) (S := S) (A := A) (K := fun x1 x2 S => f_X10_laysWorths_b6 F f x1 x2 S) (x := nI D) hF (show d < D by omega) hD hL hA hW hR en hnh enh L 0 F g q a b (by omega) (by omega) g1 (fun l hl => absurd hl (by omega))
    obtain ⟨g3, a3, b3, q3, hg3, ih⟩ := m_wO hF h4 hc hD hL hA hW hR en hnh enh m (d + 1) f g2 q2 a2 b2 (by omega) (by omega) hg2
    refine ⟨g3, a3, b3, q3, hg3, ?_⟩
    rw [f_X10_laysWorths_b6]
    simp (disch := omega) only [fa_lit, nI_ad, nI_mul, nI_cl, inb_nI, nI_ltE, nI_leE, nI_eqE, nI_m1, nI_m1', m1_lt, lt_m1, m1_le, le_m1, eq_self, not_true_eq_false, not_false_eq_true, ↓reduceIte, leT, leF, ltT, ltF, eqT, eqF, decide_true, decide_false, true_and, and_true, Nat.reduceAdd, bI0_i, bI_i, bI_x, bV0_v, bV_v, bV_x, ↓bnd_e, gd_t]
    refine Eq.trans h1 ?_
    exact ih
theorem m_laysMost {nh : Nat} {c : Nat → Int32} (hF : 6000 ≤ F) (hD1 : 1 ≤ D) (hD : D ≤ 10) (hL : L ≤ 10) (hC : cM (U 64) = c) (hA : LM A (U 64)) (hW : LW A) (hR : Rg c) (en : c 12 = nI L) (hnh : nh ≤ 6) (enh : c 13 = nI nh) :
    ∃ U2 h, eg_HM U2 D L (eg_ww A c) ∧ eg_GM (eg_ww A c) L D h 0 ∧ f_X10_laysMost F (nI D) U = some (.inl none, seS U2 74 h) ∧ U2 63 0 = U 63 0 ∧ FM U (seS U2 74 h) := by
  have hk := m_keepsAll (F := F) (S := U) hF
  generalize hU1 : seS U 67 (rngF 0 447 (U 64) (U 67)) = U1 at hk
  have u67 : U1 67 = rngF 0 447 (U 64) (U 67) := by rw [← hU1, seS_s]
  have uo : ∀ o, o ≠ 67 → U1 o = U o := fun o h => by rw [← hU1, seS_n h]
  have h4 : U1 67 4 = (U 64) 4 := by rw [u67, rng_in (by omega) (by omega)]
  have hc : cM (U1 67) = c := by rw [u67, ← hC]; exact cM_congr (fun k hk => rng_in (by omega) hk)
  obtain ⟨g, a, b, q, hg, h1⟩ := m_wO (F := F) (S := U1) (A := A) (wd := U 64) (c := c) hF h4 hc hD hL hA hW hR en hnh enh D 0 F (U1 73) (U1 71) (U1 63 18) (U1 63 19) (by omega) (by omega) (fun d' h => absurd h (by omega))
  have e0 : sM (seS (seS U1 73 (U1 73)) 64 (wO (U 64) (cdC A L nh c 0))) (U1 63 18) (U1 63 19) (U1 71) = U1 := by
    rw [se_id, cdC, ← hC, wO_self, ← uo 64 (by omega), se_id, sM_id]
  rw [e0] at h1
  have ew : wO (U 64) c = U 64 := by rw [← hC, wO_self]
  rw [ew] at h1
  generalize hU2 : sM (seS (seS U1 73 g) 64 (U 64)) a b q = U2 at h1
  have v64 : U2 64 = U 64 := by rw [← hU2, sM_n (by omega) (by omega), seS_s]
  have hm : eg_HM U2 D L (eg_ww A c) := ⟨hD, hL, by rw [v64, hC]; exact en, fun d hd l hl => by
    rw [← hU2, sM_n (by omega) (by omega), seS_n (by omega), seS_s]; exact hg d hd l hl⟩
  have h10 := pow10 hL
  obtain ⟨h, hG, h2⟩ := m_zeroL (F := F) hF hm hD1 (2 ^ L) 0 F (U2 74) (by omega) (by omega) (fun s' g => absurd g (by omega))
  rw [se_id] at h2
  refine ⟨U2, h, hm, hG, ?_, ?_, ⟨fun o q1 q2 q3 q4 q5 q6 q7 q8 => ?_, fun k hk => ?_⟩⟩
  · unfold f_X10_laysMost f_X10_laysWorths
    rw [hk, bV0_v]
    have h1' : f_X10_laysWorths_b6 F F (nI D) (0 : Int32) U1 = some (.inl none, U2) := h1
    rw [h1', bV0_v]
    simp (disch := omega) only [fa_lit, nI_ad, nI_mul, nI_cl, inb_nI, nI_ltE, nI_leE, nI_eqE, nI_m1, nI_m1', m1_lt, lt_m1, m1_le, le_m1, eq_self, not_true_eq_false, not_false_eq_true, ↓reduceIte, leT, leF, ltT, ltF, eqT, eqF, decide_true, decide_false, true_and, and_true, Nat.reduceAdd, bI0_i, bI_i, bI_x, bV0_v, bV_v, bV_x, ↓bnd_e, gd_t, m_ledges, v64, hC, en, shl_pow, sub_one_pow]
    exact h2
  · rw [← hU2, sM_63, upd_n (by omega), upd_n (by omega), seS_n (by omega), seS_n (by omega), uo 63 (by omega)]
  · rw [seS_n q8]
    by_cases e : o = 64
    · subst e; exact v64
    · rw [← hU2, sM_n q5 q1, seS_n e, seS_n q7, uo o q3]
  · rw [seS_n (by omega), ← hU2, sM_63, upd_n (by omega), upd_n (by omega), seS_n (by omega), seS_n (by omega), uo 63 (by omega)]
/-- which ledge -/
theorem m_firstL {d s j l : Nat} {h : Nat → Int32} {K : Int32 → Int32 → Int32 → Int32 → mS → Option mR} (hU : eg_HM U D L w) (hd : d < D) (hs : s < 2 ^ L) (hG : eg_GM w L D h 0) : ∀ (m i f : Nat), i + m = L → m < f → eg_fd (eg_fp w L D d s) m i = some l →
    f_X10_harvest_b81 K F f (nI j) (nI s) (nI i) (nI d) (seS U 74 h) = K (nI j) (nI (s ||| 2 ^ l)) (nI l) (nI (d + 1)) (seS U 74 h)
  | 0, i, f, hi, hf, he => by cases he
  | m + 1, i, f + 1, hi, hf, he => by
    have hL := hU.2.1
    have hD := hU.1
    have h10 := pow10 hL
    have hm := m_mostBy (h := h) (d := d) (s := s) (l := i) hU hd hs (by omega)
    rw [hG (d + 1) (by omega) (by omega) (s ||| 2 ^ i) (eg_or_lt hs (by omega))] at hm
    have ha := m_mostAt (S := seS U 74 h) (k := d) (s := s) (by omega) (by omega)
    have e74 : (seS U 74 h) 74 (d * 1024 + s) = eg_hv w L D d s := by rw [seS_s]; exact hG d (by omega) (by omega) s hs
    have eb := eg_bit (s := s) (l := i) (by omega)
    rw [eg_fd] at he
    rw [f_X10_harvest_b81]
    unfold f_X10_harvest_b95 f_X10_harvest_b118 f_X10_harvest_b138
    cases g : hasV (nI s) i with
    | true =>
      have ef : eg_fp w L D d s i = false := by unfold eg_fp; rw [g]; rfl
      rw [ef, if_neg (by simp)] at he
      have ih := m_firstL (j := j) (K := K) hU hd hs hG m (i + 1) f (by omega) (by omega) he
      simp (disch := omega) only [fa_lit, nI_ad, nI_mul, nI_cl, inb_nI, nI_ltE, nI_leE, nI_eqE, nI_m1, nI_m1', m1_lt, lt_m1, m1_le, le_m1, eq_self, not_true_eq_false, not_false_eq_true, ↓reduceIte, leT, leF, ltT, ltF, eqT, eqF, decide_true, decide_false, true_and, and_true, Nat.reduceAdd, bI0_i, bI_i, bI_x, bV0_v, bV_v, bV_x, ↓bnd_e, gd_t, m_has, g, bT]
      exact ih
    | false =>
      by_cases g2 : w d i + eg_hv w L D (d + 1) (s ||| 2 ^ i) = eg_hv w L D d s
      · have ef : eg_fp w L D d s i = true := by unfold eg_fp; rw [g, decide_eq_true g2]; rfl
        rw [ef, if_pos rfl] at he
        cases he
        simp (disch := omega) only [fa_lit, nI_ad, nI_mul, nI_cl, inb_nI, nI_ltE, nI_leE, nI_eqE, nI_m1, nI_m1', m1_lt, lt_m1, m1_le, le_m1, eq_self, not_true_eq_false, not_false_eq_true, ↓reduceIte, leT, leF, ltT, ltF, eqT, eqF, decide_true, decide_false, true_and, and_true, Nat.reduceAdd, bI0_i, bI_i, bI_x, bV0_v, bV_v, bV_x, ↓bnd_e, gd_t, m_has, g, bF, hm, ha, e74, g2, eb]
      · have ef : eg_fp w L D d s i = false := by unfold eg_fp; rw [g, decide_eq_false g2]; rfl
        rw [ef, if_neg (by simp)] at he
        have ih := m_firstL (j := j) (K := K) hU hd hs hG m (i + 1) f (by omega) (by omega) he
        simp (disch := omega) only [fa_lit, nI_ad, nI_mul, nI_cl, inb_nI, nI_ltE, nI_leE, nI_eqE, nI_m1, nI_m1', m1_lt, lt_m1, m1_le, le_m1, eq_self, not_true_eq_false, not_false_eq_true, ↓reduceIte, leT, leF, ltT, ltF, eqT, eqF, decide_true, decide_false, true_and, and_true, Nat.reduceAdd, bI0_i, bI_i, bI_x, bV0_v, bV_v, bV_x, ↓bnd_e, gd_t, m_has, g, bF, hm, ha, e74, g2]
        exact ih
theorem m_firstOf {d s j : Nat} {h : Nat → Int32} {K : Int32 → Int32 → Int32 → Int32 → mS → Option mR} (hF : 6000 ≤ F) (hU : eg_HM U D L w) (hd : d < D) (hs : s < 2 ^ L) (hG : eg_GM w L D h 0) :
    f_X10_harvest_b81 K F F (nI j) (nI s) (-nI 1) (nI d) (seS U 74 h) = K (nI j) (nI (eg_nx s (eg_fo w L D d s))) (encO (eg_fo w L D d s)) (nI (d + 1)) (seS U 74 h) := by
  obtain ⟨G, rfl⟩ : ∃ G, F = G + 1 := ⟨F - 1, by omega⟩
  have hL := hU.2.1
  have hD := hU.1
  have h10 := pow10 hL
  have hm := m_mostBy0 (h := h) (d := d) (s := s) hU hd hs
  rw [hG (d + 1) (by omega) (by omega) s hs] at hm
  have ha := m_mostAt (S := seS U 74 h) (k := d) (s := s) (by omega) (by omega)
  have e74 : (seS U 74 h) 74 (d * 1024 + s) = eg_hv w L D d s := by rw [seS_s]; exact hG d (by omega) (by omega) s hs
  have e0 : -nI 1 + nI 1 = nI 0 := by decide
  rw [f_X10_harvest_b81]
  unfold f_X10_harvest_b95 f_X10_harvest_b118 f_X10_harvest_b138
  unfold eg_fo
  by_cases g : eg_hv w L D (d + 1) s = eg_hv w L D d s
  · simp (disch := omega) only [fa_lit, nI_ad, nI_mul, nI_cl, inb_nI, nI_ltE, nI_leE, nI_eqE, nI_m1, nI_m1', m1_lt, lt_m1, m1_le, le_m1, eq_self, not_true_eq_false, not_false_eq_true, ↓reduceIte, leT, leF, ltT, ltF, eqT, eqF, decide_true, decide_false, true_and, and_true, Nat.reduceAdd, bI0_i, bI_i, bI_x, bV0_v, bV_v, bV_x, ↓bnd_e, gd_t, m1_lt0, le0_m1, hm, ha, e74, g, or_n0, enc_none, eg_nx]
  · obtain ⟨l, hl⟩ := eg_fo_ex hd g
    have h1 := m_firstL (F := G + 1) (j := j) (K := K) hU hd hs hG L 0 G (by omega) (by omega) hl
    simp (disch := omega) only [fa_lit, nI_ad, nI_mul, nI_cl, inb_nI, nI_ltE, nI_leE, nI_eqE, nI_m1, nI_m1', m1_lt, lt_m1, m1_le, le_m1, eq_self, not_true_eq_false, not_false_eq_true, ↓reduceIte, leT, leF, ltT, ltF, eqT, eqF, decide_true, decide_false, true_and, and_true, Nat.reduceAdd, bI0_i, bI_i, bI_x, bV0_v, bV_v, bV_x, ↓bnd_e, gd_t, m1_lt0, le0_m1, hm, ha, e74, g, e0, hl, enc_some, eg_nx]
    exact h1
theorem m_harvL {j : Nat} {h : Nat → Int32} (hF : 6000 ≤ F) (hj : j < D) (hU : eg_HM U D L w) (hG : eg_GM w L D h 0) : ∀ (m d f : Nat), d + m = j + 1 → m < f →
    f_X10_harvest_b72 F f (nI j) (nI (eg_hs w L D d).1) (encO (eg_hs w L D d).2) (nI d) (seS U 74 h) = some (.inl (some (.int (encO (eg_hs w L D (j + 1)).2))), seS U 74 h)
  | 0, d, f + 1, hi, hf => by
    have hie : d = j + 1 := by omega
    subst hie
    have hD := hU.1
    rw [f_X10_harvest_b72]
    simp (disch := omega) only [fa_lit, nI_ad, nI_mul, nI_cl, inb_nI, nI_ltE, nI_leE, nI_eqE, nI_m1, nI_m1', m1_lt, lt_m1, m1_le, le_m1, eq_self, not_true_eq_false, not_false_eq_true, ↓reduceIte, leT, leF, ltT, ltF, eqT, eqF, decide_true, decide_false, true_and, and_true, Nat.reduceAdd, bI0_i, bI_i, bI_x, bV0_v, bV_v, bV_x, ↓bnd_e, gd_t]
  | m + 1, d, f + 1, hi, hf => by
    have hD := hU.1
    have hL := hU.2.1
    have ih := m_harvL hF hj hU hG m (d + 1) f (by omega) (by omega)
    have h1 := m_firstOf (F := F) (j := j) (h := h) (K := fun x2 x3 x4 x5 S => f_X10_harvest_b72 F f x2 x3 x4 x5 S) hF hU (show d < D by omega) (eg_hs_ok (w := w) (D := D) hL (d := d)).1 hG
    rw [f_X10_harvest_b72]
    simp (disch := omega) only [fa_lit, nI_ad, nI_mul, nI_cl, inb_nI, nI_ltE, nI_leE, nI_eqE, nI_m1, nI_m1', m1_lt, lt_m1, m1_le, le_m1, eq_self, not_true_eq_false, not_false_eq_true, ↓reduceIte, leT, leF, ltT, ltF, eqT, eqF, decide_true, decide_false, true_and, and_true, Nat.reduceAdd, bI0_i, bI_i, bI_x, bV0_v, bV_v, bV_x, ↓bnd_e, gd_t]
    refine Eq.trans h1 ?_
    rw [eg_hs] at ih
    exact ih
theorem m_lossI {d s : Nat} {e x : Int32} {h : Nat → Int32} {K : Int32 → Int32 → Int32 → Int32 → mS → Option mR} (hU : eg_HM U D L w) (hd : d < D) (hs : s < 2 ^ L) : ∀ (m i f : Nat), i + m = L → m < f →
    f_X10_loss_b57 K F f x (nI s) e (nI d) (encO (eg_gb w d s i)) (eg_gv w d (eg_gb w d s i)) (nI i) (seS U 74 h) = K x (nI (eg_nx s (eg_gb w d s L))) (e + eg_gv w d (eg_gb w d s L)) (nI (d + 1)) (seS U 74 h)
  | 0, i, f + 1, hi, hf => by
    have hie : i = L := by omega
    subst hie
    have hL := hU.2.1
    have hD := hU.1
    have e12 : cM ((seS U 74 h) 64) 12 = nI i := by rw [seS_n (by omega)]; exact hU.2.2.1
    rw [f_X10_loss_b57]
    unfold f_X10_loss_b140
    cases g : eg_gb w d s i with
    | none =>
      simp (disch := omega) only [fa_lit, nI_ad, nI_mul, nI_cl, inb_nI, nI_ltE, nI_leE, nI_eqE, nI_m1, nI_m1', m1_lt, lt_m1, m1_le, le_m1, eq_self, not_true_eq_false, not_false_eq_true, ↓reduceIte, leT, leF, ltT, ltF, eqT, eqF, decide_true, decide_false, true_and, and_true, Nat.reduceAdd, bI0_i, bI_i, bI_x, bV0_v, bV_v, bV_x, ↓bnd_e, gd_t, m_ledges, e12, Nat.le_refl, enc_none, le0_m1, or_n0, eg_nx]
    | some l =>
      have hl := eg_gb_lt g
      have eb := eg_bit (s := s) (l := l) (by omega)
      simp (disch := omega) only [fa_lit, nI_ad, nI_mul, nI_cl, inb_nI, nI_ltE, nI_leE, nI_eqE, nI_m1, nI_m1', m1_lt, lt_m1, m1_le, le_m1, eq_self, not_true_eq_false, not_false_eq_true, ↓reduceIte, leT, leF, ltT, ltF, eqT, eqF, decide_true, decide_false, true_and, and_true, Nat.reduceAdd, bI0_i, bI_i, bI_x, bV0_v, bV_v, bV_x, ↓bnd_e, gd_t, m_ledges, e12, Nat.le_refl, enc_some, eb, eg_nx]
  | m + 1, i, f + 1, hi, hf => by
    have hL := hU.2.1
    have hD := hU.1
    have e12 : cM ((seS U 74 h) 64) 12 = nI L := by rw [seS_n (by omega)]; exact hU.2.2.1
    have e73 : (seS U 74 h) 73 (10 * d + i) = w d i := by rw [seS_n (by omega)]; exact hU.2.2.2 d hd i (by omega)
    have ih := m_lossI (e := e) (x := x) (h := h) (K := K) hU hd hs m (i + 1) f (by omega) (by omega)
    rw [eg_gb] at ih
    rw [f_X10_loss_b57]
    unfold f_X10_loss_b115
    cases g : hasV (nI s) i with
    | true =>
      rw [g, if_pos rfl] at ih
      simp (disch := omega) only [fa_lit, nI_ad, nI_mul, nI_cl, inb_nI, nI_ltE, nI_leE, nI_eqE, nI_m1, nI_m1', m1_lt, lt_m1, m1_le, le_m1, eq_self, not_true_eq_false, not_false_eq_true, ↓reduceIte, leT, leF, ltT, ltF, eqT, eqF, decide_true, decide_false, true_and, and_true, Nat.reduceAdd, bI0_i, bI_i, bI_x, bV0_v, bV_v, bV_x, ↓bnd_e, gd_t, m_ledges, e12, m_has, g, bT]
      exact ih
    | false =>
      rw [g, if_neg (by simp)] at ih
      by_cases g2 : eg_gv w d (eg_gb w d s i) < w d i
      · rw [if_pos g2] at ih
        simp (disch := omega) only [fa_lit, nI_ad, nI_mul, nI_cl, inb_nI, nI_ltE, nI_leE, nI_eqE, nI_m1, nI_m1', m1_lt, lt_m1, m1_le, le_m1, eq_self, not_true_eq_false, not_false_eq_true, ↓reduceIte, leT, leF, ltT, ltF, eqT, eqF, decide_true, decide_false, true_and, and_true, Nat.reduceAdd, bI0_i, bI_i, bI_x, bV0_v, bV_v, bV_x, ↓bnd_e, gd_t, m_ledges, e12, m_has, g, bF, e73, g2]
        exact ih
      · rw [if_neg g2] at ih
        simp (disch := omega) only [fa_lit, nI_ad, nI_mul, nI_cl, inb_nI, nI_ltE, nI_leE, nI_eqE, nI_m1, nI_m1', m1_lt, lt_m1, m1_le, le_m1, eq_self, not_true_eq_false, not_false_eq_true, ↓reduceIte, leT, leF, ltT, ltF, eqT, eqF, decide_true, decide_false, true_and, and_true, Nat.reduceAdd, bI0_i, bI_i, bI_x, bV0_v, bV_v, bV_x, ↓bnd_e, gd_t, m_ledges, e12, m_has, g, bF, e73, g2]
        exact ih
theorem m_lossO {h : Nat → Int32} (hF : 6000 ≤ F) (hU : eg_HM U D L w) (hG : eg_GM w L D h 0) : ∀ (m d f : Nat), d + m = D → m < f →
    f_X10_loss_b42 F f (nI D) (nI (eg_gs w L d).1) (eg_gs w L d).2 (nI d) (seS U 74 h) = some (.inl (some (.int (eg_hv w L D 0 0 - (eg_gs w L D).2))), seS U 74 h)
  | 0, d, f + 1, hi, hf => by
    have hie : d = D := by omega
    subst hie
    have hD := hU.1
    have ha := m_mostAt (S := seS U 74 h) (k := 0) (s := 0) (by omega) (by omega)
    have e74 : (seS U 74 h) 74 (0 * 1024 + 0) = eg_hv w L d 0 0 := by rw [seS_s]; exact hG 0 (by omega) (by omega) 0 (Nat.two_pow_pos L)
    rw [f_X10_loss_b42]
    simp (disch := omega) only [fa_lit, nI_ad, nI_mul, nI_cl, inb_nI, nI_ltE, nI_leE, nI_eqE, nI_m1, nI_m1', m1_lt, lt_m1, m1_le, le_m1, eq_self, not_true_eq_false, not_false_eq_true, ↓reduceIte, leT, leF, ltT, ltF, eqT, eqF, decide_true, decide_false, true_and, and_true, Nat.reduceAdd, bI0_i, bI_i, bI_x, bV0_v, bV_v, bV_x, ↓bnd_e, gd_t, Nat.le_refl, ha, e74]
  | m + 1, d, f + 1, hi, hf => by
    have hD := hU.1
    have hL := hU.2.1
    have ih := m_lossO hF hU hG m (d + 1) f (by omega) (by omega)
    have h1 := m_lossI (F := F) (h := h) (e := (eg_gs w L d).2) (x := nI D) (K := fun x1 x2 x3 x4 S => f_X10_loss_b42 F f x1 x2 x3 x4 S) hU (show d < D by omega) (eg_gs_ok (w := w) hL (d := d)).1 L 0 F (by omega) (by omega)
    rw [eg_gb, enc_none] at h1
    rw [f_X10_loss_b42]
    simp (disch := omega) only [fa_lit, nI_ad, nI_mul, nI_cl, inb_nI, nI_ltE, nI_leE, nI_eqE, nI_m1, nI_m1', m1_lt, lt_m1, m1_le, le_m1, eq_self, not_true_eq_false, not_false_eq_true, ↓reduceIte, leT, leF, ltT, ltF, eqT, eqF, decide_true, decide_false, true_and, and_true, Nat.reduceAdd, bI0_i, bI_i, bI_x, bV0_v, bV_v, bV_x, ↓bnd_e, gd_t]
    refine Eq.trans h1 ?_
    rw [eg_gs] at ih
    exact ih
theorem eg_FX {V : mS} {h : Nat → Int32} (hz : zb (V 27)) (ho : ∀ o, o ≠ 8 → o ≠ 9 → o ≠ 27 → o ≠ 33 → o ≠ 34 → V o = S o) : FX S (seS V 35 h) :=
  ⟨fun o q1 q2 q3 q4 q5 q6 _ => by rw [seS_n q6, ho o q1 q2 q3 q4 q5], fun _ => by rw [seS_n (by omega)]; exact hz⟩
theorem eg_FM {T U : mS} (h : FM (upS T 63 0 (nI 0)) U) : FM T U :=
  ⟨fun o q1 q2 q3 q4 q5 q6 q7 q8 => by rw [h.1 o q1 q2 q3 q4 q5 q6 q7 q8, upS_n q1], fun k hk => by rw [h.2 k hk, upS_s, upd_n (by omega)]⟩
theorem ag_harvest {p1 p2 : Int32} (hF : 6000 ≤ F) (hI : Inv S) : Ag (f_X9_harvest F p1 p2) (f_X10_harvest F p1 p2) [1] S := by
  by_cases g : nI 1 ≤ p1 ∧ p1 ≤ nI 10
  · have gd1 : decide (nI 1 ≤ p1 ∧ p1 ≤ nI 10) = true := decide_eq_true g
    have xn : f_X9_needWithin p1 (1 : Int32) (10 : Int32) S = some (.inl none, S) := x_need g
    obtain ⟨D, hD1, hD, rfl⟩ := withinN (by omega) g (by omega)
    refine ag_g hI (fun n nh nk A hn en hnh enh hnk enk hX hW hR hz => ?_)
    obtain ⟨V, hV, hw, hz', ho⟩ := x_weigh (F := F) hF hD1 hD hn en hX hW hR.2 hz
    obtain ⟨h, hG, hs⟩ := x_search (F := F) hF hV hD1
    have key : ∀ r : Int32, (if ¬ p2 = -nI 1 then bI0 (f_X6_ledgeOf F p2 (seS V 35 h)) (fun r5 S4 => f_X9_harvest_b49 F r5 S4) else bI0 (f_X6_most (seS V 35 h)) (fun r7 S6 => f_X9_harvest_b49 F r7 S6)) = some (.inl (some (.int r)), seS V 35 h) →
        (∀ T : mS, cM (T 64) = S 25 → LM A (T 64) → ∃ U2 h2, eg_HM U2 D n (eg_ww A (S 25)) ∧ eg_GM (eg_ww A (S 25)) n D h2 0 ∧ f_X10_laysMost F (nI D) (upS T 63 0 (nI 0)) = some (.inl none, seS U2 74 h2) ∧ U2 63 0 = nI 0 ∧ FM T (seS U2 74 h2) ∧ (if ¬ p2 = -nI 1 then bI0 (f_X10_in p2 (nI 0) (nI D - nI 1) (seS U2 74 h2)) (fun r8 S7 => (if ¬ r8 = nI 0 then f_X10_harvest_b72 F F p2 (nI 0) (-nI 1) (nI 0) S7 else some (.inl (some (.int (-nI 1))), S7))) else bI0 (f_X10_mostAt (nI 0) (nI 0) (seS U2 74 h2)) (fun r17 S16 => gd (inb r17 11264) (some (.inl (some (.int (S16 74 r17.toNatClampNeg))), S16)))) = some (.inl (some (.int r)), seS U2 74 h2)) →
        ∃ r1 S1, f_X9_harvest F (nI D) p2 S = some (r1, S1) ∧ FX S S1 ∧ ∀ T, cM (T 64) = S 25 → LM A (T 64) → ∃ b T2, f_X10_harvest F (nI D) p2 T = some (.inl (some (.int b)), T2) ∧ FM T T2 ∧ Res r1 b (T2 63 0) [1] := by
      intro r hr hM
      refine ⟨.inl (some (.int r)), seS V 35 h, ?_, eg_FX hz' ho, fun T hC hLM => ?_⟩
      · unfold f_X9_harvest
        rw [xn, bV_v, hw, bV0_v, hs, bV0_v]
        exact hr
      · obtain ⟨U2, h2, a1, a2, a3, a4, a5, a6⟩ := hM T hC hLM
        refine ⟨r, seS U2 74 h2, ?_, a5, rfl, by rw [seS_n (by omega)]; exact a4⟩
        unfold f_X10_harvest f_X10_harvest_b21
        rw [bnd_e, show upS T 63 0 (0 : Int32) = upS T 63 0 (nI 0) from rfl]
        simp (disch := omega) only [fa_lit, m_in, gd1, bT, bI0_i, nI_eqE, eqF, not_false_eq_true, ↓reduceIte, m_throw0, a3, bV0_v]
        simp only [m_in, bI0_i] at a6
        exact a6
    have lm : ∀ T : mS, cM (T 64) = S 25 → LM A (T 64) → ∃ U2 h2, eg_HM U2 D n (eg_ww A (S 25)) ∧ eg_GM (eg_ww A (S 25)) n D h2 0 ∧ f_X10_laysMost F (nI D) (upS T 63 0 (nI 0)) = some (.inl none, seS U2 74 h2) ∧ U2 63 0 = nI 0 ∧ FM T (seS U2 74 h2) := by
      intro T hC hLM
      have e64 : (upS T 63 0 (nI 0)) 64 = T 64 := upS_n (by omega)
      obtain ⟨U2, h2, a1, a2, a3, a4, a5⟩ := m_laysMost (F := F) (U := upS T 63 0 (nI 0)) (A := A) (c := S 25) hF hD1 hD hn (by rw [e64]; exact hC) (by rw [e64]; exact hLM) hW hR en hnh enh
      exact ⟨U2, h2, a1, a2, a3, by rw [a4, upS_s, upd_s], eg_FM a5⟩
    by_cases k1 : p2 = -nI 1
    · subst k1
      refine key (eg_hv (eg_ww A (S 25)) n D 0 0) ?_ (fun T hC hLM => ?_)
      · rw [if_neg (by simp), x_most hV hD1 hG, bI0_i]; rfl
      · obtain ⟨U2, h2, a1, a2, a3, a4, a5⟩ := lm T hC hLM
        refine ⟨U2, h2, a1, a2, a3, a4, a5, ?_⟩
        have ha := m_mostAt (S := seS U2 74 h2) (k := 0) (s := 0) (by omega) (by omega)
        have e74 : (seS U2 74 h2) 74 (0 * 1024 + 0) = eg_hv (eg_ww A (S 25)) n D 0 0 := by rw [seS_s]; exact a2 0 (by omega) (by omega) 0 (Nat.two_pow_pos n)
        rw [if_neg (by simp), ha]
        simp (disch := omega) only [fa_lit, nI_ad, nI_mul, nI_cl, inb_nI, nI_ltE, nI_leE, nI_eqE, nI_m1, nI_m1', m1_lt, lt_m1, m1_le, le_m1, eq_self, not_true_eq_false, not_false_eq_true, ↓reduceIte, leT, leF, ltT, ltF, eqT, eqF, decide_true, decide_false, true_and, and_true, Nat.reduceAdd, bI0_i, bI_i, bI_x, bV0_v, bV_v, bV_x, ↓bnd_e, gd_t, e74]
    · by_cases k2 : p2 < nI 0
      · have kd : decide (nI 0 ≤ p2 ∧ p2 ≤ nI D - nI 1) = false := by
          apply decide_eq_false; rw [nle_lt]; exact fun q => q.1 k2
        refine key (-nI 1) ?_ (fun T hC hLM => ?_)
        · rw [if_pos k1, x_ledgeOf_n hF k2, bI0_i]; rfl
        · obtain ⟨U2, h2, a1, a2, a3, a4, a5⟩ := lm T hC hLM
          refine ⟨U2, h2, a1, a2, a3, a4, a5, ?_⟩
          rw [if_pos k1, m_in, kd, bF, bI0_i, if_neg (by simp)]
      · obtain ⟨j, hj, rfl⟩ := nI_ofx k2
        have hl := x_ledgeOf (F := F) (h := h) hF hj hV hG
        by_cases k3 : j < D
        · have kd : decide (nI 0 ≤ nI j ∧ nI j ≤ nI D - nI 1) = true := by
            apply decide_eq_true; rw [le_sub1 (by omega), nI_leE (by omega) hj, nI_ltE hj (by omega)]; omega
          rw [if_pos k3] at hl
          refine key (encO (eg_hs (eg_ww A (S 25)) n D (j + 1)).2) ?_ (fun T hC hLM => ?_)
          · rw [if_pos k1, hl, bI0_i]; rfl
          · obtain ⟨U2, h2, a1, a2, a3, a4, a5⟩ := lm T hC hLM
            refine ⟨U2, h2, a1, a2, a3, a4, a5, ?_⟩
            have hh := m_harvL (F := F) (h := h2) hF k3 a1 a2 (j + 1) 0 F (by omega) (by omega)
            rw [if_pos k1, m_in, kd, bT, bI0_i, if_pos (by decide)]
            exact hh
        · have kd : decide (nI 0 ≤ nI j ∧ nI j ≤ nI D - nI 1) = false := by
            apply decide_eq_false; rw [le_sub1 (by omega), nI_leE (by omega) hj, nI_ltE hj (by omega)]; omega
          rw [if_neg k3] at hl
          refine key (-nI 1) ?_ (fun T hC hLM => ?_)
          · rw [if_pos k1, hl, bI0_i]; rfl
          · obtain ⟨U2, h2, a1, a2, a3, a4, a5⟩ := lm T hC hLM
            refine ⟨U2, h2, a1, a2, a3, a4, a5, ?_⟩
            rw [if_pos k1, m_in, kd, bF, bI0_i, if_neg (by simp)]
  · have gd1 : decide (nI 1 ≤ p1 ∧ p1 ≤ nI 10) = false := decide_eq_false g
    refine ag_exc (b := nI 0) hI 0 rfl (by omega) ?_ (fun T U hU h64 => ?_)
    · unfold f_X9_harvest
      simp (disch := omega) only [fa_lit, nI_ad, nI_mul, nI_cl, inb_nI, nI_ltE, nI_leE, nI_eqE, nI_m1, nI_m1', m1_lt, lt_m1, m1_le, le_m1, eq_self, not_true_eq_false, not_false_eq_true, ↓reduceIte, leT, leF, ltT, ltF, eqT, eqF, decide_true, decide_false, true_and, and_true, Nat.reduceAdd, bI0_i, bI_i, bI_x, bV0_v, bV_v, bV_x, ↓bnd_e, gd_t, x_need_x g]
    · unfold f_X10_harvest f_X10_harvest_b21; rw [bnd_e, show upS T 63 0 (0 : Int32) = U from hU.symm]
      simp (disch := omega) only [fa_lit, nI_ad, nI_mul, nI_cl, inb_nI, nI_ltE, nI_leE, nI_eqE, nI_m1, nI_m1', m1_lt, lt_m1, m1_le, le_m1, eq_self, not_true_eq_false, not_false_eq_true, ↓reduceIte, leT, leF, ltT, ltF, eqT, eqF, decide_true, decide_false, true_and, and_true, Nat.reduceAdd, bI0_i, bI_i, bI_x, bV0_v, bV_v, bV_x, ↓bnd_e, gd_t, m_in, gd1, bF, m_throw]
theorem ag_loss {p1 : Int32} (hF : 6000 ≤ F) (hI : Inv S) : Ag (f_X9_loss F p1) (f_X10_loss F p1) [1] S := by
  by_cases g : nI 1 ≤ p1 ∧ p1 ≤ nI 10
  · have gd1 : decide (nI 1 ≤ p1 ∧ p1 ≤ nI 10) = true := decide_eq_true g
    have xn : f_X9_needWithin p1 (1 : Int32) (10 : Int32) S = some (.inl none, S) := x_need g
    obtain ⟨D, hD1, hD, rfl⟩ := withinN (by omega) g (by omega)
    refine ag_g hI (fun n nh nk A hn en hnh enh hnk enk hX hW hR hz => ?_)
    obtain ⟨V, hV, hw, hz', ho⟩ := x_weigh (F := F) hF hD1 hD hn en hX hW hR.2 hz
    obtain ⟨h, hG, hs⟩ := x_search (F := F) hF hV hD1
    refine ⟨.inl (some (.int (eg_hv (eg_ww A (S 25)) n D 0 0 - (eg_gs (eg_ww A (S 25)) n D).2))), seS V 35 h, ?_, eg_FX hz' ho, fun T hC hLM => ?_⟩
    · unfold f_X9_loss
      rw [xn, bV_v, hw, bV0_v, hs, bV0_v, x_most hV hD1 hG, bI0_i, x_greedy hF hV, bI0_i]
    · have e64 : (upS T 63 0 (nI 0)) 64 = T 64 := upS_n (by omega)
      obtain ⟨U2, h2, a1, a2, a3, a4, a5⟩ := m_laysMost (F := F) (U := upS T 63 0 (nI 0)) (A := A) (c := S 25) hF hD1 hD hn (by rw [e64]; exact hC) (by rw [e64]; exact hLM) hW hR en hnh enh
      have hh := m_lossO (F := F) (h := h2) hF a1 a2 D 0 F (by omega) (by omega)
      refine ⟨_, seS U2 74 h2, ?_, eg_FM a5, rfl, by rw [seS_n (by omega), a4, upS_s, upd_s]⟩
      unfold f_X10_loss f_X10_loss_b21
      rw [bnd_e, show upS T 63 0 (0 : Int32) = upS T 63 0 (nI 0) from rfl]
      simp (disch := omega) only [fa_lit, m_in, gd1, bT, bI0_i, nI_eqE, eqF, not_false_eq_true, ↓reduceIte, m_throw0, a3, bV0_v]
      exact hh
  · have gd1 : decide (nI 1 ≤ p1 ∧ p1 ≤ nI 10) = false := decide_eq_false g
    refine ag_exc (b := nI 0) hI 0 rfl (by omega) ?_ (fun T U hU h64 => ?_)
    · unfold f_X9_loss
      simp (disch := omega) only [fa_lit, nI_ad, nI_mul, nI_cl, inb_nI, nI_ltE, nI_leE, nI_eqE, nI_m1, nI_m1', m1_lt, lt_m1, m1_le, le_m1, eq_self, not_true_eq_false, not_false_eq_true, ↓reduceIte, leT, leF, ltT, ltF, eqT, eqF, decide_true, decide_false, true_and, and_true, Nat.reduceAdd, bI0_i, bI_i, bI_x, bV0_v, bV_v, bV_x, ↓bnd_e, gd_t, x_need_x g]
    · unfold f_X10_loss f_X10_loss_b21; rw [bnd_e, show upS T 63 0 (0 : Int32) = U from hU.symm]
      simp (disch := omega) only [fa_lit, nI_ad, nI_mul, nI_cl, inb_nI, nI_ltE, nI_leE, nI_eqE, nI_m1, nI_m1', m1_lt, lt_m1, m1_le, le_m1, eq_self, not_true_eq_false, not_false_eq_true, ↓reduceIte, leT, leF, ltT, ltF, eqT, eqF, decide_true, decide_false, true_and, and_true, Nat.reduceAdd, bI0_i, bI_i, bI_x, bV0_v, bV_v, bV_x, ↓bnd_e, gd_t, m_in, gd1, bF, m_throw]
end H
