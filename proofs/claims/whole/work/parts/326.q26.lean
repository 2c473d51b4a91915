/-! days, trial, span -/
theorem ag_as0 {F : Nat} {S : mS} {fX fM gM : mS → Option mR} {cs : List Nat} {r : Int32} (hF : 6000 ≤ F) (hI : Inv S)
    (hX : ∃ c' p' q', zb c' ∧ fX S = some (.inl (some (.int r)), sX (seS S 27 c') p' q'))
    (hM : ∀ T U, U = upS T 63 0 (nI 0) → U 64 = S 64 → fM T = bV0 (f_X10_keepsAll F U) gM)
    (gm : ∀ U a b q, U 67 4 = S 64 4 → cM (U 67) = S 25 → ∃ a' b' q', gM (sM (seS U 64 (wO (S 64) (S 25))) a b q) = some (.inl (some (.int r)), sM (seS U 64 (wO (S 64) (S 25))) a' b' q')) : Ag fX fM cs S := by
  obtain ⟨c', p', q', hz, hX⟩ := hX
  refine ⟨_, _, hX, fun T hT => ?_⟩
  have e64 : (upS T 63 0 (nI 0)) 64 = S 64 := by rw [upS_n (by omega), hT 64 (by omega), sX_n (by omega) (by omega), seS_n (by omega)]
  have hm := hM T _ rfl e64
  rw [m_keepsAll hF, bV0_v] at hm
  obtain ⟨a, b, q, hg⟩ := gm (seS (upS T 63 0 (nI 0)) 67 (rngF 0 447 ((upS T 63 0 (nI 0)) 64) ((upS T 63 0 (nI 0)) 67))) _ _ _ (by rw [seS_s, rng_in (by omega) (by omega), e64]) (by
    rw [seS_s, e64, ← hI.2.1]; exact cM_congr (fun k hk => rng_in (by omega) hk))
  rw [← hI.2.1, wO_self] at hg
  have e1 : seS (seS (upS T 63 0 (nI 0)) 67 (rngF 0 447 ((upS T 63 0 (nI 0)) 64) ((upS T 63 0 (nI 0)) 67))) 64 (S 64) = seS (upS T 63 0 (nI 0)) 67 (rngF 0 447 ((upS T 63 0 (nI 0)) 64) ((upS T 63 0 (nI 0)) 67)) := se_id' (by rw [seS_n (by omega), e64])
  rw [e1, sM_id] at hg
  rw [hg] at hm
  refine ⟨r, _, hm, Inv_same hI ⟨fun o ho => ?_, fun k hk => ?_, ?_⟩, rfl, ?_⟩
  · unfold keepO at ho
    rw [sM_n (by omega) (by omega), seS_n (by omega), upS_n (by omega), hT o (by omega), sX_n (by omega) (by omega), seS_n (by omega)]
  · rw [sM_63, upd_n (by omega), upd_n (by omega), seS_n (by omega), upS_s, upd_n (by omega), hT 63 (by omega), sX_n (by omega) (by omega), seS_n (by omega)]
  · rw [sM_n (by omega) (by omega), seS_n (by omega), upS_n (by omega), hT 27 (by omega), sX_n (by omega) (by omega), seS_s]; exact hz
  · rw [sM_63, upd_n (by omega), upd_n (by omega), seS_n (by omega), upS_s, upd_s]
theorem ag_as {F : Nat} {S : mS} {fX fM gX gM : mS → Option mR} {cs : List Nat} {r : Int32} (hF : 6000 ≤ F) (hI : Inv S)
    (hX : fX S = bV0 (f_X0_copy 26 24 S) gX)
    (hM : ∀ T U, U = upS T 63 0 (nI 0) → U 64 = S 64 → fM T = bV0 (f_X10_keepsAll F U) gM)
    (gx : ∀ p q, ∃ c' p' q', zb c' ∧ gX (sX (seS S 27 (S 25)) p q) = some (.inl (some (.int r)), sX (seS S 27 c') p' q'))
    (gm : ∀ U a b q, U 67 4 = S 64 4 → cM (U 67) = S 25 → ∃ a' b' q', gM (sM (seS U 64 (wO (S 64) (S 25))) a b q) = some (.inl (some (.int r)), sM (seS U 64 (wO (S 64) (S 25))) a' b' q')) : Ag fX fM cs S := by
  refine ag_as0 hF hI ?_ hM gm
  rw [hX, x_copy (S := S) (u0 := 26) (u1 := 24) hI.2.2.2.1 hI.1.2, bV0_v]
  have h := gx (S 8) (S 9)
  rw [show sX (seS S 27 (S 25)) (S 8) (S 9) = seS S 27 (S 25) by
    conv => lhs; rw [← seS_n (S := S) (i := 27) (f := S 25) (show 8 ≠ 27 by omega), ← seS_n (S := S) (i := 27) (f := S 25) (show 9 ≠ 27 by omega)]
    exact sX_id] at h
  exact h
section D
variable {F : Nat} {S : mS} {A : aL}
theorem m_brings {w c q c0 : Nat → Int32} {a b : Int32} (hF : 6000 ≤ F) (h4 : S 67 4 = w 4) (hc : cM (S 67) = c0) : f_X10_bringsBack F (sM (seS S 64 (wO w c)) a b q) = some (.inl none, sM (seS S 64 (wO w c0)) a b q) := by
  rw [m_bringsBack hF, at_m, sM_n (by omega) (by omega), seS_n (by omega), rng_wO h4, hc, se_sMn (by omega) (by omega), seS_seS]
def dys (A : aL) (n nh : Nat) (c : Nat → Int32) : Nat → (Nat → Int32) × Int32
  | 0 => (c, nI 0)
  | i + 1 => ((dayC A n nh (dys A n nh c i).1).1, (dys A n nh c i).2 + (dayC A n nh (dys A n nh c i).1).2)
theorem dys_rg {c : Nat → Int32} {n nh : Nat} (hW : LW A) (hR : Rg c) (hn : n ≤ 10) (hnh : nh ≤ 6) : ∀ {i : Nat}, Rg (dys A n nh c i).1
  | 0 => hR
  | i + 1 => by rw [dys]; exact dayC_rg hW (dys_rg hW hR hn hnh) hn hnh
theorem dys_out {c : Nat → Int32} {n nh j : Nat} (hn : n ≤ 10) (hnh : nh ≤ 6) (h : j ≠ 3) (h3 : j ≠ 4) (h4 : j ≠ 10) (h2 : j < 16 ∨ 78 ≤ j) : ∀ {i : Nat}, (dys A n nh c i).1 j = c j
  | 0 => rfl
  | i + 1 => by rw [dys, dayC_out hn hnh h h3 h4 h2, dys_out hn hnh h h3 h4 h2]
theorem dys_az {c : Nat → Int32} {n nh : Nat} (hW : LW A) (hR : Rg c) (hz : Az c) (hn : n ≤ 10) (hnh : nh ≤ 6) : ∀ {i : Nat}, Az (dys A n nh c i).1
  | 0 => hz
  | i + 1 => dayC_az hW (dys_rg hW hR hn hnh) (dys_az hW hR hz hn hnh) hn hnh
theorem x_daysL {n nh d : Nat} {c : Nat → Int32} (hd : d ≤ 60) (hF : 401 ≤ F) (hA : LX A S 3) (hW : LW A) (hn : n ≤ 10) (en : c 12 = nI n) (hnh : nh ≤ 6) (enh : c 13 = nI nh) : ∀ (m i k : Nat) (p q : Nat → Int32), i + m = d → m < k →
    ∃ p' q', f_X9_days_b22 F k (nI d) (dys A n nh c i).2 (nI i) (sX (seS S 25 (dys A n nh c i).1) p q) = some (.inl (some (.int (dys A n nh c d).2)), sX (seS S 25 (dys A n nh c d).1) p' q')
  | 0, i, k + 1, p, q, hi, hk => by
    have hie : i = d := by omega
    subst hie
    refine ⟨p, q, ?_⟩
    rw [f_X9_days_b22]
    simp (disch := omega) only [fa_lit, nI_ad, nI_mul, nI_cl, inb_nI, nI_ltE, nI_leE, nI_eqE, nI_m1, nI_m1', m1_lt, lt_m1, m1_le, le_m1, eq_self, not_true_eq_false, not_false_eq_true, ↓reduceIte, leT, leF, ltT, ltF, eqT, eqF, decide_true, decide_false, true_and, and_true, Nat.reduceAdd, bI0_i, bI_i, bI_x, bV0_v, bV_v, bV_x, ↓bnd_e, gd_t, Nat.le_refl]
  | m + 1, i, k + 1, p, q, hi, hk => by
    obtain ⟨p1, q1, h⟩ := x_dayMore (F := F) (S := S) (u := 24) (c := (dys A n nh c i).1) (p := p) (q := q) hF (by omega) hA hW hn (by rw [dys_out hn hnh (by omega) (by omega) (by omega) (by omega)]; exact en) hnh (by rw [dys_out hn hnh (by omega) (by omega) (by omega) (by omega)]; exact enh)
    obtain ⟨p2, q2, ih⟩ := x_daysL hd hF hA hW hn en hnh enh m (i + 1) k p1 q1 (by omega) (by omega)
    refine ⟨p2, q2, ?_⟩
    rw [f_X9_days_b22]
    rw [dys] at ih
    simp (disch := omega) only [fa_lit, nI_ad, nI_mul, nI_cl, inb_nI, nI_ltE, nI_leE, nI_eqE, nI_m1, nI_m1', m1_lt, lt_m1, m1_le, le_m1, eq_self, not_true_eq_false, not_false_eq_true, ↓reduceIte, leT, leF, ltT, ltF, eqT, eqF, decide_true, decide_false, true_and, and_true, Nat.reduceAdd, bI0_i, bI_i, bI_x, bV0_v, bV_v, bV_x, ↓bnd_e, gd_t, show f_X7_dayMore F 24 (sX (seS S 25 (dys A n nh c i).1) p q) = _ from h]
    exact ih
theorem m_daysL {n nh d : Nat} {w c : Nat → Int32} (hd : d ≤ 60) (hF : 401 ≤ F) (hA : LM A w) (hW : LW A) (hR : Rg c) (hn : n ≤ 10) (en : c 12 = nI n) (hnh : nh ≤ 6) (enh : c 13 = nI nh) : ∀ (m i k : Nat) (a b : Int32) (q : Nat → Int32), i + m = d → m < k →
    ∃ a' b' q', f_X10_days_b38 F k (nI d) (dys A n nh c i).2 (nI i) (sM (seS S 64 (wO w (dys A n nh c i).1)) a b q) = some (.inl (some (.int (dys A n nh c d).2)), sM (seS S 64 (wO w (dys A n nh c d).1)) a' b' q')
  | 0, i, k + 1, a, b, q, hi, hk => by
    have hie : i = d := by omega
    subst hie
    refine ⟨a, b, q, ?_⟩
    rw [f_X10_days_b38]
    simp (disch := omega) only [fa_lit, nI_ad, nI_mul, nI_cl, inb_nI, nI_ltE, nI_leE, nI_eqE, nI_m1, nI_m1', m1_lt, lt_m1, m1_le, le_m1, eq_self, not_true_eq_false, not_false_eq_true, ↓reduceIte, leT, leF, ltT, ltF, eqT, eqF, decide_true, decide_false, true_and, and_true, Nat.reduceAdd, bI0_i, bI_i, bI_x, bV0_v, bV_v, bV_x, ↓bnd_e, gd_t, Nat.le_refl]
  | m + 1, i, k + 1, a, b, q, hi, hk => by
    obtain ⟨a1, b1, q1, h⟩ := m_oneDay (F := F) (S := S) (w := w) (c := (dys A n nh c i).1) (a := a) (b := b) (q := q) hF hA hW (dys_rg hW hR hn hnh) hn (by rw [dys_out hn hnh (by omega) (by omega) (by omega) (by omega)]; exact en) hnh (by rw [dys_out hn hnh (by omega) (by omega) (by omega) (by omega)]; exact enh)
    obtain ⟨a2, b2, q2, ih⟩ := m_daysL hd hF hA hW hR hn en hnh enh m (i + 1) k a1 b1 q1 (by omega) (by omega)
    refine ⟨a2, b2, q2, ?_⟩
    rw [f_X10_days_b38]
    rw [dys] at ih
    simp (disch := omega) only [fa_lit, nI_ad, nI_mul, nI_cl, inb_nI, nI_ltE, nI_leE, nI_eqE, nI_m1, nI_m1', m1_lt, lt_m1, m1_le, le_m1, eq_self, not_true_eq_false, not_false_eq_true, ↓reduceIte, leT, leF, ltT, ltF, eqT, eqF, decide_true, decide_false, true_and, and_true, Nat.reduceAdd, bI0_i, bI_i, bI_x, bV0_v, bV_v, bV_x, ↓bnd_e, gd_t, h]
    exact ih
theorem ag_days {p1 : Int32} (hF : 6000 ≤ F) (hI : Inv S) : Ag (f_X9_days F p1) (f_X10_days F p1) [1] S := by
  obtain ⟨n, nh, nk, A, hn, en, hnh, enh, hnk, enk, hX, hW, hM, hR, hC⟩ := inv_b hI
  by_cases g : nI 1 ≤ p1 ∧ p1 ≤ nI 60
  · have gd1 : decide (nI 1 ≤ p1 ∧ p1 ≤ nI 60) = true := decide_eq_true g
    have xn : f_X9_needWithin p1 (1 : Int32) (60 : Int32) S = some (.inl none, S) := x_need g
    obtain ⟨d, hd1, hd2, rfl⟩ := withinN (by omega) g (by omega)
    refine ag_act2 (r := (dys A n nh (S 25) d).2) (c' := (dys A n nh (S 25) d).1) hF hI (dys_rg hW hR hn hnh) (dys_az hW hR hI.2.2.2.2.2.2.2.2.2.1 hn hnh) (gX := _) (gM := _) (by unfold f_X9_days; rw [xn, bV_v]) (fun T U hU h64 => by
      unfold f_X10_days f_X10_days_b21; rw [bnd_e, show upS T 63 0 (0 : Int32) = U from hU.symm]
      simp (disch := omega) only [fa_lit, nI_ad, nI_mul, nI_cl, inb_nI, nI_ltE, nI_leE, nI_eqE, nI_m1, nI_m1', m1_lt, lt_m1, m1_le, le_m1, eq_self, not_true_eq_false, not_false_eq_true, ↓reduceIte, leT, leF, ltT, ltF, eqT, eqF, decide_true, decide_false, true_and, and_true, Nat.reduceAdd, bI0_i, bI_i, bI_x, bV0_v, bV_v, bV_x, ↓bnd_e, gd_t, m_in, gd1, bT, m_throw0]
      rfl) (fun S1 p q eo => ?_) (fun T1 a b q => ?_)
    · exact x_daysL (F := F) (S := S1) (by omega) (by omega) (LX_of (fun o _ q2 => eo o (by omega)) hX) hW hn en hnh enh d 0 F p q (by omega) (by omega)
    · exact m_daysL (F := F) (S := T1) (by omega) (by omega) hM hW hR hn en hnh enh d 0 F a b q (by omega) (by omega)
  · have gd1 : decide (nI 1 ≤ p1 ∧ p1 ≤ nI 60) = false := decide_eq_false g
    refine ag_exc (b := nI 0) hI 0 rfl (by omega) ?_ (fun T U hU h64 => ?_)
    · unfold f_X9_days
      simp (disch := omega) only [fa_lit, nI_ad, nI_mul, nI_cl, inb_nI, nI_ltE, nI_leE, nI_eqE, nI_m1, nI_m1', m1_lt, lt_m1, m1_le, le_m1, eq_self, not_true_eq_false, not_false_eq_true, ↓reduceIte, leT, leF, ltT, ltF, eqT, eqF, decide_true, decide_false, true_and, and_true, Nat.reduceAdd, bI0_i, bI_i, bI_x, bV0_v, bV_v, bV_x, ↓bnd_e, gd_t, x_need_x g]
    · unfold f_X10_days f_X10_days_b21; rw [bnd_e, show upS T 63 0 (0 : Int32) = U from hU.symm]
      simp (disch := omega) only [fa_lit, nI_ad, nI_mul, nI_cl, inb_nI, nI_ltE, nI_leE, nI_eqE, nI_m1, nI_m1', m1_lt, lt_m1, m1_le, le_m1, eq_self, not_true_eq_false, not_false_eq_true, ↓reduceIte, leT, leF, ltT, ltF, eqT, eqF, decide_true, decide_false, true_and, and_true, Nat.reduceAdd, bI0_i, bI_i, bI_x, bV0_v, bV_v, bV_x, ↓bnd_e, gd_t, m_in, gd1, bF, m_throw]
/-- what is told behind some days -/
def trV (c : Nat → Int32) (n : Nat) (x : Int32) : Int32 := if x = nI 0 then totV c 2 n else c 4
theorem x_trialL {n nh d : Nat} {x : Int32} {c : Nat → Int32} (hd : d ≤ 60) (hF : 6000 ≤ F) (hA : LX A S 3) (hW : LW A) (hn : n ≤ 10) (en : c 12 = nI n) (hnh : nh ≤ 6) (enh : c 13 = nI nh) : ∀ (m i k : Nat) (p q : Nat → Int32), i + m = d → m < k →
    ∃ p' q', f_X9_trial_b20 F k (nI d) x (nI i) (sX (seS S 27 (dys A n nh c i).1) p q) = some (.inl (some (.int (trV (dys A n nh c d).1 n x))), sX (seS S 27 (dys A n nh c d).1) p' q')
  | 0, i, k + 1, p, q, hi, hk => by
    have hie : i = d := by omega
    subst hie
    have e12 : (sX (seS S 27 (dys A n nh c i).1) p q) (26 + 1) 12 = nI n := by rw [at_x (by omega) (by omega), dys_out hn hnh (by omega) (by omega) (by omega) (by omega)]; exact en
    refine ⟨p, q, ?_⟩
    rw [f_X9_trial_b20]
    unfold f_X9_trial_b66 trV
    by_cases g : x = nI 0
    · simp (disch := omega) only [fa_lit, nI_ad, nI_mul, nI_cl, inb_nI, nI_ltE, nI_leE, nI_eqE, nI_m1, nI_m1', m1_lt, lt_m1, m1_le, le_m1, eq_self, not_true_eq_false, not_false_eq_true, ↓reduceIte, leT, leF, ltT, ltF, eqT, eqF, decide_true, decide_false, true_and, and_true, Nat.reduceAdd, bI0_i, bI_i, bI_x, bV0_v, bV_v, bV_x, ↓bnd_e, gd_t, Nat.le_refl, g, x_totalOf (u := 26) hF (by omega : 2 < 5) e12 hn, at_x]
    · simp (disch := omega) only [fa_lit, nI_ad, nI_mul, nI_cl, inb_nI, nI_ltE, nI_leE, nI_eqE, nI_m1, nI_m1', m1_lt, lt_m1, m1_le, le_m1, eq_self, not_true_eq_false, not_false_eq_true, ↓reduceIte, leT, leF, ltT, ltF, eqT, eqF, decide_true, decide_false, true_and, and_true, Nat.reduceAdd, bI0_i, bI_i, bI_x, bV0_v, bV_v, bV_x, ↓bnd_e, gd_t, Nat.le_refl, g, x_at, at_x]
  | m + 1, i, k + 1, p, q, hi, hk => by
    obtain ⟨p1, q1, h⟩ := x_dayMore (F := F) (S := S) (u := 26) (c := (dys A n nh c i).1) (p := p) (q := q) (by omega) (by omega) hA hW hn (by rw [dys_out hn hnh (by omega) (by omega) (by omega) (by omega)]; exact en) hnh (by rw [dys_out hn hnh (by omega) (by omega) (by omega) (by omega)]; exact enh)
    obtain ⟨p2, q2, ih⟩ := x_trialL (x := x) hd hF hA hW hn en hnh enh m (i + 1) k p1 q1 (by omega) (by omega)
    refine ⟨p2, q2, ?_⟩
    rw [f_X9_trial_b20]
    rw [dys] at ih
    simp (disch := omega) only [fa_lit, nI_ad, nI_mul, nI_cl, inb_nI, nI_ltE, nI_leE, nI_eqE, nI_m1, nI_m1', m1_lt, lt_m1, m1_le, le_m1, eq_self, not_true_eq_false, not_false_eq_true, ↓reduceIte, leT, leF, ltT, ltF, eqT, eqF, decide_true, decide_false, true_and, and_true, Nat.reduceAdd, bI0_i, bI_i, bI_x, bV0_v, bV_v, bV_x, ↓bnd_e, gd_t, show f_X7_dayMore F 26 (sX (seS S 27 (dys A n nh c i).1) p q) = _ from h]
    exact ih
theorem m_trialL {n nh d : Nat} {x : Int32} {w c c0 : Nat → Int32} (hd : d ≤ 60) (hF : 6000 ≤ F) (h4 : S 67 4 = w 4) (hc : cM (S 67) = c0) (hA : LM A w) (hW : LW A) (hR : Rg c) (hn : n ≤ 10) (en : c 12 = nI n) (hnh : nh ≤ 6) (enh : c 13 = nI nh) : ∀ (m i k : Nat) (a b : Int32) (q : Nat → Int32), i + m = d → m < k →
    ∃ a' b' q', f_X10_trial_b36 F k (nI d) x (nI i) (sM (seS S 64 (wO w (dys A n nh c i).1)) a b q) = some (.inl (some (.int (trV (dys A n nh c d).1 n x))), sM (seS S 64 (wO w c0)) a' b' q')
  | 0, i, k + 1, a, b, q, hi, hk => by
    have hie : i = d := by omega
    subst hie
    have hz : Rg (dys A n nh c i).1 := dys_rg hW hR hn hnh
    have e12 : cM ((sM (seS S 64 (wO w (dys A n nh c i).1)) a b q) 64) 12 = nI n := by rw [at_m, cM_wO hz.2, dys_out hn hnh (by omega) (by omega) (by omega) (by omega)]; exact en
    refine ⟨a, b, q, ?_⟩
    rw [f_X10_trial_b36]
    unfold f_X10_trial_b76 trV
    by_cases g : x = nI 0
    · simp (disch := omega) only [fa_lit, nI_ad, nI_mul, nI_cl, inb_nI, nI_ltE, nI_leE, nI_eqE, nI_m1, nI_m1', m1_lt, lt_m1, m1_le, le_m1, eq_self, not_true_eq_false, not_false_eq_true, ↓reduceIte, leT, leF, ltT, ltF, eqT, eqF, decide_true, decide_false, true_and, and_true, Nat.reduceAdd, bI0_i, bI_i, bI_x, bV0_v, bV_v, bV_x, ↓bnd_e, gd_t, Nat.le_refl, g, m_allLedges e12 hn, m_sumIn hF (by omega : 2 < 5) e12 hn, sum_all, at_m, cM_wO hz.2, m_brings hF h4 hc]
    · simp (disch := omega) only [fa_lit, nI_ad, nI_mul, nI_cl, inb_nI, nI_ltE, nI_leE, nI_eqE, nI_m1, nI_m1', m1_lt, lt_m1, m1_le, le_m1, eq_self, not_true_eq_false, not_false_eq_true, ↓reduceIte, leT, leF, ltT, ltF, eqT, eqF, decide_true, decide_false, true_and, and_true, Nat.reduceAdd, bI0_i, bI_i, bI_x, bV0_v, bV_v, bV_x, ↓bnd_e, gd_t, Nat.le_refl, g, at_m, cM_wOi, wO_at, up_m, pj_l, pj_h, pj_k, pj_0, pj_1, pj_2, pj_3, pj_5, pj_6, pj_7, pj_8, pj_9, pj_10, pj_11, pj_12, pj_13, pj_14, pj_15, pj_16, m_brings hF h4 hc]
  | m + 1, i, k + 1, a, b, q, hi, hk => by
    obtain ⟨a1, b1, q1, h⟩ := m_oneDay (F := F) (S := S) (w := w) (c := (dys A n nh c i).1) (a := a) (b := b) (q := q) (by omega) hA hW (dys_rg hW hR hn hnh) hn (by rw [dys_out hn hnh (by omega) (by omega) (by omega) (by omega)]; exact en) hnh (by rw [dys_out hn hnh (by omega) (by omega) (by omega) (by omega)]; exact enh)
    obtain ⟨a2, b2, q2, ih⟩ := m_trialL (x := x) hd hF h4 hc hA hW hR hn en hnh enh m (i + 1) k a1 b1 q1 (by omega) (by omega)
    refine ⟨a2, b2, q2, ?_⟩
    rw [f_X10_trial_b36]
    rw [dys] at ih
    simp (disch := omega) only [fa_lit, nI_ad, nI_mul, nI_cl, inb_nI, nI_ltE, nI_leE, nI_eqE, nI_m1, nI_m1', m1_lt, lt_m1, m1_le, le_m1, eq_self, not_true_eq_false, not_false_eq_true, ↓reduceIte, leT, leF, ltT, ltF, eqT, eqF, decide_true, decide_false, true_and, and_true, Nat.reduceAdd, bI0_i, bI_i, bI_x, bV0_v, bV_v, bV_x, ↓bnd_e, gd_t, h]
    exact ih
theorem ag_trial {p1 p2 : Int32} (hF : 6000 ≤ F) (hI : Inv S) : Ag (f_X9_trial F p1 p2) (f_X10_trial F p1 p2) [1] S := by
  obtain ⟨n, nh, nk, A, hn, en, hnh, enh, hnk, enk, hX, hW, hM, hR, hC⟩ := inv_b hI
  by_cases g : nI 0 ≤ p1 ∧ p1 ≤ nI 40
  · have gd1 : decide (nI 0 ≤ p1 ∧ p1 ≤ nI 40) = true := decide_eq_true g
    have xn : f_X9_needWithin p1 (0 : Int32) (40 : Int32) S = some (.inl none, S) := x_need g
    obtain ⟨d, hd1, hd2, rfl⟩ := withinN (by omega) g (by omega)
    refine ag_as (r := trV (dys A n nh (S 25) d).1 n p2) hF hI (gX := _) (gM := _) (by unfold f_X9_trial; rw [xn, bV_v]) (fun T U hU h64 => by
      unfold f_X10_trial f_X10_trial_b21; rw [bnd_e, show upS T 63 0 (0 : Int32) = U from hU.symm]
      simp (disch := omega) only [fa_lit, nI_ad, nI_mul, nI_cl, inb_nI, nI_ltE, nI_leE, nI_eqE, nI_m1, nI_m1', m1_lt, lt_m1, m1_le, le_m1, eq_self, not_true_eq_false, not_false_eq_true, ↓reduceIte, leT, leF, ltT, ltF, eqT, eqF, decide_true, decide_false, true_and, and_true, Nat.reduceAdd, bI0_i, bI_i, bI_x, bV0_v, bV_v, bV_x, ↓bnd_e, gd_t, m_in, gd1, bT, m_throw0]
      rfl) (fun p q => ?_) (fun U a b q h4 hc => ?_)
    · obtain ⟨p', q', h⟩ := x_trialL (F := F) (S := S) (x := p2) (c := S 25) (d := d) (by omega) hF hX hW hn en hnh enh d 0 F p q (by omega) (by omega)
      exact ⟨_, p', q', (dys_rg hW hR hn hnh (i := d)).2, h⟩
    · exact m_trialL (F := F) (S := U) (x := p2) (by omega) hF h4 hc hM hW hR hn en hnh enh d 0 F a b q (by omega) (by omega)
  · have gd1 : decide (nI 0 ≤ p1 ∧ p1 ≤ nI 40) = false := decide_eq_false g
    refine ag_exc (b := nI 0) hI 0 rfl (by omega) ?_ (fun T U hU h64 => ?_)
    · unfold f_X9_trial
      simp (disch := omega) only [fa_lit, nI_ad, nI_mul, nI_cl, inb_nI, nI_ltE, nI_leE, nI_eqE, nI_m1, nI_m1', m1_lt, lt_m1, m1_le, le_m1, eq_self, not_true_eq_false, not_false_eq_true, ↓reduceIte, leT, leF, ltT, ltF, eqT, eqF, decide_true, decide_false, true_and, and_true, Nat.reduceAdd, bI0_i, bI_i, bI_x, bV0_v, bV_v, bV_x, ↓bnd_e, gd_t, x_need_x g]
    · unfold f_X10_trial f_X10_trial_b21; rw [bnd_e, show upS T 63 0 (0 : Int32) = U from hU.symm]
      simp (disch := omega) only [fa_lit, nI_ad, nI_mul, nI_cl, inb_nI, nI_ltE, nI_leE, nI_eqE, nI_m1, nI_m1', m1_lt, lt_m1, m1_le, le_m1, eq_self, not_true_eq_false, not_false_eq_true, ↓reduceIte, leT, leF, ltT, ltF, eqT, eqF, decide_true, decide_false, true_and, and_true, Nat.reduceAdd, bI0_i, bI_i, bI_x, bV0_v, bV_v, bV_x, ↓bnd_e, gd_t, m_in, gd1, bF, m_throw]
end D
