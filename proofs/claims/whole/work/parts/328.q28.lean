/-! ahead, when, late -/
section D
variable {F : Nat} {S : mS} {A : aL}
/-- alike for one ledge -/
def AgL (l : Nat) (c c' : Nat → Int32) : Prop := c 3 = c' 3 ∧ c 4 = c' 4 ∧ ∀ w, w < 5 → c (16 + l * 5 + w) = c' (16 + l * 5 + w)
theorem eg_al_fresh {l : Nat} {c c' : Nat → Int32} (h : AgL l c c') : freshV c l = freshV c' l := by
  unfold freshV; rw [h.2.2 3 (by omega), h.2.2 2 (by omega)]
theorem eg_al_isF {l : Nat} {c c' : Nat → Int32} (h : AgL l c c') : isF c l = isF c' l := by
  show decide (nI 0 < freshV c l) = decide (nI 0 < freshV c' l)
  rw [eg_al_fresh h]
theorem eg_al_facts {l : Nat} {c c' : Nat → Int32} {k w : Int32} (h : AgL l c c') : facts c l k w = facts c' l k w := by
  funext i
  show (if i < 5 then _ else _) = (if i < 5 then _ else _)
  rw [h.1, eg_al_isF h]
  split
  · rename_i hi; exact h.2.2 i hi
  · rfl
theorem eg_al_sum {l kind : Nat} {c c' : Nat → Int32} {k w : Int32} (h : AgL l c c') : sumV A kind c l k w = sumV A kind c' l k w := by
  unfold sumV
  rw [eg_al_facts h]
theorem eg_al_lays {l : Nat} {c c' : Nat → Int32} (h : AgL l c c') : laysV A c l = laysV A c' l := by
  unfold laysV
  rw [eg_al_sum h, h.2.1, h.2.2 4 (by omega)]
theorem eg_al_layC {l : Nat} {c c' : Nat → Int32} (h : AgL l c c') : AgL l (layC A c l) (layC A c' l) := by
  have e1 : layN A c l = layN A c' l := by unfold layN; rw [eg_al_lays h, h.2.2 2 (by omega)]
  have e2 : layA c l = layA c' l := by unfold layA; rw [h.2.2 2 (by omega), h.2.2 3 (by omega)]
  refine ⟨?_, ?_, fun w hw => ?_⟩
  · rw [layC_out (by omega) (by omega), layC_out (by omega) (by omega)]; exact h.1
  · rw [layC_out (by omega) (by omega), layC_out (by omega) (by omega)]; exact h.2.1
  · by_cases g2 : w = 2
    · subst g2; show upd _ _ _ _ = upd _ _ _ _; rw [upd_s, upd_s]; exact e1
    · by_cases g3 : w = 3
      · subst g3; show upd _ _ _ _ = upd _ _ _ _; rw [upd_n (by omega), upd_s, upd_n (by omega), upd_s]; exact e2
      · rw [layC_out (by omega) (by omega), layC_out (by omega) (by omega)]; exact h.2.2 w hw
theorem eg_al_right {l : Nat} {c c' c2 : Nat → Int32} (h : AgL l c c') (e : ∀ i, i = 3 ∨ i = 4 ∨ (16 + l * 5 ≤ i ∧ i < 16 + l * 5 + 5) → c2 i = c' i) : AgL l c c2 :=
  ⟨by rw [e 3 (by omega)]; exact h.1, by rw [e 4 (by omega)]; exact h.2.1, fun w hw => by rw [e _ (by omega)]; exact h.2.2 w hw⟩
theorem lys_s {c : Nat → Int32} {i : Nat} : (lys A c (i + 1)).1 = layC A (lys A c i).1 i := by rw [lys]
theorem agl_lo {l : Nat} {c c' : Nat → Int32} (h : AgL l c c') (hl : l < 10) : ∀ {i : Nat}, i ≤ l → AgL l c (lys A c' i).1
  | 0, _ => by rw [lys]; exact h
  | i + 1, hi => by
    rw [lys_s]
    exact eg_al_right (agl_lo h hl (i := i) (by omega)) (fun j hj => layC_out (by omega) (by omega))
theorem agl_hi {l : Nat} {c c' : Nat → Int32} (h : AgL l c c') : ∀ {i : Nat}, l < i → i ≤ 10 → AgL l (layC A c l) (lys A c' i).1
  | 0, hi, _ => absurd hi (by omega)
  | i + 1, hi, h10 => by
    rw [lys_s]
    by_cases e : i = l
    · subst e
      exact eg_al_layC (agl_lo h (by omega) (Nat.le_refl i))
    · exact eg_al_right (agl_hi h (i := i) (by omega) (by omega)) (fun j hj => layC_out (by omega) (by omega))
theorem eg_al_pass {l : Nat} {c c' : Nat → Int32} (h : AgL l c c') : AgL l (passC c) (passC c') := by
  refine ⟨?_, ?_, fun w hw => ?_⟩
  · show upd _ _ _ _ = upd _ _ _ _; rw [upd_s, upd_s, h.1]
  · show upd _ _ _ _ = upd _ _ _ _; rw [upd_n (by omega), upd_n (by omega)]; exact h.2.1
  · show upd _ _ _ _ = upd _ _ _ _; rw [upd_n (by omega), upd_n (by omega)]; exact h.2.2 w hw
theorem agl_day {l n nh : Nat} {c c' : Nat → Int32} (h : AgL l c c') (hl : l < n) (hn : n ≤ 10) (hnh : nh ≤ 6) : AgL l (passC (layC A c l)) (passC (easeC (lys A c' n).1 nh)) :=
  eg_al_pass (eg_al_right (c' := (lys A c' n).1) (agl_hi h hl hn) (fun i hi => easeC_out (by omega) hnh))
def stC (A : aL) (l : Nat) (c : Nat → Int32) : Nat → Nat → Int32
  | 0 => c
  | i + 1 => passC (layC A (stC A l c i) l)
def cdC (A : aL) (n nh : Nat) (c : Nat → Int32) : Nat → Nat → Int32
  | 0 => c
  | i + 1 => passC (easeC (lys A (cdC A n nh c i) n).1 nh)
theorem st_cd {l n nh : Nat} {c : Nat → Int32} (hl : l < n) (hn : n ≤ 10) (hnh : nh ≤ 6) : ∀ {i : Nat}, AgL l (stC A l c i) (cdC A n nh c i)
  | 0 => by rw [stC, cdC]; exact ⟨rfl, rfl, fun _ _ => rfl⟩
  | i + 1 => by
    rw [stC, cdC]
    exact agl_day (st_cd hl hn hnh (i := i)) hl hn hnh
theorem stC_rg {c : Nat → Int32} {l : Nat} (hW : LW A) (hR : Rg c) (hl : l < 10) : ∀ {i : Nat}, Rg (stC A l c i)
  | 0 => hR
  | i + 1 => by rw [stC]; exact passC_rg (layC_rg hW (stC_rg hW hR hl) hl)
theorem cdC_rg {c : Nat → Int32} {n nh : Nat} (hW : LW A) (hR : Rg c) (hn : n ≤ 10) (hnh : nh ≤ 6) : ∀ {i : Nat}, Rg (cdC A n nh c i)
  | 0 => hR
  | i + 1 => by rw [cdC]; exact passC_rg (easeC_rg (lys_rg hW (cdC_rg hW hR hn hnh) hn) hnh)
theorem cdC_out {c : Nat → Int32} {n nh j : Nat} (hn : n ≤ 10) (hnh : nh ≤ 6) (h : j ≠ 3) (h2 : j < 16 ∨ 78 ≤ j) : ∀ {i : Nat}, cdC A n nh c i j = c j
  | 0 => rfl
  | i + 1 => by rw [cdC, calm_out hn hnh h h2, cdC_out hn hnh h h2]
theorem x_still {l : Nat} {c p q : Nat → Int32} (hF : 6000 ≤ F) (hl : l < 10) (hA : LX A S 3) (hW : LW A) :
    ∃ p' q', f_X7_stillDayOf F (nI l) (sX (seS S 27 c) p q) = some (.inl none, sX (seS S 27 (passC (layC A c l))) p' q') := by
  obtain ⟨p', q', h⟩ := x_layOn (F := F) (S := S) (u := 26) (c := c) (p := p) (q := q) (by omega) (by omega) hl hA hW
  refine ⟨p', q', ?_⟩
  unfold f_X7_stillDayOf
  have h2 := x_passDay' (S := S) (u := 26) (p := p') (q := q') (c := layC A c l) (by omega)
  simp (disch := omega) only [fa_lit, nI_ad, nI_mul, nI_cl, inb_nI, nI_ltE, nI_leE, nI_eqE, nI_m1, nI_m1', m1_lt, lt_m1, m1_le, le_m1, eq_self, not_true_eq_false, not_false_eq_true, ↓reduceIte, leT, leF, ltT, ltF, eqT, eqF, decide_true, decide_false, true_and, and_true, Nat.reduceAdd, bI0_i, bI_i, bI_x, bV0_v, bV_v, bV_x, ↓bnd_e, gd_t, show f_X7_layOn F 26 (nI l) (sX (seS S 27 c) p q) = _ from h, show f_X0_passDay 26 (sX (seS S 27 (layC A c l)) p' q') = _ from h2]
def ahV (c : Nat → Int32) (l : Nat) (x : Int32) : Int32 := if x = nI 0 then c (16 + l * 5 + 2) else c (16 + l * 5 + 3)
theorem x_aheadL {l d : Nat} {x : Int32} {c : Nat → Int32} (hd : d ≤ 60) (hF : 6000 ≤ F) (hl : l < 10) (hA : LX A S 3) (hW : LW A) : ∀ (m i k : Nat) (p q : Nat → Int32), i + m = d → m < k →
    ∃ p' q', f_X9_ahead_b26 F k (nI l) (nI d) x (nI i) (sX (seS S 27 (stC A l c i)) p q) = some (.inl (some (.int (ahV (stC A l c d) l x))), sX (seS S 27 (stC A l c d)) p' q')
  | 0, i, k + 1, p, q, hi, hk => by
    have hie : i = d := by omega
    subst hie
    refine ⟨p, q, ?_⟩
    rw [f_X9_ahead_b26]
    unfold f_X9_ahead_b64 ahV
    by_cases g : x = nI 0
    · simp (disch := omega) only [fa_lit, nI_ad, nI_mul, nI_cl, inb_nI, nI_ltE, nI_leE, nI_eqE, nI_m1, nI_m1', m1_lt, lt_m1, m1_le, le_m1, eq_self, not_true_eq_false, not_false_eq_true, ↓reduceIte, leT, leF, ltT, ltF, eqT, eqF, decide_true, decide_false, true_and, and_true, Nat.reduceAdd, bI0_i, bI_i, bI_x, bV0_v, bV_v, bV_x, ↓bnd_e, gd_t, Nat.le_refl, g, x_ofLedge, at_x]
    · simp (disch := omega) only [fa_lit, nI_ad, nI_mul, nI_cl, inb_nI, nI_ltE, nI_leE, nI_eqE, nI_m1, nI_m1', m1_lt, lt_m1, m1_le, le_m1, eq_self, not_true_eq_false, not_false_eq_true, ↓reduceIte, leT, leF, ltT, ltF, eqT, eqF, decide_true, decide_false, true_and, and_true, Nat.reduceAdd, bI0_i, bI_i, bI_x, bV0_v, bV_v, bV_x, ↓bnd_e, gd_t, Nat.le_refl, g, x_ofLedge, at_x]
  | m + 1, i, k + 1, p, q, hi, hk => by
    obtain ⟨p1, q1, h⟩ := x_still (F := F) (S := S) (l := l) (c := stC A l c i) (p := p) (q := q) hF hl hA hW
    obtain ⟨p2, q2, ih⟩ := x_aheadL (x := x) hd hF hl hA hW m (i + 1) k p1 q1 (by omega) (by omega)
    refine ⟨p2, q2, ?_⟩
    rw [f_X9_ahead_b26]
    rw [stC] at ih
    simp (disch := omega) only [fa_lit, nI_ad, nI_mul, nI_cl, inb_nI, nI_ltE, nI_leE, nI_eqE, nI_m1, nI_m1', m1_lt, lt_m1, m1_le, le_m1, eq_self, not_true_eq_false, not_false_eq_true, ↓reduceIte, leT, leF, ltT, ltF, eqT, eqF, decide_true, decide_false, true_and, and_true, Nat.reduceAdd, bI0_i, bI_i, bI_x, bV0_v, bV_v, bV_x, ↓bnd_e, gd_t, h]
    exact ih
theorem m_aheadL {l n nh d : Nat} {x : Int32} {w c c0 : Nat → Int32} (hd : d ≤ 60) (hF : 6000 ≤ F) (hl : l < n) (h4 : S 67 4 = w 4) (hc : cM (S 67) = c0) (hA : LM A w) (hW : LW A) (hR : Rg c) (hn : n ≤ 10) (en : c 12 = nI n) (hnh : nh ≤ 6) (enh : c 13 = nI nh) : ∀ (m i k : Nat) (a b : Int32) (q : Nat → Int32), i + m = d → m < k →
    ∃ a' b' q', f_X10_ahead_b50 F k (nI l) (nI d) x (nI i) (sM (seS S 64 (wO w (cdC A n nh c i))) a b q) = some (.inl (some (.int (ahV (cdC A n nh c d) l x))), sM (seS S 64 (wO w c0)) a' b' q')
  | 0, i, k + 1, a, b, q, hi, hk => by
    have hie : i = d := by omega
    subst hie
    refine ⟨a, b, q, ?_⟩
    rw [f_X10_ahead_b50]
    unfold f_X10_ahead_b79 ahV
    by_cases g : x = nI 0
    · simp (disch := omega) only [fa_lit, nI_ad, nI_mul, nI_cl, inb_nI, nI_ltE, nI_leE, nI_eqE, nI_m1, nI_m1', m1_lt, lt_m1, m1_le, le_m1, eq_self, not_true_eq_false, not_false_eq_true, ↓reduceIte, leT, leF, ltT, ltF, eqT, eqF, decide_true, decide_false, true_and, and_true, Nat.reduceAdd, bI0_i, bI_i, bI_x, bV0_v, bV_v, bV_x, ↓bnd_e, gd_t, Nat.le_refl, g, m_of, at_m, cM_wOi, wO_at, up_m, pj_l, pj_h, pj_k, pj_0, pj_1, pj_2, pj_3, pj_5, pj_6, pj_7, pj_8, pj_9, pj_10, pj_11, pj_12, pj_13, pj_14, pj_15, pj_16, m_brings hF h4 hc]
    · simp (disch := omega) only [fa_lit, nI_ad, nI_mul, nI_cl, inb_nI, nI_ltE, nI_leE, nI_eqE, nI_m1, nI_m1', m1_lt, lt_m1, m1_le, le_m1, eq_self, not_true_eq_false, not_false_eq_true, ↓reduceIte, leT, leF, ltT, ltF, eqT, eqF, decide_true, decide_false, true_and, and_true, Nat.reduceAdd, bI0_i, bI_i, bI_x, bV0_v, bV_v, bV_x, ↓bnd_e, gd_t, Nat.le_refl, g, m_of, at_m, cM_wOi, wO_at, up_m, pj_l, pj_h, pj_k, pj_0, pj_1, pj_2, pj_3, pj_5, pj_6, pj_7, pj_8, pj_9, pj_10, pj_11, pj_12, pj_13, pj_14, pj_15, pj_16, m_brings hF h4 hc]
  | m + 1, i, k + 1, a, b, q, hi, hk => by
    obtain ⟨a1, b1, q1, h⟩ := m_calmDay (F := F) (S := S) (x := nI 1) (w := w) (c := cdC A n nh c i) (a := a) (b := b) (q := q) (by decide) (by omega) hA hW (cdC_rg hW hR hn hnh) hn (by rw [cdC_out hn hnh (by omega) (by omega)]; exact en) hnh (by rw [cdC_out hn hnh (by omega) (by omega)]; exact enh)
    obtain ⟨a2, b2, q2, ih⟩ := m_aheadL (x := x) hd hF hl h4 hc hA hW hR hn en hnh enh m (i + 1) k a1 b1 q1 (by omega) (by omega)
    refine ⟨a2, b2, q2, ?_⟩
    rw [f_X10_ahead_b50]
    rw [cdC] at ih
    simp (disch := omega) only [fa_lit, nI_ad, nI_mul, nI_cl, inb_nI, nI_ltE, nI_leE, nI_eqE, nI_m1, nI_m1', m1_lt, lt_m1, m1_le, le_m1, eq_self, not_true_eq_false, not_false_eq_true, ↓reduceIte, leT, leF, ltT, ltF, eqT, eqF, decide_true, decide_false, true_and, and_true, Nat.reduceAdd, bI0_i, bI_i, bI_x, bV0_v, bV_v, bV_x, ↓bnd_e, gd_t, h]
    exact ih
theorem ag_ahead {p1 p2 p3 : Int32} (hF : 6000 ≤ F) (hI : Inv S) : Ag (f_X9_ahead F p1 p2 p3) (f_X10_ahead F p1 p2 p3) [3, 1] S := by
  obtain ⟨n, nh, nk, A, hn, en, hnh, enh, hnk, enk, hX, hW, hM, hR, hC⟩ := inv_b hI
  by_cases g1 : ∃ l, l < n ∧ p1 = nI l
  · obtain ⟨l, hl, rfl⟩ := g1
    by_cases g : nI 0 ≤ p2 ∧ p2 ≤ nI 40
    · have gd1 : decide (nI 0 ≤ p2 ∧ p2 ≤ nI 40) = true := decide_eq_true g
      have xn : f_X9_needWithin p2 (0 : Int32) (40 : Int32) S = some (.inl none, S) := x_need g
      obtain ⟨d, hd1, hd2, rfl⟩ := withinN (by omega) g (by omega)
      refine ag_as (r := ahV (stC A l (S 25) d) l p3) hF hI (gX := _) (gM := _) (by unfold f_X9_ahead; rw [x_needLedge hn en hl, bV_v, xn, bV_v]) (fun T U hU h64 => by
        have en' : cM (U 64) 12 = nI n := by rw [h64, hC]; exact en
        unfold f_X10_ahead f_X10_ahead_b34; rw [bnd_e, show upS T 63 0 (0 : Int32) = U from hU.symm]
        simp (disch := omega) only [fa_lit, nI_ad, nI_mul, nI_cl, inb_nI, nI_ltE, nI_leE, nI_eqE, nI_m1, nI_m1', m1_lt, lt_m1, m1_le, le_m1, eq_self, not_true_eq_false, not_false_eq_true, ↓reduceIte, leT, leF, ltT, ltF, eqT, eqF, decide_true, decide_false, true_and, and_true, Nat.reduceAdd, bI0_i, bI_i, bI_x, bV0_v, bV_v, bV_x, ↓bnd_e, gd_t, m_noLedge hn en' hl, m_in, gd1, bT, m_throw0]
        rfl) (fun p q => ?_) (fun U a b q h4 hc => ?_)
      · obtain ⟨p', q', h⟩ := x_aheadL (F := F) (S := S) (l := l) (x := p3) (c := S 25) (d := d) (by omega) hF (by omega) hX hW d 0 F p q (by omega) (by omega)
        exact ⟨_, p', q', (stC_rg hW hR (by omega) (i := d)).2, h⟩
      · have h := m_aheadL (F := F) (S := U) (l := l) (x := p3) (c := S 25) (d := d) (by omega) hF hl h4 hc hM hW hR hn en hnh enh d 0 F a b q (by omega) (by omega)
        have hs := st_cd (A := A) (c := S 25) hl hn hnh (i := d)
        have e : ahV (cdC A n nh (S 25) d) l p3 = ahV (stC A l (S 25) d) l p3 := by unfold ahV; rw [hs.2.2 2 (by omega), hs.2.2 3 (by omega)]
        rw [e] at h
        exact h
    · have gd1 : decide (nI 0 ≤ p2 ∧ p2 ≤ nI 40) = false := decide_eq_false g
      refine ag_exc (b := nI 0) hI 1 rfl (by omega) ?_ (fun T U hU h64 => ?_)
      · unfold f_X9_ahead
        simp (disch := omega) only [fa_lit, nI_ad, nI_mul, nI_cl, inb_nI, nI_ltE, nI_leE, nI_eqE, nI_m1, nI_m1', m1_lt, lt_m1, m1_le, le_m1, eq_self, not_true_eq_false, not_false_eq_true, ↓reduceIte, leT, leF, ltT, ltF, eqT, eqF, decide_true, decide_false, true_and, and_true, Nat.reduceAdd, bI0_i, bI_i, bI_x, bV0_v, bV_v, bV_x, ↓bnd_e, gd_t, x_needLedge hn en hl, x_need_x g]
      · have en' : cM (U 64) 12 = nI n := by rw [h64, hC]; exact en
        unfold f_X10_ahead f_X10_ahead_b34 f_X10_ahead_b41; rw [bnd_e, show upS T 63 0 (0 : Int32) = U from hU.symm]
        simp (disch := omega) only [fa_lit, nI_ad, nI_mul, nI_cl, inb_nI, nI_ltE, nI_leE, nI_eqE, nI_m1, nI_m1', m1_lt, lt_m1, m1_le, le_m1, eq_self, not_true_eq_false, not_false_eq_true, ↓reduceIte, leT, leF, ltT, ltF, eqT, eqF, decide_true, decide_false, true_and, and_true, Nat.reduceAdd, bI0_i, bI_i, bI_x, bV0_v, bV_v, bV_x, ↓bnd_e, gd_t, m_noLedge hn en' hl, m_in, gd1, bF, m_throw0, m_throw]
  · refine ag_exc (b := nI 0) hI 0 rfl (by omega) ?_ (fun T U hU h64 => ?_)
    · unfold f_X9_ahead
      simp (disch := omega) only [fa_lit, nI_ad, nI_mul, nI_cl, inb_nI, nI_ltE, nI_leE, nI_eqE, nI_m1, nI_m1', m1_lt, lt_m1, m1_le, le_m1, eq_self, not_true_eq_false, not_false_eq_true, ↓reduceIte, leT, leF, ltT, ltF, eqT, eqF, decide_true, decide_false, true_and, and_true, Nat.reduceAdd, bI0_i, bI_i, bI_x, bV0_v, bV_v, bV_x, ↓bnd_e, gd_t, x_needLedge_x hn en g1]
    · have en' : cM (U 64) 12 = nI n := by rw [h64, hC]; exact en
      unfold f_X10_ahead f_X10_ahead_b34 f_X10_ahead_b41; rw [bnd_e, show upS T 63 0 (0 : Int32) = U from hU.symm]
      simp (disch := omega) only [fa_lit, nI_ad, nI_mul, nI_cl, inb_nI, nI_ltE, nI_leE, nI_eqE, nI_m1, nI_m1', m1_lt, lt_m1, m1_le, le_m1, eq_self, not_true_eq_false, not_false_eq_true, ↓reduceIte, leT, leF, ltT, ltF, eqT, eqF, decide_true, decide_false, true_and, and_true, Nat.reduceAdd, bI0_i, bI_i, bI_x, bV0_v, bV_v, bV_x, ↓bnd_e, gd_t, m_noLedge_x hn en' g1, m_throw]
end D
