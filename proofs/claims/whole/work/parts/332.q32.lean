/-! let -/
section D
variable {F : Nat} {S : mS} {A : aL}
def eg_ta (c : Nat → Int32) (l : Nat) (m : Int32) : Int32 := if c (16 + l * 5 + 2) < m then c (16 + l * 5 + 2) else m
def eg_tk (c : Nat → Int32) (l : Nat) (t : Int32) : Nat → Int32 :=
  if t = c (16 + l * 5 + 2) then
    upd (upd (if c (16 + l * 5 + 3) ≤ nI 3 then upd c 8 (c 8 + t) else upd (upd c 8 (c 8 + t)) 9 (c 9 + t)) (16 + l * 5 + 2) (c (16 + l * 5 + 2) - t)) (16 + l * 5 + 3) (nI 0)
  else upd (if c (16 + l * 5 + 3) ≤ nI 3 then upd c 8 (c 8 + t) else upd (upd c 8 (c 8 + t)) 9 (c 9 + t)) (16 + l * 5 + 2) (c (16 + l * 5 + 2) - t)
theorem eg_tk_out {c : Nat → Int32} {l i : Nat} {t : Int32} (h8 : i ≠ 8) (h9 : i ≠ 9) (he : i ≠ 16 + l * 5 + 2) (ha : i ≠ 16 + l * 5 + 3) : eg_tk c l t i = c i := by
  unfold eg_tk
  by_cases g : t = c (16 + l * 5 + 2) <;> by_cases g2 : c (16 + l * 5 + 3) ≤ nI 3
  · rw [if_pos g, if_pos g2, upd_n ha, upd_n he, upd_n h8]
  · rw [if_pos g, if_neg g2, upd_n ha, upd_n he, upd_n h9, upd_n h8]
  · rw [if_neg g, if_pos g2, upd_n he, upd_n h8]
  · rw [if_neg g, if_neg g2, upd_n he, upd_n h9, upd_n h8]
theorem x_takeEggs {u l : Nat} {m : Int32} {c p q : Nat → Int32} (hu : 9 ≤ u) (hl : l < 10) :
    f_X7_takeEggs u (nI l) m (sX (seS S (u + 1) c) p q) = some (.inl (some (.int (eg_ta c l m))), sX (seS S (u + 1) (eg_tk c l (eg_ta c l m))) p q) := by
  unfold f_X7_takeEggs f_X7_takeEggs_b42 f_X7_takeEggs_b67
  have ht : (if c (16 + l * 5 + 2) < m then c (16 + l * 5 + 2) else m) = eg_ta c l m := rfl
  simp (disch := omega) only [fa_lit, nI_ad, nI_mul, nI_cl, inb_nI, nI_ltE, nI_leE, nI_eqE, nI_m1, nI_m1', m1_lt, lt_m1, m1_le, le_m1, eq_self, not_true_eq_false, not_false_eq_true, ↓reduceIte, leT, leF, ltT, ltF, eqT, eqF, decide_true, decide_false, true_and, and_true, Nat.reduceAdd, bI0_i, bI_i, bI_x, bV0_v, bV_v, bV_x, ↓bnd_e, gd_t, x_ofLedge, at_x, up_x, ht]
  generalize eg_ta c l m = t
  unfold eg_tk
  by_cases g2 : c (16 + l * 5 + 3) ≤ nI 3 <;> by_cases g : t = c (16 + l * 5 + 2)
  · simp (disch := omega) only [fa_lit, nI_ad, nI_mul, nI_cl, inb_nI, nI_ltE, nI_leE, nI_eqE, nI_m1, nI_m1', m1_lt, lt_m1, m1_le, le_m1, eq_self, not_true_eq_false, not_false_eq_true, ↓reduceIte, leT, leF, ltT, ltF, eqT, eqF, decide_true, decide_false, true_and, and_true, Nat.reduceAdd, bI0_i, bI_i, bI_x, bV0_v, bV_v, bV_x, ↓bnd_e, gd_t, x_ofLedge, x_putLedge, x_add, at_x, up_x, upd_n, g2, g]
  · simp (disch := omega) only [fa_lit, nI_ad, nI_mul, nI_cl, inb_nI, nI_ltE, nI_leE, nI_eqE, nI_m1, nI_m1', m1_lt, lt_m1, m1_le, le_m1, eq_self, not_true_eq_false, not_false_eq_true, ↓reduceIte, leT, leF, ltT, ltF, eqT, eqF, decide_true, decide_false, true_and, and_true, Nat.reduceAdd, bI0_i, bI_i, bI_x, bV0_v, bV_v, bV_x, ↓bnd_e, gd_t, x_ofLedge, x_putLedge, x_add, at_x, up_x, upd_n, g2, g]
  · simp (disch := omega) only [fa_lit, nI_ad, nI_mul, nI_cl, inb_nI, nI_ltE, nI_leE, nI_eqE, nI_m1, nI_m1', m1_lt, lt_m1, m1_le, le_m1, eq_self, not_true_eq_false, not_false_eq_true, ↓reduceIte, leT, leF, ltT, ltF, eqT, eqF, decide_true, decide_false, true_and, and_true, Nat.reduceAdd, bI0_i, bI_i, bI_x, bV0_v, bV_v, bV_x, ↓bnd_e, gd_t, x_ofLedge, x_putLedge, x_add, at_x, up_x, upd_n, g2, g]
  · simp (disch := omega) only [fa_lit, nI_ad, nI_mul, nI_cl, inb_nI, nI_ltE, nI_leE, nI_eqE, nI_m1, nI_m1', m1_lt, lt_m1, m1_le, le_m1, eq_self, not_true_eq_false, not_false_eq_true, ↓reduceIte, leT, leF, ltT, ltF, eqT, eqF, decide_true, decide_false, true_and, and_true, Nat.reduceAdd, bI0_i, bI_i, bI_x, bV0_v, bV_v, bV_x, ↓bnd_e, gd_t, x_ofLedge, x_putLedge, x_add, at_x, up_x, upd_n, g2, g]
def eg_fr (A : aL) (c : Nat → Int32) (l : Nat) : Int32 := if c 1 + kicksV A c l (c 4) + sumV A 1 c l (nI 0) (c 4) < nI 999 then c 1 + kicksV A c l (c 4) + sumV A 1 c l (nI 0) (c 4) else nI 999
def eg_ti (c : Nat → Int32) : Nat → Nat → Int32
  | 0 => c
  | i + 1 => upd (eg_ti c i) (66 + i * 2 + 1) (if eg_ti c i (66 + i * 2 + 1) + nI 1 < nI 9 then eg_ti c i (66 + i * 2 + 1) + nI 1 else nI 9)
theorem eg_ti_out {c : Nat → Int32} {j : Nat} (h : j < 66 ∨ 78 ≤ j) : ∀ {i : Nat}, i ≤ 6 → eg_ti c i j = c j
  | 0, _ => rfl
  | i + 1, hi => by rw [eg_ti, upd_n (by omega), eg_ti_out h (by omega)]
theorem eg_ti_rg {c : Nat → Int32} (hR : Rg c) : ∀ {i : Nat}, i ≤ 6 → Rg (eg_ti c i)
  | 0, _ => hR
  | i + 1, hi => by
    have h := eg_ti_rg hR (i := i) (by omega)
    rw [eg_ti]
    refine h.up (by omega) (fun b hb => ?_)
    rw [lim_holder i (by omega) 1 (by omega)] at hb
    cases hb
    obtain ⟨t, h1, h2⟩ := h.hold (show i < 6 by omega) (show 1 < 2 by omega)
    rw [h2, nI_ad, ifLt (by omega) (by omega)]
    split
    · exact ⟨t + 1, by omega, rfl⟩
    · exact ⟨9, by omega, rfl⟩
def eg_hu (c : Nat → Int32) : Int32 := if c 6 ≤ remV (topV (drawV c)) 100 then nI 0 else nI 1
/-- a row of the log -/
def eg_lg (c : Nat → Int32) (k l : Nat) (t kk h : Int32) : Nat → Int32 :=
  upd (upd (upd (upd (upd (upd (upd (va_cpy (upd c 7 (c 7 + h)) (upd c 7 (c 7 + h)) 86 92 354) 15 (if c 15 + nI 1 < nI 60 then c 15 + nI 1 else nI 60)) 86 (c 3)) 87 (nI k)) 88 (nI l)) 89 t) 90 kk) 91 h
def eg_l1 (A : aL) (c : Nat → Int32) (k l : Nat) (t : Int32) : Nat → Int32 := upd (upd (eg_tk c l t) (78 + k * 2 + 1) (c (78 + k * 2 + 1) + t)) 1 (eg_fr A c l)
def eg_le (A : aL) (c : Nat → Int32) (k l nh : Nat) (t : Int32) : Nat → Int32 :=
  eg_lg (upd (eg_ti (eg_l1 A c k l t) nh) 10 (drawV (eg_ti (eg_l1 A c k l t) nh))) k l t (kicksV A c l (c 4)) (eg_hu (eg_ti (eg_l1 A c k l t) nh))
theorem cpy_lo {f g : Nat → Int32} {a b n k : Nat} (h : k < b) : va_cpy f g a b n k = g k := by
  unfold va_cpy; rw [if_neg (by omega)]
theorem x_pushRow {u : Nat} {c p q : Nat → Int32} (hu : 9 ≤ u) : f_X0_pushRow u (sX (seS S (u + 1) c) p q) = some (.inl none, sX (seS S (u + 1) (upd (va_cpy c c 86 92 354) 15 (if c 15 + nI 1 < nI 60 then c 15 + nI 1 else nI 60))) p q) := by
  unfold f_X0_pushRow
  rw [show decide (¬ ((86 : Int32)) < 0 ∧ ¬ ((92 : Int32)) < 0 ∧ ¬ ((354 : Int32)) < 0 ∧ ((86 : Int32)).toNatClampNeg + ((354 : Int32)).toNatClampNeg ≤ 446 ∧ ((92 : Int32)).toNatClampNeg + ((354 : Int32)).toNatClampNeg ≤ 446) = true by decide]
  rw [gd_t, bnd_e, show ((86 : Int32)).toNatClampNeg = 86 by decide, show ((92 : Int32)).toNatClampNeg = 92 by decide, show ((354 : Int32)).toNatClampNeg = 354 by decide, at_x (by omega) (by omega), se_sXn (by omega) (by omega), seS_seS]
  simp (disch := omega) only [fa_lit, nI_ad, nI_mul, nI_cl, inb_nI, nI_ltE, nI_leE, nI_eqE, nI_m1, nI_m1', m1_lt, lt_m1, m1_le, le_m1, eq_self, not_true_eq_false, not_false_eq_true, ↓reduceIte, leT, leF, ltT, ltF, eqT, eqF, decide_true, decide_false, true_and, and_true, Nat.reduceAdd, bI0_i, bI_i, bI_x, bV0_v, bV_v, bV_x, ↓bnd_e, gd_t, at_x, up_x, cpy_lo]
theorem x_log {u k l : Nat} {t kk h : Int32} {c p q : Nat → Int32} (hu : 9 ≤ u) :
    f_X7_letDown_b140 F u (nI k) (nI l) kk t h (sX (seS S (u + 1) c) p q) = some (.inl (some (.int t)), sX (seS S (u + 1) (eg_lg c k l t kk h)) p q) := by
  unfold f_X7_letDown_b140 eg_lg
  simp (disch := omega) only [fa_lit, nI_ad, nI_mul, nI_cl, inb_nI, nI_ltE, nI_leE, nI_eqE, nI_m1, nI_m1', m1_lt, lt_m1, m1_le, le_m1, eq_self, not_true_eq_false, not_false_eq_true, ↓reduceIte, leT, leF, ltT, ltF, eqT, eqF, decide_true, decide_false, true_and, and_true, Nat.reduceAdd, bI0_i, bI_i, bI_x, bV0_v, bV_v, bV_x, ↓bnd_e, gd_t, x_add, x_at, x_putNewestRow, x_pushRow hu, at_x, up_x, upd_n, cpy_lo]
theorem x_tireL {u n k l : Nat} {t kk : Int32} {p q c : Nat → Int32} (hu : 9 ≤ u) (hn6 : n ≤ 6) (hn : c 13 = nI n) : ∀ (m i f : Nat), i + m = n → m < f →
    f_X7_letDown_b77 F u f (nI k) (nI l) kk t (nI i) (sX (seS S (u + 1) (eg_ti c i)) p q) = some (.inl (some (.int t)), sX (seS S (u + 1) (eg_lg (upd (eg_ti c n) 10 (drawV (eg_ti c n))) k l t kk (eg_hu (eg_ti c n)))) p q)
  | 0, i, f + 1, hi, hk => by
    have hie : i = n := by omega
    subst hie
    have e13 : eg_ti c i 13 = nI i := by rw [eg_ti_out (by omega) hn6]; exact hn
    rw [f_X7_letDown_b77]
    have er : ∀ x : Int32, x - x / nI 100 * nI 100 = remV x 100 := fun x => rfl
    unfold eg_hu
    by_cases g : eg_ti c i 6 ≤ remV (topV (drawV (eg_ti c i))) 100
    · simp (disch := omega) only [fa_lit, nI_ad, nI_mul, nI_cl, inb_nI, nI_ltE, nI_leE, nI_eqE, nI_m1, nI_m1', m1_lt, lt_m1, m1_le, le_m1, eq_self, not_true_eq_false, not_false_eq_true, ↓reduceIte, leT, leF, ltT, ltF, eqT, eqF, decide_true, decide_false, true_and, and_true, Nat.reduceAdd, bI0_i, bI_i, bI_x, bV0_v, bV_v, bV_x, ↓bnd_e, gd_t, x_at, at_x, up_x, e13, Nat.le_refl, x_draw, upd_n, er, g, x_log hu]
    · simp (disch := omega) only [fa_lit, nI_ad, nI_mul, nI_cl, inb_nI, nI_ltE, nI_leE, nI_eqE, nI_m1, nI_m1', m1_lt, lt_m1, m1_le, le_m1, eq_self, not_true_eq_false, not_false_eq_true, ↓reduceIte, leT, leF, ltT, ltF, eqT, eqF, decide_true, decide_false, true_and, and_true, Nat.reduceAdd, bI0_i, bI_i, bI_x, bV0_v, bV_v, bV_x, ↓bnd_e, gd_t, x_at, at_x, up_x, e13, Nat.le_refl, x_draw, upd_n, er, g, x_log hu]
  | m + 1, i, f + 1, hi, hk => by
    have ih := x_tireL (u := u) (k := k) (l := l) (t := t) (kk := kk) (p := p) (q := q) hu hn6 hn m (i + 1) f (by omega) (by omega)
    have e13 : eg_ti c i 13 = nI n := by rw [eg_ti_out (by omega) (by omega)]; exact hn
    rw [f_X7_letDown_b77]
    rw [eg_ti] at ih
    simp (disch := omega) only [fa_lit, nI_ad, nI_mul, nI_cl, inb_nI, nI_ltE, nI_leE, nI_eqE, nI_m1, nI_m1', m1_lt, lt_m1, m1_le, le_m1, eq_self, not_true_eq_false, not_false_eq_true, ↓reduceIte, leT, leF, ltT, ltF, eqT, eqF, decide_true, decide_false, true_and, and_true, Nat.reduceAdd, bI0_i, bI_i, bI_x, bV0_v, bV_v, bV_x, ↓bnd_e, gd_t, x_at, x_ofHolder, x_putHolder, at_x, up_x, e13]
    exact ih
theorem x_letDown {u k l nh : Nat} {m : Int32} {c p q : Nat → Int32} (hF : 401 ≤ F) (hu : 9 ≤ u) (hk : k < 4) (hl : l < 10) (hA : LX A S 3) (hW : LW A) (hnh : nh ≤ 6) (enh : c 13 = nI nh) :
    ∃ p' q', f_X7_letDown F u (nI k) (nI l) m (sX (seS S (u + 1) c) p q) = some (.inl (some (.int (eg_ta c l m))), sX (seS S (u + 1) (eg_le A c k l nh (eg_ta c l m))) p' q') := by
  obtain ⟨p1, q1, h1⟩ := x_kicksTo (F := F) (S := sX (seS S (u + 1) c) p q) (wind := c 4) hF hu hl (LX_sX (LX_se (by omega) hA)) hW
  rw [at_x (by omega) (by omega), sX_sX] at h1
  obtain ⟨p2, q2, h2⟩ := x_wearAt (F := F) (S := sX (seS S (u + 1) c) p1 q1) (wind := c 4) hF hu hl (LX_sX (LX_se (by omega) hA)) hW
  rw [at_x (by omega) (by omega), sX_sX] at h2
  have h3 := x_takeEggs (S := S) (u := u) (l := l) (m := m) (c := c) (p := p2) (q := q2) hu hl
  generalize eg_ta c l m = t at *
  have e13 : eg_l1 A c k l t 13 = nI nh := by
    unfold eg_l1; rw [upd_n (by omega), upd_n (by omega), eg_tk_out (by omega) (by omega) (by omega) (by omega)]; exact enh
  have h4 := x_tireL (F := F) (S := S) (u := u) (k := k) (l := l) (t := t) (kk := kicksV A c l (c 4)) (p := p2) (q := q2) (c := eg_l1 A c k l t) hu hnh e13 nh 0 F (by omega) (by omega)
  refine ⟨p2, q2, ?_⟩
  unfold f_X7_letDown eg_le
  rw [← h4, eg_ti]
  have eh : eg_tk c l t (78 + k * 2 + 1) = c (78 + k * 2 + 1) := eg_tk_out (by omega) (by omega) (by omega) (by omega)
  have e1 : eg_tk c l t 1 = c 1 := eg_tk_out (by omega) (by omega) (by omega) (by omega)
  simp (disch := omega) only [fa_lit, nI_ad, nI_mul, nI_cl, inb_nI, nI_ltE, nI_leE, nI_eqE, nI_m1, nI_m1', m1_lt, lt_m1, m1_le, le_m1, eq_self, not_true_eq_false, not_false_eq_true, ↓reduceIte, leT, leF, ltT, ltF, eqT, eqF, decide_true, decide_false, true_and, and_true, Nat.reduceAdd, bI0_i, bI_i, bI_x, bV0_v, bV_v, bV_x, ↓bnd_e, gd_t, x_at, x_ofClimber, x_putClimber, x_put, at_x, up_x, h1, h2, h3, upd_n, eh, e1]
  rfl
/-- the model's -/
theorem m_frays {l : Nat} {w c q : Nat → Int32} {a b : Int32} (hF : 401 ≤ F) (hl : l < 10) (hz : zb c) (hA : LM A w) (hW : LW A) :
    ∃ a' b' q', f_X10_frays F (nI l) (sM (seS S 64 (wO w c)) a b q) = some (.inl none, sM (seS S 64 (wO w (upd c 1 (eg_fr A c l)))) a' b' q') := by
  obtain ⟨a1, b1, q1, h1⟩ := m_kicksTo (F := F) (S := sM (seS S 64 (wO w c)) a b q) (wind := c 4) hF hl (by rw [at_m]; exact LM_wO hW hA) hW
  rw [at_m, cM_wO hz, sM_sM] at h1
  obtain ⟨a2, b2, q2, h2⟩ := m_wearOf (F := F) (S := sM (seS S 64 (wO w c)) a1 b1 q1) (wind := c 4) hF hl (by rw [at_m]; exact LM_wO hW hA) hW
  rw [at_m, cM_wO hz, sM_sM] at h2
  refine ⟨a2, b2, q2, ?_⟩
  unfold f_X10_frays eg_fr
  simp (disch := omega) only [fa_lit, nI_ad, nI_mul, nI_cl, inb_nI, nI_ltE, nI_leE, nI_eqE, nI_m1, nI_m1', m1_lt, lt_m1, m1_le, le_m1, eq_self, not_true_eq_false, not_false_eq_true, ↓reduceIte, leT, leF, ltT, ltF, eqT, eqF, decide_true, decide_false, true_and, and_true, Nat.reduceAdd, bI0_i, bI_i, bI_x, bV0_v, bV_v, bV_x, ↓bnd_e, gd_t, at_m, cM_wOi, wO_at, up_m, pj_l, pj_h, pj_k, pj_0, pj_1, pj_2, pj_3, pj_5, pj_6, pj_7, pj_8, pj_9, pj_10, pj_11, pj_12, pj_13, pj_14, pj_15, pj_16, h1, h2]
def eg_mk (c : Nat → Int32) (k l : Nat) (t : Int32) : Nat → Int32 :=
  if c (16 + l * 5 + 2) - t = nI 0 then
    upd (upd (upd (upd (upd c 8 (c 8 + t)) 9 (c 9 + (if c (16 + l * 5 + 3) ≤ nI 3 then nI 0 else t))) (78 + k * 2 + 1) (c (78 + k * 2 + 1) + t)) (16 + l * 5 + 2) (c (16 + l * 5 + 2) - t)) (16 + l * 5 + 3) (nI 0)
  else upd (upd (upd (upd c 8 (c 8 + t)) 9 (c 9 + (if c (16 + l * 5 + 3) ≤ nI 3 then nI 0 else t))) (78 + k * 2 + 1) (c (78 + k * 2 + 1) + t)) (16 + l * 5 + 2) (c (16 + l * 5 + 2) - t)
theorem m_takes {k l : Nat} {t : Int32} {w c q : Nat → Int32} {a b : Int32} (hk : k < 4) (hl : l < 10) :
    f_X10_takes (nI k) (nI l) t (sM (seS S 64 (wO w c)) a b q) = some (.inl none, sM (seS S 64 (wO w (eg_mk c k l t))) a b q) := by
  unfold f_X10_takes f_X10_takes_b34 f_X10_takes_b87 eg_mk
  by_cases g : c (16 + l * 5 + 3) ≤ nI 3 <;> by_cases g2 : c (16 + l * 5 + 2) - t = nI 0
  · simp (disch := omega) only [fa_lit, nI_ad, nI_mul, nI_cl, inb_nI, nI_ltE, nI_leE, nI_eqE, nI_m1, nI_m1', m1_lt, lt_m1, m1_le, le_m1, eq_self, not_true_eq_false, not_false_eq_true, ↓reduceIte, leT, leF, ltT, ltF, eqT, eqF, decide_true, decide_false, true_and, and_true, Nat.reduceAdd, bI0_i, bI_i, bI_x, bV0_v, bV_v, bV_x, ↓bnd_e, gd_t, m_of, m_at, at_m, cM_wOi, wO_at, up_m, pj_l, pj_h, pj_k, pj_0, pj_1, pj_2, pj_3, pj_5, pj_6, pj_7, pj_8, pj_9, pj_10, pj_11, pj_12, pj_13, pj_14, pj_15, pj_16, upd_n, upd_s, g, g2]
  · simp (disch := omega) only [fa_lit, nI_ad, nI_mul, nI_cl, inb_nI, nI_ltE, nI_leE, nI_eqE, nI_m1, nI_m1', m1_lt, lt_m1, m1_le, le_m1, eq_self, not_true_eq_false, not_false_eq_true, ↓reduceIte, leT, leF, ltT, ltF, eqT, eqF, decide_true, decide_false, true_and, and_true, Nat.reduceAdd, bI0_i, bI_i, bI_x, bV0_v, bV_v, bV_x, ↓bnd_e, gd_t, m_of, m_at, at_m, cM_wOi, wO_at, up_m, pj_l, pj_h, pj_k, pj_0, pj_1, pj_2, pj_3, pj_5, pj_6, pj_7, pj_8, pj_9, pj_10, pj_11, pj_12, pj_13, pj_14, pj_15, pj_16, upd_n, upd_s, g, g2]
  · simp (disch := omega) only [fa_lit, nI_ad, nI_mul, nI_cl, inb_nI, nI_ltE, nI_leE, nI_eqE, nI_m1, nI_m1', m1_lt, lt_m1, m1_le, le_m1, eq_self, not_true_eq_false, not_false_eq_true, ↓reduceIte, leT, leF, ltT, ltF, eqT, eqF, decide_true, decide_false, true_and, and_true, Nat.reduceAdd, bI0_i, bI_i, bI_x, bV0_v, bV_v, bV_x, ↓bnd_e, gd_t, m_of, m_at, at_m, cM_wOi, wO_at, up_m, pj_l, pj_h, pj_k, pj_0, pj_1, pj_2, pj_3, pj_5, pj_6, pj_7, pj_8, pj_9, pj_10, pj_11, pj_12, pj_13, pj_14, pj_15, pj_16, upd_n, upd_s, g, g2]
  · simp (disch := omega) only [fa_lit, nI_ad, nI_mul, nI_cl, inb_nI, nI_ltE, nI_leE, nI_eqE, nI_m1, nI_m1', m1_lt, lt_m1, m1_le, le_m1, eq_self, not_true_eq_false, not_false_eq_true, ↓reduceIte, leT, leF, ltT, ltF, eqT, eqF, decide_true, decide_false, true_and, and_true, Nat.reduceAdd, bI0_i, bI_i, bI_x, bV0_v, bV_v, bV_x, ↓bnd_e, gd_t, m_of, m_at, at_m, cM_wOi, wO_at, up_m, pj_l, pj_h, pj_k, pj_0, pj_1, pj_2, pj_3, pj_5, pj_6, pj_7, pj_8, pj_9, pj_10, pj_11, pj_12, pj_13, pj_14, pj_15, pj_16, upd_n, upd_s, g, g2]
theorem m_tireL {n : Nat} {w q c : Nat → Int32} {a b : Int32} (hn6 : n ≤ 6) (hn : c 13 = nI n) : ∀ (m i k : Nat), i + m = n → m < k →
    f_X10_tires_b2 F k (nI i) (sM (seS S 64 (wO w (eg_ti c i))) a b q) = some (.inl none, sM (seS S 64 (wO w (eg_ti c n))) a b q)
  | 0, i, k + 1, hi, hk => by
    have hie : i = n := by omega
    subst hie
    have e13 : eg_ti c i 13 = nI i := by rw [eg_ti_out (by omega) hn6]; exact hn
    rw [f_X10_tires_b2]
    simp (disch := omega) only [fa_lit, nI_ad, nI_mul, nI_cl, inb_nI, nI_ltE, nI_leE, nI_eqE, nI_m1, nI_m1', m1_lt, lt_m1, m1_le, le_m1, eq_self, not_true_eq_false, not_false_eq_true, ↓reduceIte, leT, leF, ltT, ltF, eqT, eqF, decide_true, decide_false, true_and, and_true, Nat.reduceAdd, bI0_i, bI_i, bI_x, bV0_v, bV_v, bV_x, ↓bnd_e, gd_t, m_holders, at_m, cM_wOi, wO_at, up_m, pj_l, pj_h, pj_k, pj_0, pj_1, pj_2, pj_3, pj_5, pj_6, pj_7, pj_8, pj_9, pj_10, pj_11, pj_12, pj_13, pj_14, pj_15, pj_16, e13, Nat.le_refl]
  | m + 1, i, k + 1, hi, hk => by
    have ih := m_tireL (w := w) (q := q) (a := a) (b := b) hn6 hn m (i + 1) k (by omega) (by omega)
    have e13 : eg_ti c i 13 = nI n := by rw [eg_ti_out (by omega) (by omega)]; exact hn
    rw [f_X10_tires_b2]
    rw [eg_ti] at ih
    simp (disch := omega) only [fa_lit, nI_ad, nI_mul, nI_cl, inb_nI, nI_ltE, nI_leE, nI_eqE, nI_m1, nI_m1', m1_lt, lt_m1, m1_le, le_m1, eq_self, not_true_eq_false, not_false_eq_true, ↓reduceIte, leT, leF, ltT, ltF, eqT, eqF, decide_true, decide_false, true_and, and_true, Nat.reduceAdd, bI0_i, bI_i, bI_x, bV0_v, bV_v, bV_x, ↓bnd_e, gd_t, m_holders, m_ofHolder, at_m, cM_wOi, wO_at, up_m, pj_l, pj_h, pj_k, pj_0, pj_1, pj_2, pj_3, pj_5, pj_6, pj_7, pj_8, pj_9, pj_10, pj_11, pj_12, pj_13, pj_14, pj_15, pj_16, e13]
    exact ih
theorem m_tires {n : Nat} {w q c : Nat → Int32} {a b : Int32} (hF : 401 ≤ F) (hn6 : n ≤ 6) (hn : c 13 = nI n) : f_X10_tires F (sM (seS S 64 (wO w c)) a b q) = some (.inl none, sM (seS S 64 (wO w (eg_ti c n))) a b q) :=
  m_tireL (c := c) hn6 hn n 0 F (by omega) (by omega)
def eg_sh (c : Nat → Int32) (i : Nat) : Nat → Int32 := fun j => if 86 + i < j ∧ j < 446 then c (j - 6) else c j
theorem eg_sh_s {c : Nat → Int32} {m j : Nat} {v : Int32} (hm : m ≤ 353) (hj : j = 86 + (m + 6)) (hv : v = c (80 + (m + 6))) : upd (eg_sh c (m + 6)) j v = eg_sh c (m + 5) := by
  subst hj; subst hv
  funext i
  unfold eg_sh
  by_cases e : i = 86 + (m + 6)
  · subst e; rw [upd_s, if_pos (by omega)]; congr 1; omega
  · rw [upd_n e]
    by_cases g : 86 + (m + 6) < i ∧ i < 446
    · rw [if_pos g, if_pos (by omega)]
    · rw [if_neg g, if_neg (by omega)]
theorem eg_sh_lo {c : Nat → Int32} {i j : Nat} (h : j ≤ 86 + i) : eg_sh c i j = c j := if_neg (by omega)
theorem eg_sh_0 {c : Nat → Int32} : eg_sh c 359 = c := by
  funext j; unfold eg_sh; rw [if_neg (by omega)]
theorem eg_sh_5 {c : Nat → Int32} : eg_sh c 5 = va_cpy c c 86 92 354 := by
  funext j; unfold eg_sh va_cpy
  by_cases g : 86 + 5 < j ∧ j < 446
  · rw [if_pos g, if_pos (by omega)]; congr 1; omega
  · rw [if_neg g, if_neg (by omega)]
theorem m_tellL {k l : Nat} {t kk h : Int32} {w q c : Nat → Int32} {a b : Int32} (hh : h = nI 0 ∨ h = nI 1) : ∀ (m f : Nat), m ≤ 354 → m < f →
    f_X10_tells_b5 F f (nI k) (nI l) t kk h (nI (m + 5)) (sM (seS S 64 (wO w (eg_sh c (m + 5)))) a b q) = some (.inl none, sM (seS S 64 (wO w (upd (upd (upd (upd (upd (upd (upd (eg_sh c 5) 86 (c 3)) 87 (nI k)) 88 (nI l)) 89 t) 90 kk) 91 h) 15 (if c 15 + nI 1 < nI 60 then c 15 + nI 1 else nI 60)))) a b q)
  | 0, f + 1, hm, hf => by
    rw [f_X10_tells_b5]
    unfold f_X10_tells_b103
    have p87 : pj 87 = 86 := rfl
    have p88 : pj 88 = 87 := rfl
    have p89 : pj 89 = 88 := rfl
    have p90 : pj 90 = 89 := rfl
    have p91 : pj 91 = 90 := rfl
    have p92 : pj 92 = 91 := rfl
    rcases hh with rfl | rfl
    · simp (disch := omega) only [fa_lit, nI_ad, nI_mul, nI_cl, inb_nI, nI_ltE, nI_leE, nI_eqE, nI_m1, nI_m1', m1_lt, lt_m1, m1_le, le_m1, eq_self, not_true_eq_false, not_false_eq_true, ↓reduceIte, leT, leF, ltT, ltF, eqT, eqF, decide_true, decide_false, true_and, and_true, Nat.reduceAdd, bI0_i, bI_i, bI_x, bV0_v, bV_v, bV_x, ↓bnd_e, gd_t, at_m, cM_wOi, wO_at, up_m, pj_l, pj_h, pj_k, pj_0, pj_1, pj_2, pj_3, pj_5, pj_6, pj_7, pj_8, pj_9, pj_10, pj_11, pj_12, pj_13, pj_14, pj_15, pj_16, p87, p88, p89, p90, p91, p92, upd_n, eg_sh_lo, Nat.zero_add]
    · simp (disch := omega) only [fa_lit, nI_ad, nI_mul, nI_cl, inb_nI, nI_ltE, nI_leE, nI_eqE, nI_m1, nI_m1', m1_lt, lt_m1, m1_le, le_m1, eq_self, not_true_eq_false, not_false_eq_true, ↓reduceIte, leT, leF, ltT, ltF, eqT, eqF, decide_true, decide_false, true_and, and_true, Nat.reduceAdd, bI0_i, bI_i, bI_x, bV0_v, bV_v, bV_x, ↓bnd_e, gd_t, at_m, cM_wOi, wO_at, up_m, pj_l, pj_h, pj_k, pj_0, pj_1, pj_2, pj_3, pj_5, pj_6, pj_7, pj_8, pj_9, pj_10, pj_11, pj_12, pj_13, pj_14, pj_15, pj_16, p87, p88, p89, p90, p91, p92, upd_n, eg_sh_lo, Nat.zero_add]
  | m + 1, f + 1, hm, hf => by
    have ih := m_tellL (k := k) (l := l) (t := t) (kk := kk) (w := w) (q := q) (c := c) (a := a) (b := b) hh m f (by omega) (by omega)
    have e6 : m + 1 + 5 = m + 6 := by omega
    rw [e6, f_X10_tells_b5]
    have en : nI (m + 6) + -nI 1 = nI (m + 5) := subm1
    simp (disch := omega) only [fa_lit, nI_ad, nI_mul, nI_cl, inb_nI, nI_ltE, nI_leE, nI_eqE, nI_m1, nI_m1', m1_lt, lt_m1, m1_le, le_m1, eq_self, not_true_eq_false, not_false_eq_true, ↓reduceIte, leT, leF, ltT, ltF, eqT, eqF, decide_true, decide_false, true_and, and_true, Nat.reduceAdd, bI0_i, bI_i, bI_x, bV0_v, bV_v, bV_x, ↓bnd_e, gd_t, at_m, cM_wOi, wO_at, up_m, pj_l, pj_h, pj_k, pj_0, pj_1, pj_2, pj_3, pj_5, pj_6, pj_7, pj_8, pj_9, pj_10, pj_11, pj_12, pj_13, pj_14, pj_15, pj_16, nI_sub, en, pj_hi, eg_sh_lo]
    rw [eg_sh_s (c := c) (m := m) (by omega) (by omega) (by congr 1; omega)]
    exact ih
theorem m_tells {k l : Nat} {t kk h : Int32} {w q c : Nat → Int32} {a b : Int32} (hF : 6000 ≤ F) (hh : h = nI 0 ∨ h = nI 1) :
    f_X10_tells F (nI k) (nI l) t kk h (sM (seS S 64 (wO w c)) a b q) = some (.inl none, sM (seS S 64 (wO w (upd (upd (upd (upd (upd (upd (upd (va_cpy c c 86 92 354) 86 (c 3)) 87 (nI k)) 88 (nI l)) 89 t) 90 kk) 91 h) 15 (if c 15 + nI 1 < nI 60 then c 15 + nI 1 else nI 60)))) a b q) := by
  have h1 := m_tellL (F := F) (S := S) (k := k) (l := l) (t := t) (kk := kk) (w := w) (q := q) (c := c) (a := a) (b := b) hh 354 F (by omega) (by omega)
  rw [eg_sh_0, eg_sh_5] at h1
  exact h1
theorem eg_lg_eq {c : Nat → Int32} {k l : Nat} {t kk h : Int32} : upd (upd (upd (upd (upd (upd (upd (va_cpy (upd c 7 (c 7 + h)) (upd c 7 (c 7 + h)) 86 92 354) 86 (c 3)) 87 (nI k)) 88 (nI l)) 89 t) 90 kk) 91 h) 15 (if c 15 + nI 1 < nI 60 then c 15 + nI 1 else nI 60) = eg_lg c k l t kk h := by
  unfold eg_lg
  generalize va_cpy (upd c 7 (c 7 + h)) (upd c 7 (c 7 + h)) 86 92 354 = d
  generalize (if c 15 + nI 1 < nI 60 then c 15 + nI 1 else nI 60) = x
  rw [upd_comm (f := d) (k := 15) (l := 86) (by omega), upd_comm (k := 15) (l := 87) (by omega), upd_comm (k := 15) (l := 88) (by omega), upd_comm (k := 15) (l := 89) (by omega), upd_comm (k := 15) (l := 90) (by omega), upd_comm (k := 15) (l := 91) (by omega)]
theorem eg_mk_eq {c : Nat → Int32} {k l e t : Nat} (hk : k < 4) (hl : l < 10) (he : e ≤ 20) (ht : t ≤ e) (ee : c (16 + l * 5 + 2) = nI e) : eg_mk (upd c 1 (eg_fr A c l)) k l (nI t) = eg_l1 A c k l (nI t) := by
  have e0 : (c (16 + l * 5 + 2) - nI t = nI 0) = (nI t = c (16 + l * 5 + 2)) := by
    rw [ee, nI_sub ht, nI_eqE (by omega) (by omega), nI_eqE (by omega) (by omega)]; apply propext; omega
  unfold eg_mk eg_l1 eg_tk
  simp (disch := omega) only [upd_n, e0]
  generalize eg_fr A c l = v
  funext i
  by_cases g : nI t = c (16 + l * 5 + 2) <;> by_cases g2 : c (16 + l * 5 + 3) ≤ nI 3
  · simp only [g, g2, ↓reduceIte, add_n0]
    by_cases i1 : i = 1
    · subst i1; simp (disch := omega) only [upd_n, upd_s]
    by_cases i9 : i = 9
    · subst i9; simp (disch := omega) only [upd_n, upd_s]
    by_cases i8 : i = 8
    · subst i8; simp (disch := omega) only [upd_n, upd_s]
    by_cases iE : i = 16 + l * 5 + 2
    · subst iE; simp (disch := omega) only [upd_n, upd_s]
    by_cases iG : i = 16 + l * 5 + 3
    · subst iG; simp (disch := omega) only [upd_n, upd_s]
    by_cases iH : i = 78 + k * 2 + 1
    · subst iH; simp (disch := omega) only [upd_n, upd_s]
    simp (disch := omega) only [upd_n]
  · simp only [g, g2, ↓reduceIte]
    by_cases i1 : i = 1
    · subst i1; simp (disch := omega) only [upd_n, upd_s]
    by_cases i9 : i = 9
    · subst i9; simp (disch := omega) only [upd_n, upd_s]
    by_cases i8 : i = 8
    · subst i8; simp (disch := omega) only [upd_n, upd_s]
    by_cases iE : i = 16 + l * 5 + 2
    · subst iE; simp (disch := omega) only [upd_n, upd_s]
    by_cases iG : i = 16 + l * 5 + 3
    · subst iG; simp (disch := omega) only [upd_n, upd_s]
    by_cases iH : i = 78 + k * 2 + 1
    · subst iH; simp (disch := omega) only [upd_n, upd_s]
    simp (disch := omega) only [upd_n]
  · simp only [g, g2, ↓reduceIte, add_n0]
    by_cases i1 : i = 1
    · subst i1; simp (disch := omega) only [upd_n, upd_s]
    by_cases i9 : i = 9
    · subst i9; simp (disch := omega) only [upd_n, upd_s]
    by_cases i8 : i = 8
    · subst i8; simp (disch := omega) only [upd_n, upd_s]
    by_cases iE : i = 16 + l * 5 + 2
    · subst iE; simp (disch := omega) only [upd_n, upd_s]
    by_cases iH : i = 78 + k * 2 + 1
    · subst iH; simp (disch := omega) only [upd_n, upd_s]
    simp (disch := omega) only [upd_n]
  · simp only [g, g2, ↓reduceIte]
    by_cases i1 : i = 1
    · subst i1; simp (disch := omega) only [upd_n, upd_s]
    by_cases i9 : i = 9
    · subst i9; simp (disch := omega) only [upd_n, upd_s]
    by_cases i8 : i = 8
    · subst i8; simp (disch := omega) only [upd_n, upd_s]
    by_cases iE : i = 16 + l * 5 + 2
    · subst iE; simp (disch := omega) only [upd_n, upd_s]
    by_cases iH : i = 78 + k * 2 + 1
    · subst iH; simp (disch := omega) only [upd_n, upd_s]
    simp (disch := omega) only [upd_n]
/-- bounds -/
theorem eg_tk_rg {c : Nat → Int32} {l e t : Nat} (hR : Rg c) (hl : l < 10) (he : e ≤ 20) (ht : t ≤ e) (ee : c (16 + l * 5 + 2) = nI e) : Rg (eg_tk c l (nI t)) := by
  have l8 : lim 8 = none := rfl
  have l9 : lim 9 = none := rfl
  have hE := lim_ledge l hl 2 (by omega)
  have hG := lim_ledge l hl 3 (by omega)
  have h1 : Rg (if c (16 + l * 5 + 3) ≤ nI 3 then upd c 8 (c 8 + nI t) else upd (upd c 8 (c 8 + nI t)) 9 (c 9 + nI t)) := by
    split
    · exact hR.up (by omega) (fun b hb => by rw [l8] at hb; cases hb)
    · exact (hR.up (by omega) (fun b hb => by rw [l8] at hb; cases hb)).up (by omega) (fun b hb => by rw [l9] at hb; cases hb)
  have h2 := h1.up (i := 16 + l * 5 + 2) (v := c (16 + l * 5 + 2) - nI t) (by omega) (fun b hb => by
    rw [hE] at hb; cases hb
    exact ⟨e - t, by simp only [Nat.reduceEqDiff, ↓reduceIte]; omega, by rw [ee, nI_sub ht]⟩)
  unfold eg_tk
  split
  · exact h2.up (by omega) (fun b hb => ⟨0, by omega, rfl⟩)
  · exact h2
theorem eg_l1_rg {c : Nat → Int32} {k l e t j : Nat} (hW : LW A) (hR : Rg c) (hk : k < 4) (hl : l < 10) (he : e ≤ 20) (ht : t ≤ e) (ee : c (16 + l * 5 + 2) = nI e) (hj : j < 13) (ej : kicksV A c l (c 4) = nI j) : Rg (eg_l1 A c k l (nI t)) := by
  have hH := lim_has k hk
  refine ((eg_tk_rg hR hl he ht ee).up (by omega) (fun b hb => by rw [hH] at hb; cases hb)).up (by omega) (fun b hb => ?_)
  cases hb
  obtain ⟨f, h1, h2⟩ := hR.1 1 999 rfl
  obtain ⟨y, h3, h4⟩ := sumV_rng (kind := 1) (l := l) (c := c) (kick := nI 0) (wind := c 4) hW
  unfold eg_fr
  rw [ej, h2, h4, nI_ad, nI_ad, ifLt (by omega) (by omega)]
  split
  · exact ⟨f + j + y, by omega, rfl⟩
  · exact ⟨999, by omega, rfl⟩
theorem eg_lg_rg {c : Nat → Int32} {k l : Nat} {t kk h : Int32} (hR : Rg c) : Rg (eg_lg c k l t kk h) := by
  have l7 : lim 7 = none := rfl
  have h7 : Rg (upd c 7 (c 7 + h)) := hR.up (by omega) (fun b hb => by rw [l7] at hb; cases hb)
  have hc : Rg (va_cpy (upd c 7 (c 7 + h)) (upd c 7 (c 7 + h)) 86 92 354) := by
    refine ⟨fun i b hb => ?_, fun i hi => ?_⟩
    · rcases Nat.lt_or_ge i 86 with g | g
      · rw [cpy_lo (by omega)]; exact h7.1 i b hb
      · rw [lim_log g] at hb; cases hb
    · unfold va_cpy; rw [if_neg (by omega)]; exact h7.2 i hi
  have up : ∀ {d : Nat → Int32} {i : Nat} {v : Int32}, Rg d → 86 ≤ i → i < 446 → Rg (upd d i v) := fun hd h1 h2 => hd.up h2 (fun b hb => by rw [lim_log h1] at hb; cases hb)
  unfold eg_lg
  refine up (up (up (up (up (up (hc.up (by omega) (fun b hb => ?_)) (by omega) (by omega)) (by omega) (by omega)) (by omega) (by omega)) (by omega) (by omega)) (by omega) (by omega)) (by omega) (by omega)
  cases hb
  obtain ⟨f, h1, h2⟩ := hR.1 15 60 rfl
  rw [h2, nI_ad, ifLt (by omega) (by omega)]
  split
  · exact ⟨f + 1, by omega, rfl⟩
  · exact ⟨60, by omega, rfl⟩
theorem eg_lg_lo {c : Nat → Int32} {k l i : Nat} {t kk h : Int32} (h1 : i < 86) (h7 : i ≠ 7) (h15 : i ≠ 15) : eg_lg c k l t kk h i = c i := by
  unfold eg_lg
  rw [upd_n (by omega), upd_n (by omega), upd_n (by omega), upd_n (by omega), upd_n (by omega), upd_n (by omega), upd_n h15, cpy_lo (by omega), upd_n h7]
theorem eg_le_rg {c : Nat → Int32} {k l e t j nh : Nat} (hW : LW A) (hR : Rg c) (hk : k < 4) (hl : l < 10) (he : e ≤ 20) (ht : t ≤ e) (ee : c (16 + l * 5 + 2) = nI e) (hj : j < 13) (ej : kicksV A c l (c 4) = nI j) (hnh : nh ≤ 6) : Rg (eg_le A c k l nh (nI t)) := by
  have l10 : lim 10 = none := rfl
  exact eg_lg_rg ((eg_ti_rg (eg_l1_rg hW hR hk hl he ht ee hj ej) hnh).up (by omega) (fun b hb => by rw [l10] at hb; cases hb))
theorem eg_le_lo {c : Nat → Int32} {k l nh i : Nat} {t : Int32} (h1 : i < 86) (h7 : i ≠ 7) (h10 : i ≠ 10) (h15 : i ≠ 15) : eg_le A c k l nh t i = eg_ti (eg_l1 A c k l t) nh i := by
  unfold eg_le
  rw [eg_lg_lo h1 h7 h15, upd_n h10]
theorem eg_tk_az {c : Nat → Int32} {l e t : Nat} (hz : Az c) (hl : l < 10) (he : e ≤ 20) (ht : t ≤ e) (ee : c (16 + l * 5 + 2) = nI e) : Az (eg_tk c l (nI t)) := by
  intro j hj h0
  by_cases ej : j = l
  · subst ej
    unfold eg_tk at h0 ⊢
    by_cases g : nI t = c (16 + j * 5 + 2)
    · rw [if_pos g, upd_s]
    · rw [if_neg g, upd_s, ee, nI_sub ht] at h0
      have := nI_inj (by omega) (by omega) h0
      exact absurd (by rw [ee]; congr 1; omega) g
  · rw [eg_tk_out (by omega) (by omega) (by omega) (by omega)] at h0 ⊢
    exact hz j hj h0
theorem eg_le_az {c : Nat → Int32} {k l e t nh : Nat} (hz : Az c) (hk : k < 4) (hl : l < 10) (he : e ≤ 20) (ht : t ≤ e) (ee : c (16 + l * 5 + 2) = nI e) (hnh : nh ≤ 6) : Az (eg_le A c k l nh (nI t)) :=
  Az_of (c := eg_tk c l (nI t)) (fun i h1 h2 => by
    rw [eg_le_lo (by omega) (by omega) (by omega) (by omega), eg_ti_out (by omega) hnh]
    unfold eg_l1; rw [upd_n (by omega), upd_n (by omega)]) (eg_tk_az hz hl he ht ee)
end D
