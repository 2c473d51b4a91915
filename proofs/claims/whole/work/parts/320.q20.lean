/-! worlds by their cliffs; copies -/
def pj (k : Nat) : Nat := if 17 ≤ k then k - 1 else
  if k = 0 then 12 else if k = 1 then 13 else if k = 2 then 14 else if k = 3 then 11 else if k = 5 then 3 else if k = 6 then 4 else if k = 7 then 0 else if k = 8 then 1
  else if k = 9 then 2 else if k = 10 then 8 else if k = 11 then 9 else if k = 12 then 7 else if k = 13 then 5 else if k = 14 then 6 else if k = 15 then 15 else 10
theorem pj_hi {k : Nat} (h : 17 ≤ k) : pj k = k - 1 := if_pos h
theorem pm_pj_lo : ∀ k, k < 17 → k ≠ 4 → pm (pj k) = k := by decide
theorem pj_pm_lo : ∀ i, i < 16 → pj (pm i) = i := by decide
theorem pj_lt_lo : ∀ k, k < 17 → pj k < 16 := by decide
theorem pm_pj {k : Nat} (h : k ≠ 4) : pm (pj k) = k := by
  rcases Nat.lt_or_ge k 17 with q | q
  · exact pm_pj_lo k q h
  · rw [pj_hi q, pm_hi (by omega)]; omega
theorem pj_pm {i : Nat} : pj (pm i) = i := by
  rcases Nat.lt_or_ge i 16 with q | q
  · exact pj_pm_lo i q
  · rw [pm_hi q, pj_hi (by omega)]; omega
theorem pj_lt {k : Nat} (h : k < 447) : pj k < 446 := by
  rcases Nat.lt_or_ge k 17 with q | q
  · have := pj_lt_lo k q; omega
  · rw [pj_hi q]; omega
theorem pj_inj {k j : Nat} (hk : k ≠ 4) (hj : j ≠ 4) (e : pj k = pj j) : k = j := by
  rw [← pm_pj hk, ← pm_pj hj, e]
theorem pj_l {l w : Nat} : pj (17 + 5 * l + w) = 16 + l * 5 + w := by rw [pj_hi (by omega)]; omega
theorem pj_h {l w : Nat} : pj (67 + 2 * l + w) = 66 + l * 2 + w := by rw [pj_hi (by omega)]; omega
theorem pj_k {l w : Nat} : pj (79 + 2 * l + w) = 78 + l * 2 + w := by rw [pj_hi (by omega)]; omega
theorem pj_0 : pj 0 = 12 := rfl
theorem pj_1 : pj 1 = 13 := rfl
theorem pj_2 : pj 2 = 14 := rfl
theorem pj_3 : pj 3 = 11 := rfl
theorem pj_5 : pj 5 = 3 := rfl
theorem pj_6 : pj 6 = 4 := rfl
theorem pj_7 : pj 7 = 0 := rfl
theorem pj_8 : pj 8 = 1 := rfl
theorem pj_9 : pj 9 = 2 := rfl
theorem pj_10 : pj 10 = 8 := rfl
theorem pj_11 : pj 11 = 9 := rfl
theorem pj_12 : pj 12 = 7 := rfl
theorem pj_13 : pj 13 = 5 := rfl
theorem pj_14 : pj 14 = 6 := rfl
theorem pj_15 : pj 15 = 15 := rfl
theorem pj_16 : pj 16 = 10 := rfl
def wO (w c : Nat → Int32) : Nat → Int32 := fun k => if k = 4 ∨ 447 ≤ k then w k else c (pj k)
theorem wO_at {w c : Nat → Int32} {k : Nat} (h4 : k ≠ 4) (hk : k < 447) : wO w c k = c (pj k) := if_neg (by omega)
theorem wO_out {w c : Nat → Int32} {k : Nat} (h : k = 4 ∨ 447 ≤ k) : wO w c k = w k := if_pos h
theorem wO_self {w : Nat → Int32} : wO w (cM w) = w := by
  funext k
  by_cases h : k = 4 ∨ 447 ≤ k
  · exact wO_out h
  · rw [wO_at (by omega) (by omega), cM_lo (pj_lt (by omega)), pm_pj (by omega)]
theorem cM_wO {w c : Nat → Int32} (hz : zb c) : cM (wO w c) = c := by
  funext i
  by_cases h : i < 446
  · rw [cM_lo h, wO_at (pm_ne h (Or.inl rfl)) ?_, pj_pm]
    rcases Nat.lt_or_ge i 16 with q | q
    · have := pm_lo q; omega
    · rw [pm_hi q]; omega
  · unfold cM; rw [if_neg h, hz i (by omega)]
theorem up_wO {w c : Nat → Int32} {k : Nat} {v : Int32} (h4 : k ≠ 4) (hk : k < 447) : upd (wO w c) k v = wO w (upd c (pj k) v) := by
  funext j
  by_cases e : j = k
  · subst e; rw [upd_s, wO_at h4 hk, upd_s]
  · rw [upd_n e]
    by_cases h : j = 4 ∨ 447 ≤ j
    · rw [wO_out h, wO_out h]
    · rw [wO_at (by omega) (by omega), wO_at (by omega) (by omega), upd_n (fun q => e (pj_inj (by omega) h4 q))]
theorem wO_wO {w c c' : Nat → Int32} : wO (wO w c) c' = wO w c' := by
  funext k
  by_cases h : k = 4 ∨ 447 ≤ k
  · rw [wO_out h, wO_out h, wO_out h]
  · rw [wO_at (by omega) (by omega), wO_at (by omega) (by omega)]
theorem LM_of {A : aL} {w w' : Nat → Int32} (h4 : w' 4 = w 4) (h : ∀ k, 447 ≤ k → k < 1296 → w' k = w k) (hW : LW A) (hA : LM A w) : LM A w' := by
  unfold LM at *
  split at hA
  · rw [h4]; exact hA
  · obtain ⟨a1, a2, a3, a4⟩ := hA
    have hn := hW.1
    refine ⟨by rw [h4]; exact a1, by rw [h _ (by omega) (by omega)]; exact a2, fun i hi => ?_, fun j hj i hi => ?_⟩
    · rw [h _ (by omega) (by omega), h _ (by omega) (by omega), h _ (by omega) (by omega), h _ (by omega) (by omega)]; exact a3 i hi
    · have := (hW.2 j hj).2.2.2.1
      rw [h _ (by omega) (by omega), h _ (by omega) (by omega)]; exact a4 j hj i hi
theorem LM_wO {A : aL} {w c : Nat → Int32} (hW : LW A) (hA : LM A w) : LM A (wO w c) := LM_of (wO_out (Or.inl rfl)) (fun k h _ => wO_out (Or.inr h)) hW hA
/-- states by one cliff -/
theorem se_id {S : mS} {v : Nat} : seS S v (S v) = S := by
  funext o
  by_cases h : o = v
  · subst h; rw [seS_s]
  · rw [seS_n h]
theorem se_id' {S : mS} {v : Nat} {f : Nat → Int32} (h : f = S v) : seS S v f = S := by subst h; exact se_id
theorem up_se {S : mS} {v k : Nat} {c : Nat → Int32} {x : Int32} : upS (seS S v c) v k x = seS S v (upd c k x) := by
  unfold upS; rw [seS_s, seS_seS]
theorem up_def {S : mS} {v k : Nat} {x : Int32} : upS S v k x = seS S v (upd (S v) k x) := rfl
theorem up_sXn {S : mS} {p q : Nat → Int32} {v k : Nat} {x : Int32} (h8 : v ≠ 8) (h9 : v ≠ 9) : upS (sX S p q) v k x = sX (upS S v k x) p q := by
  funext o
  by_cases h : o = v
  · subst h; rw [upS_s, sX_n h8 h9, sX_n h8 h9, upS_s]
  · rw [upS_n h]; unfold sX; split
    · rfl
    · split
      · rfl
      · rw [upS_n h]
theorem se_sXn {S : mS} {p q : Nat → Int32} {v : Nat} {f : Nat → Int32} (h8 : v ≠ 8) (h9 : v ≠ 9) : seS (sX S p q) v f = sX (seS S v f) p q := by
  funext o
  by_cases h : o = v
  · subst h; rw [seS_s, sX_n h8 h9, seS_s]
  · rw [seS_n h]; unfold sX; split
    · rfl
    · split
      · rfl
      · rw [seS_n h]
theorem up_x {S : mS} {v k : Nat} {c p q : Nat → Int32} {x : Int32} (h8 : v ≠ 8) (h9 : v ≠ 9) : upS (sX (seS S v c) p q) v k x = sX (seS S v (upd c k x)) p q := by
  rw [up_sXn h8 h9, up_se]
theorem at_x {S : mS} {v : Nat} {c p q : Nat → Int32} (h8 : v ≠ 8) (h9 : v ≠ 9) : (sX (seS S v c) p q) v = c := by
  rw [sX_n h8 h9, seS_s]
theorem up_sMn {S : mS} {a b : Int32} {q : Nat → Int32} {v k : Nat} {x : Int32} (h8 : v ≠ 71) (h9 : v ≠ 63) : upS (sM S a b q) v k x = sM (upS S v k x) a b q := by
  funext o
  by_cases h : o = v
  · subst h; rw [upS_s, sM_n h8 h9, sM_n h8 h9, upS_s]
  · rw [upS_n h]; unfold sM; split
    · rfl
    · split
      · rw [upS_n (by omega)]
      · rw [upS_n h]
theorem se_sMn {S : mS} {a b : Int32} {q : Nat → Int32} {v : Nat} {f : Nat → Int32} (h8 : v ≠ 71) (h9 : v ≠ 63) : seS (sM S a b q) v f = sM (seS S v f) a b q := by
  funext o
  by_cases h : o = v
  · subst h; rw [seS_s, sM_n h8 h9, seS_s]
  · rw [seS_n h]; unfold sM; split
    · rfl
    · split
      · rw [seS_n (by omega)]
      · rw [seS_n h]
theorem up_m {S : mS} {k : Nat} {w c q : Nat → Int32} {a b x : Int32} (h4 : k ≠ 4) (hk : k < 447) : upS (sM (seS S 64 (wO w c)) a b q) 64 k x = sM (seS S 64 (wO w (upd c (pj k) x))) a b q := by
  rw [up_sMn (by omega) (by omega), up_se, up_wO h4 hk]
theorem at_m {S : mS} {w c q : Nat → Int32} {a b : Int32} : (sM (seS S 64 (wO w c)) a b q) 64 = wO w c := by
  rw [sM_n (by omega) (by omega), seS_s]
theorem m_id {S : mS} : sM (seS S 64 (wO (S 64) (cM (S 64)))) (S 63 18) (S 63 19) (S 71) = S := by
  rw [wO_self, se_id, sM_id]
/-- copying from i up to N -/
def rngF (i N : Nat) (f g : Nat → Int32) : Nat → Int32 := fun j => if i ≤ j ∧ j < N then f j else g j
theorem rng_end {N : Nat} {f g : Nat → Int32} : rngF N N f g = g := by
  funext j; unfold rngF; rw [if_neg (by omega)]
theorem rng_step {i N : Nat} {f g : Nat → Int32} (h : i < N) : rngF (i + 1) N f (upd g i (f i)) = rngF i N f g := by
  funext j; unfold rngF
  by_cases e : j = i
  · subst e; rw [if_neg (by omega), if_pos (by omega), upd_s]
  · rw [upd_n e]
    by_cases g1 : i ≤ j ∧ j < N
    · rw [if_pos (by omega), if_pos g1]
    · rw [if_neg (by omega), if_neg g1]
theorem rng_in {i N j : Nat} {f g : Nat → Int32} (h : i ≤ j) (h2 : j < N) : rngF i N f g j = f j := if_pos ⟨h, h2⟩
theorem rng_out {i N j : Nat} {f g : Nat → Int32} (h : j < i ∨ N ≤ j) : rngF i N f g j = g j := if_neg (by omega)
theorem rng_wO {w c : Nat → Int32} {f : Nat → Int32} (h : f 4 = w 4) : rngF 0 447 f (wO w c) = wO w (cM f) := by
  funext k
  by_cases h4 : k = 4
  · subst h4; rw [rng_in (by omega) (by omega), wO_out (by omega), h]
  · rcases Nat.lt_or_ge k 447 with q | q
    · rw [rng_in (by omega) q, wO_at h4 q, cM_lo (pj_lt q), pm_pj h4]
    · rw [rng_out (by omega), wO_out (by omega), wO_out (by omega)]
section C
variable {F : Nat}
theorem m_keepsL : ∀ (m i k : Nat) (S : mS), i + m = 447 → m < k → f_X10_keepsAll_b2 F k (nI i) S = some (.inl none, seS S 67 (rngF i 447 (S 64) (S 67)))
  | 0, i, k + 1, S, hi, hk => by
    have hie : i = 447 := by omega
    rw [hie, f_X10_keepsAll_b2]
    simp (disch := omega) only [fa_lit, nI_ad, nI_mul, nI_cl, inb_nI, nI_ltE, nI_leE, nI_eqE, nI_m1, nI_m1', m1_lt, lt_m1, m1_le, le_m1, eq_self, not_true_eq_false, not_false_eq_true, ↓reduceIte, leT, leF, ltT, ltF, eqT, eqF, decide_true, decide_false, true_and, and_true, Nat.reduceAdd, bI0_i, bI_i, bI_x, bV0_v, bV_v, bV_x, ↓bnd_e, gd_t, rng_end, se_id, Nat.le_refl]
  | m + 1, i, k + 1, S, hi, hk => by
    have ih := m_keepsL m (i + 1) k (upS S 67 i (S 64 i)) (by omega) (by omega)
    rw [f_X10_keepsAll_b2]
    simp (disch := omega) only [fa_lit, nI_ad, nI_mul, nI_cl, inb_nI, nI_ltE, nI_leE, nI_eqE, nI_m1, nI_m1', m1_lt, lt_m1, m1_le, le_m1, eq_self, not_true_eq_false, not_false_eq_true, ↓reduceIte, leT, leF, ltT, ltF, eqT, eqF, decide_true, decide_false, true_and, and_true, Nat.reduceAdd, bI0_i, bI_i, bI_x, bV0_v, bV_v, bV_x, ↓bnd_e, gd_t, ih, upS_n, upS_s, rng_step]
    simp (disch := omega) only [up_def, seS_seS]
theorem m_keepsAll {S : mS} (hF : 6000 ≤ F) : f_X10_keepsAll F S = some (.inl none, seS S 67 (rngF 0 447 (S 64) (S 67))) := m_keepsL 447 0 F S (by omega) (by omega)
theorem m_bringsL : ∀ (m i k : Nat) (S : mS), i + m = 447 → m < k → f_X10_bringsBack_b2 F k (nI i) S = some (.inl none, seS S 64 (rngF i 447 (S 67) (S 64)))
  | 0, i, k + 1, S, hi, hk => by
    have hie : i = 447 := by omega
    rw [hie, f_X10_bringsBack_b2]
    simp (disch := omega) only [fa_lit, nI_ad, nI_mul, nI_cl, inb_nI, nI_ltE, nI_leE, nI_eqE, nI_m1, nI_m1', m1_lt, lt_m1, m1_le, le_m1, eq_self, not_true_eq_false, not_false_eq_true, ↓reduceIte, leT, leF, ltT, ltF, eqT, eqF, decide_true, decide_false, true_and, and_true, Nat.reduceAdd, bI0_i, bI_i, bI_x, bV0_v, bV_v, bV_x, ↓bnd_e, gd_t, rng_end, se_id, Nat.le_refl]
  | m + 1, i, k + 1, S, hi, hk => by
    have ih := m_bringsL m (i + 1) k (upS S 64 i (S 67 i)) (by omega) (by omega)
    rw [f_X10_bringsBack_b2]
    simp (disch := omega) only [fa_lit, nI_ad, nI_mul, nI_cl, inb_nI, nI_ltE, nI_leE, nI_eqE, nI_m1, nI_m1', m1_lt, lt_m1, m1_le, le_m1, eq_self, not_true_eq_false, not_false_eq_true, ↓reduceIte, leT, leF, ltT, ltF, eqT, eqF, decide_true, decide_false, true_and, and_true, Nat.reduceAdd, bI0_i, bI_i, bI_x, bV0_v, bV_v, bV_x, ↓bnd_e, gd_t, ih, upS_n, upS_s, rng_step]
    simp (disch := omega) only [up_def, seS_seS]
theorem m_bringsBack {S : mS} (hF : 6000 ≤ F) : f_X10_bringsBack F S = some (.inl none, seS S 64 (rngF 0 447 (S 67) (S 64))) := m_bringsL 447 0 F S (by omega) (by omega)
theorem m_imageL : ∀ (m i k : Nat) (S : mS), i + m = 1296 → m < k → f_X10_image_b7 F k (nI i) S = some (.inl none, upS (seS S 65 (rngF i 1296 (S 64) (S 65))) 63 6 (nI 1))
  | 0, i, k + 1, S, hi, hk => by
    have hie : i = 1296 := by omega
    rw [hie, f_X10_image_b7]
    simp (disch := omega) only [fa_lit, nI_ad, nI_mul, nI_cl, inb_nI, nI_ltE, nI_leE, nI_eqE, nI_m1, nI_m1', m1_lt, lt_m1, m1_le, le_m1, eq_self, not_true_eq_false, not_false_eq_true, ↓reduceIte, leT, leF, ltT, ltF, eqT, eqF, decide_true, decide_false, true_and, and_true, Nat.reduceAdd, bI0_i, bI_i, bI_x, bV0_v, bV_v, bV_x, ↓bnd_e, gd_t, rng_end, se_id, Nat.le_refl]
  | m + 1, i, k + 1, S, hi, hk => by
    have ih := m_imageL m (i + 1) k (upS S 65 i (S 64 i)) (by omega) (by omega)
    rw [f_X10_image_b7]
    simp (disch := omega) only [fa_lit, nI_ad, nI_mul, nI_cl, inb_nI, nI_ltE, nI_leE, nI_eqE, nI_m1, nI_m1', m1_lt, lt_m1, m1_le, le_m1, eq_self, not_true_eq_false, not_false_eq_true, ↓reduceIte, leT, leF, ltT, ltF, eqT, eqF, decide_true, decide_false, true_and, and_true, Nat.reduceAdd, bI0_i, bI_i, bI_x, bV0_v, bV_v, bV_x, ↓bnd_e, gd_t, ih, upS_n, upS_s, rng_step]
    simp (disch := omega) only [up_def, seS_seS]
theorem m_backL : ∀ (m i k : Nat) (S : mS), i + m = 1296 → m < k → f_X10_back_b16 F k (nI i) S = some (.inl (some (.int (nI 1))), upS (seS S 64 (rngF i 1296 (S 65) (S 64))) 63 7 (nI 0))
  | 0, i, k + 1, S, hi, hk => by
    have hie : i = 1296 := by omega
    rw [hie, f_X10_back_b16]
    simp (disch := omega) only [fa_lit, nI_ad, nI_mul, nI_cl, inb_nI, nI_ltE, nI_leE, nI_eqE, nI_m1, nI_m1', m1_lt, lt_m1, m1_le, le_m1, eq_self, not_true_eq_false, not_false_eq_true, ↓reduceIte, leT, leF, ltT, ltF, eqT, eqF, decide_true, decide_false, true_and, and_true, Nat.reduceAdd, bI0_i, bI_i, bI_x, bV0_v, bV_v, bV_x, ↓bnd_e, gd_t, rng_end, se_id, Nat.le_refl, and10]
  | m + 1, i, k + 1, S, hi, hk => by
    have ih := m_backL m (i + 1) k (upS S 64 i (S 65 i)) (by omega) (by omega)
    rw [f_X10_back_b16]
    simp (disch := omega) only [fa_lit, nI_ad, nI_mul, nI_cl, inb_nI, nI_ltE, nI_leE, nI_eqE, nI_m1, nI_m1', m1_lt, lt_m1, m1_le, le_m1, eq_self, not_true_eq_false, not_false_eq_true, ↓reduceIte, leT, leF, ltT, ltF, eqT, eqF, decide_true, decide_false, true_and, and_true, Nat.reduceAdd, bI0_i, bI_i, bI_x, bV0_v, bV_v, bV_x, ↓bnd_e, gd_t, ih, upS_n, upS_s, rng_step]
    simp (disch := omega) only [up_def, seS_seS]
theorem m_undoL {r : Nat} (hr : r < 12) : ∀ (m i k : Nat) (S : mS), i + m = 447 → m < k → S 63 7 = nI r → f_X10_undo_b26 F k (nI i) S = some (.inl (some (.int (nI 1))), seS S 64 (rngF i 447 (fun j => S 68 (447 * r + j)) (S 64)))
  | 0, i, k + 1, S, hi, hk, h7 => by
    have hie : i = 447 := by omega
    rw [hie, f_X10_undo_b26]
    simp (disch := omega) only [fa_lit, nI_ad, nI_mul, nI_cl, inb_nI, nI_ltE, nI_leE, nI_eqE, nI_m1, nI_m1', m1_lt, lt_m1, m1_le, le_m1, eq_self, not_true_eq_false, not_false_eq_true, ↓reduceIte, leT, leF, ltT, ltF, eqT, eqF, decide_true, decide_false, true_and, and_true, Nat.reduceAdd, bI0_i, bI_i, bI_x, bV0_v, bV_v, bV_x, ↓bnd_e, gd_t, rng_end, se_id, Nat.le_refl, and10]
  | m + 1, i, k + 1, S, hi, hk, h7 => by
    have ih := m_undoL hr m (i + 1) k (upS S 64 i (S 68 (447 * r + i))) (by omega) (by omega) (by rw [upS_n (by omega)]; exact h7)
    rw [f_X10_undo_b26]
    simp (disch := omega) only [fa_lit, nI_ad, nI_mul, nI_cl, inb_nI, nI_ltE, nI_leE, nI_eqE, nI_m1, nI_m1', m1_lt, lt_m1, m1_le, le_m1, eq_self, not_true_eq_false, not_false_eq_true, ↓reduceIte, leT, leF, ltT, ltF, eqT, eqF, decide_true, decide_false, true_and, and_true, Nat.reduceAdd, bI0_i, bI_i, bI_x, bV0_v, bV_v, bV_x, ↓bnd_e, gd_t, h7, ih, upS_n, upS_s]
    rw [up_def, seS_seS, rng_step (f := fun j => S 68 (447 * r + j)) (by omega)]
theorem m_remL {r : Nat} (hr : r < 12) : ∀ (m i k : Nat) (S : mS), i + m = 447 → m < k → S 63 7 = nI (r + 1) → f_X10_remembers_b55 F k (nI i) S = some (.inl none, seS S 68 (rngF (447 * r + i) (447 * r + 447) (fun j => S 64 (j - 447 * r)) (S 68)))
  | 0, i, k + 1, S, hi, hk, h7 => by
    have hie : i = 447 := by omega
    rw [hie, f_X10_remembers_b55]
    simp (disch := omega) only [fa_lit, nI_ad, nI_mul, nI_cl, inb_nI, nI_ltE, nI_leE, nI_eqE, nI_m1, nI_m1', m1_lt, lt_m1, m1_le, le_m1, eq_self, not_true_eq_false, not_false_eq_true, ↓reduceIte, leT, leF, ltT, ltF, eqT, eqF, decide_true, decide_false, true_and, and_true, Nat.reduceAdd, bI0_i, bI_i, bI_x, bV0_v, bV_v, bV_x, ↓bnd_e, gd_t, rng_end, se_id, Nat.le_refl]
  | m + 1, i, k + 1, S, hi, hk, h7 => by
    have ih := m_remL hr m (i + 1) k (upS S 68 (447 * r + i) (S 64 i)) (by omega) (by omega) (by rw [upS_n (by omega)]; exact h7)
    rw [f_X10_remembers_b55]
    simp (disch := omega) only [fa_lit, nI_ad, nI_mul, nI_cl, inb_nI, nI_ltE, nI_leE, nI_eqE, nI_m1, nI_m1', m1_lt, lt_m1, m1_le, le_m1, eq_self, not_true_eq_false, not_false_eq_true, ↓reduceIte, leT, leF, ltT, ltF, eqT, eqF, decide_true, decide_false, true_and, and_true, Nat.reduceAdd, bI0_i, bI_i, bI_x, bV0_v, bV_v, bV_x, ↓bnd_e, gd_t, h7, sub1, ih, upS_n, upS_s]
    have e : S 64 i = (fun j => S 64 (j - 447 * r)) (447 * r + i) := by show _ = S 64 (447 * r + i - 447 * r); congr 1; omega
    rw [up_def, seS_seS, e, ← Nat.add_assoc, rng_step (f := fun j => S 64 (j - 447 * r)) (by omega)]
theorem m_shiftL : ∀ (m i k : Nat) (S : mS), i + m = 4917 → m < k → f_X10_remembers_b11 F k (nI i) S = f_X10_remembers_b53 F (seS S 68 (rngF i 4917 (fun j => S 68 (j + 447)) (S 68)))
  | 0, i, k + 1, S, hi, hk => by
    have hie : i = 4917 := by omega
    rw [hie, f_X10_remembers_b11]
    simp (disch := omega) only [fa_lit, nI_ad, nI_mul, nI_cl, inb_nI, nI_ltE, nI_leE, nI_eqE, nI_m1, nI_m1', m1_lt, lt_m1, m1_le, le_m1, eq_self, not_true_eq_false, not_false_eq_true, ↓reduceIte, leT, leF, ltT, ltF, eqT, eqF, decide_true, decide_false, true_and, and_true, Nat.reduceAdd, bI0_i, bI_i, bI_x, bV0_v, bV_v, bV_x, ↓bnd_e, gd_t, rng_end, se_id, Nat.le_refl]
  | m + 1, i, k + 1, S, hi, hk => by
    have ih := m_shiftL m (i + 1) k (upS S 68 i (S 68 (i + 447))) (by omega) (by omega)
    rw [f_X10_remembers_b11]
    simp (disch := omega) only [fa_lit, nI_ad, nI_mul, nI_cl, inb_nI, nI_ltE, nI_leE, nI_eqE, nI_m1, nI_m1', m1_lt, lt_m1, m1_le, le_m1, eq_self, not_true_eq_false, not_false_eq_true, ↓reduceIte, leT, leF, ltT, ltF, eqT, eqF, decide_true, decide_false, true_and, and_true, Nat.reduceAdd, bI0_i, bI_i, bI_x, bV0_v, bV_v, bV_x, ↓bnd_e, gd_t, ih, upS_n, upS_s]
    rw [up_def, seS_seS]
    congr 2
    funext j
    unfold rngF
    by_cases e : j = i
    · subst e; rw [if_neg (by omega), if_pos (by omega), upd_s]
    · by_cases g1 : i ≤ j ∧ j < 4917
      · rw [if_pos (by omega), if_pos g1]
        show upd (S 68) i (S 68 (i + 447)) (j + 447) = S 68 (j + 447)
        rw [upd_n (by omega)]
      · rw [if_neg (by omega), if_neg g1, upd_n e]
end C
