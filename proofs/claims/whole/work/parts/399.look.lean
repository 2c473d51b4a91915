/-! worlds by their cliffs; copies -/
def pj (k : Nat) : Nat := if 17 ≤ k then k - 1 else
  if k = 0 then 12 else if k = 1 then 13 else if k = 2 then 14 else if k = 3 then 11 else if k = 5 then 3 else if k = 6 then 4 else if k = 7 then 0 else if k = 8 then 1
  else if k = 9 then 2 else if k = 10 then 8 else if k = 11 then 9 else if k = 12 then 7 else if k = 13 then 5 else if k = 14 then 6 else if k = 15 then 15 else 10
theorem pj_hi {k : Nat} (h : 17 ≤ k) : pj k = k - 1 := if_pos h
theorem pm_pj_lo : ∀ k, k < 17 → k ≠ 4 → pm (pj k) = k := by decide
theorem pj_pm_lo : ∀ i, i < 16 → pj (pm i) = i := by decide
theorem pj_lt_lo : ∀ k, k < 17 → pj k < 16 := by decide
theorem pm_pj {k : Nat} (h : k ≠ 4) : pm (pj k) = k := by
  rcases Nat.lt_or_ge k 17 with q | q
  · exact pm_pj_lo k q h
  · rw [pj_hi q, pm_hi (by omega)]; omega
theorem pj_pm {i : Nat} : pj (pm i) = i := by
  rcases Nat.lt_or_ge i 16 with q | q
  · exact pj_pm_lo i q
  · rw [pm_hi q, pj_hi (by omega)]; omega
theorem pj_lt {k : Nat} (h : k < 447) : pj k < 446 := by
  rcases Nat.lt_or_ge k 17 with q | q
  · have := pj_lt_lo k q; omega
  · rw [pj_hi q]; omega
theorem pj_inj {k j : Nat} (hk : k ≠ 4) (hj : j ≠ 4) (e : pj k = pj j) : k = j := by
  rw [← pm_pj hk, ← pm_pj hj, e]
theorem pj_l {l w : Nat} : pj (17 + 5 * l + w) = 16 + l * 5 + w := by rw [pj_hi (by omega)]; omega
theorem pj_h {l w : Nat} : pj (67 + 2 * l + w) = 66 + l * 2 + w := by rw [pj_hi (by omega)]; omega
theorem pj_k {l w : Nat} : pj (79 + 2 * l + w) = 78 + l * 2 + w := by rw [pj_hi (by omega)]; omega
theorem pj_0 : pj 0 = 12 := rfl
theorem pj_1 : pj 1 = 13 := rfl
theorem pj_2 : pj 2 = 14 := rfl
theorem pj_3 : pj 3 = 11 := rfl
theorem pj_5 : pj 5 = 3 := rfl
theorem pj_6 : pj 6 = 4 := rfl
theorem pj_7 : pj 7 = 0 := rfl
theorem pj_8 : pj 8 = 1 := rfl
theorem pj_9 : pj 9 = 2 := rfl
theorem pj_10 : pj 10 = 8 := rfl
theorem pj_11 : pj 11 = 9 := rfl
theorem pj_12 : pj 12 = 7 := rfl
theorem pj_13 : pj 13 = 5 := rfl
theorem pj_14 : pj 14 = 6 := rfl
theorem pj_15 : pj 15 = 15 := rfl
theorem pj_16 : pj 16 = 10 := rfl
def wO (w c : Nat → Int32) : Nat → Int32 := fun k => if k = 4 ∨ 447 ≤ k then w k else c (pj k)
theorem wO_at {w c : Nat → Int32} {k : Nat} (h4 : k ≠ 4) (hk : k < 447) : wO w c k = c (pj k) := if_neg (by omega)
theorem wO_out {w c : Nat → Int32} {k : Nat} (h : k = 4 ∨ 447 ≤ k) : wO w c k = w k := if_pos h
theorem wO_self {w : Nat → Int32} : wO w (cM w) = w := by
  funext k
  by_cases h : k = 4 ∨ 447 ≤ k
  · exact wO_out h
  · rw [wO_at (by omega) (by omega), cM_lo (pj_lt (by omega)), pm_pj (by omega)]
theorem cM_wO {w c : Nat → Int32} (hz : zb c) : cM (wO w c) = c := by
  funext i
  by_cases h : i < 446
  · rw [cM_lo h, wO_at (pm_ne h (Or.inl rfl)) ?_, pj_pm]
    rcases Nat.lt_or_ge i 16 with q | q
    · have := pm_lo q; omega
    · rw [pm_hi q]; omega
  · unfold cM; rw [if_neg h, hz i (by omega)]
theorem up_wO {w c : Nat → Int32} {k : Nat} {v : Int32} (h4 : k ≠ 4) (hk : k < 447) : upd (wO w c) k v = wO w (upd c (pj k) v) := by
  funext j
  by_cases e : j = k
  · subst e; rw [upd_s, wO_at h4 hk, upd_s]
  · rw [upd_n e]
    by_cases h : j = 4 ∨ 447 ≤ j
    · rw [wO_out h, wO_out h]
    · rw [wO_at (by omega) (by omega), wO_at (by omega) (by omega), upd_n (fun q => e (pj_inj (by omega) h4 q))]
theorem wO_wO {w c c' : Nat → Int32} : wO (wO w c) c' = wO w c' := by
  funext k
  by_cases h : k = 4 ∨ 447 ≤ k
  · rw [wO_out h, wO_out h, wO_out h]
  · rw [wO_at (by omega) (by omega), wO_at (by omega) (by omega)]
theorem LM_of {A : aL} {w w' : Nat → Int32} (h4 : w' 4 = w 4) (h : ∀ k, 447 ≤ k → k < 1296 → w' k = w k) (hW : LW A) (hA : LM A w) : LM A w' := by
  unfold LM at *
  split at hA
  · rw [h4]; exact hA
  · obtain ⟨a1, a2, a3, a4⟩ := hA
    have hn := hW.1
    refine ⟨by rw [h4]; exact a1, by rw [h _ (by omega) (by omega)]; exact a2, fun i hi => ?_, fun j hj i hi => ?_⟩
    · rw [h _ (by omega) (by omega), h _ (by omega) (by omega), h _ (by omega) (by omega), h _ (by omega) (by omega)]; exact a3 i hi
    · have := (hW.2 j hj).2.2.2.1
      rw [h _ (by omega) (by omega), h _ (by omega) (by omega)]; exact a4 j hj i hi
theorem LM_wO {A : aL} {w c : Nat → Int32} (hW : LW A) (hA : LM A w) : LM A (wO w c) := LM_of (wO_out (Or.inl rfl)) (fun k h _ => wO_out (Or.inr h)) hW hA
/-- states by one cliff -/
theorem se_id {S : mS} {v : Nat} : seS S v (S v) = S := by
  funext o
  by_cases h : o = v
  · subst h; rw [seS_s]
  · rw [seS_n h]
theorem se_id' {S : mS} {v : Nat} {f : Nat → Int32} (h : f = S v) : seS S v f = S := by subst h; exact se_id
theorem up_se {S : mS} {v k : Nat} {c : Nat → Int32} {x : Int32} : upS (seS S v c) v k x = seS S v (upd c k x) := by
  unfold upS; rw [seS_s, seS_seS]
theorem up_def {S : mS} {v k : Nat} {x : Int32} : upS S v k x = seS S v (upd (S v) k x) := rfl
theorem up_sXn {S : mS} {p q : Nat → Int32} {v k : Nat} {x : Int32} (h8 : v ≠ 8) (h9 : v ≠ 9) : upS (sX S p q) v k x = sX (upS S v k x) p q := by
  funext o
  by_cases h : o = v
  · subst h; rw [upS_s, sX_n h8 h9, sX_n h8 h9, upS_s]
  · rw [upS_n h]; unfold sX; split
    · rfl
    · split
      · rfl
      · rw [upS_n h]
theorem se_sXn {S : mS} {p q : Nat → Int32} {v : Nat} {f : Nat → Int32} (h8 : v ≠ 8) (h9 : v ≠ 9) : seS (sX S p q) v f = sX (seS S v f) p q := by
  funext o
  by_cases h : o = v
  · subst h; rw [seS_s, sX_n h8 h9, seS_s]
  · rw [seS_n h]; unfold sX; split
    · rfl
    · split
      · rfl
      · rw [seS_n h]
theorem up_x {S : mS} {v k : Nat} {c p q : Nat → Int32} {x : Int32} (h8 : v ≠ 8) (h9 : v ≠ 9) : upS (sX (seS S v c) p q) v k x = sX (seS S v (upd c k x)) p q := by
  rw [up_sXn h8 h9, up_se]
theorem at_x {S : mS} {v : Nat} {c p q : Nat → Int32} (h8 : v ≠ 8) (h9 : v ≠ 9) : (sX (seS S v c) p q) v = c := by
  rw [sX_n h8 h9, seS_s]
theorem up_sMn {S : mS} {a b : Int32} {q : Nat → Int32} {v k : Nat} {x : Int32} (h8 : v ≠ 71) (h9 : v ≠ 63) : upS (sM S a b q) v k x = sM (upS S v k x) a b q := by
  funext o
  by_cases h : o = v
  · subst h; rw [upS_s, sM_n h8 h9, sM_n h8 h9, upS_s]
  · rw [upS_n h]; unfold sM; split
    · rfl
    · split
      · rw [upS_n (by omega)]
      · rw [upS_n h]
theorem se_sMn {S : mS} {a b : Int32} {q : Nat → Int32} {v : Nat} {f : Nat → Int32} (h8 : v ≠ 71) (h9 : v ≠ 63) : seS (sM S a b q) v f = sM (seS S v f) a b q := by
  funext o
  by_cases h : o = v
  · subst h; rw [seS_s, sM_n h8 h9, seS_s]
  · rw [seS_n h]; unfold sM; split
    · rfl
    · split
      · rw [seS_n (by omega)]
      · rw [seS_n h]
theorem up_m {S : mS} {k : Nat} {w c q : Nat → Int32} {a b x : Int32} (h4 : k ≠ 4) (hk : k < 447) : upS (sM (seS S 64 (wO w c)) a b q) 64 k x = sM (seS S 64 (wO w (upd c (pj k) x))) a b q := by
  rw [up_sMn (by omega) (by omega), up_se, up_wO h4 hk]
theorem at_m {S : mS} {w c q : Nat → Int32} {a b : Int32} : (sM (seS S 64 (wO w c)) a b q) 64 = wO w c := by
  rw [sM_n (by omega) (by omega), seS_s]
theorem m_id {S : mS} : sM (seS S 64 (wO (S 64) (cM (S 64)))) (S 63 18) (S 63 19) (S 71) = S := by
  rw [wO_self, se_id, sM_id]
/-- copying from i up to N -/
def rngF (i N : Nat) (f g : Nat → Int32) : Nat → Int32 := fun j => if i ≤ j ∧ j < N then f j else g j
theorem rng_end {N : Nat} {f g : Nat → Int32} : rngF N N f g = g := by
  funext j; unfold rngF; rw [if_neg (by omega)]
theorem rng_step {i N : Nat} {f g : Nat → Int32} (h : i < N) : rngF (i + 1) N f (upd g i (f i)) = rngF i N f g := by
  funext j; unfold rngF
  by_cases e : j = i
  · subst e; rw [if_neg (by omega), if_pos (by omega), upd_s]
  · rw [upd_n e]
    by_cases g1 : i ≤ j ∧ j < N
    · rw [if_pos (by omega), if_pos g1]
    · rw [if_neg (by omega), if_neg g1]
theorem rng_in {i N j : Nat} {f g : Nat → Int32} (h : i ≤ j) (h2 : j < N) : rngF i N f g j = f j := if_pos ⟨h, h2⟩
theorem rng_out {i N j : Nat} {f g : Nat → Int32} (h : j < i ∨ N ≤ j) : rngF i N f g j = g j := if_neg (by omega)
theorem rng_wO {w c : Nat → Int32} {f : Nat → Int32} (h : f 4 = w 4) : rngF 0 447 f (wO w c) = wO w (cM f) := by
  funext k
  by_cases h4 : k = 4
  · subst h4; rw [rng_in (by omega) (by omega), wO_out (by omega), h]
  · rcases Nat.lt_or_ge k 447 with q | q
    · rw [rng_in (by omega) q, wO_at h4 q, cM_lo (pj_lt q), pm_pj h4]
    · rw [rng_out (by omega), wO_out (by omega), wO_out (by omega)]
section C
variable {F : Nat}
theorem m_keepsL : ∀ (m i k : Nat) (S : mS), i + m = 447 → m < k → f_X10_keepsAll_b2 F k (nI i) S = some (.inl none, seS S 67 (rngF i 447 (S 64) (S 67)))
  | 0, i, k + 1, S, hi, hk => by
    have hie : i = 447 := by omega
    rw [hie, f_X10_keepsAll_b2]
    simp (disch := omega) only [fa_lit, nI_ad, nI_mul, nI_cl, inb_nI, nI_ltE, nI_leE, nI_eqE, nI_m1, nI_m1', m1_lt, lt_m1, m1_le, le_m1, eq_self, not_true_eq_false, not_false_eq_true, ↓reduceIte, leT, leF, ltT, ltF, eqT, eqF, decide_true, decide_false, true_and, and_true, Nat.reduceAdd, bI0_i, bI_i, bI_x, bV0_v, bV_v, bV_x, ↓bnd_e, gd_t, rng_end, se_id, Nat.le_refl]
  | m + 1, i, k + 1, S, hi, hk => by
    have ih := m_keepsL m (i + 1) k (upS S 67 i (S 64 i)) (by omega) (by omega)
    rw [f_X10_keepsAll_b2]
    simp (disch := omega) only [fa_lit, nI_ad, nI_mul, nI_cl, inb_nI, nI_ltE, nI_leE, nI_eqE, nI_m1, nI_m1', m1_lt, lt_m1, m1_le, le_m1, eq_self, not_true_eq_false, not_false_eq_true, ↓reduceIte, leT, leF, ltT, ltF, eqT, eqF, decide_true, decide_false, true_and, and_true, Nat.reduceAdd, bI0_i, bI_i, bI_x, bV0_v, bV_v, bV_x, ↓bnd_e, gd_t, ih, upS_n, upS_s, rng_step]
    simp (disch := omega) only [up_def, seS_seS]
theorem m_keepsAll {S : mS} (hF : 6000 ≤ F) : f_X10_keepsAll F S = some (.inl none, seS S 67 (rngF 0 447 (S 64) (S 67))) := m_keepsL 447 0 F S (by omega) (by omega)
theorem m_bringsL : ∀ (m i k : Nat) (S : mS), i + m = 447 → m < k → f_X10_bringsBack_b2 F k (nI i) S = some (.inl none, seS S 64 (rngF i 447 (S 67) (S 64)))
  | 0, i, k + 1, S, hi, hk => by
    have hie : i = 447 := by omega
    rw [hie, f_X10_bringsBack_b2]
    simp (disch := omega) only [fa_lit, nI_ad, nI_mul, nI_cl, inb_nI, nI_ltE, nI_leE, nI_eqE, nI_m1, nI_m1', m1_lt, lt_m1, m1_le, le_m1, eq_self, not_true_eq_false, not_false_eq_true, ↓reduceIte, leT, leF, ltT, ltF, eqT, eqF, decide_true, decide_false, true_and, and_true, Nat.reduceAdd, bI0_i, bI_i, bI_x, bV0_v, bV_v, bV_x, ↓bnd_e, gd_t, rng_end, se_id, Nat.le_refl]
  | m + 1, i, k + 1, S, hi, hk => by
    have ih := m_bringsL m (i + 1) k (upS S 64 i (S 67 i)) (by omega) (by omega)
    rw [f_X10_bringsBack_b2]
    simp (disch := omega) only [fa_lit, nI_ad, nI_mul, nI_cl, inb_nI, nI_ltE, nI_leE, nI_eqE, nI_m1, nI_m1', m1_lt, lt_m1, m1_le, le_m1, eq_self, not_true_eq_false, not_false_eq_true, ↓reduceIte, leT, leF, ltT, ltF, eqT, eqF, decide_true, decide_false, true_and, and_true, Nat.reduceAdd, bI0_i, bI_i, bI_x, bV0_v, bV_v, bV_x, ↓bnd_e, gd_t, ih, upS_n, upS_s, rng_step]
    simp (disch := omega) only [up_def, seS_seS]
theorem m_bringsBack {S : mS} (hF : 6000 ≤ F) : f_X10_bringsBack F S = some (.inl none, seS S 64 (rngF 0 447 (S 67) (S 64))) := m_bringsL 447 0 F S (by omega) (by omega)
theorem m_imageL : ∀ (m i k : Nat) (S : mS), i + m = 1296 → m < k → f_X10_image_b7 F k (nI i) S = some (.inl none, upS (seS S 65 (rngF i 1296 (S 64) (S 65))) 63 6 (nI 1))
  | 0, i, k + 1, S, hi, hk => by
    have hie : i = 1296 := by omega
    rw [hie, f_X10_image_b7]
    simp (disch := omega) only [fa_lit, nI_ad, nI_mul, nI_cl, inb_nI, nI_ltE, nI_leE, nI_eqE, nI_m1, nI_m1', m1_lt, lt_m1, m1_le, le_m1, eq_self, not_true_eq_false, not_false_eq_true, ↓reduceIte, leT, leF, ltT, ltF, eqT, eqF, decide_true, decide_false, true_and, and_true, Nat.reduceAdd, bI0_i, bI_i, bI_x, bV0_v, bV_v, bV_x, ↓bnd_e, gd_t, rng_end, se_id, Nat.le_refl]
  | m + 1, i, k + 1, S, hi, hk => by
    have ih := m_imageL m (i + 1) k (upS S 65 i (S 64 i)) (by omega) (by omega)
    rw [f_X10_image_b7]
    simp (disch := omega) only [fa_lit, nI_ad, nI_mul, nI_cl, inb_nI, nI_ltE, nI_leE, nI_eqE, nI_m1, nI_m1', m1_lt, lt_m1, m1_le, le_m1, eq_self, not_true_eq_false, not_false_eq_true, ↓reduceIte, leT, leF, ltT, ltF, eqT, eqF, decide_true, decide_false, true_and, and_true, Nat.reduceAdd, bI0_i, bI_i, bI_x, bV0_v, bV_v, bV_x, ↓bnd_e, gd_t, ih, upS_n, upS_s, rng_step]
    simp (disch := omega) only [up_def, seS_seS]
theorem m_backL : ∀ (m i k : Nat) (S : mS), i + m = 1296 → m < k → f_X10_back_b16 F k (nI i) S = some (.inl (some (.int (nI 1))), upS (seS S 64 (rngF i 1296 (S 65) (S 64))) 63 7 (nI 0))
  | 0, i, k + 1, S, hi, hk => by
    have hie : i = 1296 := by omega
    rw [hie, f_X10_back_b16]
    simp (disch := omega) only [fa_lit, nI_ad, nI_mul, nI_cl, inb_nI, nI_ltE, nI_leE, nI_eqE, nI_m1, nI_m1', m1_lt, lt_m1, m1_le, le_m1, eq_self, not_true_eq_false, not_false_eq_true, ↓reduceIte, leT, leF, ltT, ltF, eqT, eqF, decide_true, decide_false, true_and, and_true, Nat.reduceAdd, bI0_i, bI_i, bI_x, bV0_v, bV_v, bV_x, ↓bnd_e, gd_t, rng_end, se_id, Nat.le_refl, and10]
  | m + 1, i, k + 1, S, hi, hk => by
    have ih := m_backL m (i + 1) k (upS S 64 i (S 65 i)) (by omega) (by omega)
    rw [f_X10_back_b16]
    simp (disch := omega) only [fa_lit, nI_ad, nI_mul, nI_cl, inb_nI, nI_ltE, nI_leE, nI_eqE, nI_m1, nI_m1', m1_lt, lt_m1, m1_le, le_m1, eq_self, not_true_eq_false, not_false_eq_true, ↓reduceIte, leT, leF, ltT, ltF, eqT, eqF, decide_true, decide_false, true_and, and_true, Nat.reduceAdd, bI0_i, bI_i, bI_x, bV0_v, bV_v, bV_x, ↓bnd_e, gd_t, ih, upS_n, upS_s, rng_step]
    simp (disch := omega) only [up_def, seS_seS]
theorem m_undoL {r : Nat} (hr : r < 12) : ∀ (m i k : Nat) (S : mS), i + m = 447 → m < k → S 63 7 = nI r → f_X10_undo_b26 F k (nI i) S = some (.inl (some (.int (nI 1))), seS S 64 (rngF i 447 (fun j => S 68 (447 * r + j)) (S 64)))
  | 0, i, k + 1, S, hi, hk, h7 => by
    have hie : i = 447 := by omega
    rw [hie, f_X10_undo_b26]
    simp (disch := omega) only [fa_lit, nI_ad, nI_mul, nI_cl, inb_nI, nI_ltE, nI_leE, nI_eqE, nI_m1, nI_m1', m1_lt, lt_m1, m1_le, le_m1, eq_self, not_true_eq_false, not_false_eq_true, ↓reduceIte, leT, leF, ltT, ltF, eqT, eqF, decide_true, decide_false, true_and, and_true, Nat.reduceAdd, bI0_i, bI_i, bI_x, bV0_v, bV_v, bV_x, ↓bnd_e, gd_t, rng_end, se_id, Nat.le_refl, and10]
  | m + 1, i, k + 1, S, hi, hk, h7 => by
    have ih := m_undoL hr m (i + 1) k (upS S 64 i (S 68 (447 * r + i))) (by omega) (by omega) (by rw [upS_n (by omega)]; exact h7)
    rw [f_X10_undo_b26]
    simp (disch := omega) only [fa_lit, nI_ad, nI_mul, nI_cl, inb_nI, nI_ltE, nI_leE, nI_eqE, nI_m1, nI_m1', m1_lt, lt_m1, m1_le, le_m1, eq_self, not_true_eq_false, not_false_eq_true, ↓reduceIte, leT, leF, ltT, ltF, eqT, eqF, decide_true, decide_false, true_and, and_true, Nat.reduceAdd, bI0_i, bI_i, bI_x, bV0_v, bV_v, bV_x, ↓bnd_e, gd_t, h7, ih, upS_n, upS_s]
    rw [up_def, seS_seS, rng_step (f := fun j => S 68 (447 * r + j)) (by omega)]
theorem m_remL {r : Nat} (hr : r < 12) : ∀ (m i k : Nat) (S : mS), i + m = 447 → m < k → S 63 7 = nI (r + 1) → f_X10_remembers_b55 F k (nI i) S = some (.inl none, seS S 68 (rngF (447 * r + i) (447 * r + 447) (fun j => S 64 (j - 447 * r)) (S 68)))
  | 0, i, k + 1, S, hi, hk, h7 => by
    have hie : i = 447 := by omega
    rw [hie, f_X10_remembers_b55]
    simp (disch := omega) only [fa_lit, nI_ad, nI_mul, nI_cl, inb_nI, nI_ltE, nI_leE, nI_eqE, nI_m1, nI_m1', m1_lt, lt_m1, m1_le, le_m1, eq_self, not_true_eq_false, not_false_eq_true, ↓reduceIte, leT, leF, ltT, ltF, eqT, eqF, decide_true, decide_false, true_and, and_true, Nat.reduceAdd, bI0_i, bI_i, bI_x, bV0_v, bV_v, bV_x, ↓bnd_e, gd_t, rng_end, se_id, Nat.le_refl]
  | m + 1, i, k + 1, S, hi, hk, h7 => by
    have ih := m_remL hr m (i + 1) k (upS S 68 (447 * r + i) (S 64 i)) (by omega) (by omega) (by rw [upS_n (by omega)]; exact h7)
    rw [f_X10_remembers_b55]
    simp (disch := omega) only [fa_lit, nI_ad, nI_mul, nI_cl, inb_nI, nI_ltE, nI_leE, nI_eqE, nI_m1, nI_m1', m1_lt, lt_m1, m1_le, le_m1, eq_self, not_true_eq_false, not_false_eq_true, ↓reduceIte, leT, leF, ltT, ltF, eqT, eqF, decide_true, decide_false, true_and, and_true, Nat.reduceAdd, bI0_i, bI_i, bI_x, bV0_v, bV_v, bV_x, ↓bnd_e, gd_t, h7, sub1, ih, upS_n, upS_s]
    have e : S 64 i = (fun j => S 64 (j - 447 * r)) (447 * r + i) := by show _ = S 64 (447 * r + i - 447 * r); congr 1; omega
    rw [up_def, seS_seS, e, ← Nat.add_assoc, rng_step (f := fun j => S 64 (j - 447 * r)) (by omega)]
theorem m_shiftL : ∀ (m i k : Nat) (S : mS), i + m = 4917 → m < k → f_X10_remembers_b11 F k (nI i) S = f_X10_remembers_b53 F (seS S 68 (rngF i 4917 (fun j => S 68 (j + 447)) (S 68)))
  | 0, i, k + 1, S, hi, hk => by
    have hie : i = 4917 := by omega
    rw [hie, f_X10_remembers_b11]
    simp (disch := omega) only [fa_lit, nI_ad, nI_mul, nI_cl, inb_nI, nI_ltE, nI_leE, nI_eqE, nI_m1, nI_m1', m1_lt, lt_m1, m1_le, le_m1, eq_self, not_true_eq_false, not_false_eq_true, ↓reduceIte, leT, leF, ltT, ltF, eqT, eqF, decide_true, decide_false, true_and, and_true, Nat.reduceAdd, bI0_i, bI_i, bI_x, bV0_v, bV_v, bV_x, ↓bnd_e, gd_t, rng_end, se_id, Nat.le_refl]
  | m + 1, i, k + 1, S, hi, hk => by
    have ih := m_shiftL m (i + 1) k (upS S 68 i (S 68 (i + 447))) (by omega) (by omega)
    rw [f_X10_remembers_b11]
    simp (disch := omega) only [fa_lit, nI_ad, nI_mul, nI_cl, inb_nI, nI_ltE, nI_leE, nI_eqE, nI_m1, nI_m1', m1_lt, lt_m1, m1_le, le_m1, eq_self, not_true_eq_false, not_false_eq_true, ↓reduceIte, leT, leF, ltT, ltF, eqT, eqF, decide_true, decide_false, true_and, and_true, Nat.reduceAdd, bI0_i, bI_i, bI_x, bV0_v, bV_v, bV_x, ↓bnd_e, gd_t, ih, upS_n, upS_s]
    rw [up_def, seS_seS]
    congr 2
    funext j
    unfold rngF
    by_cases e : j = i
    · subst e; rw [if_neg (by omega), if_pos (by omega), upd_s]
    · by_cases g1 : i ≤ j ∧ j < 4917
      · rw [if_pos (by omega), if_pos g1]
        show upd (S 68) i (S 68 (i + 447)) (j + 447) = S 68 (j + 447)
        rw [upd_n (by omega)]
      · rw [if_neg (by omega), if_neg g1, upd_n e]
end C
/-! acts are remembered -/
theorem cpy_all {f g : Nat → Int32} (hf : zb f) (hg : zb g) : va_cpy f g 0 0 446 = f := by
  funext k
  unfold va_cpy
  by_cases h : k < 446
  · rw [if_pos (by omega)]; congr 1; omega
  · rw [if_neg (by omega), hf k (by omega), hg k (by omega)]
theorem x_copy {u0 u1 : Nat} {S : mS} (h0 : zb (S (u0 + 1))) (h1 : zb (S (u1 + 1))) : f_X0_copy u0 u1 S = some (.inl none, seS S (u0 + 1) (S (u1 + 1))) := by
  unfold f_X0_copy
  rw [show decide (¬ ((0 : Int32)) < 0 ∧ ¬ ((0 : Int32)) < 0 ∧ ¬ ((446 : Int32)) < 0 ∧ ((0 : Int32)).toNatClampNeg + ((446 : Int32)).toNatClampNeg ≤ 446 ∧ ((0 : Int32)).toNatClampNeg + ((446 : Int32)).toNatClampNeg ≤ 446) = true by decide]
  rw [gd_t, bnd_e, show ((446 : Int32)).toNatClampNeg = 446 by decide, show ((0 : Int32)).toNatClampNeg = 0 by decide, cpy_all h1 h0]
theorem z12 : decide (¬ (12 : Int32) = 0) = true := by decide
theorem x_remember {nx sz : Nat} {S : mS} (hn : nx < 12) (e1 : S 36 1 = nI nx) (hs : sz ≤ 12) (e2 : S 36 2 = nI sz) (h0 : zb (S (39 + 2 * nx))) (h1 : zb (S 25)) :
    f_X5_remember S = some (.inl none, upS (upS (seS S (39 + 2 * nx) (S 25)) 36 1 (nI ((nx + 1) % 12))) 36 2 (nI (if sz < 12 then sz + 1 else 12))) := by
  have key : ∀ (S2 : mS), S2 36 1 = nI nx → S2 36 2 = nI sz → bnd (upS S2 36 1 (((S2 36 1) + ((1 : Int32))) - ((S2 36 1) + ((1 : Int32))) / ((12 : Int32)) * ((12 : Int32)))) (fun S3 => bnd (upS S3 36 2 (if ((S3 36 2) + ((1 : Int32))) < ((12 : Int32)) then ((S3 36 2) + ((1 : Int32))) else ((12 : Int32)))) (fun S4 => f_X5_remember_b46 S4))
      = some (.inl none, upS (upS S2 36 1 (nI ((nx + 1) % 12))) 36 2 (nI (if sz < 12 then sz + 1 else 12))) := by
    intro S2 a1 a2
    have em : nI (nx + 1) - nI ((nx + 1) / 12 * 12) = nI ((nx + 1) % 12) := by
      rw [nI_sub (by omega)]; congr 1; omega
    unfold f_X5_remember_b46
    simp (disch := omega) only [fa_lit, nI_ad, nI_mul, nI_cl, inb_nI, nI_ltE, nI_leE, nI_eqE, nI_m1, nI_m1', m1_lt, lt_m1, m1_le, le_m1, eq_self, not_true_eq_false, not_false_eq_true, ↓reduceIte, leT, leF, ltT, ltF, eqT, eqF, decide_true, decide_false, true_and, and_true, Nat.reduceAdd, bI0_i, bI_i, bI_x, bV0_v, bV_v, bV_x, ↓bnd_e, gd_t, a1, a2, nI_div, em, upS_s, upd_n]
    by_cases g : sz < 12
    · by_cases g2 : sz + 1 < 12
      · simp (disch := omega) only [g, g2, ↓reduceIte]
      · have : sz + 1 = 12 := by omega
        simp (disch := omega) only [g, this, ↓reduceIte, Nat.lt_irrefl]
    · have : ¬ sz + 1 < 12 := by omega
      simp (disch := omega) only [g, this, ↓reduceIte]
  unfold f_X5_remember
  rw [z12]
  match nx, hn with
  | 0, _ =>
    have k0 := key (seS S 39 (S 25)) (by rw [seS_n (by omega)]; exact e1) (by rw [seS_n (by omega)]; exact e2)
    simp (disch := omega) only [fa_lit, nI_ad, nI_mul, nI_cl, inb_nI, nI_ltE, nI_leE, nI_eqE, nI_m1, nI_m1', m1_lt, lt_m1, m1_le, le_m1, eq_self, not_true_eq_false, not_false_eq_true, ↓reduceIte, leT, leF, ltT, ltF, eqT, eqF, decide_true, decide_false, true_and, and_true, Nat.reduceAdd, bI0_i, bI_i, bI_x, bV0_v, bV_v, bV_x, ↓bnd_e, gd_t, e1, x_copy (S := S) (u0 := 38) (u1 := 24) h0 h1]
    simp (disch := omega) only [fa_lit, nI_ad, nI_mul, nI_cl, inb_nI, nI_ltE, nI_leE, nI_eqE, nI_m1, nI_m1', m1_lt, lt_m1, m1_le, le_m1, eq_self, not_true_eq_false, not_false_eq_true, ↓reduceIte, leT, leF, ltT, ltF, eqT, eqF, decide_true, decide_false, true_and, and_true, Nat.reduceAdd, bI0_i, bI_i, bI_x, bV0_v, bV_v, bV_x, ↓bnd_e, gd_t] at k0
    exact k0
  | 1, _ =>
    have k0 := key (seS S 41 (S 25)) (by rw [seS_n (by omega)]; exact e1) (by rw [seS_n (by omega)]; exact e2)
    simp (disch := omega) only [fa_lit, nI_ad, nI_mul, nI_cl, inb_nI, nI_ltE, nI_leE, nI_eqE, nI_m1, nI_m1', m1_lt, lt_m1, m1_le, le_m1, eq_self, not_true_eq_false, not_false_eq_true, ↓reduceIte, leT, leF, ltT, ltF, eqT, eqF, decide_true, decide_false, true_and, and_true, Nat.reduceAdd, bI0_i, bI_i, bI_x, bV0_v, bV_v, bV_x, ↓bnd_e, gd_t, e1, x_copy (S := S) (u0 := 40) (u1 := 24) h0 h1]
    simp (disch := omega) only [fa_lit, nI_ad, nI_mul, nI_cl, inb_nI, nI_ltE, nI_leE, nI_eqE, nI_m1, nI_m1', m1_lt, lt_m1, m1_le, le_m1, eq_self, not_true_eq_false, not_false_eq_true, ↓reduceIte, leT, leF, ltT, ltF, eqT, eqF, decide_true, decide_false, true_and, and_true, Nat.reduceAdd, bI0_i, bI_i, bI_x, bV0_v, bV_v, bV_x, ↓bnd_e, gd_t] at k0
    exact k0
  | 2, _ =>
    have k0 := key (seS S 43 (S 25)) (by rw [seS_n (by omega)]; exact e1) (by rw [seS_n (by omega)]; exact e2)
    simp (disch := omega) only [fa_lit, nI_ad, nI_mul, nI_cl, inb_nI, nI_ltE, nI_leE, nI_eqE, nI_m1, nI_m1', m1_lt, lt_m1, m1_le, le_m1, eq_self, not_true_eq_false, not_false_eq_true, ↓reduceIte, leT, leF, ltT, ltF, eqT, eqF, decide_true, decide_false, true_and, and_true, Nat.reduceAdd, bI0_i, bI_i, bI_x, bV0_v, bV_v, bV_x, ↓bnd_e, gd_t, e1, x_copy (S := S) (u0 := 42) (u1 := 24) h0 h1]
    simp (disch := omega) only [fa_lit, nI_ad, nI_mul, nI_cl, inb_nI, nI_ltE, nI_leE, nI_eqE, nI_m1, nI_m1', m1_lt, lt_m1, m1_le, le_m1, eq_self, not_true_eq_false, not_false_eq_true, ↓reduceIte, leT, leF, ltT, ltF, eqT, eqF, decide_true, decide_false, true_and, and_true, Nat.reduceAdd, bI0_i, bI_i, bI_x, bV0_v, bV_v, bV_x, ↓bnd_e, gd_t] at k0
    exact k0
  | 3, _ =>
    have k0 := key (seS S 45 (S 25)) (by rw [seS_n (by omega)]; exact e1) (by rw [seS_n (by omega)]; exact e2)
    simp (disch := omega) only [fa_lit, nI_ad, nI_mul, nI_cl, inb_nI, nI_ltE, nI_leE, nI_eqE, nI_m1, nI_m1', m1_lt, lt_m1, m1_le, le_m1, eq_self, not_true_eq_false, not_false_eq_true, ↓reduceIte, leT, leF, ltT, ltF, eqT, eqF, decide_true, decide_false, true_and, and_true, Nat.reduceAdd, bI0_i, bI_i, bI_x, bV0_v, bV_v, bV_x, ↓bnd_e, gd_t, e1, x_copy (S := S) (u0 := 44) (u1 := 24) h0 h1]
    simp (disch := omega) only [fa_lit, nI_ad, nI_mul, nI_cl, inb_nI, nI_ltE, nI_leE, nI_eqE, nI_m1, nI_m1', m1_lt, lt_m1, m1_le, le_m1, eq_self, not_true_eq_false, not_false_eq_true, ↓reduceIte, leT, leF, ltT, ltF, eqT, eqF, decide_true, decide_false, true_and, and_true, Nat.reduceAdd, bI0_i, bI_i, bI_x, bV0_v, bV_v, bV_x, ↓bnd_e, gd_t] at k0
    exact k0
  | 4, _ =>
    have k0 := key (seS S 47 (S 25)) (by rw [seS_n (by omega)]; exact e1) (by rw [seS_n (by omega)]; exact e2)
    simp (disch := omega) only [fa_lit, nI_ad, nI_mul, nI_cl, inb_nI, nI_ltE, nI_leE, nI_eqE, nI_m1, nI_m1', m1_lt, lt_m1, m1_le, le_m1, eq_self, not_true_eq_false, not_false_eq_true, ↓reduceIte, leT, leF, ltT, ltF, eqT, eqF, decide_true, decide_false, true_and, and_true, Nat.reduceAdd, bI0_i, bI_i, bI_x, bV0_v, bV_v, bV_x, ↓bnd_e, gd_t, e1, x_copy (S := S) (u0 := 46) (u1 := 24) h0 h1]
    simp (disch := omega) only [fa_lit, nI_ad, nI_mul, nI_cl, inb_nI, nI_ltE, nI_leE, nI_eqE, nI_m1, nI_m1', m1_lt, lt_m1, m1_le, le_m1, eq_self, not_true_eq_false, not_false_eq_true, ↓reduceIte, leT, leF, ltT, ltF, eqT, eqF, decide_true, decide_false, true_and, and_true, Nat.reduceAdd, bI0_i, bI_i, bI_x, bV0_v, bV_v, bV_x, ↓bnd_e, gd_t] at k0
    exact k0
  | 5, _ =>
    have k0 := key (seS S 49 (S 25)) (by rw [seS_n (by omega)]; exact e1) (by rw [seS_n (by omega)]; exact e2)
    simp (disch := omega) only [fa_lit, nI_ad, nI_mul, nI_cl, inb_nI, nI_ltE, nI_leE, nI_eqE, nI_m1, nI_m1', m1_lt, lt_m1, m1_le, le_m1, eq_self, not_true_eq_false, not_false_eq_true, ↓reduceIte, leT, leF, ltT, ltF, eqT, eqF, decide_true, decide_false, true_and, and_true, Nat.reduceAdd, bI0_i, bI_i, bI_x, bV0_v, bV_v, bV_x, ↓bnd_e, gd_t, e1, x_copy (S := S) (u0 := 48) (u1 := 24) h0 h1]
    simp (disch := omega) only [fa_lit, nI_ad, nI_mul, nI_cl, inb_nI, nI_ltE, nI_leE, nI_eqE, nI_m1, nI_m1', m1_lt, lt_m1, m1_le, le_m1, eq_self, not_true_eq_false, not_false_eq_true, ↓reduceIte, leT, leF, ltT, ltF, eqT, eqF, decide_true, decide_false, true_and, and_true, Nat.reduceAdd, bI0_i, bI_i, bI_x, bV0_v, bV_v, bV_x, ↓bnd_e, gd_t] at k0
    exact k0
  | 6, _ =>
    have k0 := key (seS S 51 (S 25)) (by rw [seS_n (by omega)]; exact e1) (by rw [seS_n (by omega)]; exact e2)
    simp (disch := omega) only [fa_lit, nI_ad, nI_mul, nI_cl, inb_nI, nI_ltE, nI_leE, nI_eqE, nI_m1, nI_m1', m1_lt, lt_m1, m1_le, le_m1, eq_self, not_true_eq_false, not_false_eq_true, ↓reduceIte, leT, leF, ltT, ltF, eqT, eqF, decide_true, decide_false, true_and, and_true, Nat.reduceAdd, bI0_i, bI_i, bI_x, bV0_v, bV_v, bV_x, ↓bnd_e, gd_t, e1, x_copy (S := S) (u0 := 50) (u1 := 24) h0 h1]
    simp (disch := omega) only [fa_lit, nI_ad, nI_mul, nI_cl, inb_nI, nI_ltE, nI_leE, nI_eqE, nI_m1, nI_m1', m1_lt, lt_m1, m1_le, le_m1, eq_self, not_true_eq_false, not_false_eq_true, ↓reduceIte, leT, leF, ltT, ltF, eqT, eqF, decide_true, decide_false, true_and, and_true, Nat.reduceAdd, bI0_i, bI_i, bI_x, bV0_v, bV_v, bV_x, ↓bnd_e, gd_t] at k0
    exact k0
  | 7, _ =>
    have k0 := key (seS S 53 (S 25)) (by rw [seS_n (by omega)]; exact e1) (by rw [seS_n (by omega)]; exact e2)
    simp (disch := omega) only [fa_lit, nI_ad, nI_mul, nI_cl, inb_nI, nI_ltE, nI_leE, nI_eqE, nI_m1, nI_m1', m1_lt, lt_m1, m1_le, le_m1, eq_self, not_true_eq_false, not_false_eq_true, ↓reduceIte, leT, leF, ltT, ltF, eqT, eqF, decide_true, decide_false, true_and, and_true, Nat.reduceAdd, bI0_i, bI_i, bI_x, bV0_v, bV_v, bV_x, ↓bnd_e, gd_t, e1, x_copy (S := S) (u0 := 52) (u1 := 24) h0 h1]
    simp (disch := omega) only [fa_lit, nI_ad, nI_mul, nI_cl, inb_nI, nI_ltE, nI_leE, nI_eqE, nI_m1, nI_m1', m1_lt, lt_m1, m1_le, le_m1, eq_self, not_true_eq_false, not_false_eq_true, ↓reduceIte, leT, leF, ltT, ltF, eqT, eqF, decide_true, decide_false, true_and, and_true, Nat.reduceAdd, bI0_i, bI_i, bI_x, bV0_v, bV_v, bV_x, ↓bnd_e, gd_t] at k0
    exact k0
  | 8, _ =>
    have k0 := key (seS S 55 (S 25)) (by rw [seS_n (by omega)]; exact e1) (by rw [seS_n (by omega)]; exact e2)
    simp (disch := omega) only [fa_lit, nI_ad, nI_mul, nI_cl, inb_nI, nI_ltE, nI_leE, nI_eqE, nI_m1, nI_m1', m1_lt, lt_m1, m1_le, le_m1, eq_self, not_true_eq_false, not_false_eq_true, ↓reduceIte, leT, leF, ltT, ltF, eqT, eqF, decide_true, decide_false, true_and, and_true, Nat.reduceAdd, bI0_i, bI_i, bI_x, bV0_v, bV_v, bV_x, ↓bnd_e, gd_t, e1, x_copy (S := S) (u0 := 54) (u1 := 24) h0 h1]
    simp (disch := omega) only [fa_lit, nI_ad, nI_mul, nI_cl, inb_nI, nI_ltE, nI_leE, nI_eqE, nI_m1, nI_m1', m1_lt, lt_m1, m1_le, le_m1, eq_self, not_true_eq_false, not_false_eq_true, ↓reduceIte, leT, leF, ltT, ltF, eqT, eqF, decide_true, decide_false, true_and, and_true, Nat.reduceAdd, bI0_i, bI_i, bI_x, bV0_v, bV_v, bV_x, ↓bnd_e, gd_t] at k0
    exact k0
  | 9, _ =>
    have k0 := key (seS S 57 (S 25)) (by rw [seS_n (by omega)]; exact e1) (by rw [seS_n (by omega)]; exact e2)
    simp (disch := omega) only [fa_lit, nI_ad, nI_mul, nI_cl, inb_nI, nI_ltE, nI_leE, nI_eqE, nI_m1, nI_m1', m1_lt, lt_m1, m1_le, le_m1, eq_self, not_true_eq_false, not_false_eq_true, ↓reduceIte, leT, leF, ltT, ltF, eqT, eqF, decide_true, decide_false, true_and, and_true, Nat.reduceAdd, bI0_i, bI_i, bI_x, bV0_v, bV_v, bV_x, ↓bnd_e, gd_t, e1, x_copy (S := S) (u0 := 56) (u1 := 24) h0 h1]
    simp (disch := omega) only [fa_lit, nI_ad, nI_mul, nI_cl, inb_nI, nI_ltE, nI_leE, nI_eqE, nI_m1, nI_m1', m1_lt, lt_m1, m1_le, le_m1, eq_self, not_true_eq_false, not_false_eq_true, ↓reduceIte, leT, leF, ltT, ltF, eqT, eqF, decide_true, decide_false, true_and, and_true, Nat.reduceAdd, bI0_i, bI_i, bI_x, bV0_v, bV_v, bV_x, ↓bnd_e, gd_t] at k0
    exact k0
  | 10, _ =>
    have k0 := key (seS S 59 (S 25)) (by rw [seS_n (by omega)]; exact e1) (by rw [seS_n (by omega)]; exact e2)
    simp (disch := omega) only [fa_lit, nI_ad, nI_mul, nI_cl, inb_nI, nI_ltE, nI_leE, nI_eqE, nI_m1, nI_m1', m1_lt, lt_m1, m1_le, le_m1, eq_self, not_true_eq_false, not_false_eq_true, ↓reduceIte, leT, leF, ltT, ltF, eqT, eqF, decide_true, decide_false, true_and, and_true, Nat.reduceAdd, bI0_i, bI_i, bI_x, bV0_v, bV_v, bV_x, ↓bnd_e, gd_t, e1, x_copy (S := S) (u0 := 58) (u1 := 24) h0 h1]
    simp (disch := omega) only [fa_lit, nI_ad, nI_mul, nI_cl, inb_nI, nI_ltE, nI_leE, nI_eqE, nI_m1, nI_m1', m1_lt, lt_m1, m1_le, le_m1, eq_self, not_true_eq_false, not_false_eq_true, ↓reduceIte, leT, leF, ltT, ltF, eqT, eqF, decide_true, decide_false, true_and, and_true, Nat.reduceAdd, bI0_i, bI_i, bI_x, bV0_v, bV_v, bV_x, ↓bnd_e, gd_t] at k0
    exact k0
  | 11, _ =>
    have k0 := key (seS S 61 (S 25)) (by rw [seS_n (by omega)]; exact e1) (by rw [seS_n (by omega)]; exact e2)
    simp (disch := omega) only [fa_lit, nI_ad, nI_mul, nI_cl, inb_nI, nI_ltE, nI_leE, nI_eqE, nI_m1, nI_m1', m1_lt, lt_m1, m1_le, le_m1, eq_self, not_true_eq_false, not_false_eq_true, ↓reduceIte, leT, leF, ltT, ltF, eqT, eqF, decide_true, decide_false, true_and, and_true, Nat.reduceAdd, bI0_i, bI_i, bI_x, bV0_v, bV_v, bV_x, ↓bnd_e, gd_t, e1, x_copy (S := S) (u0 := 60) (u1 := 24) h0 h1]
    simp (disch := omega) only [fa_lit, nI_ad, nI_mul, nI_cl, inb_nI, nI_ltE, nI_leE, nI_eqE, nI_m1, nI_m1', m1_lt, lt_m1, m1_le, le_m1, eq_self, not_true_eq_false, not_false_eq_true, ↓reduceIte, leT, leF, ltT, ltF, eqT, eqF, decide_true, decide_false, true_and, and_true, Nat.reduceAdd, bI0_i, bI_i, bI_x, bV0_v, bV_v, bV_x, ↓bnd_e, gd_t] at k0
    exact k0
/-- what the model's row of acts is behind that -/
def actF (sz : Nat) (w g : Nat → Int32) : Nat → Int32 :=
  if sz < 12 then rngF (447 * sz) (447 * sz + 447) (fun j => w (j - 447 * sz)) g
  else rngF 4917 5364 (fun j => w (j - 4917)) (rngF 0 4917 (fun j => g (j + 447)) g)
theorem actF_old {sz j i : Nat} {w g : Nat → Int32} (h : sz < 12) (hj : j < sz) (hi : i < 447) : actF sz w g (447 * j + i) = g (447 * j + i) := by
  unfold actF; rw [if_pos h, rng_out (by omega)]
theorem actF_new {sz i : Nat} {w g : Nat → Int32} (h : sz < 12) (hi : i < 447) : actF sz w g (447 * sz + i) = w i := by
  unfold actF; rw [if_pos h, rng_in (by omega) (by omega)]; congr 1; omega
theorem actF_old' {j i : Nat} {w g : Nat → Int32} (hj : j < 11) (hi : i < 447) : actF 12 w g (447 * j + i) = g (447 * (j + 1) + i) := by
  unfold actF; rw [if_neg (by omega), rng_out (by omega), rng_in (by omega) (by omega)]; congr 1; omega
theorem actF_new' {i k : Nat} {w g : Nat → Int32} (hk : k = 4917 + i) (hi : i < 447) : actF 12 w g k = w i := by
  subst hk
  unfold actF; rw [if_neg (by omega), rng_in (by omega) (by omega), Nat.add_sub_cancel_left]
theorem m_remembers {F sz : Nat} {S : mS} (hF : 6000 ≤ F) (hs : sz ≤ 12) (e : S 63 7 = nI sz) :
    f_X10_remembers F S = some (.inl none, seS (upS S 63 7 (nI (if sz < 12 then sz + 1 else 12))) 68 (actF sz (S 64) (S 68))) := by
  unfold f_X10_remembers
  by_cases g : sz < 12
  · have h := m_remL (F := F) g 447 0 F (upS S 63 7 (nI (sz + 1))) (by omega) (by omega) (by rw [upS_s, upd_s])
    unfold f_X10_remembers_b53 actF
    rw [if_pos g, if_pos g]
    simp (disch := omega) only [fa_lit, nI_ad, nI_mul, nI_cl, inb_nI, nI_ltE, nI_leE, nI_eqE, nI_m1, nI_m1', m1_lt, lt_m1, m1_le, le_m1, eq_self, not_true_eq_false, not_false_eq_true, ↓reduceIte, leT, leF, ltT, ltF, eqT, eqF, decide_true, decide_false, true_and, and_true, Nat.reduceAdd, bI0_i, bI_i, bI_x, bV0_v, bV_v, bV_x, ↓bnd_e, gd_t, e]
    refine Eq.trans h ?_
    simp (disch := omega) only [upS_n, Nat.add_zero]
  · have hs12 : sz = 12 := by omega
    subst hs12
    have h2 := m_shiftL (F := F) 4917 0 F S (by omega) (by omega)
    have h := m_remL (F := F) (r := 11) (by omega) 447 0 F (seS S 68 (rngF 0 4917 (fun j => S 68 (j + 447)) (S 68))) (by omega) (by omega) (by rw [seS_n (by omega)]; exact e)
    unfold actF
    rw [if_neg g, if_neg g]
    simp (disch := omega) only [fa_lit, nI_ad, nI_mul, nI_cl, inb_nI, nI_ltE, nI_leE, nI_eqE, nI_m1, nI_m1', m1_lt, lt_m1, m1_le, le_m1, eq_self, not_true_eq_false, not_false_eq_true, ↓reduceIte, leT, leF, ltT, ltF, eqT, eqF, decide_true, decide_false, true_and, and_true, Nat.reduceAdd, bI0_i, bI_i, bI_x, bV0_v, bV_v, bV_x, ↓bnd_e, gd_t, e]
    refine Eq.trans h2 ?_
    unfold f_X10_remembers_b53
    refine Eq.trans h ?_
    have e7 : upS S 63 7 (nI 12) = S := by rw [up_def, upd_id e, se_id]
    simp (disch := omega) only [seS_n, seS_s, seS_seS, Nat.add_zero, e7]
theorem inv_b {S : mS} (hI : Inv S) : ∃ n nh nk A, n ≤ 10 ∧ S 25 12 = nI n ∧ nh ≤ 6 ∧ S 25 13 = nI nh ∧ nk ≤ 4 ∧ S 25 14 = nI nk ∧ LX A S 3 ∧ LW A ∧ LM A (S 64) ∧ Rg (S 25) ∧ cM (S 64) = S 25 := by
  obtain ⟨h1, h2, ⟨A, a1, a2, a3⟩, -⟩ := hI
  obtain ⟨n, hn, en⟩ := h1.n12
  obtain ⟨nh, hnh, enh⟩ := h1.n13
  obtain ⟨nk, hnk, enk⟩ := h1.n14
  exact ⟨n, nh, nk, A, hn, en, hnh, enh, hnk, enk, a2, a1, a3, h1, h2⟩
theorem ag_exc {S : mS} {fX fM : mS → Option mR} {cs : List Nat} {b : Int32} {e : Nat} (hI : Inv S) (j : Nat) (hj : cs[j]? = some e) (hj8 : j < 8) (hX : fX S = some (.inr e, S))
    (hM : ∀ T U, U = upS T 63 0 (nI 0) → U 64 = S 64 → fM T = some (.inl (some (.int b)), upS U 63 0 (nI (j + 1)))) : Ag fX fM cs S := by
  refine ⟨_, S, hX, fun T hT => ?_⟩
  refine ⟨b, _, hM T _ rfl (by rw [upS_n (by omega), hT 64 (by omega)]), ?_, j, hj, hj8, by rw [upS_s, upd_s]⟩
  refine Inv_same hI ⟨fun o ho => ?_, fun k hk => ?_, ?_⟩
  · unfold keepO at ho
    rw [upS_n (by omega), upS_n (by omega), hT o (by omega)]
  · rw [upS_s, upd_n (by omega), upS_s, upd_n (by omega), hT 63 (by omega)]
  · rw [upS_n (by omega), upS_n (by omega), hT 27 (by omega)]; exact hI.2.2.2.1
theorem ag_ok0 {S : mS} {fX fM : mS → Option mR} {cs : List Nat} {b : Int32} (hI : Inv S) (hX : fX S = some (.inl (some (.int b)), S))
    (hM : ∀ T U, U = upS T 63 0 (nI 0) → U 64 = S 64 → U 63 = upd (S 63) 0 (nI 0) → fM T = some (.inl (some (.int b)), U)) : Ag fX fM cs S := by
  refine ⟨_, S, hX, fun T hT => ?_⟩
  refine ⟨b, _, hM T _ rfl (by rw [upS_n (by omega), hT 64 (by omega)]) (by rw [upS_s, hT 63 (by omega)]), ?_, rfl, by rw [upS_s, upd_s]⟩
  refine Inv_same hI ⟨fun o ho => ?_, fun k hk => ?_, ?_⟩
  · unfold keepO at ho
    rw [upS_n (by omega), hT o (by omega)]
  · rw [upS_s, upd_n (by omega), hT 63 (by omega)]
  · rw [upS_n (by omega), hT 27 (by omega)]; exact hI.2.2.2.1
/-- an act -/
theorem Inv_act {S T : mS} {c' : Nat → Int32} {nx sz : Nat} (hI : Inv S) (hnx : nx < 12) (hsz : sz ≤ 12) (e1 : S 36 1 = nI nx) (e2 : S 36 2 = nI sz) (hc : Rg c')
    (h25 : T 25 = c') (h64 : T 64 = wO (S 64) c') (h361 : T 36 1 = nI ((nx + 1) % 12)) (h362 : T 36 2 = nI (if sz < 12 then sz + 1 else 12)) (hp : T (39 + 2 * nx) = S 25)
    (h637 : T 63 7 = nI (if sz < 12 then sz + 1 else 12)) (h63 : ∀ k, k = 6 ∨ k = 9 ∨ k = 14 → T 63 k = S 63 k) (h68 : T 68 = actF sz (S 64) (S 68))
    (ho : ∀ o, o < 75 → o ≠ 8 → o ≠ 9 → o ≠ 25 → o ≠ 36 → o ≠ 39 + 2 * nx → o ≠ 63 → o ≠ 64 → o ≠ 68 → o ≠ 71 → T o = S o) : Inv T := by
  obtain ⟨h1, h2, ⟨A, a1, a2, a3⟩, h4, h5, h6, h7, h8, h9⟩ := hI
  refine ⟨by rw [h25]; exact hc, by rw [h25, h64, cM_wO hc.2], ⟨A, a1, LX_of (fun o q1 q2 => ho o (by omega) (by omega) (by omega) (by omega) (by omega) (by omega) (by omega) (by omega) (by omega) (by omega)) a2, by rw [h64]; exact LM_wO a1 a3⟩, ?_, ?_, ?_, ?_, ?_, ?_⟩
  · rw [ho 27 (by omega) (by omega) (by omega) (by omega) (by omega) (by omega) (by omega) (by omega) (by omega) (by omega)]; exact h4
  · rw [ho 29 (by omega) (by omega) (by omega) (by omega) (by omega) (by omega) (by omega) (by omega) (by omega) (by omega)]; exact h5
  · rw [ho 0 (by omega) (by omega) (by omega) (by omega) (by omega) (by omega) (by omega) (by omega) (by omega) (by omega), h63 6 (by omega), ho 29 (by omega) (by omega) (by omega) (by omega) (by omega) (by omega) (by omega) (by omega) (by omega) (by omega), ho 65 (by omega) (by omega) (by omega) (by omega) (by omega) (by omega) (by omega) (by omega) (by omega) (by omega)]
    refine ⟨h6.1, ?_⟩
    rcases h6.2 with q | ⟨q1, q2, q3, q4⟩
    · exact Or.inl q
    · exact Or.inr ⟨q1, q2, q3, LR_of (fun o a b => ho o (by omega) (by omega) (by omega) (by omega) (by omega) (by omega) (by omega) (by omega) (by omega) (by omega)) q4⟩
  · obtain ⟨nx', sz', b1, b2, b3, b4, b5, b6, b7⟩ := h7
    have hx : nx' = nx := nI_inj (by omega) (by omega) (b3.symm.trans e1)
    have hs : sz' = sz := nI_inj (by omega) (by omega) (b4.symm.trans e2)
    subst hx; subst hs
    have hzb : ∀ i, i < 12 → zb (T (39 + 2 * i)) := by
      intro i hi
      by_cases e : i = nx'
      · subst e; rw [hp]; exact h1.2
      · rw [ho (39 + 2 * i) (by omega) (by omega) (by omega) (by omega) (by omega) (by omega) (by omega) (by omega) (by omega) (by omega)]; exact b6 i hi
    by_cases g : sz' < 12
    · rw [if_pos g] at h362 h637
      refine ⟨(nx' + 1) % 12, sz' + 1, by omega, by omega, h361, h362, h637, hzb, fun j hj => ?_⟩
      by_cases hjs : j < sz'
      · have ei : ((nx' + 1) % 12 + 12 - (sz' + 1) + j) % 12 = (nx' + 12 - sz' + j) % 12 := by omega
        rw [ei, ho (39 + 2 * ((nx' + 12 - sz' + j) % 12)) (by omega) (by omega) (by omega) (by omega) (by omega) (by omega) (by omega) (by omega) (by omega) (by omega)]
        obtain ⟨c1, c2, c3⟩ := b7 j hjs
        refine ⟨c1, ?_, ?_⟩
        · rw [← c2]
          funext i
          unfold cM
          split
          · rename_i hi
            have : pm i < 447 := by
              rcases Nat.lt_or_ge i 16 with q | q
              · have := pm_lo q; omega
              · rw [pm_hi q]; omega
            simp only [h68]
            rw [actF_old g hjs this]
          · rfl
        · rw [h68, actF_old g hjs (by omega), c3, h64, wO_out (Or.inl rfl)]
      · have hj2 : j = sz' := by omega
        subst hj2
        have ei : ((nx' + 1) % 12 + 12 - (j + 1) + j) % 12 = nx' := by omega
        rw [ei, hp]
        refine ⟨h1, ?_, ?_⟩
        · rw [← h2]
          funext i
          unfold cM
          split
          · rename_i hi
            have : pm i < 447 := by
              rcases Nat.lt_or_ge i 16 with q | q
              · have := pm_lo q; omega
              · rw [pm_hi q]; omega
            simp only [h68]
            rw [actF_new g this]
          · rfl
        · rw [h68, actF_new g (by omega), h64, wO_out (Or.inl rfl)]
    · have h12 : sz' = 12 := by omega
      subst h12
      rw [if_neg g] at h362 h637
      refine ⟨(nx' + 1) % 12, 12, by omega, by omega, h361, h362, h637, hzb, fun j hj => ?_⟩
      by_cases hjs : j < 11
      · have ei : ((nx' + 1) % 12 + 12 - 12 + j) % 12 = (nx' + 12 - 12 + (j + 1)) % 12 := by omega
        rw [ei, ho (39 + 2 * ((nx' + 12 - 12 + (j + 1)) % 12)) (by omega) (by omega) (by omega) (by omega) (by omega) (by omega) (by omega) (by omega) (by omega) (by omega)]
        obtain ⟨c1, c2, c3⟩ := b7 (j + 1) (by omega)
        refine ⟨c1, ?_, ?_⟩
        · rw [← c2]
          funext i
          unfold cM
          split
          · rename_i hi
            have : pm i < 447 := by
              rcases Nat.lt_or_ge i 16 with q | q
              · have := pm_lo q; omega
              · rw [pm_hi q]; omega
            simp only [h68]
            rw [actF_old' hjs this]
          · rfl
        · rw [h68, actF_old' hjs (by omega), c3, h64, wO_out (Or.inl rfl)]
      · have hj2 : j = 11 := by omega
        subst hj2
        have ei : ((nx' + 1) % 12 + 12 - 12 + 11) % 12 = nx' := by omega
        rw [ei, hp]
        refine ⟨h1, ?_, ?_⟩
        · rw [← h2]
          funext i
          unfold cM
          split
          · rename_i hi
            have : pm i < 447 := by
              rcases Nat.lt_or_ge i 16 with q | q
              · have := pm_lo q; omega
              · rw [pm_hi q]; omega
            simp only [h68]
            rw [actF_new' (i := pm i) (by omega) this]
          · rfl
        · rw [h68, actF_new' (i := 4) (by omega) (by omega), h64, wO_out (Or.inl rfl)]
  · obtain ⟨t, b1, b2, b3, b4⟩ := h8
    refine ⟨t, b1, ?_, by rw [h63 9 (by omega)]; exact b3, fun i hi => ?_⟩
    · rw [ho 1 (by omega) (by omega) (by omega) (by omega) (by omega) (by omega) (by omega) (by omega) (by omega) (by omega)]; exact b2
    · rw [ho 2 (by omega) (by omega) (by omega) (by omega) (by omega) (by omega) (by omega) (by omega) (by omega) (by omega), ho 69 (by omega) (by omega) (by omega) (by omega) (by omega) (by omega) (by omega) (by omega) (by omega) (by omega)]; exact b4 i hi
  · rw [ho 1 (by omega) (by omega) (by omega) (by omega) (by omega) (by omega) (by omega) (by omega) (by omega) (by omega), h63 14 (by omega)]; exact h9
theorem ag_act {F : Nat} {S : mS} {fX fM gX gM : mS → Option mR} {cs : List Nat} {c' : Nat → Int32} {r : Int32} (hF : 6000 ≤ F) (hI : Inv S) (hc : Rg c')
    (hX : fX S = bV0 (f_X5_remember S) gX)
    (hM : ∀ T U, U = upS T 63 0 (nI 0) → U 64 = S 64 → fM T = bV0 (f_X10_remembers F U) gM)
    (gx : ∀ S1, S1 25 = S 25 → (∀ o, o < 8 → S1 o = S o) → ∃ p q, gX S1 = some (.inl (some (.int r)), sX (seS S1 25 c') p q))
    (gm : ∀ T1, T1 64 = S 64 → ∃ a b q, gM T1 = some (.inl (some (.int r)), sM (seS T1 64 (wO (S 64) c')) a b q)) : Ag fX fM cs S := by
  have hI0 := hI
  obtain ⟨h1, h2, ⟨A, a1, a2, a3⟩, h4, h5, h6, ⟨nx, sz, b1, b2, b3, b4, b5, b6, b7⟩, h8, h9⟩ := hI
  have hr := x_remember b1 b3 b2 b4 (b6 nx b1) h1.2
  rw [hr, bV0_v] at hX
  obtain ⟨p, q, hg⟩ := gx (upS (upS (seS S (39 + 2 * nx) (S 25)) 36 1 (nI ((nx + 1) % 12))) 36 2 (nI (if sz < 12 then sz + 1 else 12))) (by rw [upS_n (by omega), upS_n (by omega), seS_n (by omega)]) (fun o ho => by rw [upS_n (by omega), upS_n (by omega), seS_n (by omega)])
  rw [hg] at hX
  refine ⟨_, _, hX, fun T hT => ?_⟩
  have eo : ∀ o, o < 75 → o ≠ 8 → o ≠ 9 → o ≠ 25 → o ≠ 36 → o ≠ 39 + 2 * nx → T o = S o := by
    intro o q1 q2 q3 q4 q5 q6
    rw [hT o q1, sX_n q2 q3, seS_n q4, upS_n q5, upS_n q5, seS_n q6]
  have e63 : (upS T 63 0 (nI 0)) 63 7 = nI sz := by rw [upS_s, upd_n (by omega), eo 63 (by omega) (by omega) (by omega) (by omega) (by omega) (by omega)]; exact b5
  have e64 : (upS T 63 0 (nI 0)) 64 = S 64 := by rw [upS_n (by omega), eo 64 (by omega) (by omega) (by omega) (by omega) (by omega) (by omega)]
  have hm := m_remembers hF b2 e63
  have hf := hM T _ rfl e64
  rw [hm, bV0_v] at hf
  obtain ⟨a, b, q', hg2⟩ := gm (seS (upS (upS T 63 0 (nI 0)) 63 7 (nI (if sz < 12 then sz + 1 else 12))) 68 (actF sz ((upS T 63 0 (nI 0)) 64) ((upS T 63 0 (nI 0)) 68))) (by rw [seS_n (by omega), upS_n (by omega)]; exact e64)
  rw [hg2] at hf
  refine ⟨r, _, hf, ?_, rfl, ?_⟩
  · refine Inv_act hI0 b1 b2 b3 b4 hc ?_ ?_ ?_ ?_ ?_ ?_ ?_ ?_ ?_
    · rw [sM_n (by omega) (by omega), seS_n (by omega), seS_n (by omega), upS_n (by omega), upS_n (by omega), hT 25 (by omega), sX_n (by omega) (by omega), seS_s]
    · rw [sM_n (by omega) (by omega), seS_s]
    · rw [sM_n (by omega) (by omega), seS_n (by omega), seS_n (by omega), upS_n (by omega), upS_n (by omega), hT 36 (by omega), sX_n (by omega) (by omega), seS_n (by omega), upS_s, upd_n (by omega), upS_s, upd_s]
    · rw [sM_n (by omega) (by omega), seS_n (by omega), seS_n (by omega), upS_n (by omega), upS_n (by omega), hT 36 (by omega), sX_n (by omega) (by omega), seS_n (by omega), upS_s, upd_s]
    · rw [sM_n (by omega) (by omega), seS_n (by omega), seS_n (by omega), upS_n (by omega), upS_n (by omega), hT (39 + 2 * nx) (by omega), sX_n (by omega) (by omega), seS_n (by omega), upS_n (by omega), upS_n (by omega), seS_s]
    · rw [sM_63, upd_n (by omega), upd_n (by omega), seS_n (by omega), seS_n (by omega), upS_s, upd_s]
    · intro k hk
      rw [sM_63, upd_n (by omega), upd_n (by omega), seS_n (by omega), seS_n (by omega), upS_s, upd_n (by omega), upS_s, upd_n (by omega), eo 63 (by omega) (by omega) (by omega) (by omega) (by omega) (by omega)]
    · rw [sM_n (by omega) (by omega), seS_n (by omega), seS_s, upS_n (by omega), upS_n (by omega), eo 64 (by omega) (by omega) (by omega) (by omega) (by omega) (by omega), eo 68 (by omega) (by omega) (by omega) (by omega) (by omega) (by omega)]
    · intro o q1 q2 q3 q4 q5 q6 q7 q8 q9 q10
      rw [sM_n q10 q7, seS_n q8, seS_n q9, upS_n q7, upS_n q7, eo o q1 q2 q3 q4 q5 q6]
  · rw [sM_63, upd_n (by omega), upd_n (by omega), seS_n (by omega), seS_n (by omega), upS_s, upd_n (by omega), upS_s, upd_s]
theorem cM_wOi {w c : Nat → Int32} {i : Nat} (h : i < 446) : cM (wO w c) i = c i := by
  rw [cM_lo h, wO_at (pm_ne h (Or.inl rfl)) ?_, pj_pm]
  rcases Nat.lt_or_ge i 16 with q | q
  · have := pm_lo q; omega
  · rw [pm_hi q]; omega
theorem zb_up {c : Nat → Int32} {k : Nat} {v : Int32} (hz : zb c) (hk : k < 446) : zb (upd c k v) := fun i hi => by rw [upd_n (by omega)]; exact hz i hi
theorem ag_act2 {F : Nat} {S : mS} {fX fM gX gM : mS → Option mR} {cs : List Nat} {c' : Nat → Int32} {r : Int32} (hF : 6000 ≤ F) (hI : Inv S) (hc : Rg c')
    (hX : fX S = bV0 (f_X5_remember S) gX)
    (hM : ∀ T U, U = upS T 63 0 (nI 0) → U 64 = S 64 → fM T = bV0 (f_X10_remembers F U) gM)
    (gx : ∀ S1 p q, (∀ o, o < 8 → S1 o = S o) → ∃ p' q', gX (sX (seS S1 25 (S 25)) p q) = some (.inl (some (.int r)), sX (seS S1 25 c') p' q'))
    (gm : ∀ T1 a b q, ∃ a' b' q', gM (sM (seS T1 64 (wO (S 64) (S 25))) a b q) = some (.inl (some (.int r)), sM (seS T1 64 (wO (S 64) c')) a' b' q')) : Ag fX fM cs S := by
  refine ag_act (r := r) hF hI hc hX hM (fun S1 e25 eo => ?_) (fun T1 e64 => ?_)
  · have h := gx S1 (S1 8) (S1 9) eo
    rw [← e25, se_id, sX_id] at h
    exact h
  · have h := gm T1 (T1 63 18) (T1 63 19) (T1 71)
    rw [← hI.2.1, wO_self, ← e64, se_id, sM_id] at h
    rw [← e64]; exact h
/-! seed, undo, image, back, end, feed, turn, clear, rest -/
theorem pm_447 {i : Nat} (hi : i < 446) : pm i < 447 := by
  rcases Nat.lt_or_ge i 16 with q | q
  · have := pm_lo q; omega
  · rw [pm_hi q]; omega
theorem cM_congr {w w' : Nat → Int32} (h : ∀ k, k < 447 → w k = w' k) : cM w = cM w' := by
  funext i
  unfold cM
  split
  · rename_i hi; exact h _ (pm_447 hi)
  · rfl
theorem Past_of {S T : mS} (h36 : T 36 1 = S 36 1 ∧ T 36 2 = S 36 2) (h63 : T 63 7 = S 63 7) (hp : ∀ i, i < 12 → T (39 + 2 * i) = S (39 + 2 * i)) (h68 : T 68 = S 68) (h4 : T 64 4 = S 64 4) (h : PastR S) : PastR T := by
  obtain ⟨nx, sz, b1, b2, b3, b4, b5, b6, b7⟩ := h
  refine ⟨nx, sz, b1, b2, by rw [h36.1]; exact b3, by rw [h36.2]; exact b4, by rw [h63]; exact b5, fun i hi => by rw [hp i hi]; exact b6 i hi, fun j hj => ?_⟩
  rw [hp _ (by omega), h68, h4]; exact b7 j hj
theorem Past_none {S T : mS} (h36 : T 36 1 = S 36 1 ∧ T 36 2 = nI 0) (h63 : T 63 7 = nI 0) (hp : ∀ i, i < 12 → T (39 + 2 * i) = S (39 + 2 * i)) (h : PastR S) : PastR T := by
  obtain ⟨nx, sz, b1, b2, b3, b4, b5, b6, b7⟩ := h
  exact ⟨nx, 0, b1, by omega, by rw [h36.1]; exact b3, h36.2, h63, fun i hi => by rw [hp i hi]; exact b6 i hi, fun j hj => absurd hj (by omega)⟩
theorem Tape_of {S T : mS} (h1 : T 1 1 = S 1 1) (h2 : T 2 = S 2) (h9 : T 63 9 = S 63 9) (h69 : T 69 = S 69) (h : TapeR S) : TapeR T := by
  obtain ⟨t, b1, b2, b3, b4⟩ := h
  exact ⟨t, b1, by rw [h1]; exact b2, by rw [h9]; exact b3, fun i hi => by rw [h2, h69]; exact b4 i hi⟩
def ImgR (S : mS) : Prop := S 0 13 = S 63 6 ∧ (S 0 13 = nI 0 ∨ S 0 13 = nI 1 ∧ Rg (S 29) ∧ cM (S 65) = S 29 ∧ LR S 17 (S 65))
theorem Img_of {S T : mS} (h0 : T 0 13 = S 0 13) (h6 : T 63 6 = S 63 6) (h29 : T 29 = S 29) (h65 : T 65 = S 65) (ho : ∀ o, 17 ≤ o → o ≤ 21 → T o = S o) (h : ImgR S) : ImgR T := by
  unfold ImgR at *
  rw [h0, h6, h29, h65]
  refine ⟨h.1, ?_⟩
  rcases h.2 with q | ⟨q1, q2, q3, q4⟩
  · exact Or.inl q
  · exact Or.inr ⟨q1, q2, q3, LR_of (fun o a b => ho o (by omega) (by omega)) q4⟩
theorem dec1 : ∀ b, b < 10 → (if nI 0 < nI b - nI 1 then nI b - nI 1 else nI 0) = nI (b - 1) := by decide
section O
variable {F : Nat} {S : mS}
theorem ag_seed {p1 : Int32} (hI : Inv S) : Ag (f_X9_seed p1) (f_X10_seed p1) [] S := by
  obtain ⟨h1, h2, ⟨A, a1, a2, a3⟩, h4, h5, h6, h7, h8, h9⟩ := hI
  refine ⟨.inl (some (.int (S 25 10))), upS S 25 10 p1, ?_, fun T hT => ?_⟩
  · unfold f_X9_seed
    simp (disch := omega) only [fa_lit, nI_ad, nI_mul, nI_cl, inb_nI, nI_ltE, nI_leE, nI_eqE, nI_m1, nI_m1', m1_lt, lt_m1, m1_le, le_m1, eq_self, not_true_eq_false, not_false_eq_true, ↓reduceIte, leT, leF, ltT, ltF, eqT, eqF, decide_true, decide_false, true_and, and_true, Nat.reduceAdd, bI0_i, bI_i, bI_x, bV0_v, bV_v, bV_x, ↓bnd_e, gd_t, x_at, x_put]
  · have e64 : T 64 = S 64 := by rw [hT 64 (by omega), upS_n (by omega)]
    refine ⟨S 25 10, upS (upS T 63 0 (nI 0)) 64 16 p1, ?_, ?_, rfl, by rw [upS_n (by omega), upS_s, upd_s]⟩
    · unfold f_X10_seed
      simp (disch := omega) only [fa_lit, nI_ad, nI_mul, nI_cl, inb_nI, nI_ltE, nI_leE, nI_eqE, nI_m1, nI_m1', m1_lt, lt_m1, m1_le, le_m1, eq_self, not_true_eq_false, not_false_eq_true, ↓reduceIte, leT, leF, ltT, ltF, eqT, eqF, decide_true, decide_false, true_and, and_true, Nat.reduceAdd, bI0_i, bI_i, bI_x, bV0_v, bV_v, bV_x, ↓bnd_e, gd_t, upS_n, e64]
      rw [w16 (S 64), h2]
    · have hc : Rg (upd (S 25) 10 p1) := h1.up (by omega) (fun b hb => by cases hb)
      have eo : ∀ o, o < 75 → o ≠ 25 → o ≠ 63 → o ≠ 64 → (upS (upS T 63 0 (nI 0)) 64 16 p1) o = S o := by
        intro o q1 q2 q3 q4
        rw [upS_n q4, upS_n q3, hT o q1, upS_n q2]
      have e63 : ∀ k, k ≠ 0 → (upS (upS T 63 0 (nI 0)) 64 16 p1) 63 k = S 63 k := by
        intro k hk
        rw [upS_n (by omega), upS_s, upd_n hk, hT 63 (by omega), upS_n (by omega)]
      have ew : (upS (upS T 63 0 (nI 0)) 64 16 p1) 64 = wO (S 64) (upd (S 25) 10 p1) := by
        rw [upS_s, upS_n (by omega), e64]
        conv => lhs; rw [← wO_self (w := S 64)]
        rw [up_wO (by omega) (by omega), h2, pj_16]
      refine ⟨?_, ?_, ⟨A, a1, LX_of (fun o q1 q2 => eo o (by omega) (by omega) (by omega) (by omega)) a2, by rw [ew]; exact LM_wO a1 a3⟩, ?_, ?_, ?_, ?_, ?_, ?_⟩
      · rw [upS_n (by omega), upS_n (by omega), hT 25 (by omega), upS_s]; exact hc
      · rw [ew, cM_wO hc.2, upS_n (by omega), upS_n (by omega), hT 25 (by omega), upS_s]
      · rw [eo 27 (by omega) (by omega) (by omega) (by omega)]; exact h4
      · rw [eo 29 (by omega) (by omega) (by omega) (by omega)]; exact h5
      · exact Img_of (by rw [eo 0 (by omega) (by omega) (by omega) (by omega)]) (e63 6 (by omega)) (eo 29 (by omega) (by omega) (by omega) (by omega)) (eo 65 (by omega) (by omega) (by omega) (by omega)) (fun o q1 q2 => eo o (by omega) (by omega) (by omega) (by omega)) h6
      · exact Past_of ⟨by rw [eo 36 (by omega) (by omega) (by omega) (by omega)], by rw [eo 36 (by omega) (by omega) (by omega) (by omega)]⟩ (e63 7 (by omega)) (fun i hi => eo _ (by omega) (by omega) (by omega) (by omega)) (eo 68 (by omega) (by omega) (by omega) (by omega)) (by rw [ew, wO_out (Or.inl rfl)]) h7
      · exact Tape_of (by rw [eo 1 (by omega) (by omega) (by omega) (by omega)]) (eo 2 (by omega) (by omega) (by omega) (by omega)) (e63 9 (by omega)) (eo 69 (by omega) (by omega) (by omega) (by omega)) h8
      · rw [eo 1 (by omega) (by omega) (by omega) (by omega), e63 14 (by omega)]; exact h9
theorem ag_end {p1 : Int32} (hI : Inv S) : Ag (f_X9_end p1) (f_X10_end p1) [] S := by
  have hI0 := hI
  obtain ⟨h1, h2, ⟨A, a1, a2, a3⟩, h4, h5, h6, h7, h8, h9⟩ := hI
  obtain ⟨t, b1, b2, b3, b4⟩ := h8
  by_cases g : ∃ m, m < t + 1 ∧ p1 = nI m
  · obtain ⟨m, hm, rfl⟩ := g
    refine ⟨.inl (some (.int (nI 1))), upS S 1 1 (nI m), ?_, fun T hT => ?_⟩
    · unfold f_X9_end f_X8_size f_X8_cut
      simp (disch := omega) only [fa_lit, nI_ad, nI_mul, nI_cl, inb_nI, nI_ltE, nI_leE, nI_eqE, nI_m1, nI_m1', m1_lt, lt_m1, m1_le, le_m1, eq_self, not_true_eq_false, not_false_eq_true, ↓reduceIte, leT, leF, ltT, ltF, eqT, eqF, decide_true, decide_false, true_and, and_true, Nat.reduceAdd, bI0_i, bI_i, bI_x, bV0_v, bV_v, bV_x, ↓bnd_e, gd_t, b2, and10]
    · refine ⟨nI 1, upS (upS T 63 0 (nI 0)) 63 9 (nI m), ?_, ?_, rfl, by rw [upS_s, upd_n (by omega), upS_s, upd_s]⟩
      · have e9 : (upS T 63 0 (nI 0)) 63 9 = nI t := by rw [upS_s, upd_n (by omega), hT 63 (by omega), upS_n (by omega)]; exact b3
        unfold f_X10_end
        simp (disch := omega) only [fa_lit, nI_ad, nI_mul, nI_cl, inb_nI, nI_ltE, nI_leE, nI_eqE, nI_m1, nI_m1', m1_lt, lt_m1, m1_le, le_m1, eq_self, not_true_eq_false, not_false_eq_true, ↓reduceIte, leT, leF, ltT, ltF, eqT, eqF, decide_true, decide_false, true_and, and_true, Nat.reduceAdd, bI0_i, bI_i, bI_x, bV0_v, bV_v, bV_x, ↓bnd_e, gd_t, e9, and10]
      · have eo : ∀ o, o < 75 → o ≠ 1 → o ≠ 63 → (upS (upS T 63 0 (nI 0)) 63 9 (nI m)) o = S o := by
          intro o q1 q2 q3
          rw [upS_n q3, upS_n q3, hT o q1, upS_n q2]
        have e63 : ∀ k, k ≠ 0 → k ≠ 9 → (upS (upS T 63 0 (nI 0)) 63 9 (nI m)) 63 k = S 63 k := by
          intro k hk hk2
          rw [upS_s, upd_n hk2, upS_s, upd_n hk, hT 63 (by omega), upS_n (by omega)]
        have e1 : (upS (upS T 63 0 (nI 0)) 63 9 (nI m)) 1 = upd (S 1) 1 (nI m) := by
          rw [upS_n (by omega), upS_n (by omega), hT 1 (by omega), upS_s]
        refine ⟨by rw [eo 25 (by omega) (by omega) (by omega)]; exact h1, by rw [eo 25 (by omega) (by omega) (by omega), eo 64 (by omega) (by omega) (by omega)]; exact h2, ⟨A, a1, LX_of (fun o q1 q2 => eo o (by omega) (by omega) (by omega)) a2, by rw [eo 64 (by omega) (by omega) (by omega)]; exact a3⟩, ?_, ?_, ?_, ?_, ?_, ?_⟩
        · rw [eo 27 (by omega) (by omega) (by omega)]; exact h4
        · rw [eo 29 (by omega) (by omega) (by omega)]; exact h5
        · exact Img_of (by rw [eo 0 (by omega) (by omega) (by omega)]) (e63 6 (by omega) (by omega)) (eo 29 (by omega) (by omega) (by omega)) (eo 65 (by omega) (by omega) (by omega)) (fun o q1 q2 => eo o (by omega) (by omega) (by omega)) h6
        · exact Past_of ⟨by rw [eo 36 (by omega) (by omega) (by omega)], by rw [eo 36 (by omega) (by omega) (by omega)]⟩ (e63 7 (by omega) (by omega)) (fun i hi => eo _ (by omega) (by omega) (by omega)) (eo 68 (by omega) (by omega) (by omega)) (by rw [eo 64 (by omega) (by omega) (by omega)]) h7
        · refine ⟨m, by omega, by rw [e1, upd_s], by rw [upS_s, upd_s], fun i hi => ?_⟩
          rw [eo 2 (by omega) (by omega) (by omega), eo 69 (by omega) (by omega) (by omega)]; exact b4 i (by omega)
        · rw [e1, upd_n (by omega), e63 14 (by omega) (by omega)]; exact h9
  · refine ag_ok0 (b := nI 0) hI0 ?_ (fun T U hU h64 h63 => ?_)
    · unfold f_X9_end f_X9_end_b15 f_X8_size
      rcases bad_idx (by omega) g with g1 | g1
      · simp (disch := omega) only [fa_lit, nI_ad, nI_mul, nI_cl, inb_nI, nI_ltE, nI_leE, nI_eqE, nI_m1, nI_m1', m1_lt, lt_m1, m1_le, le_m1, eq_self, not_true_eq_false, not_false_eq_true, ↓reduceIte, leT, leF, ltT, ltF, eqT, eqF, decide_true, decide_false, true_and, and_true, Nat.reduceAdd, bI0_i, bI_i, bI_x, bV0_v, bV_v, bV_x, ↓bnd_e, gd_t, g1, and00]
      · have g2 : ¬ p1 ≤ nI t := fun q => g1 (by rw [Int32.lt_iff_toInt_lt, nI_toInt (by omega)]; rw [Int32.le_iff_toInt_le, nI_toInt (by omega)] at q; omega)
        simp (disch := omega) only [fa_lit, nI_ad, nI_mul, nI_cl, inb_nI, nI_ltE, nI_leE, nI_eqE, nI_m1, nI_m1', m1_lt, lt_m1, m1_le, le_m1, eq_self, not_true_eq_false, not_false_eq_true, ↓reduceIte, leT, leF, ltT, ltF, eqT, eqF, decide_true, decide_false, true_and, and_true, Nat.reduceAdd, bI0_i, bI_i, bI_x, bV0_v, bV_v, bV_x, ↓bnd_e, gd_t, b2, g2, and00, ite_self]
    · have e9 : U 63 9 = nI t := by rw [h63, upd_n (by omega)]; exact b3
      unfold f_X10_end f_X10_end_b17; rw [bnd_e, show upS T 63 0 (0 : Int32) = U from hU.symm]
      rcases bad_idx (by omega) g with g1 | g1
      · simp (disch := omega) only [fa_lit, nI_ad, nI_mul, nI_cl, inb_nI, nI_ltE, nI_leE, nI_eqE, nI_m1, nI_m1', m1_lt, lt_m1, m1_le, le_m1, eq_self, not_true_eq_false, not_false_eq_true, ↓reduceIte, leT, leF, ltT, ltF, eqT, eqF, decide_true, decide_false, true_and, and_true, Nat.reduceAdd, bI0_i, bI_i, bI_x, bV0_v, bV_v, bV_x, ↓bnd_e, gd_t, g1, and00]
      · have g2 : ¬ p1 ≤ nI t := fun q => g1 (by rw [Int32.lt_iff_toInt_lt, nI_toInt (by omega)]; rw [Int32.le_iff_toInt_le, nI_toInt (by omega)] at q; omega)
        simp (disch := omega) only [fa_lit, nI_ad, nI_mul, nI_cl, inb_nI, nI_ltE, nI_leE, nI_eqE, nI_m1, nI_m1', m1_lt, lt_m1, m1_le, le_m1, eq_self, not_true_eq_false, not_false_eq_true, ↓reduceIte, leT, leF, ltT, ltF, eqT, eqF, decide_true, decide_false, true_and, and_true, Nat.reduceAdd, bI0_i, bI_i, bI_x, bV0_v, bV_v, bV_x, ↓bnd_e, gd_t, e9, g2, and00, ite_self]
theorem ag_turn (hF : 6000 ≤ F) (hI : Inv S) : Ag f_X9_turn (f_X10_turn F) [] S := by
  have h1 := hI.1
  obtain ⟨f, hf, ef⟩ := h1.1 1 999 rfl
  refine ag_act2 (r := nI (f / 2)) (c' := upd (S 25) 1 (nI (f / 2))) hF hI (h1.up (by omega) (fun b hb => by cases hb; exact ⟨f / 2, by omega, rfl⟩)) (by unfold f_X9_turn; rfl) (fun T U hU h64 => by subst hU; unfold f_X10_turn; rfl) (fun S1 p q _ => ⟨p, q, ?_⟩) (fun T1 a b q => ⟨a, b, q, ?_⟩)
  · simp (disch := omega) only [fa_lit, nI_ad, nI_mul, nI_cl, inb_nI, nI_ltE, nI_leE, nI_eqE, nI_m1, nI_m1', m1_lt, lt_m1, m1_le, le_m1, eq_self, not_true_eq_false, not_false_eq_true, ↓reduceIte, leT, leF, ltT, ltF, eqT, eqF, decide_true, decide_false, true_and, and_true, Nat.reduceAdd, bI0_i, bI_i, bI_x, bV0_v, bV_v, bV_x, ↓bnd_e, gd_t, x_at, x_put, at_x, up_x, ef, nI_div, upd_s]
  · simp (disch := omega) only [fa_lit, nI_ad, nI_mul, nI_cl, inb_nI, nI_ltE, nI_leE, nI_eqE, nI_m1, nI_m1', m1_lt, lt_m1, m1_le, le_m1, eq_self, not_true_eq_false, not_false_eq_true, ↓reduceIte, leT, leF, ltT, ltF, eqT, eqF, decide_true, decide_false, true_and, and_true, Nat.reduceAdd, bI0_i, bI_i, bI_x, bV0_v, bV_v, bV_x, ↓bnd_e, gd_t, at_m, cM_wOi, wO_at, up_m, pj_l, pj_h, pj_k, pj_0, pj_1, pj_2, pj_3, pj_5, pj_6, pj_7, pj_8, pj_9, pj_10, pj_11, pj_12, pj_13, pj_14, pj_15, pj_16, ef, nI_div, upd_s]
theorem ag_clear {p1 : Int32} (hF : 6000 ≤ F) (hI : Inv S) : Ag (f_X9_clear p1) (f_X10_clear F p1) [3] S := by
  obtain ⟨n, nh, nk, A, hn, en, hnh, enh, hnk, enk, hX, hW, hM, hR, hC⟩ := inv_b hI
  by_cases g1 : ∃ l, l < n ∧ p1 = nI l
  · obtain ⟨l, hl, rfl⟩ := g1
    obtain ⟨b, hb, eb⟩ := hR.birds (show l < 10 by omega)
    have hR2 : Rg (upd (upd (upd (S 25) (16 + l * 5 + 2) (nI 0)) (16 + l * 5 + 3) (nI 0)) (16 + l * 5 + 4) (nI (b - 1))) :=
      ((hR.up (by omega) (fun b hb => ⟨0, by omega, rfl⟩)).up (by omega) (fun b hb => ⟨0, by omega, rfl⟩)).up (by omega) (fun b' hb' => by rw [lim_ledge l (by omega) 4 (by omega)] at hb'; cases hb'; exact ⟨b - 1, by simp only [Nat.reduceEqDiff, ↓reduceIte]; omega, rfl⟩)
    have emx := dec1 b (by omega)
    refine ag_act2 (r := S 25 (16 + l * 5 + 2)) hF hI hR2 (gX := _) (gM := _) (by unfold f_X9_clear; rw [x_needLedge hn en hl, bV_v]) (fun T U hU h64 => by
      have en' : cM (U 64) 12 = nI n := by rw [h64, hC]; exact en
      unfold f_X10_clear; rw [bnd_e, show upS T 63 0 (0 : Int32) = U from hU.symm]
      simp (disch := omega) only [fa_lit, nI_ad, nI_mul, nI_cl, inb_nI, nI_ltE, nI_leE, nI_eqE, nI_m1, nI_m1', m1_lt, lt_m1, m1_le, le_m1, eq_self, not_true_eq_false, not_false_eq_true, ↓reduceIte, leT, leF, ltT, ltF, eqT, eqF, decide_true, decide_false, true_and, and_true, Nat.reduceAdd, bI0_i, bI_i, bI_x, bV0_v, bV_v, bV_x, ↓bnd_e, gd_t, m_noLedge hn en' hl, m_throw0]
      rfl) (fun S1 p q _ => ⟨p, q, ?_⟩) (fun T1 a b q => ⟨a, b, q, ?_⟩)
    · simp (disch := omega) only [fa_lit, nI_ad, nI_mul, nI_cl, inb_nI, nI_ltE, nI_leE, nI_eqE, nI_m1, nI_m1', m1_lt, lt_m1, m1_le, le_m1, eq_self, not_true_eq_false, not_false_eq_true, ↓reduceIte, leT, leF, ltT, ltF, eqT, eqF, decide_true, decide_false, true_and, and_true, Nat.reduceAdd, bI0_i, bI_i, bI_x, bV0_v, bV_v, bV_x, ↓bnd_e, gd_t, x_ofLedge, x_putLedge, at_x, up_x, upd_n, eb, emx]
    · simp (disch := omega) only [fa_lit, nI_ad, nI_mul, nI_cl, inb_nI, nI_ltE, nI_leE, nI_eqE, nI_m1, nI_m1', m1_lt, lt_m1, m1_le, le_m1, eq_self, not_true_eq_false, not_false_eq_true, ↓reduceIte, leT, leF, ltT, ltF, eqT, eqF, decide_true, decide_false, true_and, and_true, Nat.reduceAdd, bI0_i, bI_i, bI_x, bV0_v, bV_v, bV_x, ↓bnd_e, gd_t, m_of, m_at, at_m, cM_wOi, wO_at, up_m, pj_l, pj_h, pj_k, pj_0, pj_1, pj_2, pj_3, pj_5, pj_6, pj_7, pj_8, pj_9, pj_10, pj_11, pj_12, pj_13, pj_14, pj_15, pj_16, upd_n, eb, emx]
  · refine ag_exc (b := nI 0) hI 0 rfl (by omega) ?_ (fun T U hU h64 => ?_)
    · unfold f_X9_clear
      simp (disch := omega) only [fa_lit, nI_ad, nI_mul, nI_cl, inb_nI, nI_ltE, nI_leE, nI_eqE, nI_m1, nI_m1', m1_lt, lt_m1, m1_le, le_m1, eq_self, not_true_eq_false, not_false_eq_true, ↓reduceIte, leT, leF, ltT, ltF, eqT, eqF, decide_true, decide_false, true_and, and_true, Nat.reduceAdd, bI0_i, bI_i, bI_x, bV0_v, bV_v, bV_x, ↓bnd_e, gd_t, x_needLedge_x hn en g1]
    · have en' : cM (U 64) 12 = nI n := by rw [h64, hC]; exact en
      unfold f_X10_clear; rw [bnd_e, show upS T 63 0 (0 : Int32) = U from hU.symm]
      simp (disch := omega) only [fa_lit, nI_ad, nI_mul, nI_cl, inb_nI, nI_ltE, nI_leE, nI_eqE, nI_m1, nI_m1', m1_lt, lt_m1, m1_le, le_m1, eq_self, not_true_eq_false, not_false_eq_true, ↓reduceIte, leT, leF, ltT, ltF, eqT, eqF, decide_true, decide_false, true_and, and_true, Nat.reduceAdd, bI0_i, bI_i, bI_x, bV0_v, bV_v, bV_x, ↓bnd_e, gd_t, m_noLedge_x hn en' g1, m_throw]
theorem ag_rest {p1 : Int32} (hF : 6000 ≤ F) (hI : Inv S) : Ag (f_X9_rest p1) (f_X10_rest F p1) [3] S := by
  obtain ⟨n, nh, nk, A, hn, en, hnh, enh, hnk, enk, hX, hW, hM, hR, hC⟩ := inv_b hI
  by_cases g1 : ∃ l, l < nh ∧ p1 = nI l
  · obtain ⟨l, hl, rfl⟩ := g1
    have hR2 : Rg (upd (S 25) (66 + l * 2 + 1) (nI 0)) := hR.up (by omega) (fun b hb => ⟨0, by omega, rfl⟩)
    refine ag_act2 (r := S 25 (66 + l * 2 + 1)) hF hI hR2 (gX := _) (gM := _) (by unfold f_X9_rest; rw [x_needHolder hnh enh hl, bV_v]) (fun T U hU h64 => by
      have en' : cM (U 64) 13 = nI nh := by rw [h64, hC]; exact enh
      unfold f_X10_rest; rw [bnd_e, show upS T 63 0 (0 : Int32) = U from hU.symm]
      simp (disch := omega) only [fa_lit, nI_ad, nI_mul, nI_cl, inb_nI, nI_ltE, nI_leE, nI_eqE, nI_m1, nI_m1', m1_lt, lt_m1, m1_le, le_m1, eq_self, not_true_eq_false, not_false_eq_true, ↓reduceIte, leT, leF, ltT, ltF, eqT, eqF, decide_true, decide_false, true_and, and_true, Nat.reduceAdd, bI0_i, bI_i, bI_x, bV0_v, bV_v, bV_x, ↓bnd_e, gd_t, m_noHolder hnh en' hl, m_throw0]
      rfl) (fun S1 p q _ => ⟨p, q, ?_⟩) (fun T1 a b q => ⟨a, b, q, ?_⟩)
    · simp (disch := omega) only [fa_lit, nI_ad, nI_mul, nI_cl, inb_nI, nI_ltE, nI_leE, nI_eqE, nI_m1, nI_m1', m1_lt, lt_m1, m1_le, le_m1, eq_self, not_true_eq_false, not_false_eq_true, ↓reduceIte, leT, leF, ltT, ltF, eqT, eqF, decide_true, decide_false, true_and, and_true, Nat.reduceAdd, bI0_i, bI_i, bI_x, bV0_v, bV_v, bV_x, ↓bnd_e, gd_t, x_ofHolder, x_putHolder, at_x, up_x, upd_n]
    · simp (disch := omega) only [fa_lit, nI_ad, nI_mul, nI_cl, inb_nI, nI_ltE, nI_leE, nI_eqE, nI_m1, nI_m1', m1_lt, lt_m1, m1_le, le_m1, eq_self, not_true_eq_false, not_false_eq_true, ↓reduceIte, leT, leF, ltT, ltF, eqT, eqF, decide_true, decide_false, true_and, and_true, Nat.reduceAdd, bI0_i, bI_i, bI_x, bV0_v, bV_v, bV_x, ↓bnd_e, gd_t, m_ofHolder, m_at, at_m, cM_wOi, wO_at, up_m, pj_l, pj_h, pj_k, pj_0, pj_1, pj_2, pj_3, pj_5, pj_6, pj_7, pj_8, pj_9, pj_10, pj_11, pj_12, pj_13, pj_14, pj_15, pj_16, upd_n]
  · refine ag_exc (b := nI 0) hI 0 rfl (by omega) ?_ (fun T U hU h64 => ?_)
    · unfold f_X9_rest
      simp (disch := omega) only [fa_lit, nI_ad, nI_mul, nI_cl, inb_nI, nI_ltE, nI_leE, nI_eqE, nI_m1, nI_m1', m1_lt, lt_m1, m1_le, le_m1, eq_self, not_true_eq_false, not_false_eq_true, ↓reduceIte, leT, leF, ltT, ltF, eqT, eqF, decide_true, decide_false, true_and, and_true, Nat.reduceAdd, bI0_i, bI_i, bI_x, bV0_v, bV_v, bV_x, ↓bnd_e, gd_t, x_needHolder_x hnh enh g1]
    · have en' : cM (U 64) 13 = nI nh := by rw [h64, hC]; exact enh
      unfold f_X10_rest; rw [bnd_e, show upS T 63 0 (0 : Int32) = U from hU.symm]
      simp (disch := omega) only [fa_lit, nI_ad, nI_mul, nI_cl, inb_nI, nI_ltE, nI_leE, nI_eqE, nI_m1, nI_m1', m1_lt, lt_m1, m1_le, le_m1, eq_self, not_true_eq_false, not_false_eq_true, ↓reduceIte, leT, leF, ltT, ltF, eqT, eqF, decide_true, decide_false, true_and, and_true, Nat.reduceAdd, bI0_i, bI_i, bI_x, bV0_v, bV_v, bV_x, ↓bnd_e, gd_t, m_noHolder_x hnh en' g1, m_throw]
end O
/-! undo, image, back, feed -/
section O
variable {F : Nat} {S : mS}
theorem cpy_at {f g : Nat → Int32} {n i : Nat} (h : i < n) : va_cpy f g 0 0 n i = f i := by
  unfold va_cpy; rw [if_pos (by omega)]; congr 1; omega
theorem z446 (n : Int32) (m : Nat) (h : decide (¬ (0 : Int32) < 0 ∧ ¬ (0 : Int32) < 0 ∧ ¬ n < 0 ∧ (0 : Int32).toNatClampNeg + n.toNatClampNeg ≤ m ∧ (0 : Int32).toNatClampNeg + n.toNatClampNeg ≤ m) = true) : True := trivial
/-- a law is copied -/
theorem x_lawcopy {u0 u1 : Nat} (h : u0 + 4 < u1 ∨ u1 + 4 < u0) : ∃ S', f_X2_copy u0 u1 S = some (.inl none, S') ∧ (∀ A, LW A → LX A S u1 → LX A S' u0) ∧ ∀ o, o < u0 ∨ u0 + 4 < o → S' o = S o := by
  have c12 : decide (¬ ((0 : Int32)) < 0 ∧ ¬ ((0 : Int32)) < 0 ∧ ¬ ((12 : Int32)) < 0 ∧ ((0 : Int32)).toNatClampNeg + ((12 : Int32)).toNatClampNeg ≤ 12 ∧ ((0 : Int32)).toNatClampNeg + ((12 : Int32)).toNatClampNeg ≤ 12) = true := by decide
  have c400 : decide (¬ ((0 : Int32)) < 0 ∧ ¬ ((0 : Int32)) < 0 ∧ ¬ ((400 : Int32)) < 0 ∧ ((0 : Int32)).toNatClampNeg + ((400 : Int32)).toNatClampNeg ≤ 400 ∧ ((0 : Int32)).toNatClampNeg + ((400 : Int32)).toNatClampNeg ≤ 400) = true := by decide
  have d0 : ((0 : Int32)).toNatClampNeg = 0 := by decide
  have d12 : ((12 : Int32)).toNatClampNeg = 12 := by decide
  have d400 : ((400 : Int32)).toNatClampNeg = 400 := by decide
  unfold f_X2_copy
  simp only [c12, c400, gd_t, bnd_e, d0, d12, d400]
  refine ⟨_, rfl, fun A hW hA => ?_, fun o ho => ?_⟩
  · unfold LX at *
    split at hA
    · simp (disch := omega) only [upS_s, upS_n, upd_s, upd_n, seS_n, seS_s]; exact hA
    · obtain ⟨a1, a2, a3⟩ := hA
      have hn := hW.1
      refine ⟨?_, fun i hi => ?_, fun j hj i hi => ?_⟩
      · simp (disch := omega) only [upS_s, upS_n, upd_s, upd_n, seS_n, seS_s]; exact a1
      · simp (disch := omega) only [upS_s, upS_n, upd_s, upd_n, seS_n, seS_s, cpy_at]; exact a2 i hi
      · have := (hW.2 j hj).2.2.2.1
        simp (disch := omega) only [upS_s, upS_n, upd_s, upd_n, seS_n, seS_s, cpy_at]; exact a3 j hj i hi
  · simp (disch := omega) only [upS_n, seS_n]
def AgV (fX fM : mS → Option mR) (S : mS) : Prop := ∃ S1, fX S = some (.inl none, S1) ∧ ∀ T, (∀ o, o < 75 → T o = S1 o) → ∃ T2, fM T = some (.inl none, T2) ∧ Inv T2
theorem ag_image (hF : 6000 ≤ F) (hI : Inv S) : AgV f_X9_image (f_X10_image F) S := by
  obtain ⟨h1, h2, ⟨A, a1, a2, a3⟩, h4, h5, h6, h7, h8, h9⟩ := hI
  obtain ⟨S2, g1, g2, g3⟩ := x_lawcopy (S := seS S 29 (S 25)) (u0 := 17) (u1 := 3) (by omega)
  have eS : ∀ o, o < 17 ∨ 21 < o → o ≠ 29 → S2 o = S o := fun o q1 q2 => by rw [g3 o (by omega), seS_n q2]
  refine ⟨upS S2 0 13 (nI 1), ?_, fun T hT => ?_⟩
  · unfold f_X9_image
    simp (disch := omega) only [fa_lit, nI_ad, nI_mul, nI_cl, inb_nI, nI_ltE, nI_leE, nI_eqE, nI_m1, nI_m1', m1_lt, lt_m1, m1_le, le_m1, eq_self, not_true_eq_false, not_false_eq_true, ↓reduceIte, leT, leF, ltT, ltF, eqT, eqF, decide_true, decide_false, true_and, and_true, Nat.reduceAdd, bI0_i, bI_i, bI_x, bV0_v, bV_v, bV_x, ↓bnd_e, gd_t, x_copy (S := S) (u0 := 28) (u1 := 24) h5 h1.2, g1]
  · have hL : LX A S2 17 := g2 A a1 (LX_of (fun o q1 q2 => seS_n (by omega)) a2)
    have e64 : T 64 = S 64 := by rw [hT 64 (by omega), upS_n (by omega), eS 64 (by omega) (by omega)]
    have h := m_imageL (F := F) 1296 0 F (upS T 63 0 (nI 0)) (by omega) (by omega)
    refine ⟨_, ?_, ?_⟩
    · unfold f_X10_image
      rw [bnd_e]
      exact h
    · have eo : ∀ o, o < 75 → o ≠ 0 → o < 17 ∨ 21 < o → o ≠ 29 → o ≠ 63 → o ≠ 65 → (upS (seS (upS T 63 0 (nI 0)) 65 (rngF 0 1296 ((upS T 63 0 (nI 0)) 64) ((upS T 63 0 (nI 0)) 65))) 63 6 (nI 1)) o = S o := by
        intro o q1 q2 q3 q4 q5 q6
        rw [upS_n q5, seS_n q6, upS_n q5, hT o q1, upS_n q2, eS o q3 q4]
      have e63 : ∀ k, k ≠ 0 → k ≠ 6 → (upS (seS (upS T 63 0 (nI 0)) 65 (rngF 0 1296 ((upS T 63 0 (nI 0)) 64) ((upS T 63 0 (nI 0)) 65))) 63 6 (nI 1)) 63 k = S 63 k := by
        intro k q1 q2
        rw [upS_s, upd_n q2, seS_n (by omega), upS_s, upd_n q1, hT 63 (by omega), upS_n (by omega), eS 63 (by omega) (by omega)]
      have e65 : ∀ k, k < 1296 → (upS (seS (upS T 63 0 (nI 0)) 65 (rngF 0 1296 ((upS T 63 0 (nI 0)) 64) ((upS T 63 0 (nI 0)) 65))) 63 6 (nI 1)) 65 k = S 64 k := by
        intro k hk
        rw [upS_n (by omega), seS_s, rng_in (by omega) hk, upS_n (by omega), e64]
      have e29 : (upS (seS (upS T 63 0 (nI 0)) 65 (rngF 0 1296 ((upS T 63 0 (nI 0)) 64) ((upS T 63 0 (nI 0)) 65))) 63 6 (nI 1)) 29 = S 25 := by
        rw [upS_n (by omega), seS_n (by omega), upS_n (by omega), hT 29 (by omega), upS_n (by omega), g3 29 (by omega), seS_s]
      have e17 : ∀ o, 17 ≤ o → o ≤ 21 → (upS (seS (upS T 63 0 (nI 0)) 65 (rngF 0 1296 ((upS T 63 0 (nI 0)) 64) ((upS T 63 0 (nI 0)) 65))) 63 6 (nI 1)) o = S2 o := by
        intro o q1 q2
        rw [upS_n (by omega), seS_n (by omega), upS_n (by omega), hT o (by omega), upS_n (by omega)]
      refine ⟨?_, ?_, ⟨A, a1, LX_of (fun o q1 q2 => eo o (by omega) (by omega) (by omega) (by omega) (by omega) (by omega)) a2, ?_⟩, ?_, ?_, ⟨?_, Or.inr ⟨?_, ?_, ?_, A, a1, LX_of (fun o q1 q2 => e17 o (by omega) (by omega)) hL, ?_⟩⟩, ?_, ?_, ?_⟩
      · rw [eo 25 (by omega) (by omega) (by omega) (by omega) (by omega) (by omega)]; exact h1
      · rw [eo 25 (by omega) (by omega) (by omega) (by omega) (by omega) (by omega), eo 64 (by omega) (by omega) (by omega) (by omega) (by omega) (by omega)]; exact h2
      · rw [eo 64 (by omega) (by omega) (by omega) (by omega) (by omega) (by omega)]; exact a3
      · rw [eo 27 (by omega) (by omega) (by omega) (by omega) (by omega) (by omega)]; exact h4
      · rw [e29]; exact h1.2
      · rw [upS_s, upd_s, upS_n (by omega), seS_n (by omega), upS_n (by omega), hT 0 (by omega), upS_s, upd_s]
      · rw [upS_n (by omega), seS_n (by omega), upS_n (by omega), hT 0 (by omega), upS_s, upd_s]
      · rw [e29]; exact h1
      · rw [e29, ← h2]; exact cM_congr (fun k hk => e65 k (by omega))
      · exact LM_of (e65 4 (by omega)) (fun k q1 q2 => e65 k q2) a1 a3
      · exact Past_of ⟨by rw [eo 36 (by omega) (by omega) (by omega) (by omega) (by omega) (by omega)], by rw [eo 36 (by omega) (by omega) (by omega) (by omega) (by omega) (by omega)]⟩ (e63 7 (by omega) (by omega)) (fun i hi => eo _ (by omega) (by omega) (by omega) (by omega) (by omega) (by omega)) (eo 68 (by omega) (by omega) (by omega) (by omega) (by omega) (by omega)) (by rw [eo 64 (by omega) (by omega) (by omega) (by omega) (by omega) (by omega)]) h7
      · exact Tape_of (by rw [eo 1 (by omega) (by omega) (by omega) (by omega) (by omega) (by omega)]) (eo 2 (by omega) (by omega) (by omega) (by omega) (by omega) (by omega)) (e63 9 (by omega) (by omega)) (eo 69 (by omega) (by omega) (by omega) (by omega) (by omega) (by omega)) h8
      · rw [eo 1 (by omega) (by omega) (by omega) (by omega) (by omega) (by omega), e63 14 (by omega) (by omega)]; exact h9
theorem ag_back (hF : 6000 ≤ F) (hI : Inv S) : Ag f_X9_back (f_X10_back F) [] S := by
  have hI0 := hI
  obtain ⟨h1, h2, ⟨A, a1, a2, a3⟩, h4, h5, h6, h7, h8, h9⟩ := hI
  rcases h6 with ⟨i1, i2 | ⟨i2, i3, i4, B, b1, b2, b3⟩⟩
  · refine ag_ok0 (b := nI 0) hI0 ?_ (fun T U hU h64 h63 => ?_)
    · unfold f_X9_back
      simp (disch := omega) only [fa_lit, nI_ad, nI_mul, nI_cl, inb_nI, nI_ltE, nI_leE, nI_eqE, nI_m1, nI_m1', m1_lt, lt_m1, m1_le, le_m1, eq_self, not_true_eq_false, not_false_eq_true, ↓reduceIte, leT, leF, ltT, ltF, eqT, eqF, decide_true, decide_false, true_and, and_true, Nat.reduceAdd, bI0_i, bI_i, bI_x, bV0_v, bV_v, bV_x, ↓bnd_e, gd_t, i2, and00]
    · have e6 : U 63 6 = nI 0 := by rw [h63, upd_n (by omega), ← i1, i2]
      unfold f_X10_back; rw [bnd_e, show upS T 63 0 (0 : Int32) = U from hU.symm]
      simp (disch := omega) only [fa_lit, nI_ad, nI_mul, nI_cl, inb_nI, nI_ltE, nI_leE, nI_eqE, nI_m1, nI_m1', m1_lt, lt_m1, m1_le, le_m1, eq_self, not_true_eq_false, not_false_eq_true, ↓reduceIte, leT, leF, ltT, ltF, eqT, eqF, decide_true, decide_false, true_and, and_true, Nat.reduceAdd, bI0_i, bI_i, bI_x, bV0_v, bV_v, bV_x, ↓bnd_e, gd_t, e6, and00]
  · obtain ⟨S2, g1, g2, g3⟩ := x_lawcopy (S := seS S 25 (S 29)) (u0 := 3) (u1 := 17) (by omega)
    have eS : ∀ o, o < 3 ∨ 7 < o → o ≠ 25 → S2 o = S o := fun o q1 q2 => by rw [g3 o (by omega), seS_n q2]
    refine ⟨.inl (some (.int (nI 1))), upS S2 36 2 (nI 0), ?_, fun T hT => ?_⟩
    · unfold f_X9_back f_X5_forget
      simp (disch := omega) only [fa_lit, nI_ad, nI_mul, nI_cl, inb_nI, nI_ltE, nI_leE, nI_eqE, nI_m1, nI_m1', m1_lt, lt_m1, m1_le, le_m1, eq_self, not_true_eq_false, not_false_eq_true, ↓reduceIte, leT, leF, ltT, ltF, eqT, eqF, decide_true, decide_false, true_and, and_true, Nat.reduceAdd, bI0_i, bI_i, bI_x, bV0_v, bV_v, bV_x, ↓bnd_e, gd_t, i2, x_copy (S := S) (u0 := 24) (u1 := 28) h1.2 h5, g1, and10]
    · have hL : LX B S2 3 := g2 B b1 (LX_of (fun o q1 q2 => seS_n (by omega)) b2)
      have e6 : (upS T 63 0 (nI 0)) 63 6 = nI 1 := by rw [upS_s, upd_n (by omega), hT 63 (by omega), upS_n (by omega), eS 63 (by omega) (by omega), ← i1, i2]
      have h := m_backL (F := F) 1296 0 F (upS T 63 0 (nI 0)) (by omega) (by omega)
      have eo : ∀ o, o < 75 → o < 3 ∨ 7 < o → o ≠ 25 → o ≠ 36 → o ≠ 63 → o ≠ 64 → (upS (seS (upS T 63 0 (nI 0)) 64 (rngF 0 1296 ((upS T 63 0 (nI 0)) 65) ((upS T 63 0 (nI 0)) 64))) 63 7 (nI 0)) o = S o := by
        intro o q1 q2 q3 q4 q5 q6
        rw [upS_n q5, seS_n q6, upS_n q5, hT o q1, upS_n q4, eS o q2 q3]
      have e63 : ∀ k, k ≠ 0 → k ≠ 7 → (upS (seS (upS T 63 0 (nI 0)) 64 (rngF 0 1296 ((upS T 63 0 (nI 0)) 65) ((upS T 63 0 (nI 0)) 64))) 63 7 (nI 0)) 63 k = S 63 k := by
        intro k q1 q2
        rw [upS_s, upd_n q2, seS_n (by omega), upS_s, upd_n q1, hT 63 (by omega), upS_n (by omega), eS 63 (by omega) (by omega)]
      have e64 : ∀ k, k < 1296 → (upS (seS (upS T 63 0 (nI 0)) 64 (rngF 0 1296 ((upS T 63 0 (nI 0)) 65) ((upS T 63 0 (nI 0)) 64))) 63 7 (nI 0)) 64 k = S 65 k := by
        intro k hk
        rw [upS_n (by omega), seS_s, rng_in (by omega) hk, upS_n (by omega), hT 65 (by omega), upS_n (by omega), eS 65 (by omega) (by omega)]
      have e25 : (upS (seS (upS T 63 0 (nI 0)) 64 (rngF 0 1296 ((upS T 63 0 (nI 0)) 65) ((upS T 63 0 (nI 0)) 64))) 63 7 (nI 0)) 25 = S 29 := by
        rw [upS_n (by omega), seS_n (by omega), upS_n (by omega), hT 25 (by omega), upS_n (by omega), g3 25 (by omega), seS_s]
      have e3 : ∀ o, 3 ≤ o → o ≤ 7 → (upS (seS (upS T 63 0 (nI 0)) 64 (rngF 0 1296 ((upS T 63 0 (nI 0)) 65) ((upS T 63 0 (nI 0)) 64))) 63 7 (nI 0)) o = S2 o := by
        intro o q1 q2
        rw [upS_n (by omega), seS_n (by omega), upS_n (by omega), hT o (by omega), upS_n (by omega)]
      have e36 : (upS (seS (upS T 63 0 (nI 0)) 64 (rngF 0 1296 ((upS T 63 0 (nI 0)) 65) ((upS T 63 0 (nI 0)) 64))) 63 7 (nI 0)) 36 = upd (S 36) 2 (nI 0) := by
        rw [upS_n (by omega), seS_n (by omega), upS_n (by omega), hT 36 (by omega), upS_s, eS 36 (by omega) (by omega)]
      refine ⟨nI 1, _, ?_, ?_, rfl, ?_⟩
      · unfold f_X10_back
        rw [bnd_e]
        show (if ¬ (upS T 63 0 (nI 0)) 63 6 = nI 0 then _ else _) = _
        rw [e6, if_pos (by decide)]
        exact h
      · refine ⟨?_, ?_, ⟨B, b1, LX_of (fun o q1 q2 => e3 o (by omega) (by omega)) hL, LM_of (e64 4 (by omega)) (fun k q1 q2 => e64 k q2) b1 b3⟩, ?_, ?_, ?_, ?_, ?_, ?_⟩
        · rw [e25]; exact i3
        · rw [e25, ← i4]; exact cM_congr (fun k hk => e64 k (by omega))
        · rw [eo 27 (by omega) (by omega) (by omega) (by omega) (by omega) (by omega)]; exact h4
        · rw [eo 29 (by omega) (by omega) (by omega) (by omega) (by omega) (by omega)]; exact h5
        · exact Img_of (by rw [eo 0 (by omega) (by omega) (by omega) (by omega) (by omega) (by omega)]) (e63 6 (by omega) (by omega)) (eo 29 (by omega) (by omega) (by omega) (by omega) (by omega) (by omega)) (eo 65 (by omega) (by omega) (by omega) (by omega) (by omega) (by omega)) (fun o q1 q2 => eo o (by omega) (by omega) (by omega) (by omega) (by omega) (by omega)) ⟨i1, Or.inr ⟨i2, i3, i4, B, b1, b2, b3⟩⟩
        · exact Past_none ⟨by rw [e36, upd_n (by omega)], by rw [e36, upd_s]⟩ (by rw [upS_s, upd_s]) (fun i hi => eo _ (by omega) (by omega) (by omega) (by omega) (by omega) (by omega)) h7
        · exact Tape_of (by rw [eo 1 (by omega) (by omega) (by omega) (by omega) (by omega) (by omega)]) (eo 2 (by omega) (by omega) (by omega) (by omega) (by omega) (by omega)) (e63 9 (by omega) (by omega)) (eo 69 (by omega) (by omega) (by omega) (by omega) (by omega) (by omega)) h8
        · rw [eo 1 (by omega) (by omega) (by omega) (by omega) (by omega) (by omega), e63 14 (by omega) (by omega)]; exact h9
      · rw [upS_s, upd_n (by omega), seS_n (by omega), upS_s, upd_s]
theorem x_undoInto {nx sz : Nat} (hn : nx < 12) (e1 : S 36 1 = nI nx) (hs : sz < 12) (e2 : S 36 2 = nI (sz + 1)) (h0 : zb (S (39 + 2 * ((nx + 11) % 12)))) (h1 : zb (S 25)) :
    f_X5_undoInto S = some (.inl (some (.int (nI 1))), upS (upS (seS S 25 (S (39 + 2 * ((nx + 11) % 12)))) 36 1 (nI ((nx + 11) % 12))) 36 2 (nI sz)) := by
  have em : nI (nx + 12) - nI 1 - (nI (nx + 12) - nI 1) / nI 12 * nI 12 = nI ((nx + 11) % 12) := by
    rw [sub1, nI_div (by omega) (by omega), nI_mul, nI_sub (by omega)]; congr 1; omega
  unfold f_X5_undoInto
  simp (disch := omega) only [fa_lit, nI_ad, nI_mul, nI_cl, inb_nI, nI_ltE, nI_leE, nI_eqE, nI_m1, nI_m1', m1_lt, lt_m1, m1_le, le_m1, eq_self, not_true_eq_false, not_false_eq_true, ↓reduceIte, leT, leF, ltT, ltF, eqT, eqF, decide_true, decide_false, true_and, and_true, Nat.reduceAdd, bI0_i, bI_i, bI_x, bV0_v, bV_v, bV_x, ↓bnd_e, gd_t, e1, e2]
  rw [em]
  generalize hp : (nx + 11) % 12 = p at *
  have hp12 : p < 12 := by omega
  match p, hp12 with
  | 0, _ =>
    simp (disch := omega) only [fa_lit, nI_ad, nI_mul, nI_cl, inb_nI, nI_ltE, nI_leE, nI_eqE, nI_m1, nI_m1', m1_lt, lt_m1, m1_le, le_m1, eq_self, not_true_eq_false, not_false_eq_true, ↓reduceIte, leT, leF, ltT, ltF, eqT, eqF, decide_true, decide_false, true_and, and_true, Nat.reduceAdd, bI0_i, bI_i, bI_x, bV0_v, bV_v, bV_x, ↓bnd_e, gd_t, x_copy (S := S) (u0 := 24) (u1 := 38) h1 h0, and10, upS_s, upS_n, upd_n, seS_n, e2, sub1]
  | 1, _ =>
    simp (disch := omega) only [fa_lit, nI_ad, nI_mul, nI_cl, inb_nI, nI_ltE, nI_leE, nI_eqE, nI_m1, nI_m1', m1_lt, lt_m1, m1_le, le_m1, eq_self, not_true_eq_false, not_false_eq_true, ↓reduceIte, leT, leF, ltT, ltF, eqT, eqF, decide_true, decide_false, true_and, and_true, Nat.reduceAdd, bI0_i, bI_i, bI_x, bV0_v, bV_v, bV_x, ↓bnd_e, gd_t, x_copy (S := S) (u0 := 24) (u1 := 40) h1 h0, and10, upS_s, upS_n, upd_n, seS_n, e2, sub1]
  | 2, _ =>
    simp (disch := omega) only [fa_lit, nI_ad, nI_mul, nI_cl, inb_nI, nI_ltE, nI_leE, nI_eqE, nI_m1, nI_m1', m1_lt, lt_m1, m1_le, le_m1, eq_self, not_true_eq_false, not_false_eq_true, ↓reduceIte, leT, leF, ltT, ltF, eqT, eqF, decide_true, decide_false, true_and, and_true, Nat.reduceAdd, bI0_i, bI_i, bI_x, bV0_v, bV_v, bV_x, ↓bnd_e, gd_t, x_copy (S := S) (u0 := 24) (u1 := 42) h1 h0, and10, upS_s, upS_n, upd_n, seS_n, e2, sub1]
  | 3, _ =>
    simp (disch := omega) only [fa_lit, nI_ad, nI_mul, nI_cl, inb_nI, nI_ltE, nI_leE, nI_eqE, nI_m1, nI_m1', m1_lt, lt_m1, m1_le, le_m1, eq_self, not_true_eq_false, not_false_eq_true, ↓reduceIte, leT, leF, ltT, ltF, eqT, eqF, decide_true, decide_false, true_and, and_true, Nat.reduceAdd, bI0_i, bI_i, bI_x, bV0_v, bV_v, bV_x, ↓bnd_e, gd_t, x_copy (S := S) (u0 := 24) (u1 := 44) h1 h0, and10, upS_s, upS_n, upd_n, seS_n, e2, sub1]
  | 4, _ =>
    simp (disch := omega) only [fa_lit, nI_ad, nI_mul, nI_cl, inb_nI, nI_ltE, nI_leE, nI_eqE, nI_m1, nI_m1', m1_lt, lt_m1, m1_le, le_m1, eq_self, not_true_eq_false, not_false_eq_true, ↓reduceIte, leT, leF, ltT, ltF, eqT, eqF, decide_true, decide_false, true_and, and_true, Nat.reduceAdd, bI0_i, bI_i, bI_x, bV0_v, bV_v, bV_x, ↓bnd_e, gd_t, x_copy (S := S) (u0 := 24) (u1 := 46) h1 h0, and10, upS_s, upS_n, upd_n, seS_n, e2, sub1]
  | 5, _ =>
    simp (disch := omega) only [fa_lit, nI_ad, nI_mul, nI_cl, inb_nI, nI_ltE, nI_leE, nI_eqE, nI_m1, nI_m1', m1_lt, lt_m1, m1_le, le_m1, eq_self, not_true_eq_false, not_false_eq_true, ↓reduceIte, leT, leF, ltT, ltF, eqT, eqF, decide_true, decide_false, true_and, and_true, Nat.reduceAdd, bI0_i, bI_i, bI_x, bV0_v, bV_v, bV_x, ↓bnd_e, gd_t, x_copy (S := S) (u0 := 24) (u1 := 48) h1 h0, and10, upS_s, upS_n, upd_n, seS_n, e2, sub1]
  | 6, _ =>
    simp (disch := omega) only [fa_lit, nI_ad, nI_mul, nI_cl, inb_nI, nI_ltE, nI_leE, nI_eqE, nI_m1, nI_m1', m1_lt, lt_m1, m1_le, le_m1, eq_self, not_true_eq_false, not_false_eq_true, ↓reduceIte, leT, leF, ltT, ltF, eqT, eqF, decide_true, decide_false, true_and, and_true, Nat.reduceAdd, bI0_i, bI_i, bI_x, bV0_v, bV_v, bV_x, ↓bnd_e, gd_t, x_copy (S := S) (u0 := 24) (u1 := 50) h1 h0, and10, upS_s, upS_n, upd_n, seS_n, e2, sub1]
  | 7, _ =>
    simp (disch := omega) only [fa_lit, nI_ad, nI_mul, nI_cl, inb_nI, nI_ltE, nI_leE, nI_eqE, nI_m1, nI_m1', m1_lt, lt_m1, m1_le, le_m1, eq_self, not_true_eq_false, not_false_eq_true, ↓reduceIte, leT, leF, ltT, ltF, eqT, eqF, decide_true, decide_false, true_and, and_true, Nat.reduceAdd, bI0_i, bI_i, bI_x, bV0_v, bV_v, bV_x, ↓bnd_e, gd_t, x_copy (S := S) (u0 := 24) (u1 := 52) h1 h0, and10, upS_s, upS_n, upd_n, seS_n, e2, sub1]
  | 8, _ =>
    simp (disch := omega) only [fa_lit, nI_ad, nI_mul, nI_cl, inb_nI, nI_ltE, nI_leE, nI_eqE, nI_m1, nI_m1', m1_lt, lt_m1, m1_le, le_m1, eq_self, not_true_eq_false, not_false_eq_true, ↓reduceIte, leT, leF, ltT, ltF, eqT, eqF, decide_true, decide_false, true_and, and_true, Nat.reduceAdd, bI0_i, bI_i, bI_x, bV0_v, bV_v, bV_x, ↓bnd_e, gd_t, x_copy (S := S) (u0 := 24) (u1 := 54) h1 h0, and10, upS_s, upS_n, upd_n, seS_n, e2, sub1]
  | 9, _ =>
    simp (disch := omega) only [fa_lit, nI_ad, nI_mul, nI_cl, inb_nI, nI_ltE, nI_leE, nI_eqE, nI_m1, nI_m1', m1_lt, lt_m1, m1_le, le_m1, eq_self, not_true_eq_false, not_false_eq_true, ↓reduceIte, leT, leF, ltT, ltF, eqT, eqF, decide_true, decide_false, true_and, and_true, Nat.reduceAdd, bI0_i, bI_i, bI_x, bV0_v, bV_v, bV_x, ↓bnd_e, gd_t, x_copy (S := S) (u0 := 24) (u1 := 56) h1 h0, and10, upS_s, upS_n, upd_n, seS_n, e2, sub1]
  | 10, _ =>
    simp (disch := omega) only [fa_lit, nI_ad, nI_mul, nI_cl, inb_nI, nI_ltE, nI_leE, nI_eqE, nI_m1, nI_m1', m1_lt, lt_m1, m1_le, le_m1, eq_self, not_true_eq_false, not_false_eq_true, ↓reduceIte, leT, leF, ltT, ltF, eqT, eqF, decide_true, decide_false, true_and, and_true, Nat.reduceAdd, bI0_i, bI_i, bI_x, bV0_v, bV_v, bV_x, ↓bnd_e, gd_t, x_copy (S := S) (u0 := 24) (u1 := 58) h1 h0, and10, upS_s, upS_n, upd_n, seS_n, e2, sub1]
  | 11, _ =>
    simp (disch := omega) only [fa_lit, nI_ad, nI_mul, nI_cl, inb_nI, nI_ltE, nI_leE, nI_eqE, nI_m1, nI_m1', m1_lt, lt_m1, m1_le, le_m1, eq_self, not_true_eq_false, not_false_eq_true, ↓reduceIte, leT, leF, ltT, ltF, eqT, eqF, decide_true, decide_false, true_and, and_true, Nat.reduceAdd, bI0_i, bI_i, bI_x, bV0_v, bV_v, bV_x, ↓bnd_e, gd_t, x_copy (S := S) (u0 := 24) (u1 := 60) h1 h0, and10, upS_s, upS_n, upd_n, seS_n, e2, sub1]
theorem ag_undo (hF : 6000 ≤ F) (hI : Inv S) : Ag f_X9_undo (f_X10_undo F) [] S := by
  have hI0 := hI
  obtain ⟨h1, h2, ⟨A, a1, a2, a3⟩, h4, h5, h6, ⟨nx, sz, b1, b2, b3, b4, b5, b6, b7⟩, h8, h9⟩ := hI
  by_cases g : sz = 0
  · subst g
    refine ag_ok0 (b := nI 0) hI0 ?_ (fun T U hU h64 h63 => ?_)
    · have em : nI (nx + 12) - nI 1 - (nI (nx + 12) - nI 1) / nI 12 * nI 12 = nI ((nx + 11) % 12) := by
        rw [sub1, nI_div (by omega) (by omega), nI_mul, nI_sub (by omega)]; congr 1; omega
      have hk : f_X5_undoInto S = some (.inl (some (.int (nI 0))), S) := by
        unfold f_X5_undoInto f_X5_undoInto_b30
        simp (disch := omega) only [fa_lit, nI_ad, nI_mul, nI_cl, inb_nI, nI_ltE, nI_leE, nI_eqE, nI_m1, nI_m1', m1_lt, lt_m1, m1_le, le_m1, eq_self, not_true_eq_false, not_false_eq_true, ↓reduceIte, leT, leF, ltT, ltF, eqT, eqF, decide_true, decide_false, true_and, and_true, Nat.reduceAdd, bI0_i, bI_i, bI_x, bV0_v, bV_v, bV_x, ↓bnd_e, gd_t, b3, b4, and00]
        rw [em]
        generalize hp : (nx + 11) % 12 = p at *
        have hp12 : p < 12 := by omega
        match p, hp12 with
        | 0, _ => simp (disch := omega) only [fa_lit, nI_ad, nI_mul, nI_cl, inb_nI, nI_ltE, nI_leE, nI_eqE, nI_m1, nI_m1', m1_lt, lt_m1, m1_le, le_m1, eq_self, not_true_eq_false, not_false_eq_true, ↓reduceIte, leT, leF, ltT, ltF, eqT, eqF, decide_true, decide_false, true_and, and_true, Nat.reduceAdd, bI0_i, bI_i, bI_x, bV0_v, bV_v, bV_x, ↓bnd_e, gd_t]
        | 1, _ => simp (disch := omega) only [fa_lit, nI_ad, nI_mul, nI_cl, inb_nI, nI_ltE, nI_leE, nI_eqE, nI_m1, nI_m1', m1_lt, lt_m1, m1_le, le_m1, eq_self, not_true_eq_false, not_false_eq_true, ↓reduceIte, leT, leF, ltT, ltF, eqT, eqF, decide_true, decide_false, true_and, and_true, Nat.reduceAdd, bI0_i, bI_i, bI_x, bV0_v, bV_v, bV_x, ↓bnd_e, gd_t]
        | 2, _ => simp (disch := omega) only [fa_lit, nI_ad, nI_mul, nI_cl, inb_nI, nI_ltE, nI_leE, nI_eqE, nI_m1, nI_m1', m1_lt, lt_m1, m1_le, le_m1, eq_self, not_true_eq_false, not_false_eq_true, ↓reduceIte, leT, leF, ltT, ltF, eqT, eqF, decide_true, decide_false, true_and, and_true, Nat.reduceAdd, bI0_i, bI_i, bI_x, bV0_v, bV_v, bV_x, ↓bnd_e, gd_t]
        | 3, _ => simp (disch := omega) only [fa_lit, nI_ad, nI_mul, nI_cl, inb_nI, nI_ltE, nI_leE, nI_eqE, nI_m1, nI_m1', m1_lt, lt_m1, m1_le, le_m1, eq_self, not_true_eq_false, not_false_eq_true, ↓reduceIte, leT, leF, ltT, ltF, eqT, eqF, decide_true, decide_false, true_and, and_true, Nat.reduceAdd, bI0_i, bI_i, bI_x, bV0_v, bV_v, bV_x, ↓bnd_e, gd_t]
        | 4, _ => simp (disch := omega) only [fa_lit, nI_ad, nI_mul, nI_cl, inb_nI, nI_ltE, nI_leE, nI_eqE, nI_m1, nI_m1', m1_lt, lt_m1, m1_le, le_m1, eq_self, not_true_eq_false, not_false_eq_true, ↓reduceIte, leT, leF, ltT, ltF, eqT, eqF, decide_true, decide_false, true_and, and_true, Nat.reduceAdd, bI0_i, bI_i, bI_x, bV0_v, bV_v, bV_x, ↓bnd_e, gd_t]
        | 5, _ => simp (disch := omega) only [fa_lit, nI_ad, nI_mul, nI_cl, inb_nI, nI_ltE, nI_leE, nI_eqE, nI_m1, nI_m1', m1_lt, lt_m1, m1_le, le_m1, eq_self, not_true_eq_false, not_false_eq_true, ↓reduceIte, leT, leF, ltT, ltF, eqT, eqF, decide_true, decide_false, true_and, and_true, Nat.reduceAdd, bI0_i, bI_i, bI_x, bV0_v, bV_v, bV_x, ↓bnd_e, gd_t]
        | 6, _ => simp (disch := omega) only [fa_lit, nI_ad, nI_mul, nI_cl, inb_nI, nI_ltE, nI_leE, nI_eqE, nI_m1, nI_m1', m1_lt, lt_m1, m1_le, le_m1, eq_self, not_true_eq_false, not_false_eq_true, ↓reduceIte, leT, leF, ltT, ltF, eqT, eqF, decide_true, decide_false, true_and, and_true, Nat.reduceAdd, bI0_i, bI_i, bI_x, bV0_v, bV_v, bV_x, ↓bnd_e, gd_t]
        | 7, _ => simp (disch := omega) only [fa_lit, nI_ad, nI_mul, nI_cl, inb_nI, nI_ltE, nI_leE, nI_eqE, nI_m1, nI_m1', m1_lt, lt_m1, m1_le, le_m1, eq_self, not_true_eq_false, not_false_eq_true, ↓reduceIte, leT, leF, ltT, ltF, eqT, eqF, decide_true, decide_false, true_and, and_true, Nat.reduceAdd, bI0_i, bI_i, bI_x, bV0_v, bV_v, bV_x, ↓bnd_e, gd_t]
        | 8, _ => simp (disch := omega) only [fa_lit, nI_ad, nI_mul, nI_cl, inb_nI, nI_ltE, nI_leE, nI_eqE, nI_m1, nI_m1', m1_lt, lt_m1, m1_le, le_m1, eq_self, not_true_eq_false, not_false_eq_true, ↓reduceIte, leT, leF, ltT, ltF, eqT, eqF, decide_true, decide_false, true_and, and_true, Nat.reduceAdd, bI0_i, bI_i, bI_x, bV0_v, bV_v, bV_x, ↓bnd_e, gd_t]
        | 9, _ => simp (disch := omega) only [fa_lit, nI_ad, nI_mul, nI_cl, inb_nI, nI_ltE, nI_leE, nI_eqE, nI_m1, nI_m1', m1_lt, lt_m1, m1_le, le_m1, eq_self, not_true_eq_false, not_false_eq_true, ↓reduceIte, leT, leF, ltT, ltF, eqT, eqF, decide_true, decide_false, true_and, and_true, Nat.reduceAdd, bI0_i, bI_i, bI_x, bV0_v, bV_v, bV_x, ↓bnd_e, gd_t]
        | 10, _ => simp (disch := omega) only [fa_lit, nI_ad, nI_mul, nI_cl, inb_nI, nI_ltE, nI_leE, nI_eqE, nI_m1, nI_m1', m1_lt, lt_m1, m1_le, le_m1, eq_self, not_true_eq_false, not_false_eq_true, ↓reduceIte, leT, leF, ltT, ltF, eqT, eqF, decide_true, decide_false, true_and, and_true, Nat.reduceAdd, bI0_i, bI_i, bI_x, bV0_v, bV_v, bV_x, ↓bnd_e, gd_t]
        | 11, _ => simp (disch := omega) only [fa_lit, nI_ad, nI_mul, nI_cl, inb_nI, nI_ltE, nI_leE, nI_eqE, nI_m1, nI_m1', m1_lt, lt_m1, m1_le, le_m1, eq_self, not_true_eq_false, not_false_eq_true, ↓reduceIte, leT, leF, ltT, ltF, eqT, eqF, decide_true, decide_false, true_and, and_true, Nat.reduceAdd, bI0_i, bI_i, bI_x, bV0_v, bV_v, bV_x, ↓bnd_e, gd_t]
      unfold f_X9_undo
      simp (disch := omega) only [fa_lit, nI_ad, nI_mul, nI_cl, inb_nI, nI_ltE, nI_leE, nI_eqE, nI_m1, nI_m1', m1_lt, lt_m1, m1_le, le_m1, eq_self, not_true_eq_false, not_false_eq_true, ↓reduceIte, leT, leF, ltT, ltF, eqT, eqF, decide_true, decide_false, true_and, and_true, Nat.reduceAdd, bI0_i, bI_i, bI_x, bV0_v, bV_v, bV_x, ↓bnd_e, gd_t, hk, and00]
    · have e7 : U 63 7 = nI 0 := by rw [h63, upd_n (by omega)]; exact b5
      unfold f_X10_undo; rw [bnd_e, show upS T 63 0 (0 : Int32) = U from hU.symm]
      simp (disch := omega) only [fa_lit, nI_ad, nI_mul, nI_cl, inb_nI, nI_ltE, nI_leE, nI_eqE, nI_m1, nI_m1', m1_lt, lt_m1, m1_le, le_m1, eq_self, not_true_eq_false, not_false_eq_true, ↓reduceIte, leT, leF, ltT, ltF, eqT, eqF, decide_true, decide_false, true_and, and_true, Nat.reduceAdd, bI0_i, bI_i, bI_x, bV0_v, bV_v, bV_x, ↓bnd_e, gd_t, e7, and00]
  · obtain ⟨s, rfl⟩ : ∃ s, sz = s + 1 := ⟨sz - 1, by omega⟩
    obtain ⟨c1, c2, c3⟩ := b7 s (by omega)
    have ei : (nx + 12 - (s + 1) + s) % 12 = (nx + 11) % 12 := by omega
    rw [ei] at c1 c2
    have hx := x_undoInto b1 b3 (by omega : s < 12) b4 (b6 ((nx + 11) % 12) (by omega)) h1.2
    refine ⟨.inl (some (.int (nI 1))), _, ?_, fun T hT => ?_⟩
    · unfold f_X9_undo
      rw [hx]
      simp (disch := omega) only [fa_lit, nI_ad, nI_mul, nI_cl, inb_nI, nI_ltE, nI_leE, nI_eqE, nI_m1, nI_m1', m1_lt, lt_m1, m1_le, le_m1, eq_self, not_true_eq_false, not_false_eq_true, ↓reduceIte, leT, leF, ltT, ltF, eqT, eqF, decide_true, decide_false, true_and, and_true, Nat.reduceAdd, bI0_i, bI_i, bI_x, bV0_v, bV_v, bV_x, ↓bnd_e, gd_t, and10]
      rfl
    · have eT : ∀ o, o < 75 → o ≠ 25 → o ≠ 36 → T o = S o := fun o q1 q2 q3 => by rw [hT o q1, upS_n q3, upS_n q3, seS_n q2]
      have e7 : (upS T 63 0 (nI 0)) 63 7 = nI (s + 1) := by rw [upS_s, upd_n (by omega), eT 63 (by omega) (by omega) (by omega)]; exact b5
      have h := m_undoL (F := F) (r := s) (by omega) 447 0 F (upS (upS T 63 0 (nI 0)) 63 7 (nI s)) (by omega) (by omega) (by rw [upS_s, upd_s])
      have ew : rngF 0 447 (fun j => (upS (upS T 63 0 (nI 0)) 63 7 (nI s)) 68 (447 * s + j)) ((upS (upS T 63 0 (nI 0)) 63 7 (nI s)) 64) = wO (S 64) (S (39 + 2 * ((nx + 11) % 12))) := by
        rw [upS_n (by omega), upS_n (by omega), upS_n (by omega), upS_n (by omega), eT 68 (by omega) (by omega) (by omega), eT 64 (by omega) (by omega) (by omega), ← c2]
        conv => lhs; arg 4; rw [← wO_self (w := S 64)]
        exact rng_wO c3
      rw [ew] at h
      refine ⟨nI 1, _, ?_, ?_, rfl, ?_⟩
      · unfold f_X10_undo
        rw [bnd_e]
        show (if ¬ (upS T 63 0 (nI 0)) 63 7 = nI 0 then bnd (upS (upS T 63 0 (nI 0)) 63 7 ((upS T 63 0 (nI 0)) 63 7 - nI 1)) _ else _) = _
        rw [e7, if_pos (by rw [nI_eqE (by omega) (by omega)]; omega), bnd_e, sub1]
        exact h
      · have eo : ∀ o, o < 75 → o ≠ 25 → o ≠ 36 → o ≠ 63 → o ≠ 64 → (seS (upS (upS T 63 0 (nI 0)) 63 7 (nI s)) 64 (wO (S 64) (S (39 + 2 * ((nx + 11) % 12))))) o = S o := by
          intro o q1 q2 q3 q4 q5
          rw [seS_n q5, upS_n q4, upS_n q4, eT o q1 q2 q3]
        have e63 : ∀ k, k ≠ 0 → k ≠ 7 → (seS (upS (upS T 63 0 (nI 0)) 63 7 (nI s)) 64 (wO (S 64) (S (39 + 2 * ((nx + 11) % 12))))) 63 k = S 63 k := by
          intro k q1 q2
          rw [seS_n (by omega), upS_s, upd_n q2, upS_s, upd_n q1, eT 63 (by omega) (by omega) (by omega)]
        have e25 : (seS (upS (upS T 63 0 (nI 0)) 63 7 (nI s)) 64 (wO (S 64) (S (39 + 2 * ((nx + 11) % 12))))) 25 = S (39 + 2 * ((nx + 11) % 12)) := by
          rw [seS_n (by omega), upS_n (by omega), upS_n (by omega), hT 25 (by omega), upS_n (by omega), upS_n (by omega), seS_s]
        have e36 : (seS (upS (upS T 63 0 (nI 0)) 63 7 (nI s)) 64 (wO (S 64) (S (39 + 2 * ((nx + 11) % 12))))) 36 = upd (upd (S 36) 1 (nI ((nx + 11) % 12))) 2 (nI s) := by
          rw [seS_n (by omega), upS_n (by omega), upS_n (by omega), hT 36 (by omega), upS_s, upS_s, seS_n (by omega)]
        refine ⟨by rw [e25]; exact c1, by rw [e25, seS_s, cM_wO c1.2], ⟨A, a1, LX_of (fun o q1 q2 => eo o (by omega) (by omega) (by omega) (by omega) (by omega)) a2, by rw [seS_s]; exact LM_wO a1 a3⟩, ?_, ?_, ?_, ?_, ?_, ?_⟩
        · rw [eo 27 (by omega) (by omega) (by omega) (by omega) (by omega)]; exact h4
        · rw [eo 29 (by omega) (by omega) (by omega) (by omega) (by omega)]; exact h5
        · exact Img_of (by rw [eo 0 (by omega) (by omega) (by omega) (by omega) (by omega)]) (e63 6 (by omega) (by omega)) (eo 29 (by omega) (by omega) (by omega) (by omega) (by omega)) (eo 65 (by omega) (by omega) (by omega) (by omega) (by omega)) (fun o q1 q2 => eo o (by omega) (by omega) (by omega) (by omega) (by omega)) h6
        · refine ⟨(nx + 11) % 12, s, by omega, by omega, by rw [e36, upd_n (by omega), upd_s], by rw [e36, upd_s], by rw [seS_n (by omega), upS_s, upd_s], fun i hi => by rw [eo _ (by omega) (by omega) (by omega) (by omega) (by omega)]; exact b6 i hi, fun j hj => ?_⟩
          have ej : ((nx + 11) % 12 + 12 - s + j) % 12 = (nx + 12 - (s + 1) + j) % 12 := by omega
          rw [ej, eo (39 + 2 * ((nx + 12 - (s + 1) + j) % 12)) (by omega) (by omega) (by omega) (by omega) (by omega), eo 68 (by omega) (by omega) (by omega) (by omega) (by omega), seS_s, wO_out (Or.inl rfl)]
          exact b7 j (by omega)
        · exact Tape_of (by rw [eo 1 (by omega) (by omega) (by omega) (by omega) (by omega)]) (eo 2 (by omega) (by omega) (by omega) (by omega) (by omega)) (e63 9 (by omega) (by omega)) (eo 69 (by omega) (by omega) (by omega) (by omega) (by omega)) h8
        · rw [eo 1 (by omega) (by omega) (by omega) (by omega) (by omega), e63 14 (by omega) (by omega)]; exact h9
      · rw [seS_n (by omega), upS_s, upd_n (by omega), upS_s, upd_s]
end O
/-! feed -/
theorem low8 : ∀ i, i < 8 → (255#32).getLsbD i = true := by decide
theorem byte_rel (v : Int32) : ∃ x, x < 256 ∧ v &&& nI 255 = nI x ∧ v.toInt8.toInt32.toInt8.toInt32 = (nI x).toInt8.toInt32 := by
  refine ⟨(v &&& nI 255).toBitVec.toNat, ?_, ?_, ?_⟩
  · rw [Int32.toBitVec_and, BitVec.toNat_and]
    have : v.toBitVec.toNat &&& (nI 255).toBitVec.toNat ≤ (nI 255).toBitVec.toNat := Nat.and_le_right
    have e : (nI 255).toBitVec.toNat = 255 := by decide
    omega
  · apply Int32.toBitVec_inj.1
    show _ = BitVec.ofNat 32 _
    rw [BitVec.ofNat_toNat, BitVec.setWidth_eq]
  · have e1 : nI (v &&& nI 255).toBitVec.toNat = v &&& nI 255 := by
      apply Int32.toBitVec_inj.1
      show BitVec.ofNat 32 _ = _
      rw [BitVec.ofNat_toNat, BitVec.setWidth_eq]
    rw [e1, Int8.toInt8_toInt32]
    congr 1
    apply Int8.toBitVec_inj.1
    rw [Int32.toBitVec_toInt8, Int32.toBitVec_toInt8, Int32.toBitVec_and, BitVec.signExtend_eq_setWidth_of_le _ (by omega), BitVec.signExtend_eq_setWidth_of_le _ (by omega)]
    apply BitVec.eq_of_getLsbD_eq
    intro i hi
    have e : (nI 255).toBitVec = 255#32 := by decide
    rw [BitVec.getLsbD_setWidth, BitVec.getLsbD_setWidth, BitVec.getLsbD_and, e, low8 i hi, Bool.and_true]
section O
variable {F : Nat} {S : mS}
def byF (x : Int32) (k : Nat) : Int32 := (x >>> (nI (24 - 8 * k) &&& nI 31)) &&& nI 255
theorem x_appStep {t k : Nat} {x s : Int32} (hs : ¬ s < nI 0) (ht : t < 400) (e : S 1 1 = nI t) :
    f_X8_append_b3 F (k + 1) x s S = f_X8_append_b3 F k x (s + -nI 8) (upS (upS S 2 t ((x >>> (s &&& nI 31)) &&& nI 255)) 1 1 (nI (t + 1))) := by
  have e4 : Int32.ofNat 400 = nI 400 := rfl
  rw [f_X8_append_b3]
  unfold f_X8_append_b52
  simp (disch := omega) only [fa_lit, nI_ad, nI_mul, nI_cl, inb_nI, nI_ltE, nI_leE, nI_eqE, nI_m1, nI_m1', m1_lt, lt_m1, m1_le, le_m1, eq_self, not_true_eq_false, not_false_eq_true, ↓reduceIte, leT, leF, ltT, ltF, eqT, eqF, decide_true, decide_false, true_and, and_true, Nat.reduceAdd, bI0_i, bI_i, bI_x, bV0_v, bV_v, bV_x, ↓bnd_e, gd_t, e, e4, hs, upS_n]
theorem x_append {t : Nat} {x : Int32} (hF : 6000 ≤ F) (ht : t + 4 ≤ 400) (e : S 1 1 = nI t) :
    ∃ S', f_X8_append F x S = some (.inl none, S') ∧ S' 1 = upd (S 1) 1 (nI (t + 4)) ∧ (∀ j, j < 4 → S' 2 (t + j) = byF x j) ∧ (∀ i, i < t → S' 2 i = S 2 i) ∧ ∀ o, o ≠ 1 → o ≠ 2 → S' o = S o := by
  obtain ⟨G, rfl⟩ : ∃ G, F = G + 1 + 1 + 1 + 1 + 1 := ⟨F - 5, by omega⟩
  unfold f_X8_append
  have e24 : (24 : Int32) = nI 24 := rfl
  have d1 : nI 24 + -nI 8 = nI 16 := by decide
  have d2 : nI 16 + -nI 8 = nI 8 := by decide
  have d3 : nI 8 + -nI 8 = nI 0 := by decide
  have d4 : nI 0 + -nI 8 < 0 := by decide
  rw [e24, x_appStep (t := t) (by decide) (by omega) e, d1, x_appStep (t := t + 1) (by decide) (by omega) (by rw [upS_s, upd_s]), d2, x_appStep (t := t + 1 + 1) (by decide) (by omega) (by rw [upS_s, upd_s]), d3, x_appStep (t := t + 1 + 1 + 1) (by decide) (by omega) (by rw [upS_s, upd_s]), f_X8_append_b3, if_pos d4]
  refine ⟨_, rfl, ?_, fun j hj => ?_, fun i hi => ?_, fun o h1 h2 => ?_⟩
  · simp (disch := omega) only [upS_s, upS_n, upd_upd]
  · simp (disch := omega) only [upS_s, upS_n]
    match j, hj with
    | 0, _ => simp (disch := omega) only [upd_n, Nat.add_zero, upd_s]; rfl
    | 1, _ => simp (disch := omega) only [upd_n, upd_s]; rfl
    | 2, _ => simp (disch := omega) only [upd_n, upd_s]; rfl
    | 3, _ => simp (disch := omega) only [upd_n, upd_s]; rfl
  · simp (disch := omega) only [upS_s, upS_n, upd_n]
  · simp (disch := omega) only [upS_n]
def fdV (five : Nat → Int32) (k : Nat) : Int32 := ((five (k / 4) >>> (nI (24 - 8 * (k % 4)) &&& nI 31)).toInt8.toInt32).toInt8.toInt32
theorem m_feedL {t : Nat} (ht : t + 20 ≤ 400) : ∀ (m i k : Nat) (S : mS), i + m = 20 → m < k → S 63 9 = nI t →
    f_X10_feed_b60 F k (nI i) S = some (.inl (some (.int (nI (t + 20)))), upS (seS S 69 (rngF (t + i) (t + 20) (fun j => fdV (S 70) (j - t)) (S 69))) 63 9 (nI (t + 20)))
  | 0, i, k + 1, S, hi, hk, h9 => by
    have hie : i = 20 := by omega
    rw [hie, f_X10_feed_b60]
    simp (disch := omega) only [fa_lit, nI_ad, nI_mul, nI_cl, inb_nI, nI_ltE, nI_leE, nI_eqE, nI_m1, nI_m1', m1_lt, lt_m1, m1_le, le_m1, eq_self, not_true_eq_false, not_false_eq_true, ↓reduceIte, leT, leF, ltT, ltF, eqT, eqF, decide_true, decide_false, true_and, and_true, Nat.reduceAdd, bI0_i, bI_i, bI_x, bV0_v, bV_v, bV_x, ↓bnd_e, gd_t, rng_end, se_id, Nat.le_refl, h9, upS_s, upd_s]
  | m + 1, i, k + 1, S, hi, hk, h9 => by
    have e3 : nI i - nI (i / 4 * 4) = nI (i % 4) := by rw [nI_sub (by omega)]; congr 1; omega
    have e4 : nI 24 - nI (8 * (i % 4)) = nI (24 - 8 * (i % 4)) := nI_sub (by omega)
    have e5 : ((S 70 (i / 4) >>> (nI (24 - 8 * (i % 4)) &&& nI 31)).toInt8.toInt32).toInt8.toInt32 = (fun j => fdV (S 70) (j - t)) (t + i) := by
      show _ = fdV (S 70) (t + i - t)
      rw [Nat.add_sub_cancel_left]; rfl
    have ih := m_feedL ht m (i + 1) k (upS S 69 (t + i) (((S 70 (i / 4) >>> (nI (24 - 8 * (i % 4)) &&& nI 31)).toInt8.toInt32).toInt8.toInt32)) (by omega) (by omega) (by rw [upS_n (by omega)]; exact h9)
    rw [f_X10_feed_b60]
    simp (disch := omega) only [fa_lit, nI_ad, nI_mul, nI_cl, inb_nI, nI_ltE, nI_leE, nI_eqE, nI_m1, nI_m1', m1_lt, lt_m1, m1_le, le_m1, eq_self, not_true_eq_false, not_false_eq_true, ↓reduceIte, leT, leF, ltT, ltF, eqT, eqF, decide_true, decide_false, true_and, and_true, Nat.reduceAdd, bI0_i, bI_i, bI_x, bV0_v, bV_v, bV_x, ↓bnd_e, gd_t, h9, nI_div, e3, e4, ih]
    rw [up_def, seS_seS, upS_n (by omega), seS_s, e5, ← Nat.add_assoc, rng_step (f := fun j => fdV (S 70) (j - t)) (by omega)]
theorem ag_feed {p1 p2 p3 p4 p5 : Int32} (hF : 6000 ≤ F) (hI : Inv S) : Ag (f_X9_feed F p1 p2 p3 p4 p5) (f_X10_feed F p1 p2 p3 p4 p5) [] S := by
  have hI0 := hI
  obtain ⟨h1, h2, ⟨A, a1, a2, a3⟩, h4, h5, h6, h7, h8, h9⟩ := hI
  obtain ⟨t, b1, b2, b3, b4⟩ := h8
  by_cases g : t + 20 ≤ 400
  · obtain ⟨S1, f1, q1, r1, s1, o1⟩ := x_append (F := F) (S := S) (t := t) (x := p1) hF (by omega) b2
    obtain ⟨S2, f2, q2, r2, s2, o2⟩ := x_append (F := F) (S := S1) (t := t + 4) (x := p2) hF (by omega) (by rw [q1, upd_s])
    obtain ⟨S3, f3, q3, r3, s3, o3⟩ := x_append (F := F) (S := S2) (t := t + 4 + 4) (x := p3) hF (by omega) (by rw [q2, upd_s])
    obtain ⟨S4, f4, q4, r4, s4, o4⟩ := x_append (F := F) (S := S3) (t := t + 4 + 4 + 4) (x := p4) hF (by omega) (by rw [q3, upd_s])
    obtain ⟨S5, f5, q5, r5, s5, o5⟩ := x_append (F := F) (S := S4) (t := t + 4 + 4 + 4 + 4) (x := p5) hF (by omega) (by rw [q4, upd_s])
    have e51 : S5 1 1 = nI (t + 20) := by rw [q5, upd_s]
    have e5 : ∀ o, o ≠ 1 → o ≠ 2 → S5 o = S o := fun o u v => by rw [o5 o u v, o4 o u v, o3 o u v, o2 o u v, o1 o u v]
    refine ⟨.inl (some (.int (nI (t + 20)))), S5, ?_, fun T hT => ?_⟩
    · unfold f_X9_feed f_X8_size
      simp (disch := omega) only [fa_lit, nI_ad, nI_mul, nI_cl, inb_nI, nI_ltE, nI_leE, nI_eqE, nI_m1, nI_m1', m1_lt, lt_m1, m1_le, le_m1, eq_self, not_true_eq_false, not_false_eq_true, ↓reduceIte, leT, leF, ltT, ltF, eqT, eqF, decide_true, decide_false, true_and, and_true, Nat.reduceAdd, bI0_i, bI_i, bI_x, bV0_v, bV_v, bV_x, ↓bnd_e, gd_t, b2, f1, f2, f3, f4, f5, e51]
    · generalize hU : upS T 63 0 (nI 0) = U
      have hU9 : U 63 9 = nI t := by rw [← hU, upS_s, upd_n (by omega), hT 63 (by omega), e5 63 (by omega) (by omega)]; exact b3
      have hm := m_feedL (F := F) g 20 0 F (upS (upS (upS (upS (upS U 70 0 p1) 70 1 p2) 70 2 p3) 70 3 p4) 70 4 p5) (by omega) (by omega) (by simp (disch := omega) only [upS_n]; exact hU9)
      have eU : ∀ o, o < 75 → o ≠ 1 → o ≠ 2 → o ≠ 63 → U o = S o := fun o u v w x => by rw [← hU, upS_n x, hT o u, e5 o v w]
      have e70 : ∀ k, k < 20 → fdV ((upS (upS (upS (upS (upS U 70 0 p1) 70 1 p2) 70 2 p3) 70 3 p4) 70 4 p5) 70) k = fdV (fun a => if a = 0 then p1 else if a = 1 then p2 else if a = 2 then p3 else if a = 3 then p4 else p5) k := by
        intro k hk
        unfold fdV
        have : k / 4 < 5 := by omega
        simp only [upS_s]
        generalize k / 4 = a at this
        match a, this with
        | 0, _ => rfl
        | 1, _ => rfl
        | 2, _ => rfl
        | 3, _ => rfl
        | 4, _ => rfl
      refine ⟨nI (t + 20), _, ?_, ?_, rfl, ?_⟩
      · unfold f_X10_feed
        rw [bnd_e, show upS T 63 0 (0 : Int32) = U from hU]
        simp (disch := omega) only [fa_lit, nI_ad, nI_mul, nI_cl, inb_nI, nI_ltE, nI_leE, nI_eqE, nI_m1, nI_m1', m1_lt, lt_m1, m1_le, le_m1, eq_self, not_true_eq_false, not_false_eq_true, ↓reduceIte, leT, leF, ltT, ltF, eqT, eqF, decide_true, decide_false, true_and, and_true, Nat.reduceAdd, bI0_i, bI_i, bI_x, bV0_v, bV_v, bV_x, ↓bnd_e, gd_t, hU9]
        exact hm
      · have eo : ∀ o, o < 75 → o ≠ 1 → o ≠ 2 → o ≠ 63 → o ≠ 69 → o ≠ 70 → (upS (seS (upS (upS (upS (upS (upS U 70 0 p1) 70 1 p2) 70 2 p3) 70 3 p4) 70 4 p5) 69 (rngF (t + 0) (t + 20) (fun j => fdV ((upS (upS (upS (upS (upS U 70 0 p1) 70 1 p2) 70 2 p3) 70 3 p4) 70 4 p5) 70) (j - t)) ((upS (upS (upS (upS (upS U 70 0 p1) 70 1 p2) 70 2 p3) 70 3 p4) 70 4 p5) 69))) 63 9 (nI (t + 20))) o = S o := by
          intro o u v w x y z
          rw [upS_n x, seS_n y, upS_n z, upS_n z, upS_n z, upS_n z, upS_n z, eU o u v w x]
        have e63 : ∀ k, k ≠ 0 → k ≠ 9 → (upS (seS (upS (upS (upS (upS (upS U 70 0 p1) 70 1 p2) 70 2 p3) 70 3 p4) 70 4 p5) 69 (rngF (t + 0) (t + 20) (fun j => fdV ((upS (upS (upS (upS (upS U 70 0 p1) 70 1 p2) 70 2 p3) 70 3 p4) 70 4 p5) 70) (j - t)) ((upS (upS (upS (upS (upS U 70 0 p1) 70 1 p2) 70 2 p3) 70 3 p4) 70 4 p5) 69))) 63 9 (nI (t + 20))) 63 k = S 63 k := by
          intro k u v
          rw [upS_s, upd_n v, seS_n (by omega), upS_n (by omega), upS_n (by omega), upS_n (by omega), upS_n (by omega), upS_n (by omega), ← hU, upS_s, upd_n u, hT 63 (by omega), e5 63 (by omega) (by omega)]
        have e12 : ∀ o, o = 1 ∨ o = 2 → (upS (seS (upS (upS (upS (upS (upS U 70 0 p1) 70 1 p2) 70 2 p3) 70 3 p4) 70 4 p5) 69 (rngF (t + 0) (t + 20) (fun j => fdV ((upS (upS (upS (upS (upS U 70 0 p1) 70 1 p2) 70 2 p3) 70 3 p4) 70 4 p5) 70) (j - t)) ((upS (upS (upS (upS (upS U 70 0 p1) 70 1 p2) 70 2 p3) 70 3 p4) 70 4 p5) 69))) 63 9 (nI (t + 20))) o = S5 o := by
          intro o u
          rw [upS_n (by omega), seS_n (by omega), upS_n (by omega), upS_n (by omega), upS_n (by omega), upS_n (by omega), upS_n (by omega), ← hU, upS_n (by omega), hT o (by omega)]
        refine ⟨by rw [eo 25 (by omega) (by omega) (by omega) (by omega) (by omega) (by omega)]; exact h1, by rw [eo 25 (by omega) (by omega) (by omega) (by omega) (by omega) (by omega), eo 64 (by omega) (by omega) (by omega) (by omega) (by omega) (by omega)]; exact h2, ⟨A, a1, LX_of (fun o q1 q2 => eo o (by omega) (by omega) (by omega) (by omega) (by omega) (by omega)) a2, by rw [eo 64 (by omega) (by omega) (by omega) (by omega) (by omega) (by omega)]; exact a3⟩, ?_, ?_, ?_, ?_, ?_, ?_⟩
        · rw [eo 27 (by omega) (by omega) (by omega) (by omega) (by omega) (by omega)]; exact h4
        · rw [eo 29 (by omega) (by omega) (by omega) (by omega) (by omega) (by omega)]; exact h5
        · exact Img_of (by rw [eo 0 (by omega) (by omega) (by omega) (by omega) (by omega) (by omega)]) (e63 6 (by omega) (by omega)) (eo 29 (by omega) (by omega) (by omega) (by omega) (by omega) (by omega)) (eo 65 (by omega) (by omega) (by omega) (by omega) (by omega) (by omega)) (fun o q1 q2 => eo o (by omega) (by omega) (by omega) (by omega) (by omega) (by omega)) h6
        · exact Past_of ⟨by rw [eo 36 (by omega) (by omega) (by omega) (by omega) (by omega) (by omega)], by rw [eo 36 (by omega) (by omega) (by omega) (by omega) (by omega) (by omega)]⟩ (e63 7 (by omega) (by omega)) (fun i hi => eo _ (by omega) (by omega) (by omega) (by omega) (by omega) (by omega)) (eo 68 (by omega) (by omega) (by omega) (by omega) (by omega) (by omega)) (by rw [eo 64 (by omega) (by omega) (by omega) (by omega) (by omega) (by omega)]) h7
        · refine ⟨t + 20, g, by rw [e12 1 (by omega)]; exact e51, by rw [upS_s, upd_s], fun i hi => ?_⟩
          rw [e12 2 (by omega), upS_n (by omega), seS_s]
          by_cases gi : i < t
          · rw [rng_out (by omega), upS_n (by omega), upS_n (by omega), upS_n (by omega), upS_n (by omega), upS_n (by omega), eU 69 (by omega) (by omega) (by omega) (by omega), s5 i (by omega), s4 i (by omega), s3 i (by omega), s2 i (by omega), s1 i (by omega)]
            exact b4 i gi
          · rw [rng_in (by omega) (by omega), e70 (i - t) (by omega)]
            have hj : (i - t) % 4 < 4 := Nat.mod_lt _ (by omega)
            have hsp : ∃ z, S5 2 i = (z >>> (nI (24 - 8 * ((i - t) % 4)) &&& nI 31)) &&& nI 255 ∧ fdV (fun a => if a = 0 then p1 else if a = 1 then p2 else if a = 2 then p3 else if a = 3 then p4 else p5) (i - t) = ((z >>> (nI (24 - 8 * ((i - t) % 4)) &&& nI 31)).toInt8.toInt32).toInt8.toInt32 := by
              unfold fdV
              rcases Nat.lt_or_ge i (t + 4) with w1 | w1
              · refine ⟨p1, ?_, by rw [show (i - t) / 4 = 0 by omega]; rfl⟩
                rw [s5 i (by omega), s4 i (by omega), s3 i (by omega), s2 i (by omega), show i = t + (i - t) % 4 by omega, r1 _ (by omega)]
                unfold byF; congr 4; omega
              · rcases Nat.lt_or_ge i (t + 8) with w2 | w2
                · refine ⟨p2, ?_, by rw [show (i - t) / 4 = 1 by omega]; rfl⟩
                  rw [s5 i (by omega), s4 i (by omega), s3 i (by omega), show i = t + 4 + (i - t) % 4 by omega, r2 _ (by omega)]
                  unfold byF; congr 4; omega
                · rcases Nat.lt_or_ge i (t + 12) with w3 | w3
                  · refine ⟨p3, ?_, by rw [show (i - t) / 4 = 2 by omega]; rfl⟩
                    rw [s5 i (by omega), s4 i (by omega), show i = t + 4 + 4 + (i - t) % 4 by omega, r3 _ (by omega)]
                    unfold byF; congr 4; omega
                  · rcases Nat.lt_or_ge i (t + 16) with w4 | w4
                    · refine ⟨p4, ?_, by rw [show (i - t) / 4 = 3 by omega]; rfl⟩
                      rw [s5 i (by omega), show i = t + 4 + 4 + 4 + (i - t) % 4 by omega, r4 _ (by omega)]
                      unfold byF; congr 4; omega
                    · refine ⟨p5, ?_, by rw [show (i - t) / 4 = 4 by omega]; rfl⟩
                      rw [show i = t + 4 + 4 + 4 + 4 + (i - t) % 4 by omega, r5 _ (by omega)]
                      unfold byF; congr 4; omega
            obtain ⟨z, z1, z2⟩ := hsp
            obtain ⟨x, x1, x2, x3⟩ := byte_rel (z >>> (nI (24 - 8 * ((i - t) % 4)) &&& nI 31))
            exact ⟨x, x1, z1.trans x2, z2.trans x3⟩
        · rw [e12 1 (by omega), e63 14 (by omega) (by omega), q5, upd_n (by omega), q4, upd_n (by omega), q3, upd_n (by omega), q2, upd_n (by omega), q1, upd_n (by omega)]; exact h9
      · rw [upS_s, upd_n (by omega), seS_n (by omega), upS_n (by omega), upS_n (by omega), upS_n (by omega), upS_n (by omega), upS_n (by omega), ← hU, upS_s, upd_s]
  · refine ag_ok0 (b := -nI 1) hI0 ?_ (fun T U hU h64 h63 => ?_)
    · unfold f_X9_feed f_X8_size
      simp (disch := omega) only [fa_lit, nI_ad, nI_mul, nI_cl, inb_nI, nI_ltE, nI_leE, nI_eqE, nI_m1, nI_m1', m1_lt, lt_m1, m1_le, le_m1, eq_self, not_true_eq_false, not_false_eq_true, ↓reduceIte, leT, leF, ltT, ltF, eqT, eqF, decide_true, decide_false, true_and, and_true, Nat.reduceAdd, bI0_i, bI_i, bI_x, bV0_v, bV_v, bV_x, ↓bnd_e, gd_t, b2]
    · have e9 : U 63 9 = nI t := by rw [h63, upd_n (by omega)]; exact b3
      unfold f_X10_feed; rw [bnd_e, show upS T 63 0 (0 : Int32) = U from hU.symm]
      simp (disch := omega) only [fa_lit, nI_ad, nI_mul, nI_cl, inb_nI, nI_ltE, nI_leE, nI_eqE, nI_m1, nI_m1', m1_lt, lt_m1, m1_le, le_m1, eq_self, not_true_eq_false, not_false_eq_true, ↓reduceIte, leT, leF, ltT, ltF, eqT, eqF, decide_true, decide_false, true_and, and_true, Nat.reduceAdd, bI0_i, bI_i, bI_x, bV0_v, bV_v, bV_x, ↓bnd_e, gd_t, e9]
end O
