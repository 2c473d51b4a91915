/-! texts: the model reads THE LAW's lines -/
def gSt (dn : List gLn) (j : Nat) : Nat := (gCs (dn.take j)).length
theorem gSt_lo {dn l : List gLn} {j : Nat} (h : j ≤ dn.length) : gSt (dn ++ l) j = gSt dn j := by
  unfold gSt; rw [List.take_append_of_le_length h]
theorem gSt_hi {dn l : List gLn} : gSt (dn ++ l) dn.length = (gCs dn).length := by
  rw [gSt_lo (Nat.le_refl _)]; unfold gSt; rw [List.take_length]
def PM (w : Nat → Int32) (dn : List gLn) : Prop := (∀ j, j < dn.length → w (1297 + 4 * j) = nI (gAt dn j).1 ∧ w (1297 + 4 * j + 1) = nI (gAt dn j).2.1 ∧ w (1297 + 4 * j + 2) = nI (gSt dn j) ∧ w (1297 + 4 * j + 3) = nI (gEn dn j))
  ∧ ∀ j, j < (gCs dn).length → w (1345 + 2 * j) = nI (stepOf ((gCs dn).getD j 0)) ∧ w (1345 + 2 * j + 1) = nI (argOf ((gCs dn).getD j 0))
theorem PM_1 {w : Nat → Int32} {dn : List gLn} {l : gLn} (hd : dn.length < 12) (hP : PM w dn) :
    PM (upd (emF (upd (upd (upd w (1297 + 4 * dn.length) (nI l.1)) (1297 + 4 * dn.length + 1) (nI l.2.1)) (1297 + 4 * dn.length + 2) (nI (gCs dn).length)) (gCs dn).length l.2.2) (1297 + 4 * dn.length + 3) (nI (gCs (dn ++ [l])).length)) (dn ++ [l]) := by
  refine ⟨fun j hj => ?_, fun j hj => ?_⟩
  · rw [List.length_append, List.length_singleton] at hj
    by_cases e : j = dn.length
    · subst e
      rw [gAt_hi, gEn_hi, gSt_hi]
      refine ⟨?_, ?_, ?_, ?_⟩
      · rw [upd_n (by omega), emF_lo (by omega), upd_n (by omega), upd_n (by omega), upd_s]
      · rw [upd_n (by omega), emF_lo (by omega), upd_n (by omega), upd_s]
      · rw [upd_n (by omega), emF_lo (by omega), upd_s]
      · rw [upd_s]
    · rw [gAt_lo (by omega), gEn_lo (by omega), gSt_lo (by omega)]
      obtain ⟨q1, q2, q3, q4⟩ := hP.1 j (by omega)
      refine ⟨?_, ?_, ?_, ?_⟩
      · rw [upd_n (by omega), emF_lo (by omega), upd_n (by omega), upd_n (by omega), upd_n (by omega)]; exact q1
      · rw [upd_n (by omega), emF_lo (by omega), upd_n (by omega), upd_n (by omega), upd_n (by omega)]; exact q2
      · rw [upd_n (by omega), emF_lo (by omega), upd_n (by omega), upd_n (by omega), upd_n (by omega)]; exact q3
      · rw [upd_n (by omega), emF_lo (by omega), upd_n (by omega), upd_n (by omega), upd_n (by omega)]; exact q4
  · rw [gCs_1] at hj ⊢
    rw [List.length_append] at hj
    by_cases g : j < (gCs dn).length
    · rw [eg_getD_lo g, upd_n (by omega), upd_n (by omega), emF_lo (by omega), emF_lo (by omega), upd_n (by omega), upd_n (by omega), upd_n (by omega), upd_n (by omega), upd_n (by omega), upd_n (by omega)]
      exact hP.2 j g
    · obtain ⟨i, rfl⟩ : ∃ i, j = (gCs dn).length + i := ⟨j - (gCs dn).length, by omega⟩
      rw [eg_getD_hi, upd_n (by omega), upd_n (by omega)]
      exact emF_at (by omega)
section T
variable {B : Nat → Nat} {t : Nat} {U : mS} {q b d s : Nat} {w : Nat → Int32} {F : Nat}
theorem m_wdT {k p : Nat} (hF : 6000 ≤ F) (hk : k < 23) (hT : TM U B t) (hp : p ≤ t) (e : tWl B t p = strN k) : f_X10_isWord F k (zS U (tWd B t p) p d s w) = some (.inl (some (.int (nI 1))), zS U (tWd B t p) p d s w) := by
  have := m_isWord (F := F) (d := d) (s := s) (w := w) hF hk hT hp
  rw [decide_eq_true e, bT] at this; exact this
theorem m_wdF {k p : Nat} (hF : 6000 ≤ F) (hk : k < 23) (hT : TM U B t) (hp : p ≤ t) (e : ¬ tWl B t p = strN k) : f_X10_isWord F k (zS U (tWd B t p) p d s w) = some (.inl (some (.int (nI 0))), zS U (tWd B t p) p d s w) := by
  have := m_isWord (F := F) (d := d) (s := s) (w := w) hF hk hT hp
  rw [decide_eq_false e, bF] at this; exact this
/-- behind the kind -/
theorem m_b53 {p k x : Nat} {dn : List gLn} (hF : 6000 ≤ F) (hT : TM U B t) (hp : p ≤ t) (hk : k ≤ 2) (hks : tWl B t p = strN (11 + k)) (gk : gKd (tWl B t p) = some k) (hd : dn.length < 12) (hs : (gCs dn).length ≤ p) (hP : PM w dn) (hx : x = 1297 + 4 * dn.length) :
    (match gLine B t p with
    | .inr (p', l) => ∃ q' b' w', q' ≤ t ∧ tSk B t q' = p' ∧ (∀ k, k < 1296 → w' k = w k) ∧ PM w' (dn ++ [l]) ∧ f_X10_readLawLine_b53 F (nI x) (nI k) (nI x) (zS U (tWd B t p) p d (gCs dn).length w) = some (.inl (some (.int (nI 1))), zS U q' b' 0 (gCs (dn ++ [l])).length w')
    | .inl e => ∃ q' d' s' w', (∀ k, k < 1296 → w' k = w k) ∧ f_X10_readLawLine_b53 F (nI x) (nI k) (nI x) (zS U (tWd B t p) p d (gCs dn).length w) = some (.inl (some (.int (nI 0))), zS U q' e d' s' w')) := by
  have ht := hT.1
  have w2 := tWd_le (B := B) hp
  have w3 := tSk_ge (B := B) w2
  have w4 := tSk_le (B := B) w2
  have wl3 : 3 ≤ (strN (11 + k)).length := by
    match k, hk with
    | 0, _ => decide
    | 1, _ => decide
    | 2, _ => decide
  have wd3 : p + 3 ≤ tWd B t p := by unfold tWd; rw [hks]; omega
  have hN := fun (w : Nat → Int32) => m_number (F := F) (lo := 0) (hi := 20) (q := tWd B t p) (b := p) (d := d) (s := (gCs dn).length) (w := w) hF hT (by omega) (by omega) w2
  unfold f_X10_readLawLine_b53 gLine
  rw [gk]
  dsimp only
  generalize tSk B t (tWd B t p) = p1 at *
  cases gv : tN B t 0 20 p1 with
  | none =>
    rw [gv, enc_none] at hN
    refine ⟨tE B t p1, d, (gCs dn).length, upd (upd w x (nI k)) (x + 1) (-nI 1), fun k hk => by rw [upd_n (by omega), upd_n (by omega)], ?_⟩
    simp (disch := omega) only [fa_lit, nI_ad, nI_mul, nI_cl, inb_nI, nI_ltE, nI_leE, nI_eqE, nI_m1, nI_m1', m1_lt, lt_m1, m1_le, le_m1, eq_self, not_true_eq_false, not_false_eq_true, ↓reduceIte, leT, leF, ltT, ltF, eqT, eqF, decide_true, decide_false, true_and, and_true, Nat.reduceAdd, bI0_i, bI_i, bI_x, bV0_v, bV_v, bV_x, ↓bnd_e, gd_t, z_64, z_u64, upd_s, hN, le0_m1, and00]
  | some v =>
    have v1 := tN_p gv
    have v2 := tE_p (B := B) w4
    have v3 := tSk_ge (B := B) v2.2.1
    have v4 := tSk_le (B := B) v2.2.1
    have v5 := tSk_id (B := B) v2.2.1
    rw [gv, enc_some] at hN
    dsimp only
    have hpT := fun (w : Nat → Int32) e => m_pT (F := F) (k := 14) (q := tE B t p1) (b := p1) (d := 0) (s := (gCs dn).length) (w := w) (p := tSk B t (tE B t p1)) hF (by omega) hT v2.2.1 rfl e
    have hpF := fun (w : Nat → Int32) e => m_pF (F := F) (k := 14) (q := tE B t p1) (b := p1) (d := 0) (s := (gCs dn).length) (w := w) (p := tSk B t (tE B t p1)) hF (by omega) hT v2.2.1 rfl e
    generalize tSk B t (tE B t p1) = p2 at *
    have hP1 := fun cs => PM_1 (l := (k, v, cs)) hd hP
    rw [← hx] at hP1
    by_cases g : tWl B t p2 = strN 14
    · have w5 := tWd_le (B := B) v4
      have w6 := tSk_ge (B := B) w5
      have w7 := tSk_le (B := B) w5
      have w8 := tWd_str (by omega) g
      have hC := (m_cond (F := F) hF hT 2100).2.2 0 (by omega) 40 (tWd B t p2) p2 (gCs dn).length (upd (upd (upd w x (nI k)) (x + 1) (nI v)) (x + 2) (nI (gCs dn).length)) (tSk B t (tWd B t p2)) w5 rfl (by omega) (by omega) (by omega)
      rw [if_pos g]
      unfold f_X10_readLawLine_b128
      cases gc : gC B t 2100 1 0 (tSk B t (tWd B t p2)) with
      | inl e =>
        rw [gc] at hC
        obtain ⟨q', d', s', w', e1, e2⟩ := hC
        refine ⟨q', d', s', w', fun k hk => by rw [e1 k hk, upd_n (by omega), upd_n (by omega), upd_n (by omega)], ?_⟩
        simp (disch := omega) only [fa_lit, nI_ad, nI_mul, nI_cl, inb_nI, nI_ltE, nI_leE, nI_eqE, nI_m1, nI_m1', m1_lt, lt_m1, m1_le, le_m1, eq_self, not_true_eq_false, not_false_eq_true, ↓reduceIte, leT, leF, ltT, ltF, eqT, eqF, decide_true, decide_false, true_and, and_true, Nat.reduceAdd, bI0_i, bI_i, bI_x, bV0_v, bV_v, bV_x, ↓bnd_e, gd_t, z_64, z_u64, z_16, z_u13, upd_s, hN, hpT _ g, show f_X10_readCond_r F (zS U (tWd B t p2) p2 0 (gCs dn).length (upd (upd (upd w x (nI k)) (x + 1) (nI v)) (x + 2) (nI (gCs dn).length))) = _ from e2, and00]
      | inr y =>
        obtain ⟨p3, cs⟩ := y
        rw [gc] at hC
        obtain ⟨q', b', e1, e3, e2⟩ := hC
        have e2 : f_X10_readCond_r F (zS U (tWd B t p2) p2 0 (gCs dn).length (upd (upd (upd w x (nI k)) (x + 1) (nI v)) (x + 2) (nI (gCs dn).length))) = some (.inl (some (.int (nI 1))), zS U q' b' 0 ((gCs dn).length + cs.length) (emF (upd (upd (upd w x (nI k)) (x + 1) (nI v)) (x + 2) (nI (gCs dn).length)) (gCs dn).length cs)) := e2
        have eL : (gCs dn).length + cs.length = (gCs (dn ++ [(k, v, cs)])).length := by rw [gCs_1, List.length_append]
        rw [eL] at e2
        refine ⟨q', b', _, e1, e3, fun k hk => ?_, hP1 cs, ?_⟩
        · rw [upd_n (by omega), emF_lo (by omega), upd_n (by omega), upd_n (by omega), upd_n (by omega)]
        · simp (disch := omega) only [fa_lit, nI_ad, nI_mul, nI_cl, inb_nI, nI_ltE, nI_leE, nI_eqE, nI_m1, nI_m1', m1_lt, lt_m1, m1_le, le_m1, eq_self, not_true_eq_false, not_false_eq_true, ↓reduceIte, leT, leF, ltT, ltF, eqT, eqF, decide_true, decide_false, true_and, and_true, Nat.reduceAdd, bI0_i, bI_i, bI_x, bV0_v, bV_v, bV_x, ↓bnd_e, gd_t, z_64, z_u64, z_16, z_u13, upd_s, hN, hpT _ g, e2, and10]
    · rw [if_neg g]
      unfold f_X10_readLawLine_b128
      have eL : (gCs dn).length = (gCs (dn ++ [(k, v, [])])).length := by rw [gCs_1, List.length_append]; rfl
      have hP2 := hP1 []
      refine ⟨p2, p2, _, v4, v5, fun k hk => ?_, hP2, ?_⟩
      · rw [upd_n (by omega), emF_lo (by omega), upd_n (by omega), upd_n (by omega), upd_n (by omega)]
      · rw [← eL]
        simp (disch := omega) only [fa_lit, nI_ad, nI_mul, nI_cl, inb_nI, nI_ltE, nI_leE, nI_eqE, nI_m1, nI_m1', m1_lt, lt_m1, m1_le, le_m1, eq_self, not_true_eq_false, not_false_eq_true, ↓reduceIte, leT, leF, ltT, ltF, eqT, eqF, decide_true, decide_false, true_and, and_true, Nat.reduceAdd, bI0_i, bI_i, bI_x, bV0_v, bV_v, bV_x, ↓bnd_e, gd_t, z_64, z_u64, z_16, z_u13, upd_s, hN, hpF _ g, and10]
        rfl
theorem m_lawLine {p : Nat} {dn : List gLn} (hF : 6000 ≤ F) (hT : TM U B t) (hq : q ≤ t) (hp : tSk B t q = p) (hd : dn.length < 12) (hs : (gCs dn).length ≤ p) (hP : PM w dn) :
    (match gLine B t p with
    | .inr (p', l) => ∃ q' b' w', q' ≤ t ∧ tSk B t q' = p' ∧ (∀ k, k < 1296 → w' k = w k) ∧ PM w' (dn ++ [l]) ∧ f_X10_readLine F (nI 0) (nI dn.length) (zS U q b d (gCs dn).length w) = some (.inl (some (.int (nI 1))), zS U q' b' 0 (gCs (dn ++ [l])).length w')
    | .inl e => ∃ q' d' s' w', (∀ k, k < 1296 → w' k = w k) ∧ f_X10_readLine F (nI 0) (nI dn.length) (zS U q b d (gCs dn).length w) = some (.inl (some (.int (nI 0))), zS U q' e d' s' w')) := by
  have ht := hT.1
  have hpt : p ≤ t := by rw [← hp]; exact tSk_le hq
  have hL := m_letters (F := F) (b := b) (d := d) (s := (gCs dn).length) (w := w) hF hT hq
  rw [hp] at hL
  have h3 : ∀ r, f_X10_readLawLine F (nI dn.length) (zS U (tWd B t p) p d (gCs dn).length w) = r → f_X10_readLine F (nI 0) (nI dn.length) (zS U q b d (gCs dn).length w) = bI0 r (fun r3 S2 => (if r3 = nI 0 then some (.inl (some (.int (nI 0))), S2) else some (.inl (some (.int (nI 1))), S2))) := by
    intro r hr
    unfold f_X10_readLine f_X10_readLine_b16 f_X10_readLine_b45 f_X10_readLine_b41 f_X10_readLine_b46
    simp (disch := omega) only [fa_lit, nI_ad, nI_mul, nI_cl, inb_nI, nI_ltE, nI_leE, nI_eqE, nI_m1, nI_m1', m1_lt, lt_m1, m1_le, le_m1, eq_self, not_true_eq_false, not_false_eq_true, ↓reduceIte, leT, leF, ltT, ltF, eqT, eqF, decide_true, decide_false, true_and, and_true, Nat.reduceAdd, bI0_i, bI_i, bI_x, bV0_v, bV_v, bV_x, ↓bnd_e, gd_t, hL, and00, and10]
    rw [hr]
  have hx : (nI 1297 + nI 4 * nI dn.length) = nI (1297 + 4 * dn.length) := by rw [nI_mul, nI_ad]
  cases gk : gKd (tWl B t p) with
  | none =>
    have gl : gLine B t p = .inl p := by unfold gLine; rw [gk]
    rw [gl]
    unfold gKd at gk
    have k1 : ¬ tWl B t p = strN 11 := fun e => by rw [if_pos e] at gk; cases gk
    rw [if_neg k1] at gk
    have k2 : ¬ tWl B t p = strN 12 := fun e => by rw [if_pos e] at gk; cases gk
    rw [if_neg k2] at gk
    have k3 : ¬ tWl B t p = strN 13 := fun e => by rw [if_pos e] at gk; cases gk
    have i1 := m_wdF (F := F) (d := d) (s := (gCs dn).length) (w := w) hF (by omega) hT hpt k1
    have i2 := m_wdF (F := F) (d := d) (s := (gCs dn).length) (w := w) hF (by omega) hT hpt k2
    have i3 := m_wdF (F := F) (d := d) (s := (gCs dn).length) (w := w) hF (by omega) hT hpt k3
    refine ⟨tWd B t p, d, (gCs dn).length, upd w (1297 + 4 * dn.length) (-nI 1), fun k hk => by rw [upd_n (by omega)], ?_⟩
    refine (h3 (some (.inl (some (.int (nI 0))), zS U (tWd B t p) p d (gCs dn).length (upd w (1297 + 4 * dn.length) (-nI 1)))) ?_).trans ?_
    · unfold f_X10_readLawLine
      rw [bnd_e, show ((1297 : Int32) + (4 : Int32) * nI dn.length) = nI (1297 + 4 * dn.length) from hx, i1, bIz0, i2, bIz0, i3, bIz0]
      unfold f_X10_readLawLine_b53
      simp (disch := omega) only [fa_lit, nI_ad, nI_mul, nI_cl, inb_nI, nI_ltE, nI_leE, nI_eqE, nI_m1, nI_m1', m1_lt, lt_m1, m1_le, le_m1, eq_self, not_true_eq_false, not_false_eq_true, ↓reduceIte, leT, leF, ltT, ltF, eqT, eqF, decide_true, decide_false, true_and, and_true, Nat.reduceAdd, bI0_i, bI_i, bI_x, bV0_v, bV_v, bV_x, ↓bnd_e, gd_t, z_64, z_u64, upd_s, le0_m1, and00]
    · simp (disch := omega) only [fa_lit, nI_ad, nI_mul, nI_cl, inb_nI, nI_ltE, nI_leE, nI_eqE, nI_m1, nI_m1', m1_lt, lt_m1, m1_le, le_m1, eq_self, not_true_eq_false, not_false_eq_true, ↓reduceIte, leT, leF, ltT, ltF, eqT, eqF, decide_true, decide_false, true_and, and_true, Nat.reduceAdd, bI0_i, bI_i, bI_x, bV0_v, bV_v, bV_x, ↓bnd_e, gd_t]
  | some k =>
    obtain ⟨hk2, hks⟩ := gKd_p gk
    have hb := m_b53 (F := F) (d := d) hF hT hpt hk2 hks gk hd hs hP (x := 1297 + 4 * dn.length) rfl
    have hR : f_X10_readLawLine F (nI dn.length) (zS U (tWd B t p) p d (gCs dn).length w) = f_X10_readLawLine_b53 F (nI (1297 + 4 * dn.length)) (nI k) (nI (1297 + 4 * dn.length)) (zS U (tWd B t p) p d (gCs dn).length w) := by
      have hW0 : ∀ j, j < 23 → ¬ 11 + k = j → f_X10_isWord F j (zS U (tWd B t p) p d (gCs dn).length w) = some (.inl (some (.int (nI 0))), zS U (tWd B t p) p d (gCs dn).length w) := by
        intro j hj hn
        have := m_isWord (F := F) (d := d) (s := (gCs dn).length) (w := w) hF hj hT hpt
        rw [hks, sw_ne (by omega) hj, decide_eq_false hn, bF] at this; exact this
      have hW1 : ∀ j, j < 23 → 11 + k = j → f_X10_isWord F j (zS U (tWd B t p) p d (gCs dn).length w) = some (.inl (some (.int (nI 1))), zS U (tWd B t p) p d (gCs dn).length w) := by
        intro j hj hn
        have := m_isWord (F := F) (d := d) (s := (gCs dn).length) (w := w) hF hj hT hpt
        rw [hks, sw_ne (by omega) hj, decide_eq_true hn, bT] at this; exact this
      unfold f_X10_readLawLine
      rw [bnd_e, show ((1297 : Int32) + (4 : Int32) * nI dn.length) = nI (1297 + 4 * dn.length) from hx]
      match k, hk2 with
      | 0, _ => rw [hW1 11 (by omega) (by omega), bIz1]; rfl
      | 1, _ => rw [hW0 11 (by omega) (by omega), bIz0, hW1 12 (by omega) (by omega), bIz1]; rfl
      | 2, _ => rw [hW0 11 (by omega) (by omega), bIz0, hW0 12 (by omega) (by omega), bIz0, hW1 13 (by omega) (by omega), bIz1]; rfl
    cases gl : gLine B t p with
    | inl e =>
      rw [gl] at hb
      obtain ⟨q', d', s', w', e1, e2⟩ := hb
      refine ⟨q', d', s', w', e1, (h3 _ (hR.trans e2)).trans ?_⟩
      simp (disch := omega) only [fa_lit, nI_ad, nI_mul, nI_cl, inb_nI, nI_ltE, nI_leE, nI_eqE, nI_m1, nI_m1', m1_lt, lt_m1, m1_le, le_m1, eq_self, not_true_eq_false, not_false_eq_true, ↓reduceIte, leT, leF, ltT, ltF, eqT, eqF, decide_true, decide_false, true_and, and_true, Nat.reduceAdd, bI0_i, bI_i, bI_x, bV0_v, bV_v, bV_x, ↓bnd_e, gd_t]
    | inr y =>
      obtain ⟨p', l⟩ := y
      rw [gl] at hb
      obtain ⟨q', b', w', e1, e2, e3, e4, e5⟩ := hb
      refine ⟨q', b', w', e1, e2, e3, e4, (h3 _ (hR.trans e5)).trans ?_⟩
      simp (disch := omega) only [fa_lit, nI_ad, nI_mul, nI_cl, inb_nI, nI_ltE, nI_leE, nI_eqE, nI_m1, nI_m1', m1_lt, lt_m1, m1_le, le_m1, eq_self, not_true_eq_false, not_false_eq_true, ↓reduceIte, leT, leF, ltT, ltF, eqT, eqF, decide_true, decide_false, true_and, and_true, Nat.reduceAdd, bI0_i, bI_i, bI_x, bV0_v, bV_v, bV_x, ↓bnd_e, gd_t]
theorem m_lawLines (hF : 6000 ≤ F) (hT : TM U B t) : ∀ (m p : Nat) (dn : List gLn) (q b d : Nat) (w : Nat → Int32) (f : Nat), q ≤ t → tSk B t q = p → (gCs dn).length ≤ p → dn.length + m = 12 → m < f → PM w dn →
    (match gLs B t m p with
    | .inr ls => ∃ q' b' d' s' w', (∀ k, k < 1296 → w' k = w k) ∧ PM w' (dn ++ ls) ∧ f_X10_readAll_b28 F f (nI 0) (nI dn.length) (zS U q b d (gCs dn).length w) = some (.inl (some (.int (nI (dn ++ ls).length))), zS U q' b' d' s' w')
    | .inl e => ∃ q' d' s' w', (∀ k, k < 1296 → w' k = w k) ∧ f_X10_readAll_b28 F f (nI 0) (nI dn.length) (zS U q b d (gCs dn).length w) = some (.inl (some (.int (-nI 1))), zS U q' e d' s' w'))
  | 0, p, dn, q, b, d, w, f + 1, hq, hp, hn, hd, hf, hP => by
    have ed : dn.length = 12 := by omega
    have hL := m_letters (F := F) (b := b) (d := d) (s := (gCs dn).length) (w := w) hF hT hq
    rw [hp] at hL
    rw [gLs, f_X10_readAll_b28, ed]
    refine ⟨tWd B t p, d, (gCs dn).length, w, fun _ _ => rfl, ?_⟩
    unfold f_X10_readLine f_X10_readLine_b16 f_X10_readLine_b45 f_X10_readLine_b46
    simp (disch := omega) only [fa_lit, nI_ad, nI_mul, nI_cl, inb_nI, nI_ltE, nI_leE, nI_eqE, nI_m1, nI_m1', m1_lt, lt_m1, m1_le, le_m1, eq_self, not_true_eq_false, not_false_eq_true, ↓reduceIte, leT, leF, ltT, ltF, eqT, eqF, decide_true, decide_false, true_and, and_true, Nat.reduceAdd, bI0_i, bI_i, bI_x, bV0_v, bV_v, bV_x, ↓bnd_e, gd_t, hL, Nat.le_refl, and00]
  | m + 1, p, dn, q, b, d, w, f + 1, hq, hp, hn, hd, hf, hP => by
    have ht := hT.1
    have hpt : p ≤ t := by rw [← hp]; exact tSk_le hq
    have hl := m_lawLine (F := F) (b := b) (d := d) hF hT hq hp (show dn.length < 12 by omega) hn hP
    rw [gLs, f_X10_readAll_b28]
    cases gl : gLine B t p with
    | inl e =>
      rw [gl] at hl
      obtain ⟨q', d', s', w', e1, e2⟩ := hl
      refine ⟨q', d', s', w', e1, ?_⟩
      simp (disch := omega) only [fa_lit, nI_ad, nI_mul, nI_cl, inb_nI, nI_ltE, nI_leE, nI_eqE, nI_m1, nI_m1', m1_lt, lt_m1, m1_le, le_m1, eq_self, not_true_eq_false, not_false_eq_true, ↓reduceIte, leT, leF, ltT, ltF, eqT, eqF, decide_true, decide_false, true_and, and_true, Nat.reduceAdd, bI0_i, bI_i, bI_x, bV0_v, bV_v, bV_x, ↓bnd_e, gd_t, e2]
    | inr x =>
      obtain ⟨p1, l⟩ := x
      rw [gl] at hl
      have qq := gLine_p hpt gl
      obtain ⟨q1, b1, w1, r1, r2, r3, r4, r5⟩ := hl
      have hB := m_blanks (F := F) (b := b1) (d := 0) (s := (gCs (dn ++ [l])).length) (w := w1) hF hT r1
      rw [r2] at hB
      have el : (dn ++ [l]).length = dn.length + 1 := by rw [List.length_append, List.length_singleton]
      dsimp only
      by_cases g1 : p1 = t
      · rw [if_pos g1]
        refine ⟨p1, p1, 0, (gCs (dn ++ [l])).length, w1, r3, r4, ?_⟩
        rw [el]
        simp (disch := omega) only [fa_lit, nI_ad, nI_mul, nI_cl, inb_nI, nI_ltE, nI_leE, nI_eqE, nI_m1, nI_m1', m1_lt, lt_m1, m1_le, le_m1, eq_self, not_true_eq_false, not_false_eq_true, ↓reduceIte, leT, leF, ltT, ltF, eqT, eqF, decide_true, decide_false, true_and, and_true, Nat.reduceAdd, bI0_i, bI_i, bI_x, bV0_v, bV_v, bV_x, ↓bnd_e, gd_t, r5, hB, z_10, z_11, hT.2.1, g1]
      · rw [if_neg g1]
        have hA := m_isAt (b := p1) (d := 0) (s := (gCs (dn ++ [l])).length) (w := w1) (q := p1) (lo := 59) (hi := 59) hT (by omega) (by omega) qq.2.2
        by_cases g2 : tSg B t p1 59 = true
        · have hg := tSg_p g2
          rw [decide_eq_true (by omega)] at hA
          have w3 := tSk_ge (B := B) (show p1 + 1 ≤ t by omega)
          have ih := m_lawLines hF hT m (tSk B t (p1 + 1)) (dn ++ [l]) (p1 + 1) p1 0 w1 f (by omega) rfl (by rw [gCs_1, List.length_append]; omega) (by omega) (by omega) r4
          rw [if_pos g2]
          have e2 : bI0 (f_X10_readLine F (nI 0) (nI dn.length) (zS U q b d (gCs dn).length w)) (fun r5 S4 => (if ¬ r5 = nI 0 then bV0 (f_X10_blanks F S4) (fun S6 => (if ¬ (S6 63 10) = (S6 63 11) then bI0 (f_X10_isAt (nI 59) (nI 59) S6) (fun r8 S7 => (if ¬ r8 = nI 0 then bnd (upS S7 63 10 ((S7 63 10) + nI 1)) (fun S9 => f_X10_readAll_b28 F f (nI 0) (nI dn.length + nI 1) S9) else some (.inl (some (.int (-nI 1))), S7))) else some (.inl (some (.int (nI dn.length + nI 1))), S6))) else some (.inl (some (.int (-nI 1))), S4))) = f_X10_readAll_b28 F f (nI 0) (nI (dn ++ [l]).length) (zS U (p1 + 1) p1 0 (gCs (dn ++ [l])).length w1) := by
            rw [el]
            simp (disch := omega) only [fa_lit, nI_ad, nI_mul, nI_cl, inb_nI, nI_ltE, nI_leE, nI_eqE, nI_m1, nI_m1', m1_lt, lt_m1, m1_le, le_m1, eq_self, not_true_eq_false, not_false_eq_true, ↓reduceIte, leT, leF, ltT, ltF, eqT, eqF, decide_true, decide_false, true_and, and_true, Nat.reduceAdd, bI0_i, bI_i, bI_x, bV0_v, bV_v, bV_x, ↓bnd_e, gd_t, r5, hB, z_10, z_11, hT.2.1, g1, hA, bT, z_u10]
          cases gs : gLs B t m (tSk B t (p1 + 1)) with
          | inl e =>
            rw [gs] at ih
            obtain ⟨q2, d2, s2, w2, e3, e4⟩ := ih
            exact ⟨q2, d2, s2, w2, fun k hk => by rw [e3 k hk, r3 k hk], e2.trans e4⟩
          | inr ls =>
            rw [gs] at ih
            obtain ⟨q2, b2, d2, s2, w2, e3, P2, e4⟩ := ih
            have ea : dn ++ [l] ++ ls = dn ++ l :: ls := by rw [List.append_assoc]; rfl
            rw [ea] at P2 e4
            exact ⟨q2, b2, d2, s2, w2, fun k hk => by rw [e3 k hk, r3 k hk], P2, e2.trans e4⟩
        · have hA' : ¬ (p1 < t ∧ 59 ≤ B p1 ∧ B p1 ≤ 59) := fun e => g2 (decide_eq_true (by omega))
          rw [decide_eq_false hA'] at hA
          rw [if_neg g2]
          refine ⟨p1, 0, (gCs (dn ++ [l])).length, w1, r3, ?_⟩
          simp (disch := omega) only [fa_lit, nI_ad, nI_mul, nI_cl, inb_nI, nI_ltE, nI_leE, nI_eqE, nI_m1, nI_m1', m1_lt, lt_m1, m1_le, le_m1, eq_self, not_true_eq_false, not_false_eq_true, ↓reduceIte, leT, leF, ltT, ltF, eqT, eqF, decide_true, decide_false, true_and, and_true, Nat.reduceAdd, bI0_i, bI_i, bI_x, bV0_v, bV_v, bV_x, ↓bnd_e, gd_t, r5, hB, z_10, z_11, hT.2.1, g1, hA, bF]
end T
