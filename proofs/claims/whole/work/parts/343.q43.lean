/-! texts: the model reads conditions -/
section T
variable {B : Nat → Nat} {t : Nat} {U : mS} {q b d s : Nat} {w : Nat → Int32} {F : Nat}
def z1K (Y : mS) : Option mR := some (.inl (some (.int (nI 1))), Y)
def ZL (B : Nat → Nat) (t : Nat) (U : mS) (d s : Nat) (w : Nat → Int32) (r : gR) (o : Option mR) (K : mS → Option mR) : Prop := match r with
  | .inr (p', cs) => ∃ q' b', q' ≤ t ∧ tSk B t q' = p' ∧ o = K (zS U q' b' d (s + cs.length) (emF w s cs))
  | .inl e => ∃ q' d' s' w', (∀ k, k < 1296 → w' k = w k) ∧ o = some (.inl (some (.int (nI 0))), zS U q' e d' s' w')
theorem ZL_k {d1 s1 : Nat} {w1 : Nat → Int32} {r : gR} {f : Nat → List Nat → gR} {o : Option mR} {K1 K : mS → Option mR} (g : ZL B t U d1 s1 w1 r o K1) (hw : ∀ k, k < 1296 → w1 k = w k)
    (hs : ∀ p1 c1 q1 b1, r = .inr (p1, c1) → q1 ≤ t → tSk B t q1 = p1 → ZL B t U d s w (f p1 c1) (K1 (zS U q1 b1 d1 (s1 + c1.length) (emF w1 s1 c1))) K) : ZL B t U d s w (gB r f) o K := by
  match r, g, hs with
  | .inl e, g, _ =>
    obtain ⟨q', d', s', w', g1, g2⟩ := g
    exact ⟨q', d', s', w', fun k hk => by rw [g1 k hk, hw k hk], g2⟩
  | .inr (p1, c1), g, hs =>
    obtain ⟨q', b', g1, g2, g3⟩ := g
    rw [gB_r, g3]; exact hs p1 c1 q' b' rfl g1 g2
theorem ZL_b {d1 s1 : Nat} {w1 : Nat → Int32} {r : gR} {f : Nat → List Nat → gR} {o : Option mR} {k : Int32 → mS → Option mR} {K : mS → Option mR} (g : ZL B t U d1 s1 w1 r o z1K) (hw : ∀ k, k < 1296 → w1 k = w k)
    (hf : ∀ Y, k (nI 0) Y = some (.inl (some (.int (nI 0))), Y))
    (hs : ∀ p1 c1 q1 b1, r = .inr (p1, c1) → q1 ≤ t → tSk B t q1 = p1 → ZL B t U d s w (f p1 c1) (k (nI 1) (zS U q1 b1 d1 (s1 + c1.length) (emF w1 s1 c1))) K) : ZL B t U d s w (gB r f) (bI0 o k) K := by
  match r, g, hs with
  | .inl e, g, _ =>
    obtain ⟨q', d', s', w', g1, g2⟩ := g
    exact ⟨q', d', s', w', fun k hk => by rw [g1 k hk, hw k hk], by rw [g2, bI0_i, hf]⟩
  | .inr (p1, c1), g, hs =>
    obtain ⟨q', b', g1, g2, g3⟩ := g
    rw [gB_r, g3]; exact hs p1 c1 q' b' rfl g1 g2
theorem emF_w {cs : List Nat} (k : Nat) (hk : k < 1296) : emF w s cs k = w k := emF_lo (by omega)
theorem ZL_sh {c1 : List Nat} {r : gR} {o : Option mR} {K : mS → Option mR} (g : ZL B t U d (s + c1.length) (emF w s c1) r o K) : ZL B t U d s w (gB r (fun p2 c2 => .inr (p2, c1 ++ c2))) o K := by
  match r, g with
  | .inl e, g =>
    obtain ⟨q', d', s', w', g1, g2⟩ := g
    exact ⟨q', d', s', w', fun k hk => by rw [g1 k hk, emF_w k hk], g2⟩
  | .inr (p2, c2), g =>
    obtain ⟨q', b', g1, g2, g3⟩ := g
    refine ⟨q', b', g1, g2, ?_⟩
    rw [g3, emF_app, List.length_append, Nat.add_assoc]
theorem emF_1 {c1 : List Nat} {x : Nat} : emF w s (c1 ++ [x]) = upd (upd (emF w s c1) (1345 + 2 * (s + c1.length)) (nI (stepOf x))) (1345 + 2 * (s + c1.length) + 1) (nI (argOf x)) := by rw [emF_app]; rfl
theorem tE_n {p : Nat} (hp : p ≤ t) (h : ¬ (p < t ∧ tDig (B p) = true)) : tE B t p = p := by
  unfold tE
  rcases Nat.lt_or_ge p t with g | g
  · have hd : tDig (B p) = false := by
      cases e : tDig (B p) with
      | true => exact absurd ⟨g, e⟩ h
      | false => rfl
    rw [tDg_n g hd]
  · have : p = t := by omega
    subst this; rw [tDg_e]
theorem tN_n {p lo hi : Nat} (hp : p ≤ t) (h : ¬ (p < t ∧ tDig (B p) = true)) : tN B t lo hi p = none := by
  have e := tE_n (B := B) hp h
  unfold tN; rw [e, if_neg (by omega)]
theorem gNi_0 : gNi 0 = 17 := rfl
theorem gNi_1 : gNi 1 = 1 := rfl
theorem gNi_2 : gNi 2 = 2 := rfl
theorem gNi_3 : gNi 3 = 3 := rfl
theorem gNi_4 : gNi 4 = 4 := rfl
theorem gNi_5 : gNi 5 = 18 := rfl
theorem gNi_6 : gNi 6 = 19 := rfl
theorem gNi_7 : gNi 7 = 20 := rfl
theorem neg1_lt0 : (-nI 1 < nI 0) = True := m1_lt0
theorem bIz0 {Y : mS} {A B : Int32 → mS → Option mR} : bI0 (some (.inl (some (.int (nI 0))), Y)) (fun r S => if r = 0 then A r S else B r S) = A (nI 0) Y := by
  rw [bI0_i]; exact if_pos rfl
theorem bIz1 {Y : mS} {A B : Int32 → mS → Option mR} : bI0 (some (.inl (some (.int (nI 1))), Y)) (fun r S => if r = 0 then A r S else B r S) = B (nI 1) Y := by
  rw [bI0_i]; exact if_neg (by decide)
theorem m_b141 {v a : Nat} (hs : s < 400) (hv : v < 100) : f_X10_readPart_b141 F (nI v) (zS U q b d s w) = z1K (zS U q b d (s + 1) (upd (upd w (1345 + 2 * s) (nI v)) (1345 + 2 * s + 1) (nI 0))) := by
  have he := m_emits (U := U) (q := q) (b := b) (d := d) (s := s) (w := w) (x := nI v) (y := nI 0) hs
  unfold f_X10_readPart_b141 f_X10_readPart_b148 f_X10_readPart_b157
  simp (disch := omega) only [fa_lit, nI_ad, nI_mul, nI_cl, inb_nI, nI_ltE, nI_leE, nI_eqE, nI_m1, nI_m1', m1_lt, lt_m1, m1_le, le_m1, eq_self, not_true_eq_false, not_false_eq_true, ↓reduceIte, leT, leF, ltT, ltF, eqT, eqF, decide_true, decide_false, true_and, and_true, Nat.reduceAdd, bI0_i, bI_i, bI_x, bV0_v, bV_v, bV_x, ↓bnd_e, gd_t, he, and10]; rfl
theorem m_part (hF : 6000 ≤ F) (hT : TM U B t) (hq : q ≤ t) (hs : s < 400) : ZL B t U d s w (gPart B t (tSk B t q)) (f_X10_readPart F (zS U q b d s w)) z1K := by
  have hp := tSk_le (B := B) hq
  have hL := m_letters (F := F) (b := b) (d := d) (s := s) (w := w) hF hT hq
  have hid := tSk_id (B := B) hq
  generalize hpe : tSk B t q = p at *
  have hN := m_number (F := F) (lo := 0) (hi := 999) (q := p) (b := p) (d := d) (s := s) (w := w) hF hT (by omega) (by omega) hp
  rw [hid] at hN
  have ht := hT.1
  unfold f_X10_readPart gPart
  by_cases g0 : tWl B t p = []
  · have hwd : tWd B t p = p := by unfold tWd; rw [g0]; rfl
    rw [hwd] at hL
    by_cases g : p < t ∧ tDig (B p) = true
    · rw [if_pos g]
      cases gv : tN B t 0 999 p with
      | none =>
        rw [gv, enc_none] at hN
        have he := m_emits (U := U) (q := tE B t p) (b := p) (d := d) (s := s) (w := w) (x := nI 9) (y := -nI 1) hs
        refine ⟨tE B t p, d, s + 1, upd (upd w (1345 + 2 * s) (nI 9)) (1345 + 2 * s + 1) (-nI 1), fun k hk => ?_, ?_⟩
        · rw [upd_n (by omega), upd_n (by omega)]
        · unfold f_X10_readPart_b148 f_X10_readPart_b157
          simp (disch := omega) only [fa_lit, nI_ad, nI_mul, nI_cl, inb_nI, nI_ltE, nI_leE, nI_eqE, nI_m1, nI_m1', m1_lt, lt_m1, m1_le, le_m1, eq_self, not_true_eq_false, not_false_eq_true, ↓reduceIte, leT, leF, ltT, ltF, eqT, eqF, decide_true, decide_false, true_and, and_true, Nat.reduceAdd, bI0_i, bI_i, bI_x, bV0_v, bV_v, bV_x, ↓bnd_e, gd_t, hL, z_10, z_12, hN, he, neg1_lt0, and00]
      | some v =>
        have hv := tN_p gv
        rw [gv, enc_some] at hN
        have he := m_emits (U := U) (q := tE B t p) (b := p) (d := d) (s := s) (w := w) (x := nI 9) (y := nI v) hs
        refine ⟨tE B t p, p, (tE_p hp).2.1, rfl, ?_⟩
        unfold f_X10_readPart_b148 f_X10_readPart_b157
        have e1 : emF w s [v] = upd (upd w (1345 + 2 * s) (nI 9)) (1345 + 2 * s + 1) (nI v) := by
          show upd (upd w (1345 + 2 * s) (nI (stepOf v))) (1345 + 2 * s + 1) (nI (argOf v)) = _
          rw [show stepOf v = 9 from if_pos (by omega), show argOf v = v from if_pos (by omega)]
        rw [e1, List.length_singleton]
        simp (disch := omega) only [fa_lit, nI_ad, nI_mul, nI_cl, inb_nI, nI_ltE, nI_leE, nI_eqE, nI_m1, nI_m1', m1_lt, lt_m1, m1_le, le_m1, eq_self, not_true_eq_false, not_false_eq_true, ↓reduceIte, leT, leF, ltT, ltF, eqT, eqF, decide_true, decide_false, true_and, and_true, Nat.reduceAdd, bI0_i, bI_i, bI_x, bV0_v, bV_v, bV_x, ↓bnd_e, gd_t, hL, z_10, z_12, hN, he, and10]; rfl
    · rw [if_neg g, g0, gNm_nil]
      rw [tN_n hp g, enc_none, tE_n hp g] at hN
      have he := m_emits (U := U) (q := p) (b := p) (d := d) (s := s) (w := w) (x := nI 9) (y := -nI 1) hs
      refine ⟨p, d, s + 1, upd (upd w (1345 + 2 * s) (nI 9)) (1345 + 2 * s + 1) (-nI 1), fun k hk => ?_, ?_⟩
      · rw [upd_n (by omega), upd_n (by omega)]
      · unfold f_X10_readPart_b148 f_X10_readPart_b157
        simp (disch := omega) only [fa_lit, nI_ad, nI_mul, nI_cl, inb_nI, nI_ltE, nI_leE, nI_eqE, nI_m1, nI_m1', m1_lt, lt_m1, m1_le, le_m1, eq_self, not_true_eq_false, not_false_eq_true, ↓reduceIte, leT, leF, ltT, ltF, eqT, eqF, decide_true, decide_false, true_and, and_true, Nat.reduceAdd, bI0_i, bI_i, bI_x, bV0_v, bV_v, bV_x, ↓bnd_e, gd_t, hL, z_10, z_12, hN, he, neg1_lt0, and00]
  · have hwl := tWd_le (B := B) hp
    have hne : ¬ tWd B t p = p := by
      intro e
      unfold tWd at e
      have : (tWl B t p).length = 0 := by omega
      exact g0 (List.eq_nil_of_length_eq_zero this)
    have g : ¬ (p < t ∧ tDig (B p) = true) := fun e => g0 (tWl_dig e.1 e.2)
    rw [if_neg g]
    cases gn : gNm (tWl B t p) with
    | none =>
      have hW : ∀ i, i < 8 → f_X10_isWord F (gNi i) (zS U (tWd B t p) p d s w) = some (.inl (some (.int (nI 0))), zS U (tWd B t p) p d s w) := by
        intro i hi
        have := m_isWord (F := F) (d := d) (s := s) (w := w) hF (gNi_lt hi) hT hp
        rw [decide_eq_false (gNm_n gn hi), bF] at this; exact this
      have he := m_emits (U := U) (q := tWd B t p) (b := p) (d := d) (s := s) (w := w) (x := -nI 1) (y := nI 0) hs
      have hne' : ¬ nI (tWd B t p) = nI p := by rw [nI_eqE (by omega) (by omega)]; exact hne
      refine ⟨tWd B t p, d, s + 1, upd (upd w (1345 + 2 * s) (-nI 1)) (1345 + 2 * s + 1) (nI 0), fun k hk => ?_, ?_⟩
      · rw [upd_n (by omega), upd_n (by omega)]
      · rw [hL, bV0_v, z_10, z_12, if_pos hne', show f_X10_isWord F 18 (zS U (tWd B t p) p d s w) = _ from hW 5 (by omega), bIz0, show f_X10_isWord F 17 (zS U (tWd B t p) p d s w) = _ from hW 0 (by omega), bIz0, show f_X10_isWord F 1 (zS U (tWd B t p) p d s w) = _ from hW 1 (by omega), bIz0, show f_X10_isWord F 19 (zS U (tWd B t p) p d s w) = _ from hW 6 (by omega), bIz0, show f_X10_isWord F 2 (zS U (tWd B t p) p d s w) = _ from hW 2 (by omega), bIz0, show f_X10_isWord F 3 (zS U (tWd B t p) p d s w) = _ from hW 3 (by omega), bIz0, show f_X10_isWord F 4 (zS U (tWd B t p) p d s w) = _ from hW 4 (by omega), bIz0, show f_X10_isWord F 20 (zS U (tWd B t p) p d s w) = _ from hW 7 (by omega), bIz0]
        unfold f_X10_readPart_b141 f_X10_readPart_b148 f_X10_readPart_b157
        simp (disch := omega) only [fa_lit, nI_ad, nI_mul, nI_cl, inb_nI, nI_ltE, nI_leE, nI_eqE, nI_m1, nI_m1', m1_lt, lt_m1, m1_le, le_m1, eq_self, not_true_eq_false, not_false_eq_true, ↓reduceIte, leT, leF, ltT, ltF, eqT, eqF, decide_true, decide_false, true_and, and_true, Nat.reduceAdd, bI0_i, bI_i, bI_x, bV0_v, bV_v, bV_x, ↓bnd_e, gd_t, he, neg1_lt0, and00]
    | some a =>
      obtain ⟨ha, hwa⟩ := gNm_p gn
      have hW0 : ∀ k, k < 23 → ¬ gNi a = k → f_X10_isWord F k (zS U (tWd B t p) p d s w) = some (.inl (some (.int (nI 0))), zS U (tWd B t p) p d s w) := by
        intro k hk hn
        have := m_isWord (F := F) (d := d) (s := s) (w := w) hF hk hT hp
        rw [hwa, sw_ne (gNi_lt ha) hk, decide_eq_false hn, bF] at this; exact this
      have hW1 : ∀ k, k < 23 → gNi a = k → f_X10_isWord F k (zS U (tWd B t p) p d s w) = some (.inl (some (.int (nI 1))), zS U (tWd B t p) p d s w) := by
        intro k hk hn
        have := m_isWord (F := F) (d := d) (s := s) (w := w) hF hk hT hp
        rw [hwa, sw_ne (gNi_lt ha) hk, decide_eq_true hn, bT] at this; exact this
      have hne' : ¬ nI (tWd B t p) = nI p := by rw [nI_eqE (by omega) (by omega)]; exact hne
      refine ⟨tWd B t p, p, hwl, rfl, ?_⟩
      have hb := fun v hv => m_b141 (F := F) (U := U) (q := tWd B t p) (b := p) (d := d) (s := s) (w := w) (v := v) (a := 0) hs hv
      rw [hL, bV0_v, z_10, z_12, if_pos hne']
      match a, ha with
      | 0, _ => rw [hW0 18 (by omega) (by decide), bIz0, hW1 17 (by omega) (by decide), bIz1]; exact hb 1 (by omega)
      | 1, _ => rw [hW0 18 (by omega) (by decide), bIz0, hW0 17 (by omega) (by decide), bIz0, hW1 1 (by omega) (by decide), bIz1]; exact hb 2 (by omega)
      | 2, _ => rw [hW0 18 (by omega) (by decide), bIz0, hW0 17 (by omega) (by decide), bIz0, hW0 1 (by omega) (by decide), bIz0, hW0 19 (by omega) (by decide), bIz0, hW1 2 (by omega) (by decide), bIz1]; exact hb 4 (by omega)
      | 3, _ => rw [hW0 18 (by omega) (by decide), bIz0, hW0 17 (by omega) (by decide), bIz0, hW0 1 (by omega) (by decide), bIz0, hW0 19 (by omega) (by decide), bIz0, hW0 2 (by omega) (by decide), bIz0, hW1 3 (by omega) (by decide), bIz1]; exact hb 5 (by omega)
      | 4, _ => rw [hW0 18 (by omega) (by decide), bIz0, hW0 17 (by omega) (by decide), bIz0, hW0 1 (by omega) (by decide), bIz0, hW0 19 (by omega) (by decide), bIz0, hW0 2 (by omega) (by decide), bIz0, hW0 3 (by omega) (by decide), bIz0, hW1 4 (by omega) (by decide), bIz1]; exact hb 6 (by omega)
      | 5, _ => rw [hW1 18 (by omega) (by decide), bIz1]; exact hb 0 (by omega)
      | 6, _ => rw [hW0 18 (by omega) (by decide), bIz0, hW0 17 (by omega) (by decide), bIz0, hW0 1 (by omega) (by decide), bIz0, hW1 19 (by omega) (by decide), bIz1]; exact hb 3 (by omega)
      | 7, _ => rw [hW0 18 (by omega) (by decide), bIz0, hW0 17 (by omega) (by decide), bIz0, hW0 1 (by omega) (by decide), bIz0, hW0 19 (by omega) (by decide), bIz0, hW0 2 (by omega) (by decide), bIz0, hW0 3 (by omega) (by decide), bIz0, hW0 4 (by omega) (by decide), bIz0, hW1 20 (by omega) (by decide), bIz1]; exact hb 7 (by omega)
theorem m_sgT {x p : Nat} (hF : 6000 ≤ F) (hT : TM U B t) (hx : x < 128) (hq : q ≤ t) (hp : tSk B t q = p) (e : tSg B t p x = true) : f_X10_sign F (nI x) (zS U q b d s w) = some (.inl (some (.int (nI 1))), zS U (p + 1) p d s w) := by
  subst hp
  have := m_sign (F := F) (b := b) (d := d) (s := s) (w := w) hF hT hx hq
  rw [e, if_pos rfl, bT] at this; exact this
theorem m_sgF {x p : Nat} (hF : 6000 ≤ F) (hT : TM U B t) (hx : x < 128) (hq : q ≤ t) (hp : tSk B t q = p) (e : ¬ tSg B t p x = true) : f_X10_sign F (nI x) (zS U q b d s w) = some (.inl (some (.int (nI 0))), zS U p p d s w) := by
  subst hp
  have := m_sign (F := F) (b := b) (d := d) (s := s) (w := w) hF hT hx hq
  rw [if_neg e, (Bool.not_eq_true _).mp e, bF] at this; exact this
theorem m_pT {k p : Nat} (hF : 6000 ≤ F) (hk : k < 23) (hT : TM U B t) (hq : q ≤ t) (hp : tSk B t q = p) (e : tWl B t p = strN k) : f_X10_passes F k (zS U q b d s w) = some (.inl (some (.int (nI 1))), zS U (tWd B t p) p d s w) := by
  subst hp
  have := m_passes (F := F) (b := b) (d := d) (s := s) (w := w) hF hk hT hq
  rw [decide_eq_true e, if_pos e, bT] at this; exact this
theorem m_pF {k p : Nat} (hF : 6000 ≤ F) (hk : k < 23) (hT : TM U B t) (hq : q ≤ t) (hp : tSk B t q = p) (e : ¬ tWl B t p = strN k) : f_X10_passes F k (zS U q b d s w) = some (.inl (some (.int (nI 0))), zS U p p d s w) := by
  subst hp
  have := m_passes (F := F) (b := b) (d := d) (s := s) (w := w) hF hk hT hq
  rw [decide_eq_false e, if_neg e, bF] at this; exact this
theorem m_sumL (hF : 6000 ≤ F) (hT : TM U B t) : ∀ (m f p q b s : Nat) (w : Nat → Int32), q ≤ t → tSk B t q = p → s + 6 ≤ p → t - p < m → t - p < f →
    ZL B t U d s w (gSL B t m p) (f_X10_readSum_b9 F f (zS U q b d s w)) z1K
  | 0, f, p, q, b, s, w, hq, hp, hs, hm, hf => absurd hm (by omega)
  | m + 1, f + 1, p, q, b, s, w, hq, hp, hs, hm, hf => by
    have ht := hT.1
    have hpt : p ≤ t := by rw [← hp]; exact tSk_le hq
    rw [gSL, f_X10_readSum_b9]
    by_cases g : tSg B t p 43 = true
    · have hg := tSg_p g
      have h1 := m_sgT (F := F) (b := b) (d := d) (s := s) (w := w) (x := 43) hF hT (by omega) hq hp g
      rw [if_pos g]
      simp (disch := omega) only [fa_lit, nI_ad, nI_mul, nI_cl, inb_nI, nI_ltE, nI_leE, nI_eqE, nI_m1, nI_m1', m1_lt, lt_m1, m1_le, le_m1, eq_self, not_true_eq_false, not_false_eq_true, ↓reduceIte, leT, leF, ltT, ltF, eqT, eqF, decide_true, decide_false, true_and, and_true, Nat.reduceAdd, bI0_i, bI_i, bI_x, bV0_v, bV_v, bV_x, ↓bnd_e, gd_t, h1]
      have hsk := tSk_ge (B := B) (show p + 1 ≤ t by omega)
      have hsk2 := tSk_le (B := B) (show p + 1 ≤ t by omega)
      refine ZL_b (m_part (b := p) hF hT (show p + 1 ≤ t by omega) (by omega)) (fun _ _ => rfl) (fun Y => ?_) (fun p1 c1 q1 b1 e hq1 hs1 => ?_)
      · simp (disch := omega) only [fa_lit, nI_ad, nI_mul, nI_cl, inb_nI, nI_ltE, nI_leE, nI_eqE, nI_m1, nI_m1', m1_lt, lt_m1, m1_le, le_m1, eq_self, not_true_eq_false, not_false_eq_true, ↓reduceIte, leT, leF, ltT, ltF, eqT, eqF, decide_true, decide_false, true_and, and_true, Nat.reduceAdd, and00]
      · obtain ⟨v, rfl⟩ := gPart_1 hsk2 e
        have qq := gPart_p hsk2 e
        have he := m_emits (U := U) (q := q1) (b := b1) (d := d) (s := s + 1) (w := emF w s [v]) (x := nI 10) (y := nI 0) (by omega)
        have ih := m_sumL hF hT m f p1 q1 b1 (s + [v, 2005].length) (emF w s [v, 2005]) hq1 hs1 (by show s + 2 + 6 ≤ p1; omega) (by omega) (by omega)
        have ih2 := ZL_sh ih
        rw [List.length_singleton]
        simp (disch := omega) only [fa_lit, nI_ad, nI_mul, nI_cl, inb_nI, nI_ltE, nI_leE, nI_eqE, nI_m1, nI_m1', m1_lt, lt_m1, m1_le, le_m1, eq_self, not_true_eq_false, not_false_eq_true, ↓reduceIte, leT, leF, ltT, ltF, eqT, eqF, decide_true, decide_false, true_and, and_true, Nat.reduceAdd, bI0_i, bI_i, bI_x, bV0_v, bV_v, bV_x, ↓bnd_e, gd_t, he]
        exact ih2
    · have h1 := m_sgF (F := F) (b := b) (d := d) (s := s) (w := w) (x := 43) hF hT (by omega) hq hp g
      rw [if_neg g]
      refine ⟨p, p, hpt, by rw [← hp, tSk_id hq], ?_⟩
      simp (disch := omega) only [fa_lit, nI_ad, nI_mul, nI_cl, inb_nI, nI_ltE, nI_leE, nI_eqE, nI_m1, nI_m1', m1_lt, lt_m1, m1_le, le_m1, eq_self, not_true_eq_false, not_false_eq_true, ↓reduceIte, leT, leF, ltT, ltF, eqT, eqF, decide_true, decide_false, true_and, and_true, Nat.reduceAdd, bI0_i, bI_i, bI_x, bV0_v, bV_v, bV_x, ↓bnd_e, gd_t, h1, and10, List.length_nil, Nat.add_zero]
      rfl
theorem m_readSum {p : Nat} (hF : 6000 ≤ F) (hT : TM U B t) (hq : q ≤ t) (hp : tSk B t q = p) (hs : s + 6 ≤ p) : ZL B t U d s w (gSum B t p) (f_X10_readSum F (zS U q b d s w)) z1K := by
  have ht := hT.1
  have hpt : p ≤ t := by rw [← hp]; exact tSk_le hq
  unfold gSum f_X10_readSum
  have h0 := m_part (F := F) (b := b) (d := d) (s := s) (w := w) hF hT hq (by omega)
  rw [hp] at h0
  refine ZL_b h0 (fun _ _ => rfl) (fun Y => ?_) (fun p1 c1 q1 b1 e hq1 hs1 => ?_)
  · simp (disch := omega) only [fa_lit, nI_ad, nI_mul, nI_cl, inb_nI, nI_ltE, nI_leE, nI_eqE, nI_m1, nI_m1', m1_lt, lt_m1, m1_le, le_m1, eq_self, not_true_eq_false, not_false_eq_true, ↓reduceIte, leT, leF, ltT, ltF, eqT, eqF, decide_true, decide_false, true_and, and_true, Nat.reduceAdd, and00]
  · have qq := gPart_p hpt e
    have ih := m_sumL (d := d) hF hT 401 F p1 q1 b1 (s + c1.length) (emF w s c1) hq1 hs1 (by omega) (by omega) (by omega)
    simp (disch := omega) only [fa_lit, nI_ad, nI_mul, nI_cl, inb_nI, nI_ltE, nI_leE, nI_eqE, nI_m1, nI_m1', m1_lt, lt_m1, m1_le, le_m1, eq_self, not_true_eq_false, not_false_eq_true, ↓reduceIte, leT, leF, ltT, ltF, eqT, eqF, decide_true, decide_false, true_and, and_true, Nat.reduceAdd, bI0_i, bI_i, bI_x, bV0_v, bV_v, bV_x, ↓bnd_e, gd_t]
    exact ZL_sh ih
def ZAt (B : Nat → Nat) (t : Nat) (U : mS) (F m d : Nat) : Prop := ∀ a q b s w p, q ≤ t → tSk B t q = p → s + 6 ≤ p → 5 * (t - p) < m → 3 * (6 - d) + 1 ≤ a → ZL B t U d s w (gC B t m 0 d p) (f_rec_X10 F a 2 (zS U q b d s w)) z1K
def ZAl (B : Nat → Nat) (t : Nat) (U : mS) (F m d : Nat) : Prop := ∀ a q b s w p, q ≤ t → tSk B t q = p → s + 6 ≤ p → 5 * (t - p) + 2 < m → 3 * (6 - d) + 2 ≤ a → ZL B t U d s w (gC B t m 2 d p) (f_rec_X10 F a 1 (zS U q b d s w)) z1K
def ZAn (B : Nat → Nat) (t : Nat) (U : mS) (F m d : Nat) : Prop := ∀ a q b s w p, q ≤ t → tSk B t q = p → s + 6 ≤ p → 5 * (t - p) + 4 < m → 3 * (6 - d) + 3 ≤ a → ZL B t U d s w (gC B t m 1 d p) (f_rec_X10 F a 0 (zS U q b d s w)) z1K
theorem m_cmp {G1 G2 G3 : mS → Option mR} {c1 : List Nat} {x : Int32} {v p1 : Nat} (hF : 6000 ≤ F) (hT : TM U B t) (hq : q ≤ t) (hp1 : tSk B t q = p1) (hn1 : s + c1.length + 6 ≤ p1) (hx : (x = nI 0 ∧ v = 2004) ∨ (x = nI 1 ∧ v = 2003)) :
    ZL B t U d s w (gB (gSum B t p1) (fun p2 c2 => .inr (p2, c1 ++ (c2 ++ [v])))) (f_X10_readAtom_b161 G1 G2 G3 F x (zS U q b d (s + c1.length) (emF w s c1))) z1K := by
  have ht := hT.1
  have hpt : p1 ≤ t := by rw [← hp1]; exact tSk_le hq
  unfold f_X10_readAtom_b161
  refine ZL_b (m_readSum hF hT hq hp1 hn1) emF_w (fun Y => ?_) (fun p2 c2 q2 b2 e hq2 hs2 => ?_)
  · unfold f_X10_readAtom_b168
    simp (disch := omega) only [fa_lit, nI_ad, nI_mul, nI_cl, inb_nI, nI_ltE, nI_leE, nI_eqE, nI_m1, nI_m1', m1_lt, lt_m1, m1_le, le_m1, eq_self, not_true_eq_false, not_false_eq_true, ↓reduceIte, leT, leF, ltT, ltF, eqT, eqF, decide_true, decide_false, true_and, and_true, Nat.reduceAdd, and00]
  · have qq := gSum_p hpt e
    refine ⟨q2, b2, hq2, hs2, ?_⟩
    have he := fun x => m_emits (U := U) (q := q2) (b := b2) (d := d) (s := s + c1.length + c2.length) (w := emF (emF w s c1) (s + c1.length) c2) (x := x) (y := nI 0) (by omega)
    rw [← List.append_assoc, emF_1, emF_app, List.length_append, List.length_append, List.length_singleton]
    unfold f_X10_readAtom_b182
    rcases hx with ⟨rfl, rfl⟩ | ⟨rfl, rfl⟩
    · simp (disch := omega) only [fa_lit, nI_ad, nI_mul, nI_cl, inb_nI, nI_ltE, nI_leE, nI_eqE, nI_m1, nI_m1', m1_lt, lt_m1, m1_le, le_m1, eq_self, not_true_eq_false, not_false_eq_true, ↓reduceIte, leT, leF, ltT, ltF, eqT, eqF, decide_true, decide_false, true_and, and_true, Nat.reduceAdd, bI0_i, bI_i, bI_x, bV0_v, bV_v, bV_x, ↓bnd_e, gd_t, he, and10, ← Nat.add_assoc]; rfl
    · simp (disch := omega) only [fa_lit, nI_ad, nI_mul, nI_cl, inb_nI, nI_ltE, nI_leE, nI_eqE, nI_m1, nI_m1', m1_lt, lt_m1, m1_le, le_m1, eq_self, not_true_eq_false, not_false_eq_true, ↓reduceIte, leT, leF, ltT, ltF, eqT, eqF, decide_true, decide_false, true_and, and_true, Nat.reduceAdd, bI0_i, bI_i, bI_x, bV0_v, bV_v, bV_x, ↓bnd_e, gd_t, he, and10, ← Nat.add_assoc]; rfl
theorem gSum_bad {p : Nat} (h : ¬ (p < t ∧ tDig (B p) = true)) (hn : gNm (tWl B t p) = none) : gSum B t p = .inl p := by
  unfold gSum gPart
  rw [if_neg h, hn]; rfl
theorem gNm_str {k : Nat} (hk : k < 23) (h : ∀ i, i < 8 → ¬ gNi i = k) : gNm (strN k) = none := by
  cases g : gNm (strN k) with
  | none => rfl
  | some i =>
    obtain ⟨h1, h2⟩ := gNm_p g
    have := sw_ne hk (gNi_lt h1)
    rw [decide_eq_true h2] at this
    exact absurd (of_decide_eq_true this.symm).symm (h i h1)
theorem m_rest {G1 G2 G3 : mS → Option mR} {p m : Nat} (hF : 6000 ≤ F) (hT : TM U B t) (hpt : p ≤ t) (hid : tSk B t p = p) (hs : s + 6 ≤ p) (k1 : ¬ tSg B t p 40 = true) (k2 : ¬ tWl B t p = strN 15) :
    ZL B t U d s w (gC B t (m + 1) 0 d p) (bI0 (f_X10_passes F 16 (zS U p p d s w)) (fun r6 S5 => (if r6 = 0 then bI0 (f_X10_readSum F S5) (fun r8 S7 => (if ¬ r8 = 0 then bI0 (f_X10_sign F ((60 : Int32)) S7) (fun r10 S9 => (if ¬ r10 = 0 then f_X10_readAtom_b161 G1 G2 G3 F r10 S9 else bI0 (f_X10_sign F ((62 : Int32)) S9) (fun r15 S14 => (if r15 = 0 then f_X10_readAtom_b168 G1 G2 G3 F S14 else f_X10_readAtom_b161 G1 G2 G3 F r10 S14)))) else some (.inl (some (.int (((0 : Int32)) &&& 1))), S7))) else bV0 (f_X10_emits ((8 : Int32)) ((0 : Int32)) S5) (fun S16 => some (.inl (some (.int (((1 : Int32)) &&& 1))), S16))))) z1K := by
  have ht := hT.1
  rw [gC_0, if_neg (fun e => k2 e.2), if_neg (fun e => k1 e.2)]
  by_cases k3 : tWl B t p = strN 16
  · have h3 := m_pT (F := F) (b := p) (d := d) (s := s) (w := w) hF (by omega) hT hpt hid k3
    have he := m_emits (U := U) (q := tWd B t p) (b := p) (d := d) (s := s) (w := w) (x := nI 8) (y := nI 0) (by omega)
    rw [if_pos k3]
    refine ⟨tWd B t p, p, tWd_le hpt, rfl, ?_⟩
    simp (disch := omega) only [fa_lit, nI_ad, nI_mul, nI_cl, inb_nI, nI_ltE, nI_leE, nI_eqE, nI_m1, nI_m1', m1_lt, lt_m1, m1_le, le_m1, eq_self, not_true_eq_false, not_false_eq_true, ↓reduceIte, leT, leF, ltT, ltF, eqT, eqF, decide_true, decide_false, true_and, and_true, Nat.reduceAdd, bI0_i, bI_i, bI_x, bV0_v, bV_v, bV_x, ↓bnd_e, gd_t, h3, he, and10]; rfl
  · have h3 := m_pF (F := F) (b := p) (d := d) (s := s) (w := w) hF (by omega) hT hpt hid k3
    rw [if_neg k3]
    simp (disch := omega) only [fa_lit, nI_ad, nI_mul, nI_cl, inb_nI, nI_ltE, nI_leE, nI_eqE, nI_m1, nI_m1', m1_lt, lt_m1, m1_le, le_m1, eq_self, not_true_eq_false, not_false_eq_true, ↓reduceIte, leT, leF, ltT, ltF, eqT, eqF, decide_true, decide_false, true_and, and_true, Nat.reduceAdd, bI0_i, bI_i, bI_x, bV0_v, bV_v, bV_x, ↓bnd_e, gd_t, h3]
    refine ZL_b (m_readSum (b := p) hF hT hpt hid hs) (fun _ _ => rfl) (fun Y => ?_) (fun p1 c1 q1 b1 e hq1 hs1 => ?_)
    · simp (disch := omega) only [fa_lit, nI_ad, nI_mul, nI_cl, inb_nI, nI_ltE, nI_leE, nI_eqE, nI_m1, nI_m1', m1_lt, lt_m1, m1_le, le_m1, eq_self, not_true_eq_false, not_false_eq_true, ↓reduceIte, leT, leF, ltT, ltF, eqT, eqF, decide_true, decide_false, true_and, and_true, Nat.reduceAdd, and00]
    · have qq := gSum_p hpt e
      have hid1 : tSk B t p1 = p1 := by rw [← hs1, tSk_id hq1]
      by_cases j1 : tSg B t p1 60 = true
      · have hg := tSg_p j1
        have h4 := m_sgT (F := F) (b := b1) (d := d) (s := s + c1.length) (w := emF w s c1) (x := 60) hF hT (by omega) hq1 hs1 j1
        have hsk := tSk_ge (B := B) (show p1 + 1 ≤ t by omega)
        rw [if_pos j1]
        simp (disch := omega) only [fa_lit, nI_ad, nI_mul, nI_cl, inb_nI, nI_ltE, nI_leE, nI_eqE, nI_m1, nI_m1', m1_lt, lt_m1, m1_le, le_m1, eq_self, not_true_eq_false, not_false_eq_true, ↓reduceIte, leT, leF, ltT, ltF, eqT, eqF, decide_true, decide_false, true_and, and_true, Nat.reduceAdd, bI0_i, bI_i, bI_x, bV0_v, bV_v, bV_x, ↓bnd_e, gd_t, h4]
        exact m_cmp hF hT (by omega) rfl (by omega) (Or.inr ⟨rfl, rfl⟩)
      · have h4 := m_sgF (F := F) (b := b1) (d := d) (s := s + c1.length) (w := emF w s c1) (x := 60) hF hT (by omega) hq1 hs1 j1
        rw [if_neg j1]
        by_cases j2 : tSg B t p1 62 = true
        · have hg := tSg_p j2
          have h5 := m_sgT (F := F) (b := p1) (d := d) (s := s + c1.length) (w := emF w s c1) (x := 62) hF hT (by omega) qq.2.2 hid1 j2
          have hsk := tSk_ge (B := B) (show p1 + 1 ≤ t by omega)
          rw [if_pos j2]
          simp (disch := omega) only [fa_lit, nI_ad, nI_mul, nI_cl, inb_nI, nI_ltE, nI_leE, nI_eqE, nI_m1, nI_m1', m1_lt, lt_m1, m1_le, le_m1, eq_self, not_true_eq_false, not_false_eq_true, ↓reduceIte, leT, leF, ltT, ltF, eqT, eqF, decide_true, decide_false, true_and, and_true, Nat.reduceAdd, bI0_i, bI_i, bI_x, bV0_v, bV_v, bV_x, ↓bnd_e, gd_t, h4, h5]
          exact m_cmp hF hT (by omega) rfl (by omega) (Or.inl ⟨rfl, rfl⟩)
        · have h5 := m_sgF (F := F) (b := p1) (d := d) (s := s + c1.length) (w := emF w s c1) (x := 62) hF hT (by omega) qq.2.2 hid1 j2
          rw [if_neg j2]
          refine ⟨p1, d, s + c1.length, emF w s c1, emF_w, ?_⟩
          unfold f_X10_readAtom_b168
          simp (disch := omega) only [fa_lit, nI_ad, nI_mul, nI_cl, inb_nI, nI_ltE, nI_leE, nI_eqE, nI_m1, nI_m1', m1_lt, lt_m1, m1_le, le_m1, eq_self, not_true_eq_false, not_false_eq_true, ↓reduceIte, leT, leF, ltT, ltF, eqT, eqF, decide_true, decide_false, true_and, and_true, Nat.reduceAdd, bI0_i, bI_i, bI_x, bV0_v, bV_v, bV_x, ↓bnd_e, gd_t, h4, h5, and00]
theorem m_atC {m d : Nat} (hF : 6000 ≤ F) (hT : TM U B t) (hd : d ≤ 6) (I1 : d < 6 → ZAt B t U F m (d + 1)) (I2 : d < 6 → ZAn B t U F m (d + 1)) : ZAt B t U F (m + 1) d := by
  intro a q b s w p hq hp hs hm ha
  have ht := hT.1
  have hpt : p ≤ t := by rw [← hp]; exact tSk_le hq
  have hid : tSk B t p = p := by rw [← hp, tSk_id hq]
  obtain ⟨a, rfl⟩ : ∃ k, a = k + 1 := ⟨a - 1, by omega⟩
  show ZL B t U d s w (gC B t (m + 1) 0 d p) (f_X10_readAtom (fun S => f_rec_X10 F a 0 S) (fun S => f_rec_X10 F a 1 S) (fun S => f_rec_X10 F a 2 S) F (zS U q b d s w)) z1K
  unfold f_X10_readAtom
  by_cases k1 : tSg B t p 40 = true
  · have hg := tSg_p k1
    have h1 := m_sgT (F := F) (b := b) (d := d) (s := s) (w := w) (x := 40) hF hT (by omega) hq hp k1
    have hlf : tLet (B p) = false := by rw [hg.2]; rfl
    have hwl : tWl B t p = [] := tWl_n hg.1 hlf
    by_cases g1 : d < 6
    · rw [gC_0, if_neg (fun e => sw_nil (k := 15) (by omega) (by rw [← hwl]; exact e.2)), if_pos ⟨g1, k1⟩]
      have hsk := tSk_ge (B := B) (show p + 1 ≤ t by omega)
      have hsk2 := tSk_le (B := B) (show p + 1 ≤ t by omega)
      simp (disch := omega) only [fa_lit, nI_ad, nI_mul, nI_cl, inb_nI, nI_ltE, nI_leE, nI_eqE, nI_m1, nI_m1', m1_lt, lt_m1, m1_le, le_m1, eq_self, not_true_eq_false, not_false_eq_true, ↓reduceIte, leT, leF, ltT, ltF, eqT, eqF, decide_true, decide_false, true_and, and_true, Nat.reduceAdd, bI0_i, bI_i, bI_x, bV0_v, bV_v, bV_x, ↓bnd_e, gd_t, h1, z_13, z_u13]
      refine ZL_b (I2 g1 a (p + 1) p s w _ (by omega) rfl (by omega) (by omega) (by omega)) (fun _ _ => rfl) (fun Y => ?_) (fun p1 c1 q1 b1 e hq1 hs1 => ?_)
      · simp (disch := omega) only [fa_lit, nI_ad, nI_mul, nI_cl, inb_nI, nI_ltE, nI_leE, nI_eqE, nI_m1, nI_m1', m1_lt, lt_m1, m1_le, le_m1, eq_self, not_true_eq_false, not_false_eq_true, ↓reduceIte, leT, leF, ltT, ltF, eqT, eqF, decide_true, decide_false, true_and, and_true, Nat.reduceAdd, and00]
      · have qq := gC_p hsk2 e
        have hid1 : tSk B t p1 = p1 := by rw [← hs1, tSk_id hq1]
        by_cases j1 : tSg B t p1 41 = true
        · have hg1 := tSg_p j1
          have h4 := m_sgT (F := F) (b := b1) (d := d) (s := s + c1.length) (w := emF w s c1) (x := 41) hF hT (by omega) hq1 hs1 j1
          rw [if_pos j1]
          refine ⟨p1 + 1, p1, by omega, rfl, ?_⟩
          simp (disch := omega) only [fa_lit, nI_ad, nI_mul, nI_cl, inb_nI, nI_ltE, nI_leE, nI_eqE, nI_m1, nI_m1', m1_lt, lt_m1, m1_le, le_m1, eq_self, not_true_eq_false, not_false_eq_true, ↓reduceIte, leT, leF, ltT, ltF, eqT, eqF, decide_true, decide_false, true_and, and_true, Nat.reduceAdd, bI0_i, bI_i, bI_x, bV0_v, bV_v, bV_x, ↓bnd_e, gd_t, z_13, sub1, z_u13, h4, and10]; rfl
        · have h4 := m_sgF (F := F) (b := b1) (d := d) (s := s + c1.length) (w := emF w s c1) (x := 41) hF hT (by omega) hq1 hs1 j1
          rw [if_neg j1]
          refine ⟨p1, d, s + c1.length, emF w s c1, emF_w, ?_⟩
          simp (disch := omega) only [fa_lit, nI_ad, nI_mul, nI_cl, inb_nI, nI_ltE, nI_leE, nI_eqE, nI_m1, nI_m1', m1_lt, lt_m1, m1_le, le_m1, eq_self, not_true_eq_false, not_false_eq_true, ↓reduceIte, leT, leF, ltT, ltF, eqT, eqF, decide_true, decide_false, true_and, and_true, Nat.reduceAdd, bI0_i, bI_i, bI_x, bV0_v, bV_v, bV_x, ↓bnd_e, gd_t, z_13, sub1, z_u13, h4, and00]
    · have : d = 6 := by omega
      subst this
      rw [gC_0, if_neg (fun e => g1 e.1), if_neg (fun e => g1 e.1), if_neg (fun e => sw_nil (k := 16) (by omega) (by rw [← hwl]; exact e)), gSum_bad (fun e => by have := e.2; rw [hg.2] at this; exact absurd this (by decide)) (by rw [hwl]; exact gNm_nil), gB_l]
      refine ⟨p + 1, 6, s, w, fun _ _ => rfl, ?_⟩
      simp (disch := omega) only [fa_lit, nI_ad, nI_mul, nI_cl, inb_nI, nI_ltE, nI_leE, nI_eqE, nI_m1, nI_m1', m1_lt, lt_m1, m1_le, le_m1, eq_self, not_true_eq_false, not_false_eq_true, ↓reduceIte, leT, leF, ltT, ltF, eqT, eqF, decide_true, decide_false, true_and, and_true, Nat.reduceAdd, bI0_i, bI_i, bI_x, bV0_v, bV_v, bV_x, ↓bnd_e, gd_t, h1, z_13, and00]
  · have h1 := m_sgF (F := F) (b := b) (d := d) (s := s) (w := w) (x := 40) hF hT (by omega) hq hp k1
    by_cases k2 : tWl B t p = strN 15
    · have h2 := m_pT (F := F) (b := p) (d := d) (s := s) (w := w) hF (by omega) hT hpt hid k2
      have hws := tWd_str (by omega) k2
      have hwl := tWd_le (B := B) hpt
      have hsk := tSk_ge (B := B) hwl
      have hsk2 := tSk_le (B := B) hwl
      by_cases g1 : d < 6
      · rw [gC_0, if_pos ⟨g1, k2⟩]
        simp (disch := omega) only [fa_lit, nI_ad, nI_mul, nI_cl, inb_nI, nI_ltE, nI_leE, nI_eqE, nI_m1, nI_m1', m1_lt, lt_m1, m1_le, le_m1, eq_self, not_true_eq_false, not_false_eq_true, ↓reduceIte, leT, leF, ltT, ltF, eqT, eqF, decide_true, decide_false, true_and, and_true, Nat.reduceAdd, bI0_i, bI_i, bI_x, bV0_v, bV_v, bV_x, ↓bnd_e, gd_t, h1, h2, z_13, z_u13]
        refine ZL_b (I1 g1 a (tWd B t p) p s w _ hwl rfl (by omega) (by omega) (by omega)) (fun _ _ => rfl) (fun Y => ?_) (fun p1 c1 q1 b1 e hq1 hs1 => ?_)
        · simp (disch := omega) only [fa_lit, nI_ad, nI_mul, nI_cl, inb_nI, nI_ltE, nI_leE, nI_eqE, nI_m1, nI_m1', m1_lt, lt_m1, m1_le, le_m1, eq_self, not_true_eq_false, not_false_eq_true, ↓reduceIte, leT, leF, ltT, ltF, eqT, eqF, decide_true, decide_false, true_and, and_true, Nat.reduceAdd, and00]
        · have qq := gC_p hsk2 e
          have he := m_emits (U := U) (q := q1) (b := b1) (d := d) (s := s + c1.length) (w := emF w s c1) (x := nI 13) (y := nI 0) (by omega)
          refine ⟨q1, b1, hq1, hs1, ?_⟩
          rw [emF_1, List.length_append, List.length_singleton]
          simp (disch := omega) only [fa_lit, nI_ad, nI_mul, nI_cl, inb_nI, nI_ltE, nI_leE, nI_eqE, nI_m1, nI_m1', m1_lt, lt_m1, m1_le, le_m1, eq_self, not_true_eq_false, not_false_eq_true, ↓reduceIte, leT, leF, ltT, ltF, eqT, eqF, decide_true, decide_false, true_and, and_true, Nat.reduceAdd, bI0_i, bI_i, bI_x, bV0_v, bV_v, bV_x, ↓bnd_e, gd_t, z_13, sub1, z_u13, he, and10, Nat.add_assoc]; rfl
      · have : d = 6 := by omega
        subst this
        have hdg : ¬ (p < t ∧ tDig (B p) = true) := fun e => by
          have := tWl_dig e.1 e.2
          rw [k2] at this
          exact sw_nil (k := 15) (by omega) this.symm
        have hnm : gNm (tWl B t p) = none := by rw [k2]; exact gNm_str (by omega) (by decide)
        have hnf : ¬ tWl B t p = strN 16 := fun e => by
          rw [k2] at e
          have := sw_ne (a := 15) (b := 16) (by omega) (by omega)
          rw [decide_eq_true e] at this
          exact absurd this (by decide)
        rw [gC_0, if_neg (fun e => g1 e.1), if_neg (fun e => g1 e.1), if_neg hnf, gSum_bad hdg hnm, gB_l]
        refine ⟨tWd B t p, 6, s, w, fun _ _ => rfl, ?_⟩
        simp (disch := omega) only [fa_lit, nI_ad, nI_mul, nI_cl, inb_nI, nI_ltE, nI_leE, nI_eqE, nI_m1, nI_m1', m1_lt, lt_m1, m1_le, le_m1, eq_self, not_true_eq_false, not_false_eq_true, ↓reduceIte, leT, leF, ltT, ltF, eqT, eqF, decide_true, decide_false, true_and, and_true, Nat.reduceAdd, bI0_i, bI_i, bI_x, bV0_v, bV_v, bV_x, ↓bnd_e, gd_t, h1, h2, z_13, and00]
    · have h2 := m_pF (F := F) (b := p) (d := d) (s := s) (w := w) hF (by omega) hT hpt hid k2
      simp (disch := omega) only [fa_lit, h1, bI0_i, nI_eqE, eqT, eqF, ↓reduceIte, not_true_eq_false, not_false_eq_true, h2]
      exact m_rest hF hT hpt hid hs k1 k2
theorem m_andL {d a : Nat} {G1 G2 : mS → Option mR} (hF : 6000 ≤ F) (hT : TM U B t) (ha : 3 * (6 - d) + 1 ≤ a) : ∀ (m f q b s : Nat) (w : Nat → Int32) (p : Nat), (∀ m', m' < m → ZAt B t U F m' d) → q ≤ t → tSk B t q = p → s + 6 ≤ p → 5 * (t - p) + 1 < m → t - p < f →
    ZL B t U d s w (gC B t m 3 d p) (f_X10_readAllOf_b9 G1 G2 (fun S => f_rec_X10 F a 2 S) F f (zS U q b d s w)) z1K
  | 0, f, q, b, s, w, p, H, hq, hp, hs, hm, hf => absurd hm (by omega)
  | m + 1, f + 1, q, b, s, w, p, H, hq, hp, hs, hm, hf => by
    have ht := hT.1
    have hpt : p ≤ t := by rw [← hp]; exact tSk_le hq
    have hid : tSk B t p = p := by rw [← hp, tSk_id hq]
    rw [gC_3, f_X10_readAllOf_b9]
    by_cases g : tWl B t p = strN 21
    · have h2 := m_pT (F := F) (b := b) (d := d) (s := s) (w := w) hF (by omega) hT hq hp g
      have hws := tWd_str (by omega) g
      have hwl := tWd_le (B := B) hpt
      have hsk := tSk_ge (B := B) hwl
      have hsk2 := tSk_le (B := B) hwl
      rw [if_pos g]
      simp (disch := omega) only [fa_lit, nI_ad, nI_mul, nI_cl, inb_nI, nI_ltE, nI_leE, nI_eqE, nI_m1, nI_m1', m1_lt, lt_m1, m1_le, le_m1, eq_self, not_true_eq_false, not_false_eq_true, ↓reduceIte, leT, leF, ltT, ltF, eqT, eqF, decide_true, decide_false, true_and, and_true, Nat.reduceAdd, bI0_i, bI_i, bI_x, bV0_v, bV_v, bV_x, ↓bnd_e, gd_t, h2]
      refine ZL_b (H m (by omega) a (tWd B t p) p s w _ hwl rfl (by omega) (by omega) ha) (fun _ _ => rfl) (fun Y => ?_) (fun p1 c1 q1 b1 e hq1 hs1 => ?_)
      · simp (disch := omega) only [fa_lit, nI_ad, nI_mul, nI_cl, inb_nI, nI_ltE, nI_leE, nI_eqE, nI_m1, nI_m1', m1_lt, lt_m1, m1_le, le_m1, eq_self, not_true_eq_false, not_false_eq_true, ↓reduceIte, leT, leF, ltT, ltF, eqT, eqF, decide_true, decide_false, true_and, and_true, Nat.reduceAdd, and00]
      · have qq := gC_p hsk2 e
        have he := m_emits (U := U) (q := q1) (b := b1) (d := d) (s := s + c1.length) (w := emF w s c1) (x := nI 14) (y := nI 0) (by omega)
        have ih := m_andL (G1 := G1) (G2 := G2) hF hT ha m f q1 b1 (s + (c1 ++ [2001]).length) (emF w s (c1 ++ [2001])) p1 (fun m' hm' => H m' (by omega)) hq1 hs1 (by rw [List.length_append, List.length_singleton]; omega) (by omega) (by omega)
        have ih2 := ZL_sh ih
        have e1 : (fun (p2 : Nat) (c2 : List Nat) => (.inr (p2, (c1 ++ [2001]) ++ c2) : gR)) = (fun p2 c2 => .inr (p2, c1 ++ 2001 :: c2)) := by
          funext p2 c2; rw [List.append_assoc]; rfl
        rw [e1, emF_1, List.length_append, List.length_singleton] at ih2
        simp (disch := omega) only [fa_lit, nI_ad, nI_mul, nI_cl, inb_nI, nI_ltE, nI_leE, nI_eqE, nI_m1, nI_m1', m1_lt, lt_m1, m1_le, le_m1, eq_self, not_true_eq_false, not_false_eq_true, ↓reduceIte, leT, leF, ltT, ltF, eqT, eqF, decide_true, decide_false, true_and, and_true, Nat.reduceAdd, bI0_i, bI_i, bI_x, bV0_v, bV_v, bV_x, ↓bnd_e, gd_t, he]
        exact ih2
    · have h2 := m_pF (F := F) (b := b) (d := d) (s := s) (w := w) hF (by omega) hT hq hp g
      rw [if_neg g]
      refine ⟨p, p, hpt, hid, ?_⟩
      simp (disch := omega) only [fa_lit, nI_ad, nI_mul, nI_cl, inb_nI, nI_ltE, nI_leE, nI_eqE, nI_m1, nI_m1', m1_lt, lt_m1, m1_le, le_m1, eq_self, not_true_eq_false, not_false_eq_true, ↓reduceIte, leT, leF, ltT, ltF, eqT, eqF, decide_true, decide_false, true_and, and_true, Nat.reduceAdd, bI0_i, bI_i, bI_x, bV0_v, bV_v, bV_x, ↓bnd_e, gd_t, h2, and10, List.length_nil, Nat.add_zero]
      rfl
theorem m_alC {m d : Nat} (hF : 6000 ≤ F) (hT : TM U B t) (H : ∀ m', m' < m + 1 → ZAt B t U F m' d) : ZAl B t U F (m + 1) d := by
  intro a q b s w p hq hp hs hm ha
  have ht := hT.1
  have hpt : p ≤ t := by rw [← hp]; exact tSk_le hq
  obtain ⟨a, rfl⟩ : ∃ k, a = k + 1 := ⟨a - 1, by omega⟩
  show ZL B t U d s w (gC B t (m + 1) 2 d p) (f_X10_readAllOf (fun S => f_rec_X10 F a 0 S) (fun S => f_rec_X10 F a 1 S) (fun S => f_rec_X10 F a 2 S) F (zS U q b d s w)) z1K
  rw [gC_2]
  unfold f_X10_readAllOf
  refine ZL_b (H m (by omega) a q b s w p hq hp hs (by omega) (by omega)) (fun _ _ => rfl) (fun Y => ?_) (fun p1 c1 q1 b1 e hq1 hs1 => ?_)
  · simp (disch := omega) only [fa_lit, nI_ad, nI_mul, nI_cl, inb_nI, nI_ltE, nI_leE, nI_eqE, nI_m1, nI_m1', m1_lt, lt_m1, m1_le, le_m1, eq_self, not_true_eq_false, not_false_eq_true, ↓reduceIte, leT, leF, ltT, ltF, eqT, eqF, decide_true, decide_false, true_and, and_true, Nat.reduceAdd, and00]
  · have qq := gC_p hpt e
    have q2 := qq.2.2 (by omega)
    have ih := m_andL (G1 := fun S => f_rec_X10 F a 0 S) (G2 := fun S => f_rec_X10 F a 1 S) hF hT (by omega : 3 * (6 - d) + 1 ≤ a) m F q1 b1 (s + c1.length) (emF w s c1) p1 (fun m' hm' => H m' (by omega)) hq1 hs1 (by omega) (by omega) (by omega)
    simp (disch := omega) only [fa_lit, nI_ad, nI_mul, nI_cl, inb_nI, nI_ltE, nI_leE, nI_eqE, nI_m1, nI_m1', m1_lt, lt_m1, m1_le, le_m1, eq_self, not_true_eq_false, not_false_eq_true, ↓reduceIte, leT, leF, ltT, ltF, eqT, eqF, decide_true, decide_false, true_and, and_true, Nat.reduceAdd, bI0_i, bI_i, bI_x, bV0_v, bV_v, bV_x, ↓bnd_e, gd_t]
    exact ZL_sh ih
theorem m_orL {d a : Nat} {G1 G3 : mS → Option mR} (hF : 6000 ≤ F) (hT : TM U B t) (ha : 3 * (6 - d) + 2 ≤ a) : ∀ (m f q b s : Nat) (w : Nat → Int32) (p : Nat), (∀ m', m' < m → ZAl B t U F m' d) → q ≤ t → tSk B t q = p → s + 6 ≤ p → 5 * (t - p) + 3 < m → t - p < f →
    ZL B t U d s w (gC B t m 4 d p) (f_X10_readCond_b9 G1 (fun S => f_rec_X10 F a 1 S) G3 F f (zS U q b d s w)) z1K
  | 0, f, q, b, s, w, p, H, hq, hp, hs, hm, hf => absurd hm (by omega)
  | m + 1, f + 1, q, b, s, w, p, H, hq, hp, hs, hm, hf => by
    have ht := hT.1
    have hpt : p ≤ t := by rw [← hp]; exact tSk_le hq
    have hid : tSk B t p = p := by rw [← hp, tSk_id hq]
    rw [gC_4, f_X10_readCond_b9]
    by_cases g : tWl B t p = strN 22
    · have h2 := m_pT (F := F) (b := b) (d := d) (s := s) (w := w) hF (by omega) hT hq hp g
      have hws := tWd_str (by omega) g
      have hwl := tWd_le (B := B) hpt
      have hsk := tSk_ge (B := B) hwl
      have hsk2 := tSk_le (B := B) hwl
      rw [if_pos g]
      simp (disch := omega) only [fa_lit, nI_ad, nI_mul, nI_cl, inb_nI, nI_ltE, nI_leE, nI_eqE, nI_m1, nI_m1', m1_lt, lt_m1, m1_le, le_m1, eq_self, not_true_eq_false, not_false_eq_true, ↓reduceIte, leT, leF, ltT, ltF, eqT, eqF, decide_true, decide_false, true_and, and_true, Nat.reduceAdd, bI0_i, bI_i, bI_x, bV0_v, bV_v, bV_x, ↓bnd_e, gd_t, h2]
      refine ZL_b (H m (by omega) a (tWd B t p) p s w _ hwl rfl (by omega) (by omega) ha) (fun _ _ => rfl) (fun Y => ?_) (fun p1 c1 q1 b1 e hq1 hs1 => ?_)
      · simp (disch := omega) only [fa_lit, nI_ad, nI_mul, nI_cl, inb_nI, nI_ltE, nI_leE, nI_eqE, nI_m1, nI_m1', m1_lt, lt_m1, m1_le, le_m1, eq_self, not_true_eq_false, not_false_eq_true, ↓reduceIte, leT, leF, ltT, ltF, eqT, eqF, decide_true, decide_false, true_and, and_true, Nat.reduceAdd, and00]
      · have qq := gC_p hsk2 e
        have he := m_emits (U := U) (q := q1) (b := b1) (d := d) (s := s + c1.length) (w := emF w s c1) (x := nI 15) (y := nI 0) (by omega)
        have ih := m_orL (G1 := G1) (G3 := G3) hF hT ha m f q1 b1 (s + (c1 ++ [2002]).length) (emF w s (c1 ++ [2002])) p1 (fun m' hm' => H m' (by omega)) hq1 hs1 (by rw [List.length_append, List.length_singleton]; omega) (by omega) (by omega)
        have ih2 := ZL_sh ih
        have e1 : (fun (p2 : Nat) (c2 : List Nat) => (.inr (p2, (c1 ++ [2002]) ++ c2) : gR)) = (fun p2 c2 => .inr (p2, c1 ++ 2002 :: c2)) := by
          funext p2 c2; rw [List.append_assoc]; rfl
        rw [e1, emF_1, List.length_append, List.length_singleton] at ih2
        simp (disch := omega) only [fa_lit, nI_ad, nI_mul, nI_cl, inb_nI, nI_ltE, nI_leE, nI_eqE, nI_m1, nI_m1', m1_lt, lt_m1, m1_le, le_m1, eq_self, not_true_eq_false, not_false_eq_true, ↓reduceIte, leT, leF, ltT, ltF, eqT, eqF, decide_true, decide_false, true_and, and_true, Nat.reduceAdd, bI0_i, bI_i, bI_x, bV0_v, bV_v, bV_x, ↓bnd_e, gd_t, he]
        exact ih2
    · have h2 := m_pF (F := F) (b := b) (d := d) (s := s) (w := w) hF (by omega) hT hq hp g
      rw [if_neg g]
      refine ⟨p, p, hpt, hid, ?_⟩
      simp (disch := omega) only [fa_lit, nI_ad, nI_mul, nI_cl, inb_nI, nI_ltE, nI_leE, nI_eqE, nI_m1, nI_m1', m1_lt, lt_m1, m1_le, le_m1, eq_self, not_true_eq_false, not_false_eq_true, ↓reduceIte, leT, leF, ltT, ltF, eqT, eqF, decide_true, decide_false, true_and, and_true, Nat.reduceAdd, bI0_i, bI_i, bI_x, bV0_v, bV_v, bV_x, ↓bnd_e, gd_t, h2, and10, List.length_nil, Nat.add_zero]
      rfl
theorem m_anC {m d : Nat} (hF : 6000 ≤ F) (hT : TM U B t) (H : ∀ m', m' < m + 1 → ZAl B t U F m' d) : ZAn B t U F (m + 1) d := by
  intro a q b s w p hq hp hs hm ha
  have ht := hT.1
  have hpt : p ≤ t := by rw [← hp]; exact tSk_le hq
  obtain ⟨a, rfl⟩ : ∃ k, a = k + 1 := ⟨a - 1, by omega⟩
  show ZL B t U d s w (gC B t (m + 1) 1 d p) (f_X10_readCond (fun S => f_rec_X10 F a 0 S) (fun S => f_rec_X10 F a 1 S) (fun S => f_rec_X10 F a 2 S) F (zS U q b d s w)) z1K
  rw [gC_1]
  unfold f_X10_readCond
  refine ZL_b (H m (by omega) a q b s w p hq hp hs (by omega) (by omega)) (fun _ _ => rfl) (fun Y => ?_) (fun p1 c1 q1 b1 e hq1 hs1 => ?_)
  · simp (disch := omega) only [fa_lit, nI_ad, nI_mul, nI_cl, inb_nI, nI_ltE, nI_leE, nI_eqE, nI_m1, nI_m1', m1_lt, lt_m1, m1_le, le_m1, eq_self, not_true_eq_false, not_false_eq_true, ↓reduceIte, leT, leF, ltT, ltF, eqT, eqF, decide_true, decide_false, true_and, and_true, Nat.reduceAdd, and00]
  · have qq := gC_p hpt e
    have q2 := qq.2.2 (by omega)
    have ih := m_orL (G1 := fun S => f_rec_X10 F a 0 S) (G3 := fun S => f_rec_X10 F a 2 S) hF hT (by omega : 3 * (6 - d) + 2 ≤ a) m F q1 b1 (s + c1.length) (emF w s c1) p1 (fun m' hm' => H m' (by omega)) hq1 hs1 (by omega) (by omega) (by omega)
    simp (disch := omega) only [fa_lit, nI_ad, nI_mul, nI_cl, inb_nI, nI_ltE, nI_leE, nI_eqE, nI_m1, nI_m1', m1_lt, lt_m1, m1_le, le_m1, eq_self, not_true_eq_false, not_false_eq_true, ↓reduceIte, leT, leF, ltT, ltF, eqT, eqF, decide_true, decide_false, true_and, and_true, Nat.reduceAdd, bI0_i, bI_i, bI_x, bV0_v, bV_v, bV_x, ↓bnd_e, gd_t]
    exact ZL_sh ih
theorem m_cond (hF : 6000 ≤ F) (hT : TM U B t) : ∀ m, (∀ d, d ≤ 6 → ZAt B t U F m d) ∧ (∀ d, d ≤ 6 → ZAl B t U F m d) ∧ ∀ d, d ≤ 6 → ZAn B t U F m d := by
  intro m
  induction m using Nat.strongRecOn with
  | ind m ih =>
    cases m with
    | zero => exact ⟨fun d _ a q b s w p _ _ _ hm _ => absurd hm (by omega), fun d _ a q b s w p _ _ _ hm _ => absurd hm (by omega), fun d _ a q b s w p _ _ _ hm _ => absurd hm (by omega)⟩
    | succ m =>
      refine ⟨fun d hd => m_atC hF hT hd (fun g => (ih m (by omega)).1 (d + 1) (by omega)) (fun g => (ih m (by omega)).2.2 (d + 1) (by omega)), fun d hd => m_alC hF hT (fun m' hm' => (ih m' (by omega)).1 d hd), fun d hd => m_anC hF hT (fun m' hm' => (ih m' (by omega)).2.1 d hd)⟩
end T
