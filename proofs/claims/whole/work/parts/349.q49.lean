/-! texts: the model reads THE ISLE -/
section T
variable {B : Nat → Nat} {t : Nat} {U : mS} {q b d s : Nat} {w c : Nat → Int32} {F : Nat}
theorem z_uw {k : Nat} {v : Int32} (h4 : k ≠ 4) (hk : k < 447) : upS (zS U q b d s (wO w c)) 64 k v = zS U q b d s (wO w (upd c (pj k) v)) := by rw [z_u64, up_wO h4 hk]
theorem m_nu {lo hi p : Nat} (hF : 6000 ≤ F) (hT : TM U B t) (hlo : lo ≤ 1000) (hhi : hi ≤ 1000) (hq : q ≤ t) (hp : tSk B t q = p) : (match iNu B t lo hi p with
    | .inr (p', v) => ∃ q' b', q' ≤ t ∧ tSk B t q' = p' ∧ f_X10_number F (nI lo) (nI hi) (zS U q b d s w) = some (.inl (some (.int (nI v))), zS U q' b' d s w)
    | .inl e => ∃ q', f_X10_number F (nI lo) (nI hi) (zS U q b d s w) = some (.inl (some (.int (-nI 1))), zS U q' e d s w)) := by
  subst hp
  have h := m_number (F := F) (b := b) (d := d) (s := s) (w := w) hF hT hlo hhi hq
  have hs := tSk_le (B := B) hq
  unfold iNu
  cases g : tN B t lo hi (tSk B t q) with
  | none => rw [g] at h; exact ⟨_, h⟩
  | some v => rw [g] at h; exact ⟨_, _, (tE_p hs).2.1, rfl, h⟩
theorem m_nb {k lo hi p : Nat} (hF : 6000 ≤ F) (hk : k < 23) (hT : TM U B t) (hlo : lo ≤ 1000) (hhi : hi ≤ 1000) (hq : q ≤ t) (hp : tSk B t q = p) : (match iNb B t k lo hi p with
    | .inr (p', v) => ∃ q' b', q' ≤ t ∧ tSk B t q' = p' ∧ f_X10_after F k (nI lo) (nI hi) (zS U q b d s w) = some (.inl (some (.int (nI v))), zS U q' b' d s w)
    | .inl e => ∃ q', f_X10_after F k (nI lo) (nI hi) (zS U q b d s w) = some (.inl (some (.int (-nI 1))), zS U q' e d s w)) := by
  subst hp
  have h := m_after (F := F) (b := b) (d := d) (s := s) (w := w) hF hk hT hlo hhi hq
  have hs := tSk_le (B := B) hq
  have w4 := tSk_le (B := B) (tWd_le (B := B) hs)
  unfold iNb
  by_cases g : tWl B t (tSk B t q) = strN k
  · rw [if_pos g] at h ⊢
    unfold iNu
    cases gn : tN B t lo hi (tSk B t (tWd B t (tSk B t q))) with
    | none => rw [gn] at h; exact ⟨_, h⟩
    | some v => rw [gn] at h; exact ⟨_, _, (tE_p w4).2.1, rfl, h⟩
  · rw [if_neg g] at h ⊢
    exact ⟨_, h⟩
def IM (B : Nat → Nat) (t : Nat) (U : mS) (d s : Nat) (w c : Nat → Int32) (r : Nat ⊕ (Nat × (Nat → Int32))) (o : Option mR) : Prop := match r with
  | .inr (p', c') => ∃ q' b', q' ≤ t ∧ tSk B t q' = p' ∧ o = some (.inl (some (.int (nI 1))), zS U q' b' d s (wO w c'))
  | .inl e => ∃ q', o = some (.inl (some (.int (nI 0))), zS U q' e d s (wO w c))
theorem m_ledge {a p : Nat} (hF : 6000 ≤ F) (hT : TM U B t) (hq : q ≤ t) (hp : tSk B t q = p) (ha : a < 10) (ea : c 12 = nI a) : IM B t U d s w c (iLe B t c p) (f_X10_readLedge F (zS U q b d s (wO w c))) := by
  have hpt : p ≤ t := by rw [← hp]; exact tSk_le hq
  have ca : (c 12).toNatClampNeg = a := by rw [ea, nI_cl (by omega)]
  have h1 := m_nu (F := F) (b := b) (d := d) (s := s) (w := wO w c) (lo := 1) (hi := 40) hF hT (by omega) (by omega) hq hp
  have e0 : ∀ (q b : Nat), f_X10_ledges (zS U q b d s (wO w c)) = some (.inl (some (.int (nI a))), zS U q b d s (wO w c)) := fun q b => by rw [m_ledges, z_64, cM_wOi (by omega), ea]
  have m0 : ¬ nI 0 ≤ -nI 1 := by decide
  unfold f_X10_readLedge iLe
  cases g1 : iNu B t 1 40 p with
  | inl e =>
    rw [g1] at h1
    obtain ⟨q1, h1⟩ := h1
    refine ⟨q1, ?_⟩
    unfold f_X10_readLedge_b38 f_X10_readLedge_b56 f_X10_readLedge_b76 f_X10_readLedge_b96
    simp (disch := omega) only [fa_lit, nI_ad, nI_mul, nI_cl, inb_nI, nI_ltE, nI_leE, nI_eqE, nI_m1, nI_m1', m1_lt, lt_m1, m1_le, le_m1, eq_self, not_true_eq_false, not_false_eq_true, ↓reduceIte, leT, leF, ltT, ltF, eqT, eqF, decide_true, decide_false, true_and, and_true, Nat.reduceAdd, bI0_i, bI_i, bI_x, bV0_v, bV_v, bV_x, ↓bnd_e, gd_t, e0, h1, m0, and00]
  | inr x =>
    obtain ⟨p1, f⟩ := x
    rw [g1] at h1
    obtain ⟨q1, b1, hq1, hs1, h1⟩ := h1
    have r1 := iNu_p hpt g1
    have h2 := m_nb (F := F) (b := b1) (d := d) (s := s) (w := wO w c) (k := 1) (lo := 0) (hi := 30) hF (by omega) hT (by omega) (by omega) hq1 hs1
    show IM B t U d s w c (iB (iNb B t 1 0 30 p1) _) _
    cases g2 : iNb B t 1 0 30 p1 with
    | inl e =>
      rw [g2] at h2
      obtain ⟨q2, h2⟩ := h2
      refine ⟨q2, ?_⟩
      unfold f_X10_readLedge_b38 f_X10_readLedge_b56 f_X10_readLedge_b76 f_X10_readLedge_b96
      simp (disch := omega) only [fa_lit, nI_ad, nI_mul, nI_cl, inb_nI, nI_ltE, nI_leE, nI_eqE, nI_m1, nI_m1', m1_lt, lt_m1, m1_le, le_m1, eq_self, not_true_eq_false, not_false_eq_true, ↓reduceIte, leT, leF, ltT, ltF, eqT, eqF, decide_true, decide_false, true_and, and_true, Nat.reduceAdd, bI0_i, bI_i, bI_x, bV0_v, bV_v, bV_x, ↓bnd_e, gd_t, e0, h1, h2, m0, and00]
    | inr x =>
      obtain ⟨p2, r⟩ := x
      rw [g2] at h2
      obtain ⟨q2, b2, hq2, hs2, h2⟩ := h2
      have r2 := iNb_p r1.2.1 g2
      have h3 := m_nb (F := F) (b := b2) (d := d) (s := s) (w := wO w c) (k := 2) (lo := 0) (hi := 20) hF (by omega) hT (by omega) (by omega) hq2 hs2
      show IM B t U d s w c (iB (iNb B t 2 0 20 p2) _) _
      cases g3 : iNb B t 2 0 20 p2 with
      | inl e =>
        rw [g3] at h3
        obtain ⟨q3, h3⟩ := h3
        refine ⟨q3, ?_⟩
        unfold f_X10_readLedge_b38 f_X10_readLedge_b56 f_X10_readLedge_b76 f_X10_readLedge_b96
        simp (disch := omega) only [fa_lit, nI_ad, nI_mul, nI_cl, inb_nI, nI_ltE, nI_leE, nI_eqE, nI_m1, nI_m1', m1_lt, lt_m1, m1_le, le_m1, eq_self, not_true_eq_false, not_false_eq_true, ↓reduceIte, leT, leF, ltT, ltF, eqT, eqF, decide_true, decide_false, true_and, and_true, Nat.reduceAdd, bI0_i, bI_i, bI_x, bV0_v, bV_v, bV_x, ↓bnd_e, gd_t, e0, h1, h2, h3, m0, and00]
      | inr x =>
        obtain ⟨p3, e⟩ := x
        rw [g3] at h3
        obtain ⟨q3, b3, hq3, hs3, h3⟩ := h3
        have r3 := iNb_p r2.2.1 g3
        have h4 := m_nb (F := F) (b := b3) (d := d) (s := s) (w := wO w c) (k := 3) (lo := 0) (hi := 99) hF (by omega) hT (by omega) (by omega) hq3 hs3
        show IM B t U d s w c (iB (iNb B t 3 0 99 p3) _) _
        cases g4 : iNb B t 3 0 99 p3 with
        | inl e =>
          rw [g4] at h4
          obtain ⟨q4, h4⟩ := h4
          refine ⟨q4, ?_⟩
          unfold f_X10_readLedge_b38 f_X10_readLedge_b56 f_X10_readLedge_b76 f_X10_readLedge_b96
          simp (disch := omega) only [fa_lit, nI_ad, nI_mul, nI_cl, inb_nI, nI_ltE, nI_leE, nI_eqE, nI_m1, nI_m1', m1_lt, lt_m1, m1_le, le_m1, eq_self, not_true_eq_false, not_false_eq_true, ↓reduceIte, leT, leF, ltT, ltF, eqT, eqF, decide_true, decide_false, true_and, and_true, Nat.reduceAdd, bI0_i, bI_i, bI_x, bV0_v, bV_v, bV_x, ↓bnd_e, gd_t, e0, h1, h2, h3, h4, m0, and00]
        | inr x =>
          obtain ⟨p4, ag⟩ := x
          rw [g4] at h4
          obtain ⟨q4, b4, hq4, hs4, h4⟩ := h4
          have r4 := iNb_p r3.2.1 g4
          have h5 := m_nb (F := F) (b := b4) (d := d) (s := s) (w := wO w c) (k := 4) (lo := 0) (hi := 9) hF (by omega) hT (by omega) (by omega) hq4 hs4
          show IM B t U d s w c (iB (iNb B t 4 0 9 p4) _) _
          cases g5 : iNb B t 4 0 9 p4 with
          | inl e =>
            rw [g5] at h5
            obtain ⟨q5, h5⟩ := h5
            refine ⟨q5, ?_⟩
            unfold f_X10_readLedge_b38 f_X10_readLedge_b56 f_X10_readLedge_b76 f_X10_readLedge_b96
            simp (disch := omega) only [fa_lit, nI_ad, nI_mul, nI_cl, inb_nI, nI_ltE, nI_leE, nI_eqE, nI_m1, nI_m1', m1_lt, lt_m1, m1_le, le_m1, eq_self, not_true_eq_false, not_false_eq_true, ↓reduceIte, leT, leF, ltT, ltF, eqT, eqF, decide_true, decide_false, true_and, and_true, Nat.reduceAdd, bI0_i, bI_i, bI_x, bV0_v, bV_v, bV_x, ↓bnd_e, gd_t, e0, h1, h2, h3, h4, h5, m0, and00]
          | inr x =>
            obtain ⟨p5, bi⟩ := x
            rw [g5] at h5
            obtain ⟨q5, b5, hq5, hs5, h5⟩ := h5
            have r5 := iNb_p r4.2.1 g5
            refine ⟨q5, b5, hq5, hs5, ?_⟩
            rw [ca]
            unfold iCl
            have st : f_X10_readLedge_b38 F (nI a) (nI f) (nI r) (zS U q2 b2 d s (wO w c)) = f_X10_readLedge_b96 F (nI a) (nI f) (nI r) (nI e) (nI ag) (nI bi) (zS U q5 b5 d s (wO w c)) := by
              unfold f_X10_readLedge_b38 f_X10_readLedge_b56 f_X10_readLedge_b76
              simp (disch := omega) only [fa_lit, nI_ad, nI_mul, nI_cl, inb_nI, nI_ltE, nI_leE, nI_eqE, nI_m1, nI_m1', m1_lt, lt_m1, m1_le, le_m1, eq_self, not_true_eq_false, not_false_eq_true, ↓reduceIte, leT, leF, ltT, ltF, eqT, eqF, decide_true, decide_false, true_and, and_true, Nat.reduceAdd, bI0_i, bI_i, bI_x, bV0_v, bV_v, bV_x, ↓bnd_e, gd_t, h3, h4, h5]
            have st2 : bI0 (f_X10_ledges (zS U q b d s (wO w c))) (fun r2 S1 => (if ¬ r2 = ((10 : Int32)) then bI0 (f_X10_number F ((1 : Int32)) ((40 : Int32)) S1) (fun r4 S3 => (if 0 ≤ r4 then bI0 (f_X10_after F 1 ((0 : Int32)) ((30 : Int32)) S3) (fun r6 S5 => f_X10_readLedge_b38 F r2 r4 r6 S5) else f_X10_readLedge_b38 F r2 r4 ((-1 : Int32)) S3)) else some (.inl (some (.int (((0 : Int32)) &&& 1))), S1))) = f_X10_readLedge_b38 F (nI a) (nI f) (nI r) (zS U q2 b2 d s (wO w c)) := by
              simp (disch := omega) only [fa_lit, nI_ad, nI_mul, nI_cl, inb_nI, nI_ltE, nI_leE, nI_eqE, nI_m1, nI_m1', m1_lt, lt_m1, m1_le, le_m1, eq_self, not_true_eq_false, not_false_eq_true, ↓reduceIte, leT, leF, ltT, ltF, eqT, eqF, decide_true, decide_false, true_and, and_true, Nat.reduceAdd, bI0_i, bI_i, bI_x, bV0_v, bV_v, bV_x, ↓bnd_e, gd_t, e0, h1, h2]
            refine (st2.trans st).trans ?_
            unfold f_X10_readLedge_b96 f_X10_readLedge_b159
            by_cases e00 : e = 0
            · rw [if_pos e00]
              simp (disch := omega) only [fa_lit, nI_ad, nI_mul, nI_cl, inb_nI, nI_ltE, nI_leE, nI_eqE, nI_m1, nI_m1', m1_lt, lt_m1, m1_le, le_m1, eq_self, not_true_eq_false, not_false_eq_true, ↓reduceIte, leT, leF, ltT, ltF, eqT, eqF, decide_true, decide_false, true_and, and_true, Nat.reduceAdd, bI0_i, bI_i, bI_x, bV0_v, bV_v, bV_x, ↓bnd_e, gd_t, m_at, z_64, z_uw, wO_at, pj_l, pj_0, upd_n, ea, e00, and10]
            · rw [if_neg e00]
              simp (disch := omega) only [fa_lit, nI_ad, nI_mul, nI_cl, inb_nI, nI_ltE, nI_leE, nI_eqE, nI_m1, nI_m1', m1_lt, lt_m1, m1_le, le_m1, eq_self, not_true_eq_false, not_false_eq_true, ↓reduceIte, leT, leF, ltT, ltF, eqT, eqF, decide_true, decide_false, true_and, and_true, Nat.reduceAdd, bI0_i, bI_i, bI_x, bV0_v, bV_v, bV_x, ↓bnd_e, gd_t, m_at, z_64, z_uw, wO_at, pj_l, pj_0, upd_n, ea, e00, and10]
theorem m_rope {p : Nat} (hF : 6000 ≤ F) (hT : TM U B t) (hq : q ≤ t) (hp : tSk B t q = p) : IM B t U d s w c (iRo B t c p) (f_X10_readRope F (zS U q b d s (wO w c))) := by
  have hpt : p ≤ t := by rw [← hp]; exact tSk_le hq
  have h1 := m_nu (F := F) (b := b) (d := d) (s := s) (w := wO w c) (lo := 1) (hi := 40) hF hT (by omega) (by omega) hq hp
  have m0 : ¬ nI 0 ≤ -nI 1 := by decide
  unfold f_X10_readRope f_X10_readRope_b26 iRo
  cases g1 : iNu B t 1 40 p with
  | inl e =>
    rw [g1] at h1
    obtain ⟨q1, h1⟩ := h1
    refine ⟨q1, ?_⟩
    simp (disch := omega) only [fa_lit, nI_ad, nI_mul, nI_cl, inb_nI, nI_ltE, nI_leE, nI_eqE, nI_m1, nI_m1', m1_lt, lt_m1, m1_le, le_m1, eq_self, not_true_eq_false, not_false_eq_true, ↓reduceIte, leT, leF, ltT, ltF, eqT, eqF, decide_true, decide_false, true_and, and_true, Nat.reduceAdd, bI0_i, bI_i, bI_x, bV0_v, bV_v, bV_x, ↓bnd_e, gd_t, h1, m0, and00]
  | inr x =>
    obtain ⟨p1, f⟩ := x
    rw [g1] at h1
    obtain ⟨q1, b1, hq1, hs1, h1⟩ := h1
    have r1 := iNu_p hpt g1
    have h2 := m_nb (F := F) (b := b1) (d := d) (s := s) (w := wO w c) (k := 6) (lo := 1) (hi := 999) hF (by omega) hT (by omega) (by omega) hq1 hs1
    show IM B t U d s w c (iB (iNb B t 6 1 999 p1) _) _
    cases g2 : iNb B t 6 1 999 p1 with
    | inl e =>
      rw [g2] at h2
      obtain ⟨q2, h2⟩ := h2
      refine ⟨q2, ?_⟩
      simp (disch := omega) only [fa_lit, nI_ad, nI_mul, nI_cl, inb_nI, nI_ltE, nI_leE, nI_eqE, nI_m1, nI_m1', m1_lt, lt_m1, m1_le, le_m1, eq_self, not_true_eq_false, not_false_eq_true, ↓reduceIte, leT, leF, ltT, ltF, eqT, eqF, decide_true, decide_false, true_and, and_true, Nat.reduceAdd, bI0_i, bI_i, bI_x, bV0_v, bV_v, bV_x, ↓bnd_e, gd_t, h1, h2, m0, and00]
    | inr x =>
      obtain ⟨p2, r⟩ := x
      rw [g2] at h2
      obtain ⟨q2, b2, hq2, hs2, h2⟩ := h2
      have r2 := iNb_p r1.2.1 g2
      refine ⟨q2, b2, hq2, hs2, ?_⟩
      simp (disch := omega) only [fa_lit, nI_ad, nI_mul, nI_cl, inb_nI, nI_ltE, nI_leE, nI_eqE, nI_m1, nI_m1', m1_lt, lt_m1, m1_le, le_m1, eq_self, not_true_eq_false, not_false_eq_true, ↓reduceIte, leT, leF, ltT, ltF, eqT, eqF, decide_true, decide_false, true_and, and_true, Nat.reduceAdd, bI0_i, bI_i, bI_x, bV0_v, bV_v, bV_x, ↓bnd_e, gd_t, h1, h2, z_uw, pj_7, pj_8, pj_9, and10]
theorem m_holder {a p : Nat} (hF : 6000 ≤ F) (hT : TM U B t) (hq : q ≤ t) (hp : tSk B t q = p) (ha : a < 6) (ea : c 13 = nI a) : IM B t U d s w c (iHo B t c p) (f_X10_readHolder F (zS U q b d s (wO w c))) := by
  have hpt : p ≤ t := by rw [← hp]; exact tSk_le hq
  have ca : (c 13).toNatClampNeg = a := by rw [ea, nI_cl (by omega)]
  have h1 := m_nu (F := F) (b := b) (d := d) (s := s) (w := wO w c) (lo := 1) (hi := 9) hF hT (by omega) (by omega) hq hp
  have m0 : ¬ nI 0 ≤ -nI 1 := by decide
  unfold f_X10_readHolder iHo
  cases g1 : iNu B t 1 9 p with
  | inl e =>
    rw [g1] at h1
    obtain ⟨q1, h1⟩ := h1
    refine ⟨q1, ?_⟩
    simp (disch := omega) only [fa_lit, nI_ad, nI_mul, nI_cl, inb_nI, nI_ltE, nI_leE, nI_eqE, nI_m1, nI_m1', m1_lt, lt_m1, m1_le, le_m1, eq_self, not_true_eq_false, not_false_eq_true, ↓reduceIte, leT, leF, ltT, ltF, eqT, eqF, decide_true, decide_false, true_and, and_true, Nat.reduceAdd, bI0_i, bI_i, bI_x, bV0_v, bV_v, bV_x, ↓bnd_e, gd_t, m_holders, z_64, cM_wOi, ea, h1, m0, and00]
  | inr x =>
    obtain ⟨p1, f⟩ := x
    rw [g1] at h1
    obtain ⟨q1, b1, hq1, hs1, h1⟩ := h1
    have r1 := iNu_p hpt g1
    refine ⟨q1, b1, hq1, hs1, ?_⟩
    rw [ca]
    simp (disch := omega) only [fa_lit, nI_ad, nI_mul, nI_cl, inb_nI, nI_ltE, nI_leE, nI_eqE, nI_m1, nI_m1', m1_lt, lt_m1, m1_le, le_m1, eq_self, not_true_eq_false, not_false_eq_true, ↓reduceIte, leT, leF, ltT, ltF, eqT, eqF, decide_true, decide_false, true_and, and_true, Nat.reduceAdd, bI0_i, bI_i, bI_x, bV0_v, bV_v, bV_x, ↓bnd_e, gd_t, m_holders, z_64, cM_wOi, ea, h1, z_uw, wO_at, pj_h, pj_1, upd_n, and10]
theorem m_climber {a p : Nat} (hF : 6000 ≤ F) (hT : TM U B t) (hq : q ≤ t) (hp : tSk B t q = p) (ha : a < 4) (ea : c 14 = nI a) : IM B t U d s w c (iKl B t c p) (f_X10_readClimber F (zS U q b d s (wO w c))) := by
  have hpt : p ≤ t := by rw [← hp]; exact tSk_le hq
  have ca : (c 14).toNatClampNeg = a := by rw [ea, nI_cl (by omega)]
  have h1 := m_nu (F := F) (b := b) (d := d) (s := s) (w := wO w c) (lo := 1) (hi := 20) hF hT (by omega) (by omega) hq hp
  have m0 : ¬ nI 0 ≤ -nI 1 := by decide
  unfold f_X10_readClimber iKl
  cases g1 : iNu B t 1 20 p with
  | inl e =>
    rw [g1] at h1
    obtain ⟨q1, h1⟩ := h1
    refine ⟨q1, ?_⟩
    simp (disch := omega) only [fa_lit, nI_ad, nI_mul, nI_cl, inb_nI, nI_ltE, nI_leE, nI_eqE, nI_m1, nI_m1', m1_lt, lt_m1, m1_le, le_m1, eq_self, not_true_eq_false, not_false_eq_true, ↓reduceIte, leT, leF, ltT, ltF, eqT, eqF, decide_true, decide_false, true_and, and_true, Nat.reduceAdd, bI0_i, bI_i, bI_x, bV0_v, bV_v, bV_x, ↓bnd_e, gd_t, m_climbers, z_64, cM_wOi, ea, h1, m0, and00]
  | inr x =>
    obtain ⟨p1, f⟩ := x
    rw [g1] at h1
    obtain ⟨q1, b1, hq1, hs1, h1⟩ := h1
    have r1 := iNu_p hpt g1
    refine ⟨q1, b1, hq1, hs1, ?_⟩
    rw [ca]
    simp (disch := omega) only [fa_lit, nI_ad, nI_mul, nI_cl, inb_nI, nI_ltE, nI_leE, nI_eqE, nI_m1, nI_m1', m1_lt, lt_m1, m1_le, le_m1, eq_self, not_true_eq_false, not_false_eq_true, ↓reduceIte, leT, leF, ltT, ltF, eqT, eqF, decide_true, decide_false, true_and, and_true, Nat.reduceAdd, bI0_i, bI_i, bI_x, bV0_v, bV_v, bV_x, ↓bnd_e, gd_t, m_climbers, z_64, cM_wOi, ea, h1, z_uw, wO_at, pj_k, pj_2, upd_n, and10]
theorem m_chance {k j p : Nat} (hF : 6000 ≤ F) (hk : k = 13 ∧ j = 5 ∨ k = 14 ∧ j = 6) (hT : TM U B t) (hq : q ≤ t) (hp : tSk B t q = p) : IM B t U d s w c (iCh B t j c p) (f_X10_readNumber F (nI k) (zS U q b d s (wO w c))) := by
  have hpt : p ≤ t := by rw [← hp]; exact tSk_le hq
  have h1 := m_nu (F := F) (b := b) (d := d) (s := s) (w := wO w c) (lo := 0) (hi := 100) hF hT (by omega) (by omega) hq hp
  have m0 : ¬ nI 0 ≤ -nI 1 := by decide
  unfold f_X10_readNumber f_X10_readNumber_b27 f_X10_readNumber_b37 iCh
  cases g1 : iNu B t 0 100 p with
  | inl e =>
    rw [g1] at h1
    obtain ⟨q1, h1⟩ := h1
    refine ⟨q1, ?_⟩
    rcases hk with ⟨rfl, rfl⟩ | ⟨rfl, rfl⟩
    · simp (disch := omega) only [fa_lit, nI_ad, nI_mul, nI_cl, inb_nI, nI_ltE, nI_leE, nI_eqE, nI_m1, nI_m1', m1_lt, lt_m1, m1_le, le_m1, eq_self, not_true_eq_false, not_false_eq_true, ↓reduceIte, leT, leF, ltT, ltF, eqT, eqF, decide_true, decide_false, true_and, and_true, Nat.reduceAdd, bI0_i, bI_i, bI_x, bV0_v, bV_v, bV_x, ↓bnd_e, gd_t, h1, m0, z_64, z_uw, wO_at, pj_13, m1_lt0, and00, upd_id (f := c) (k := 5) rfl]
    · simp (disch := omega) only [fa_lit, nI_ad, nI_mul, nI_cl, inb_nI, nI_ltE, nI_leE, nI_eqE, nI_m1, nI_m1', m1_lt, lt_m1, m1_le, le_m1, eq_self, not_true_eq_false, not_false_eq_true, ↓reduceIte, leT, leF, ltT, ltF, eqT, eqF, decide_true, decide_false, true_and, and_true, Nat.reduceAdd, bI0_i, bI_i, bI_x, bV0_v, bV_v, bV_x, ↓bnd_e, gd_t, h1, m0, z_64, z_uw, wO_at, pj_14, m1_lt0, and00, upd_id (f := c) (k := 6) rfl]
  | inr x =>
    obtain ⟨p1, f⟩ := x
    rw [g1] at h1
    obtain ⟨q1, b1, hq1, hs1, h1⟩ := h1
    have r1 := iNu_p hpt g1
    refine ⟨q1, b1, hq1, hs1, ?_⟩
    rcases hk with ⟨rfl, rfl⟩ | ⟨rfl, rfl⟩
    · simp (disch := omega) only [fa_lit, nI_ad, nI_mul, nI_cl, inb_nI, nI_ltE, nI_leE, nI_eqE, nI_m1, nI_m1', m1_lt, lt_m1, m1_le, le_m1, eq_self, not_true_eq_false, not_false_eq_true, ↓reduceIte, leT, leF, ltT, ltF, eqT, eqF, decide_true, decide_false, true_and, and_true, Nat.reduceAdd, bI0_i, bI_i, bI_x, bV0_v, bV_v, bV_x, ↓bnd_e, gd_t, h1, z_64, z_uw, wO_at, pj_13, and10]
    · simp (disch := omega) only [fa_lit, nI_ad, nI_mul, nI_cl, inb_nI, nI_ltE, nI_leE, nI_eqE, nI_m1, nI_m1', m1_lt, lt_m1, m1_le, le_m1, eq_self, not_true_eq_false, not_false_eq_true, ↓reduceIte, leT, leF, ltT, ltF, eqT, eqF, decide_true, decide_false, true_and, and_true, Nat.reduceAdd, bI0_i, bI_i, bI_x, bV0_v, bV_v, bV_x, ↓bnd_e, gd_t, h1, z_64, z_uw, wO_at, pj_14, and10]
theorem IM_b {r : Nat ⊕ (Nat × (Nat → Int32))} {o : Option mR} (g : IM B t U d s w c r o) : IM B t U d s w c r (bI0 o (fun r S => some (.inl (some (.int (r &&& 1))), S))) := by
  match r, g with
  | .inl e, g =>
    obtain ⟨q', e2⟩ := g
    exact ⟨q', by rw [e2, bI0_i]; rfl⟩
  | .inr (p', c'), g =>
    obtain ⟨q', b', h1, h2, h3⟩ := g
    exact ⟨q', b', h1, h2, by rw [h3, bI0_i]; rfl⟩
theorem m_isleWords {p : Nat} (hF : 6000 ≤ F) (hT : TM U B t) (hp : p ≤ t) (hR : Rg c) : IM B t U d s w c (iLn B t c p) (f_X10_readIsleLine F (zS U (tWd B t p) p d s (wO w c))) := by
  obtain ⟨l, hl, el⟩ := hR.n12
  obtain ⟨nh, hnh, enh⟩ := hR.n13
  obtain ⟨nk, hnk, enk⟩ := hR.n14
  have cl : (c 12).toNatClampNeg = l := by rw [el, nI_cl (by omega)]
  have ch : (c 13).toNatClampNeg = nh := by rw [enh, nI_cl (by omega)]
  have ck : (c 14).toNatClampNeg = nk := by rw [enk, nI_cl (by omega)]
  have w2 := tWd_le (B := B) hp
  have iT := fun k hk e => m_wdT (F := F) (U := U) (d := d) (s := s) (w := wO w c) (k := k) (p := p) (B := B) (t := t) hF hk hT hp e
  have iF := fun k hk e => m_wdF (F := F) (U := U) (d := d) (s := s) (w := wO w c) (k := k) (p := p) (B := B) (t := t) hF hk hT hp e
  unfold f_X10_readIsleLine iLn
  rw [cl, ch, ck]
  by_cases g0 : tWl B t p = strN 0
  · rw [if_pos g0, iT 0 (by omega) g0, bIz1]
    by_cases g10 : l = 10
    · rw [if_pos g10]
      refine ⟨tWd B t p, ?_⟩
      unfold f_X10_readLedge
      simp (disch := omega) only [fa_lit, nI_ad, nI_mul, nI_cl, inb_nI, nI_ltE, nI_leE, nI_eqE, nI_m1, nI_m1', m1_lt, lt_m1, m1_le, le_m1, eq_self, not_true_eq_false, not_false_eq_true, ↓reduceIte, leT, leF, ltT, ltF, eqT, eqF, decide_true, decide_false, true_and, and_true, Nat.reduceAdd, bI0_i, bI_i, bI_x, bV0_v, bV_v, bV_x, ↓bnd_e, gd_t, m_ledges, z_64, cM_wOi, el, g10, and00]
    · rw [if_neg g10]
      exact IM_b (m_ledge hF hT w2 rfl (by omega) el)
  · rw [if_neg g0, iF 0 (by omega) g0, bIz0]
    by_cases g5 : tWl B t p = strN 5
    · rw [if_pos g5, iT 5 (by omega) g5, bIz1]
      exact IM_b (m_rope hF hT w2 rfl)
    · rw [if_neg g5, iF 5 (by omega) g5, bIz0]
      by_cases g7 : tWl B t p = strN 7
      · rw [if_pos g7, iT 7 (by omega) g7, bIz1]
        by_cases g6 : nh = 6
        · rw [if_pos g6]
          refine ⟨tWd B t p, ?_⟩
          unfold f_X10_readHolder
          simp (disch := omega) only [fa_lit, nI_ad, nI_mul, nI_cl, inb_nI, nI_ltE, nI_leE, nI_eqE, nI_m1, nI_m1', m1_lt, lt_m1, m1_le, le_m1, eq_self, not_true_eq_false, not_false_eq_true, ↓reduceIte, leT, leF, ltT, ltF, eqT, eqF, decide_true, decide_false, true_and, and_true, Nat.reduceAdd, bI0_i, bI_i, bI_x, bV0_v, bV_v, bV_x, ↓bnd_e, gd_t, m_holders, z_64, cM_wOi, enh, g6, and00]
        · rw [if_neg g6]
          exact IM_b (m_holder hF hT w2 rfl (by omega) enh)
      · rw [if_neg g7, iF 7 (by omega) g7, bIz0]
        by_cases g8 : tWl B t p = strN 8
        · rw [if_pos g8, iT 8 (by omega) g8, bIz1]
          by_cases g4 : nk = 4
          · rw [if_pos g4]
            refine ⟨tWd B t p, ?_⟩
            unfold f_X10_readClimber
            simp (disch := omega) only [fa_lit, nI_ad, nI_mul, nI_cl, inb_nI, nI_ltE, nI_leE, nI_eqE, nI_m1, nI_m1', m1_lt, lt_m1, m1_le, le_m1, eq_self, not_true_eq_false, not_false_eq_true, ↓reduceIte, leT, leF, ltT, ltF, eqT, eqF, decide_true, decide_false, true_and, and_true, Nat.reduceAdd, bI0_i, bI_i, bI_x, bV0_v, bV_v, bV_x, ↓bnd_e, gd_t, m_climbers, z_64, cM_wOi, enk, g4, and00]
          · rw [if_neg g4]
            exact IM_b (m_climber hF hT w2 rfl (by omega) enk)
        · rw [if_neg g8, iF 8 (by omega) g8, bIz0]
          by_cases g9 : tWl B t p = strN 9
          · rw [if_pos g9, iT 9 (by omega) g9, bIz1]
            exact IM_b (m_chance hF (Or.inl ⟨rfl, rfl⟩) hT w2 rfl)
          · rw [if_neg g9, iF 9 (by omega) g9, bIz0]
            by_cases gt : tWl B t p = strN 10
            · rw [if_pos gt, iT 10 (by omega) gt, bIz1]
              have hm := m_chance (F := F) (d := d) (s := s) (w := w) (c := c) (b := p) hF (Or.inr ⟨rfl, rfl⟩) hT w2 rfl
              unfold f_X10_readIsleLine_b94 f_X10_readIsleLine_b95
              cases gr : iCh B t 6 c (tSk B t (tWd B t p)) with
              | inl e =>
                rw [gr] at hm
                obtain ⟨q', e2⟩ := hm
                refine ⟨q', ?_⟩
                rw [show f_X10_readNumber F ((14 : Int32)) (zS U (tWd B t p) p d s (wO w c)) = _ from e2, bIz0]; rfl
              | inr x =>
                obtain ⟨p', c'⟩ := x
                rw [gr] at hm
                obtain ⟨q', b', h1, h2, h3⟩ := hm
                refine ⟨q', b', h1, h2, ?_⟩
                rw [show f_X10_readNumber F ((14 : Int32)) (zS U (tWd B t p) p d s (wO w c)) = _ from h3, bIz1]; rfl
            · rw [if_neg gt, iF 10 (by omega) gt, bIz0]
              exact ⟨tWd B t p, rfl⟩
theorem m_isleLine {p i : Nat} (hF : 6000 ≤ F) (hT : TM U B t) (hq : q ≤ t) (hp : tSk B t q = p) (hi : i < 14) (hR : Rg c) : IM B t U d s w c (iLn B t c p) (f_X10_readLine F (nI 1) (nI i) (zS U q b d s (wO w c))) := by
  have hpt : p ≤ t := by rw [← hp]; exact tSk_le hq
  have hL := m_letters (F := F) (b := b) (d := d) (s := s) (w := wO w c) hF hT hq
  rw [hp] at hL
  have hw := m_isleWords (F := F) (d := d) (s := s) (w := w) hF hT hpt hR
  have h3 : f_X10_readLine F (nI 1) (nI i) (zS U q b d s (wO w c)) = bI0 (f_X10_readIsleLine F (zS U (tWd B t p) p d s (wO w c))) (fun r5 S4 => (if r5 = nI 0 then some (.inl (some (.int (nI 0))), S4) else some (.inl (some (.int (nI 1))), S4))) := by
    unfold f_X10_readLine f_X10_readLine_b16 f_X10_readLine_b45 f_X10_readLine_b41 f_X10_readLine_b46
    simp (disch := omega) only [fa_lit, nI_ad, nI_mul, nI_cl, inb_nI, nI_ltE, nI_leE, nI_eqE, nI_m1, nI_m1', m1_lt, lt_m1, m1_le, le_m1, eq_self, not_true_eq_false, not_false_eq_true, ↓reduceIte, leT, leF, ltT, ltF, eqT, eqF, decide_true, decide_false, true_and, and_true, Nat.reduceAdd, bI0_i, bI_i, bI_x, bV0_v, bV_v, bV_x, ↓bnd_e, gd_t, hL, and00, and10]
  rw [h3]
  cases gr : iLn B t c p with
  | inl e =>
    rw [gr] at hw
    obtain ⟨q', e2⟩ := hw
    refine ⟨q', ?_⟩
    rw [e2, bI0_i]; rfl
  | inr x =>
    obtain ⟨p', c'⟩ := x
    rw [gr] at hw
    obtain ⟨q', b', j1, j2, j3⟩ := hw
    refine ⟨q', b', j1, j2, ?_⟩
    rw [j3, bI0_i]; rfl
theorem m_isleLines (hF : 6000 ≤ F) (hT : TM U B t) : ∀ (m p : Nat) (c : Nat → Int32) (q b i f : Nat), q ≤ t → tSk B t q = p → i + m = 14 → m < f → Rg c → Az c →
    (match iLs B t m c p with
    | .inr c' => ∃ q' b' n', n' ≤ 14 ∧ f_X10_readAll_b28 F f (nI 1) (nI i) (zS U q b d s (wO w c)) = some (.inl (some (.int (nI n'))), zS U q' b' d s (wO w c'))
    | .inl e => ∃ q' c', f_X10_readAll_b28 F f (nI 1) (nI i) (zS U q b d s (wO w c)) = some (.inl (some (.int (-nI 1))), zS U q' e d s (wO w c')))
  | 0, p, c, q, b, i, f + 1, hq, hp, hi, hf, hR, hz => by
    have ei : i = 14 := by omega
    have hL := m_letters (F := F) (b := b) (d := d) (s := s) (w := wO w c) hF hT hq
    rw [hp] at hL
    rw [iLs, f_X10_readAll_b28, ei]
    refine ⟨tWd B t p, c, ?_⟩
    unfold f_X10_readLine f_X10_readLine_b16 f_X10_readLine_b45 f_X10_readLine_b46
    simp (disch := omega) only [fa_lit, nI_ad, nI_mul, nI_cl, inb_nI, nI_ltE, nI_leE, nI_eqE, nI_m1, nI_m1', m1_lt, lt_m1, m1_le, le_m1, eq_self, not_true_eq_false, not_false_eq_true, ↓reduceIte, leT, leF, ltT, ltF, eqT, eqF, decide_true, decide_false, true_and, and_true, Nat.reduceAdd, bI0_i, bI_i, bI_x, bV0_v, bV_v, bV_x, ↓bnd_e, gd_t, hL, Nat.le_refl, and00]
  | m + 1, p, c, q, b, i, f + 1, hq, hp, hi, hf, hR, hz => by
    have ht := hT.1
    have hpt : p ≤ t := by rw [← hp]; exact tSk_le hq
    have hl := m_isleLine (F := F) (b := b) (d := d) (s := s) (w := w) hF hT hq hp (show i < 14 by omega) hR
    rw [iLs, f_X10_readAll_b28]
    cases gl : iLn B t c p with
    | inl e =>
      rw [gl] at hl
      obtain ⟨q', e2⟩ := hl
      refine ⟨q', c, ?_⟩
      simp (disch := omega) only [fa_lit, nI_ad, nI_mul, nI_cl, inb_nI, nI_ltE, nI_leE, nI_eqE, nI_m1, nI_m1', m1_lt, lt_m1, m1_le, le_m1, eq_self, not_true_eq_false, not_false_eq_true, ↓reduceIte, leT, leF, ltT, ltF, eqT, eqF, decide_true, decide_false, true_and, and_true, Nat.reduceAdd, bI0_i, bI_i, bI_x, bV0_v, bV_v, bV_x, ↓bnd_e, gd_t, e2]
    | inr x =>
      obtain ⟨p1, c1⟩ := x
      rw [gl] at hl
      have qq := iLn_p hpt hR hz gl
      obtain ⟨q1, b1, r1, r2, r5⟩ := hl
      have hB := m_blanks (F := F) (b := b1) (d := d) (s := s) (w := wO w c1) hF hT r1
      rw [r2] at hB
      dsimp only
      by_cases g1 : p1 = t
      · rw [if_pos g1]
        refine ⟨p1, p1, i + 1, by omega, ?_⟩
        simp (disch := omega) only [fa_lit, nI_ad, nI_mul, nI_cl, inb_nI, nI_ltE, nI_leE, nI_eqE, nI_m1, nI_m1', m1_lt, lt_m1, m1_le, le_m1, eq_self, not_true_eq_false, not_false_eq_true, ↓reduceIte, leT, leF, ltT, ltF, eqT, eqF, decide_true, decide_false, true_and, and_true, Nat.reduceAdd, bI0_i, bI_i, bI_x, bV0_v, bV_v, bV_x, ↓bnd_e, gd_t, r5, hB, z_10, z_11, hT.2.1, g1]
      · rw [if_neg g1]
        have hA := m_isAt (b := p1) (d := d) (s := s) (w := wO w c1) (q := p1) (lo := 59) (hi := 59) hT (by omega) (by omega) qq.2.1
        by_cases g2 : tSg B t p1 59 = true
        · have hg := tSg_p g2
          rw [decide_eq_true (by omega)] at hA
          have ih := m_isleLines hF hT m (tSk B t (p1 + 1)) c1 (p1 + 1) p1 (i + 1) f (by omega) rfl (by omega) (by omega) qq.2.2.1 qq.2.2.2.1
          rw [if_pos g2]
          have e2 : bI0 (f_X10_readLine F (nI 1) (nI i) (zS U q b d s (wO w c))) (fun r5 S4 => (if ¬ r5 = nI 0 then bV0 (f_X10_blanks F S4) (fun S6 => (if ¬ (S6 63 10) = (S6 63 11) then bI0 (f_X10_isAt (nI 59) (nI 59) S6) (fun r8 S7 => (if ¬ r8 = nI 0 then bnd (upS S7 63 10 ((S7 63 10) + nI 1)) (fun S9 => f_X10_readAll_b28 F f (nI 1) (nI i + nI 1) S9) else some (.inl (some (.int (-nI 1))), S7))) else some (.inl (some (.int (nI i + nI 1))), S6))) else some (.inl (some (.int (-nI 1))), S4))) = f_X10_readAll_b28 F f (nI 1) (nI (i + 1)) (zS U (p1 + 1) p1 d s (wO w c1)) := by
            simp (disch := omega) only [fa_lit, nI_ad, nI_mul, nI_cl, inb_nI, nI_ltE, nI_leE, nI_eqE, nI_m1, nI_m1', m1_lt, lt_m1, m1_le, le_m1, eq_self, not_true_eq_false, not_false_eq_true, ↓reduceIte, leT, leF, ltT, ltF, eqT, eqF, decide_true, decide_false, true_and, and_true, Nat.reduceAdd, bI0_i, bI_i, bI_x, bV0_v, bV_v, bV_x, ↓bnd_e, gd_t, r5, hB, z_10, z_11, hT.2.1, g1, hA, bT, z_u10]
          cases gs : iLs B t m c1 (tSk B t (p1 + 1)) with
          | inl e =>
            rw [gs] at ih
            obtain ⟨q2, c2, e4⟩ := ih
            exact ⟨q2, c2, e2.trans e4⟩
          | inr c2 =>
            rw [gs] at ih
            obtain ⟨q2, b2, n2, hn2, e4⟩ := ih
            exact ⟨q2, b2, n2, hn2, e2.trans e4⟩
        · have hA' : ¬ (p1 < t ∧ 59 ≤ B p1 ∧ B p1 ≤ 59) := fun e => g2 (decide_eq_true (by omega))
          rw [decide_eq_false hA'] at hA
          rw [if_neg g2]
          refine ⟨p1, c1, ?_⟩
          simp (disch := omega) only [fa_lit, nI_ad, nI_mul, nI_cl, inb_nI, nI_ltE, nI_leE, nI_eqE, nI_m1, nI_m1', m1_lt, lt_m1, m1_le, le_m1, eq_self, not_true_eq_false, not_false_eq_true, ↓reduceIte, leT, leF, ltT, ltF, eqT, eqF, decide_true, decide_false, true_and, and_true, Nat.reduceAdd, bI0_i, bI_i, bI_x, bV0_v, bV_v, bV_x, ↓bnd_e, gd_t, r5, hB, z_10, z_11, hT.2.1, g1, hA, bF]
theorem m_isleAll {T : mS} (hF : 6000 ≤ F) (hT : TM (m_u T) B t) (hR : Rg c) (hz : Az c) (hc : cM (T 64) = c) : (match iAll B t c with
    | .inr c' => ∃ q' b' d' s' n', n' ≤ 14 ∧ f_X10_readAll F (nI 1) T = some (.inl (some (.int (nI n'))), zS (m_u T) q' b' d' s' (wO (T 64) c'))
    | .inl e => ∃ q' d' s' c', f_X10_readAll F (nI 1) T = some (.inl (some (.int (-nI 1))), zS (m_u T) q' e d' s' (wO (T 64) c'))) := by
  have ht := hT.1
  obtain ⟨b0, d0, hz0⟩ := z_begin (T := T)
  have hp := tSk_le (B := B) (Nat.zero_le t)
  have hid := tSk_id (B := B) (Nat.zero_le t)
  have hw : T 64 = wO (T 64) c := by rw [← hc, wO_self]
  have hB := m_blanks (F := F) (U := m_u T) (q := 0) (b := b0) (d := d0) (s := 0) (w := T 64) hF hT (Nat.zero_le t)
  have e1 : f_X10_readAll F (nI 1) T = (if ¬ nI (tSk B t 0) = nI t then f_X10_readAll_b28 F F (nI 1) (nI 0) (zS (m_u T) (tSk B t 0) (tSk B t 0) d0 0 (T 64)) else some (.inl (some (.int (nI 0))), zS (m_u T) (tSk B t 0) (tSk B t 0) d0 0 (T 64))) := by
    unfold f_X10_readAll
    simp only [fa_lit, m_uses, bV0_v, bnd_e, hz0, hB, z_10, z_11, hT.2.1]
  unfold iAll
  by_cases g : tSk B t 0 = t
  · rw [if_pos g]
    refine ⟨tSk B t 0, tSk B t 0, d0, 0, 0, by omega, ?_⟩
    rw [e1, if_neg (by rw [g]; simp), ← hw]
  · rw [if_neg g]
    have hl := m_isleLines (F := F) (U := m_u T) (d := d0) (s := 0) (w := T 64) hF hT 14 (tSk B t 0) c (tSk B t 0) (tSk B t 0) 0 F hp hid rfl (by omega) hR hz
    rw [if_pos (by rw [nI_eqE (by omega) (by omega)]; exact g)] at e1
    rw [← hw] at hl
    cases gs : iLs B t 14 c (tSk B t 0) with
    | inl e =>
      rw [gs] at hl
      obtain ⟨q2, c2, e4⟩ := hl
      exact ⟨q2, d0, 0, c2, e1.trans e4⟩
    | inr c2 =>
      rw [gs] at hl
      obtain ⟨q2, b2, n2, hn2, e4⟩ := hl
      exact ⟨q2, b2, d0, 0, n2, hn2, e1.trans e4⟩
end T
