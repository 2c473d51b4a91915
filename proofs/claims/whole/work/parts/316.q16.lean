/-! calls that only look, sixth lot: calm, ledge, climber, lightest, lucky, who, leave -/
section O
variable {F : Nat} {S : mS}
def calmO (A : aL) (c : Nat → Int32) (l : Nat) : Nat → Option (Int32 × Int32)
  | 0 => none
  | w + 1 => if kicksV A c l (nI w) = -nI 1 then calmO A c l w else match calmO A c l w with
    | none => some (nI w, kicksV A c l (nI w))
    | some (b, f) => if f ≤ kicksV A c l (nI w) then some (b, f) else some (nI w, kicksV A c l (nI w))
def calm1 (z : Int32) (s : Option (Int32 × Int32)) : Int32 × Int32 := match s with
  | none => (-nI 1, z)
  | some t => t
theorem x_calm {A : aL} {l : Nat} (hF : 6000 ≤ F) (hl : l < 10) (hA : LX A S 3) (hW : LW A) : ∀ (m i k : Nat) (p q : Nat → Int32), i + m = 10 → m < k →
    ∃ p' q', f_X9_calm_b13 F k (nI l) (calm1 (nI 13) (calmO A (S 25) l i)).1 (calm1 (nI 13) (calmO A (S 25) l i)).2 (nI i) (sX S p q) = some (.inl (some (.int (calm1 (nI 13) (calmO A (S 25) l 10)).1)), sX S p' q')
  | 0, i, k + 1, p, q, hi, hk => by
    refine ⟨p, q, ?_⟩
    have hie : i = 10 := by omega
    rw [hie, f_X9_calm_b13]
    simp (disch := omega) only [fa_lit, nI_ad, nI_mul, nI_cl, inb_nI, nI_ltE, nI_leE, nI_eqE, nI_m1, nI_m1', m1_lt, lt_m1, m1_le, le_m1, eq_self, not_true_eq_false, not_false_eq_true, ↓reduceIte, leT, leF, ltT, ltF, eqT, eqF, decide_true, decide_false, true_and, and_true, Nat.reduceAdd, bI0_i, bI_i, bI_x, bV0_v, bV_v, bV_x, ↓bnd_e, gd_t]
  | m + 1, i, k + 1, p, q, hi, hk => by
    obtain ⟨p1, q1, h⟩ := x_kicksTo (F := F) (u := 24) (wind := nI i) (S := sX S p q) (by omega) (by omega) hl (LX_sX hA) hW
    rw [sX_sX, sX_n (by omega) (by omega)] at h
    obtain ⟨p2, q2, ih⟩ := x_calm (A := A) (l := l) hF hl hA hW m (i + 1) k p1 q1 (by omega) (by omega)
    refine ⟨p2, q2, ?_⟩
    rw [calmO] at ih
    rw [f_X9_calm_b13]
    unfold f_X9_calm_b54
    by_cases g : kicksV A (S 25) l (nI i) = -nI 1
    · rw [if_pos g] at ih
      simp (disch := omega) only [fa_lit, nI_ad, nI_mul, nI_cl, inb_nI, nI_ltE, nI_leE, nI_eqE, nI_m1, nI_m1', m1_lt, lt_m1, m1_le, le_m1, eq_self, not_true_eq_false, not_false_eq_true, ↓reduceIte, leT, leF, ltT, ltF, eqT, eqF, decide_true, decide_false, true_and, and_true, Nat.reduceAdd, bI0_i, bI_i, bI_x, bV0_v, bV_v, bV_x, ↓bnd_e, gd_t, h, g]
      exact ih
    · rw [if_neg g] at ih
      rcases kicksV_cases (A := A) (c := (S 25)) (l := l) (wind := nI i) with g2 | ⟨j, hj, g2⟩
      · exact absurd g2 g
      rw [g2] at ih h
      cases g3 : calmO A (S 25) l i with
      | none =>
        rw [g3] at ih
        simp (disch := omega) only [fa_lit, nI_ad, nI_mul, nI_cl, inb_nI, nI_ltE, nI_leE, nI_eqE, nI_m1, nI_m1', m1_lt, lt_m1, m1_le, le_m1, eq_self, not_true_eq_false, not_false_eq_true, ↓reduceIte, leT, leF, ltT, ltF, eqT, eqF, decide_true, decide_false, true_and, and_true, Nat.reduceAdd, bI0_i, bI_i, bI_x, bV0_v, bV_v, bV_x, ↓bnd_e, gd_t, h, calm1]
        exact ih
      | some t =>
        obtain ⟨b0, f0⟩ := t
        rw [g3] at ih
        by_cases g4 : f0 ≤ nI j
        · simp only [g4, ↓reduceIte] at ih
          simp (disch := omega) only [fa_lit, nI_ad, nI_mul, nI_cl, inb_nI, nI_ltE, nI_leE, nI_eqE, nI_m1, nI_m1', m1_lt, lt_m1, m1_le, le_m1, eq_self, not_true_eq_false, not_false_eq_true, ↓reduceIte, leT, leF, ltT, ltF, eqT, eqF, decide_true, decide_false, true_and, and_true, Nat.reduceAdd, bI0_i, bI_i, bI_x, bV0_v, bV_v, bV_x, ↓bnd_e, gd_t, h, calm1, g4]
          exact ih
        · simp only [g4, ↓reduceIte] at ih
          simp (disch := omega) only [fa_lit, nI_ad, nI_mul, nI_cl, inb_nI, nI_ltE, nI_leE, nI_eqE, nI_m1, nI_m1', m1_lt, lt_m1, m1_le, le_m1, eq_self, not_true_eq_false, not_false_eq_true, ↓reduceIte, leT, leF, ltT, ltF, eqT, eqF, decide_true, decide_false, true_and, and_true, Nat.reduceAdd, bI0_i, bI_i, bI_x, bV0_v, bV_v, bV_x, ↓bnd_e, gd_t, h, calm1, g4]
          exact ih
theorem m_calm {A : aL} {l : Nat} (hF : 6000 ≤ F) (hl : l < 10) (hA : LM A (S 64)) (hW : LW A) : ∀ (m i k : Nat) (a b : Int32) (q : Nat → Int32), i + m = 10 → m < k →
    ∃ a' b' q', f_X10_calm_b29 F k (nI l) (calm1 (nI 1000000) (calmO A (cM (S 64)) l i)).1 (calm1 (nI 1000000) (calmO A (cM (S 64)) l i)).2 (nI i) (sM S a b q) = some (.inl (some (.int (calm1 (nI 1000000) (calmO A (cM (S 64)) l 10)).1)), sM S a' b' q')
  | 0, i, k + 1, a, b, q, hi, hk => by
    refine ⟨a, b, q, ?_⟩
    have hie : i = 10 := by omega
    rw [hie, f_X10_calm_b29]
    simp (disch := omega) only [fa_lit, nI_ad, nI_mul, nI_cl, inb_nI, nI_ltE, nI_leE, nI_eqE, nI_m1, nI_m1', m1_lt, lt_m1, m1_le, le_m1, eq_self, not_true_eq_false, not_false_eq_true, ↓reduceIte, leT, leF, ltT, ltF, eqT, eqF, decide_true, decide_false, true_and, and_true, Nat.reduceAdd, bI0_i, bI_i, bI_x, bV0_v, bV_v, bV_x, ↓bnd_e, gd_t]
  | m + 1, i, k + 1, a, b, q, hi, hk => by
    obtain ⟨a1, b1, q1, h⟩ := m_kicksTo (F := F) (wind := nI i) (S := sM S a b q) (by omega) hl (by rw [sM64]; exact hA) hW
    rw [sM_sM, sM64] at h
    obtain ⟨a2, b2, q2, ih⟩ := m_calm (A := A) (l := l) hF hl hA hW m (i + 1) k a1 b1 q1 (by omega) (by omega)
    refine ⟨a2, b2, q2, ?_⟩
    rw [calmO] at ih
    rw [f_X10_calm_b29]
    unfold f_X10_calm_b65
    by_cases g : kicksV A (cM (S 64)) l (nI i) = -nI 1
    · rw [if_pos g] at ih
      simp (disch := omega) only [fa_lit, nI_ad, nI_mul, nI_cl, inb_nI, nI_ltE, nI_leE, nI_eqE, nI_m1, nI_m1', m1_lt, lt_m1, m1_le, le_m1, eq_self, not_true_eq_false, not_false_eq_true, ↓reduceIte, leT, leF, ltT, ltF, eqT, eqF, decide_true, decide_false, true_and, and_true, Nat.reduceAdd, bI0_i, bI_i, bI_x, bV0_v, bV_v, bV_x, ↓bnd_e, gd_t, h, g, m1_lt0]
      exact ih
    · rw [if_neg g] at ih
      rcases kicksV_cases (A := A) (c := (cM (S 64))) (l := l) (wind := nI i) with g2 | ⟨j, hj, g2⟩
      · exact absurd g2 g
      rw [g2] at ih h
      cases g3 : calmO A (cM (S 64)) l i with
      | none =>
        rw [g3] at ih
        simp (disch := omega) only [fa_lit, nI_ad, nI_mul, nI_cl, inb_nI, nI_ltE, nI_leE, nI_eqE, nI_m1, nI_m1', m1_lt, lt_m1, m1_le, le_m1, eq_self, not_true_eq_false, not_false_eq_true, ↓reduceIte, leT, leF, ltT, ltF, eqT, eqF, decide_true, decide_false, true_and, and_true, Nat.reduceAdd, bI0_i, bI_i, bI_x, bV0_v, bV_v, bV_x, ↓bnd_e, gd_t, h, calm1]
        exact ih
      | some t =>
        obtain ⟨b0, f0⟩ := t
        rw [g3] at ih
        by_cases g4 : f0 ≤ nI j
        · simp only [g4, ↓reduceIte] at ih
          simp (disch := omega) only [fa_lit, nI_ad, nI_mul, nI_cl, inb_nI, nI_ltE, nI_leE, nI_eqE, nI_m1, nI_m1', m1_lt, lt_m1, m1_le, le_m1, eq_self, not_true_eq_false, not_false_eq_true, ↓reduceIte, leT, leF, ltT, ltF, eqT, eqF, decide_true, decide_false, true_and, and_true, Nat.reduceAdd, bI0_i, bI_i, bI_x, bV0_v, bV_v, bV_x, ↓bnd_e, gd_t, h, calm1, lt_nle, g4]
          exact ih
        · simp only [g4, ↓reduceIte] at ih
          simp (disch := omega) only [fa_lit, nI_ad, nI_mul, nI_cl, inb_nI, nI_ltE, nI_leE, nI_eqE, nI_m1, nI_m1', m1_lt, lt_m1, m1_le, le_m1, eq_self, not_true_eq_false, not_false_eq_true, ↓reduceIte, leT, leF, ltT, ltF, eqT, eqF, decide_true, decide_false, true_and, and_true, Nat.reduceAdd, bI0_i, bI_i, bI_x, bV0_v, bV_v, bV_x, ↓bnd_e, gd_t, h, calm1, lt_nle, g4]
          exact ih
theorem ag_calm {p1 : Int32} (hF : 6000 ≤ F) (hI : Inv S) : Ag (f_X9_calm F p1) (f_X10_calm F p1) [3] S := by
  refine ag_ro hI (fun n nh nk A hn en hnh enh hnk enk hX hW hR => ?_)
  by_cases g_p1 : ∃ z, z < n ∧ p1 = nI z
  · obtain ⟨l, h_p1, rfl⟩ := g_p1
    obtain ⟨p, q, h⟩ := x_calm (F := F) (S := S) hF (by omega : l < 10) hX hW 10 0 F (S 8) (S 9) (by omega) (by omega)
    rw [sX_id] at h
    have e0 : ∀ z y, (calm1 z (calmO A (S 25) l 10)).1 = (calm1 y (calmO A (S 25) l 10)).1 := by intro z y; cases calmO A (S 25) l 10 <;> rfl
    refine ⟨.inl (some (.int ((calm1 (nI 13) (calmO A (S 25) l 10)).1))), ⟨p, q, ?_⟩, fun U hC hM => ?_⟩
    · unfold f_X9_calm 
      simp (disch := omega) only [fa_lit, nI_ad, nI_mul, nI_cl, inb_nI, nI_ltE, nI_leE, nI_eqE, nI_m1, nI_m1', m1_lt, lt_m1, m1_le, le_m1, eq_self, not_true_eq_false, not_false_eq_true, ↓reduceIte, leT, leF, ltT, ltF, eqT, eqF, decide_true, decide_false, true_and, and_true, Nat.reduceAdd, bI0_i, bI_i, bI_x, bV0_v, bV_v, bV_x, ↓bnd_e, gd_t, x_needLedge hn en h_p1, show f_X9_calm_b13 F F (nI l) (-nI 1) (nI 13) (nI 0) S = _ from h]
    · skip
      have en' : cM (U 64) 12 = nI n := by rw [hC]; exact en
      have enh' : cM (U 64) 13 = nI nh := by rw [hC]; exact enh
      have enk' : cM (U 64) 14 = nI nk := by rw [hC]; exact enk
      obtain ⟨a, b, q, h⟩ := m_calm (F := F) (S := U) hF (by omega : l < 10) hM hW 10 0 F (U 63 18) (U 63 19) (U 71) (by omega) (by omega)
      rw [sM_id, hC, e0 (nI 1000000) (nI 13)] at h
      refine res_ok (a := a) (b' := b) (q := q) fun T hU => ?_
      unfold f_X10_calm ; rw [bnd_e, show upS T 63 0 (0 : Int32) = U from hU.symm]
      simp (disch := omega) only [fa_lit, nI_ad, nI_mul, nI_cl, inb_nI, nI_ltE, nI_leE, nI_eqE, nI_m1, nI_m1', m1_lt, lt_m1, m1_le, le_m1, eq_self, not_true_eq_false, not_false_eq_true, ↓reduceIte, leT, leF, ltT, ltF, eqT, eqF, decide_true, decide_false, true_and, and_true, Nat.reduceAdd, bI0_i, bI_i, bI_x, bV0_v, bV_v, bV_x, ↓bnd_e, gd_t, and10, and00, m_throw0, m_throw, Bool.not_true, Bool.not_false, bT, bF, m_noLedge hn en' h_p1, m_in, m_noWind, show f_X10_calm_b29 F F (nI l) (-nI 1) (nI 1000000) (nI 0) U = _ from h, hC]
  · refine ⟨.inr 3, idX ?_, fun U hC hM => res_ex (b := nI 0) 0 rfl (by omega) fun T hU => ?_⟩
    · unfold f_X9_calm 
      simp (disch := omega) only [fa_lit, nI_ad, nI_mul, nI_cl, inb_nI, nI_ltE, nI_leE, nI_eqE, nI_m1, nI_m1', m1_lt, lt_m1, m1_le, le_m1, eq_self, not_true_eq_false, not_false_eq_true, ↓reduceIte, leT, leF, ltT, ltF, eqT, eqF, decide_true, decide_false, true_and, and_true, Nat.reduceAdd, bI0_i, bI_i, bI_x, bV0_v, bV_v, bV_x, ↓bnd_e, gd_t, x_needLedge_x hn en g_p1]
    · unfold f_X10_calm ; rw [bnd_e, show upS T 63 0 (0 : Int32) = U from hU.symm]
      have en' : cM (U 64) 12 = nI n := by rw [hC]; exact en
      have enh' : cM (U 64) 13 = nI nh := by rw [hC]; exact enh
      have enk' : cM (U 64) 14 = nI nk := by rw [hC]; exact enk
      simp (disch := omega) only [fa_lit, nI_ad, nI_mul, nI_cl, inb_nI, nI_ltE, nI_leE, nI_eqE, nI_m1, nI_m1', m1_lt, lt_m1, m1_le, le_m1, eq_self, not_true_eq_false, not_false_eq_true, ↓reduceIte, leT, leF, ltT, ltF, eqT, eqF, decide_true, decide_false, true_and, and_true, Nat.reduceAdd, bI0_i, bI_i, bI_x, bV0_v, bV_v, bV_x, ↓bnd_e, gd_t, and10, and00, m_throw0, m_throw, Bool.not_true, Bool.not_false, bT, bF, m_noLedge_x hn en' g_p1, m_in, m_noWind]
def windV (A : aL) (c : Nat → Int32) (l : Nat) : Nat → Int32
  | 0 => nI 0
  | w + 1 => windV A c l w ||| (if kicksV A c l (nI w) = -nI 1 then nI 0 else nI 1 <<< (nI w &&& nI 31))
theorem x_winds {A : aL} {l : Nat} (hF : 6000 ≤ F) (hl : l < 10) (hA : LX A S 3) (hW : LW A) : ∀ (m i k : Nat) (p q : Nat → Int32), i + m = 10 → m < k →
    ∃ p' q', f_X9_windsTo_b4 F k (nI l) (windV A (S 25) l (i)) (nI (i)) (sX S p q) = some (.inl (some (.int (windV A (S 25) l 10))), sX S p' q')
  | 0, i, k + 1, p, q, hi, hk => by
    refine ⟨p, q, ?_⟩
    have hie : i = 10 := by omega
    rw [hie]
    rw [f_X9_windsTo_b4]
    unfold f_X9_windsTo_b33
    simp (disch := omega) only [fa_lit, nI_ad, nI_mul, nI_cl, inb_nI, nI_ltE, nI_leE, nI_eqE, nI_m1, nI_m1', m1_lt, lt_m1, m1_le, le_m1, eq_self, not_true_eq_false, not_false_eq_true, ↓reduceIte, leT, leF, ltT, ltF, eqT, eqF, decide_true, decide_false, true_and, and_true, Nat.reduceAdd, bI0_i, bI_i, bI_x, bV0_v, bV_v, bV_x, ↓bnd_e, gd_t, eq_self]
  | m + 1, i, k + 1, p, q, hi, hk => by
    obtain ⟨p1, q1, h⟩ := x_kicksTo (F := F) (u := 24) (wind := nI i) (S := sX S p q) (by omega) (by omega) hl (LX_sX hA) hW
    rw [sX_sX, sX_n (by omega) (by omega)] at h
    obtain ⟨p2, q2, ih⟩ := x_winds (A := A) (l := l) hF hl hA hW m (i + 1) k p1 q1 (by omega) (by omega)
    refine ⟨p2, q2, ?_⟩
    rw [windV] at ih
    rw [f_X9_windsTo_b4]
    unfold f_X9_windsTo_b33
    by_cases g0 : kicksV A (S 25) l (nI i) = -nI 1
    · skip
      try simp only [g0, ↓reduceIte, add_n0, or_n0, not_true_eq_false, not_false_eq_true, reduceCtorEq] at ih
      simp (disch := omega) only [fa_lit, nI_ad, nI_mul, nI_cl, inb_nI, nI_ltE, nI_leE, nI_eqE, nI_m1, nI_m1', m1_lt, lt_m1, m1_le, le_m1, eq_self, not_true_eq_false, not_false_eq_true, ↓reduceIte, leT, leF, ltT, ltF, eqT, eqF, decide_true, decide_false, true_and, and_true, Nat.reduceAdd, bI0_i, bI_i, bI_x, bV0_v, bV_v, bV_x, ↓bnd_e, gd_t, h, g0, bT, bF]
      exact ih
    · skip
      try simp only [g0, ↓reduceIte, add_n0, or_n0, not_true_eq_false, not_false_eq_true, reduceCtorEq] at ih
      simp (disch := omega) only [fa_lit, nI_ad, nI_mul, nI_cl, inb_nI, nI_ltE, nI_leE, nI_eqE, nI_m1, nI_m1', m1_lt, lt_m1, m1_le, le_m1, eq_self, not_true_eq_false, not_false_eq_true, ↓reduceIte, leT, leF, ltT, ltF, eqT, eqF, decide_true, decide_false, true_and, and_true, Nat.reduceAdd, bI0_i, bI_i, bI_x, bV0_v, bV_v, bV_x, ↓bnd_e, gd_t, h, g0, bT, bF]
      exact ih
theorem m_winds {A : aL} {l : Nat} (hF : 6000 ≤ F) (hl : l < 10) (hA : LM A (S 64)) (hW : LW A) : ∀ (m i k : Nat) (a b : Int32) (q : Nat → Int32), i + m = 10 → m < k →
    ∃ a' b' q', f_X10_windsTo_b4 F k (nI l) (windV A (cM (S 64)) l (i)) (nI (i)) (sM S a b q) = some (.inl (some (.int (windV A (cM (S 64)) l 10))), sM S a' b' q')
  | 0, i, k + 1, a, b, q, hi, hk => by
    refine ⟨a, b, q, ?_⟩
    have hie : i = 10 := by omega
    rw [hie]
    rw [f_X10_windsTo_b4]
    unfold f_X10_windsTo_b27
    simp (disch := omega) only [fa_lit, nI_ad, nI_mul, nI_cl, inb_nI, nI_ltE, nI_leE, nI_eqE, nI_m1, nI_m1', m1_lt, lt_m1, m1_le, le_m1, eq_self, not_true_eq_false, not_false_eq_true, ↓reduceIte, leT, leF, ltT, ltF, eqT, eqF, decide_true, decide_false, true_and, and_true, Nat.reduceAdd, bI0_i, bI_i, bI_x, bV0_v, bV_v, bV_x, ↓bnd_e, gd_t, eq_self]
  | m + 1, i, k + 1, a, b, q, hi, hk => by
    obtain ⟨a1, b1, q1, h⟩ := m_kicksTo (F := F) (wind := nI i) (S := sM S a b q) (by omega) hl (by rw [sM64]; exact hA) hW
    rw [sM_sM, sM64] at h
    obtain ⟨a2, b2, q2, ih⟩ := m_winds (A := A) (l := l) hF hl hA hW m (i + 1) k a1 b1 q1 (by omega) (by omega)
    refine ⟨a2, b2, q2, ?_⟩
    rw [windV] at ih
    rw [f_X10_windsTo_b4]
    unfold f_X10_windsTo_b27
    by_cases g0 : kicksV A (cM (S 64)) l (nI i) = -nI 1
    · skip
      try simp only [g0, ↓reduceIte, add_n0, or_n0, not_true_eq_false, not_false_eq_true, reduceCtorEq] at ih
      simp (disch := omega) only [fa_lit, nI_ad, nI_mul, nI_cl, inb_nI, nI_ltE, nI_leE, nI_eqE, nI_m1, nI_m1', m1_lt, lt_m1, m1_le, le_m1, eq_self, not_true_eq_false, not_false_eq_true, ↓reduceIte, leT, leF, ltT, ltF, eqT, eqF, decide_true, decide_false, true_and, and_true, Nat.reduceAdd, bI0_i, bI_i, bI_x, bV0_v, bV_v, bV_x, ↓bnd_e, gd_t, h, kick_neg, or_n0, g0, bT, bF]
      exact ih
    · skip
      try simp only [g0, ↓reduceIte, add_n0, or_n0, not_true_eq_false, not_false_eq_true, reduceCtorEq] at ih
      simp (disch := omega) only [fa_lit, nI_ad, nI_mul, nI_cl, inb_nI, nI_ltE, nI_leE, nI_eqE, nI_m1, nI_m1', m1_lt, lt_m1, m1_le, le_m1, eq_self, not_true_eq_false, not_false_eq_true, ↓reduceIte, leT, leF, ltT, ltF, eqT, eqF, decide_true, decide_false, true_and, and_true, Nat.reduceAdd, bI0_i, bI_i, bI_x, bV0_v, bV_v, bV_x, ↓bnd_e, gd_t, h, kick_neg, or_n0, g0, bT, bF]
      exact ih
theorem abs_nI {a b : Nat} (ha : a ≤ 40) (hb : b ≤ 40) : absV (nI a - nI b) = nI (if a ≤ b then b - a else a - b) := by
  unfold absV
  by_cases h : a ≤ b
  · rw [if_pos h]
    by_cases h2 : a = b
    · subst h2
      rw [nI_sub (Nat.le_refl a), Nat.sub_self, if_pos (by decide)]
    · have e : nI 0 - (nI a - nI b) = nI b - nI a := by
        show (0 : Int32) - _ = _
        rw [Int32.zero_sub, Int32.neg_sub]
      have g : ¬ nI 0 ≤ nI a - nI b := by
        intro q
        have e2 : nI a - nI b = -nI (b - a) := by rw [← nI_sub h, Int32.neg_sub]
        rw [e2, Int32.le_iff_toInt_le, Int32.toInt_neg, nI_toInt (by omega), nI_toInt (by omega), Int.bmod_eq_of_le (by omega) (by omega)] at q
        omega
      rw [if_neg g, e, nI_sub h]
  · rw [if_neg h, nI_sub (by omega), if_pos]
    rw [nI_leE (by omega) (by omega)]; omega
theorem abs_sym {x y : Int32} (hx : ∃ n, n ≤ 40 ∧ x = nI n) (hy : ∃ n, n ≤ 40 ∧ y = nI n) : absV (x - y) = absV (y - x) := by
  obtain ⟨a, ha, rfl⟩ := hx
  obtain ⟨b, hb, rfl⟩ := hy
  rw [abs_nI ha hb, abs_nI hb ha]
  congr 1
  split <;> split <;> omega
theorem abs_lt {x y : Int32} (hx : ∃ n, n ≤ 40 ∧ x = nI n) (hy : ∃ n, n ≤ 40 ∧ y = nI n) : (absV (x - y) < nI 1000000) = True := by
  obtain ⟨a, ha, rfl⟩ := hx
  obtain ⟨b, hb, rfl⟩ := hy
  rw [abs_nI ha hb, nI_ltE (by split <;> omega) (by omega)]
  apply eq_true; split <;> omega
def fthV (c : Nat → Int32) (l : Nat) : Int32 := c (16 + l * 5 + 0)
def nextO (c : Nat → Int32) (l : Nat) : Nat → Option Nat
  | 0 => none
  | o + 1 => if o = l then nextO c l o else match nextO c l o with
    | none => some o
    | some b => if absV (c (16 + l * 5 + 0) - c (16 + b * 5 + 0)) ≤ absV (c (16 + l * 5 + 0) - c (16 + o * 5 + 0)) then some b else some o
theorem next_lt {c : Nat → Int32} {l : Nat} : ∀ {i b : Nat}, nextO c l i = some b → b < i
  | 0, b, h => by cases h
  | i + 1, b, h => by
    rw [nextO] at h
    split at h
    · have := next_lt h; omega
    · split at h
      · cases h; omega
      · rename_i b' hb
        have := next_lt hb
        split at h <;> cases h <;> omega
theorem x_next {l n : Nat} (hl : l < 10) (hn : S 25 12 = nI n) (hn10 : n ≤ 10) : ∀ (m i k : Nat), i + m = n → m < k →
    f_X9_nextTo_b4 F k (nI l) (encO (nextO (S 25) l i)) (nI i) S = some (.inl (some (.int (encO (nextO (S 25) l n)))), S)
  | 0, i, k + 1, hi, hk => by
    have hie : i = n := by omega
    subst hie
    rw [f_X9_nextTo_b4]
    simp (disch := omega) only [fa_lit, nI_ad, nI_mul, nI_cl, inb_nI, nI_ltE, nI_leE, nI_eqE, nI_m1, nI_m1', m1_lt, lt_m1, m1_le, le_m1, eq_self, not_true_eq_false, not_false_eq_true, ↓reduceIte, leT, leF, ltT, ltF, eqT, eqF, decide_true, decide_false, true_and, and_true, Nat.reduceAdd, bI0_i, bI_i, bI_x, bV0_v, bV_v, bV_x, ↓bnd_e, gd_t, x_at, hn]
  | m + 1, i, k + 1, hi, hk => by
    have ih := x_next (l := l) hl hn hn10 m (i + 1) k (by omega) (by omega)
    rw [nextO] at ih
    rw [f_X9_nextTo_b4]
    unfold f_X9_nextTo_b42 f_X9_nextTo_b44
    by_cases g : i = l
    · rw [if_pos g] at ih
      simp (disch := omega) only [fa_lit, nI_ad, nI_mul, nI_cl, inb_nI, nI_ltE, nI_leE, nI_eqE, nI_m1, nI_m1', m1_lt, lt_m1, m1_le, le_m1, eq_self, not_true_eq_false, not_false_eq_true, ↓reduceIte, leT, leF, ltT, ltF, eqT, eqF, decide_true, decide_false, true_and, and_true, Nat.reduceAdd, bI0_i, bI_i, bI_x, bV0_v, bV_v, bV_x, ↓bnd_e, gd_t, x_at, hn, g]
      rw [g] at ih
      exact ih
    · rw [if_neg g] at ih
      cases g2 : nextO (S 25) l i with
      | none =>
        rw [g2] at ih
        simp (disch := omega) only [fa_lit, nI_ad, nI_mul, nI_cl, inb_nI, nI_ltE, nI_leE, nI_eqE, nI_m1, nI_m1', m1_lt, lt_m1, m1_le, le_m1, eq_self, not_true_eq_false, not_false_eq_true, ↓reduceIte, leT, leF, ltT, ltF, eqT, eqF, decide_true, decide_false, true_and, and_true, Nat.reduceAdd, bI0_i, bI_i, bI_x, bV0_v, bV_v, bV_x, ↓bnd_e, gd_t, x_at, hn, enc_none, m1_m1]
        exact ih
      | some b =>
        have hb := next_lt g2
        rw [g2] at ih
        by_cases g3 : absV (S 25 (16 + l * 5 + 0) - S 25 (16 + b * 5 + 0)) ≤ absV (S 25 (16 + l * 5 + 0) - S 25 (16 + i * 5 + 0))
        · simp only [g3, ↓reduceIte] at ih
          simp (disch := omega) only [fa_lit, nI_ad, nI_mul, nI_cl, inb_nI, nI_ltE, nI_leE, nI_eqE, nI_m1, nI_m1', m1_lt, lt_m1, m1_le, le_m1, eq_self, not_true_eq_false, not_false_eq_true, ↓reduceIte, leT, leF, ltT, ltF, eqT, eqF, decide_true, decide_false, true_and, and_true, Nat.reduceAdd, bI0_i, bI_i, bI_x, bV0_v, bV_v, bV_x, ↓bnd_e, gd_t, x_at, hn, enc_some, x_apart, g3]
          exact ih
        · simp only [g3, ↓reduceIte] at ih
          simp (disch := omega) only [fa_lit, nI_ad, nI_mul, nI_cl, inb_nI, nI_ltE, nI_leE, nI_eqE, nI_m1, nI_m1', m1_lt, lt_m1, m1_le, le_m1, eq_self, not_true_eq_false, not_false_eq_true, ↓reduceIte, leT, leF, ltT, ltF, eqT, eqF, decide_true, decide_false, true_and, and_true, Nat.reduceAdd, bI0_i, bI_i, bI_x, bV0_v, bV_v, bV_x, ↓bnd_e, gd_t, x_at, hn, enc_some, x_apart, g3]
          exact ih
def nextL (c : Nat → Int32) (l : Nat) (b : Option Nat) : Int32 := match b with
  | none => nI 1000000
  | some b => absV (c (16 + l * 5 + 0) - c (16 + b * 5 + 0))
theorem m_next {l n : Nat} (hR : Rg (cM (S 64))) (hl : l < 10) (hn : cM (S 64) 12 = nI n) (hn10 : n ≤ 10) : ∀ (m i k : Nat), i + m = n → m < k →
    f_X10_nextTo_b9 F k (nI l) (encO (nextO (cM (S 64)) l i)) (nextL (cM (S 64)) l (nextO (cM (S 64)) l i)) (nI i) S = some (.inl (some (.int (encO (nextO (cM (S 64)) l n)))), S)
  | 0, i, k + 1, hi, hk => by
    have hie : i = n := by omega
    subst hie
    rw [f_X10_nextTo_b9]
    simp (disch := omega) only [fa_lit, nI_ad, nI_mul, nI_cl, inb_nI, nI_ltE, nI_leE, nI_eqE, nI_m1, nI_m1', m1_lt, lt_m1, m1_le, le_m1, eq_self, not_true_eq_false, not_false_eq_true, ↓reduceIte, leT, leF, ltT, ltF, eqT, eqF, decide_true, decide_false, true_and, and_true, Nat.reduceAdd, bI0_i, bI_i, bI_x, bV0_v, bV_v, bV_x, ↓bnd_e, gd_t, m_ledges, hn]
  | m + 1, i, k + 1, hi, hk => by
    have ih := m_next (l := l) hR hl hn hn10 m (i + 1) k (by omega) (by omega)
    have hs : (if nI 0 ≤ cM (S 64) (16 + i * 5 + 0) - cM (S 64) (16 + l * 5 + 0) then cM (S 64) (16 + i * 5 + 0) - cM (S 64) (16 + l * 5 + 0) else nI 0 - (cM (S 64) (16 + i * 5 + 0) - cM (S 64) (16 + l * 5 + 0))) = absV (cM (S 64) (16 + l * 5 + 0) - cM (S 64) (16 + i * 5 + 0)) := abs_sym (hR.fathom (by omega)) (hR.fathom hl)
    rw [nextO] at ih
    rw [f_X10_nextTo_b9]
    unfold f_X10_nextTo_b58
    by_cases g : i = l
    · rw [if_pos g] at ih
      simp (disch := omega) only [fa_lit, nI_ad, nI_mul, nI_cl, inb_nI, nI_ltE, nI_leE, nI_eqE, nI_m1, nI_m1', m1_lt, lt_m1, m1_le, le_m1, eq_self, not_true_eq_false, not_false_eq_true, ↓reduceIte, leT, leF, ltT, ltF, eqT, eqF, decide_true, decide_false, true_and, and_true, Nat.reduceAdd, bI0_i, bI_i, bI_x, bV0_v, bV_v, bV_x, ↓bnd_e, gd_t, m_ledges, m_of, hn, g]
      rw [g] at ih
      exact ih
    · rw [if_neg g] at ih
      cases g2 : nextO (cM (S 64)) l i with
      | none =>
        rw [g2] at ih
        have hlt := abs_lt (hR.fathom hl) (hR.fathom (by omega : i < 10))
        simp (disch := omega) only [fa_lit, nI_ad, nI_mul, nI_cl, inb_nI, nI_ltE, nI_leE, nI_eqE, nI_m1, nI_m1', m1_lt, lt_m1, m1_le, le_m1, eq_self, not_true_eq_false, not_false_eq_true, ↓reduceIte, leT, leF, ltT, ltF, eqT, eqF, decide_true, decide_false, true_and, and_true, Nat.reduceAdd, bI0_i, bI_i, bI_x, bV0_v, bV_v, bV_x, ↓bnd_e, gd_t, m_ledges, m_of, hn, hs, nextL, hlt]
        exact ih
      | some b =>
        rw [g2] at ih
        by_cases g3 : absV (cM (S 64) (16 + l * 5 + 0) - cM (S 64) (16 + b * 5 + 0)) ≤ absV (cM (S 64) (16 + l * 5 + 0) - cM (S 64) (16 + i * 5 + 0))
        · simp only [g3, ↓reduceIte] at ih
          simp (disch := omega) only [fa_lit, nI_ad, nI_mul, nI_cl, inb_nI, nI_ltE, nI_leE, nI_eqE, nI_m1, nI_m1', m1_lt, lt_m1, m1_le, le_m1, eq_self, not_true_eq_false, not_false_eq_true, ↓reduceIte, leT, leF, ltT, ltF, eqT, eqF, decide_true, decide_false, true_and, and_true, Nat.reduceAdd, bI0_i, bI_i, bI_x, bV0_v, bV_v, bV_x, ↓bnd_e, gd_t, m_ledges, m_of, hn, hs, nextL, lt_nle, g3]
          exact ih
        · simp only [g3, ↓reduceIte] at ih
          simp (disch := omega) only [fa_lit, nI_ad, nI_mul, nI_cl, inb_nI, nI_ltE, nI_leE, nI_eqE, nI_m1, nI_m1', m1_lt, lt_m1, m1_le, le_m1, eq_self, not_true_eq_false, not_false_eq_true, ↓reduceIte, leT, leF, ltT, ltF, eqT, eqF, decide_true, decide_false, true_and, and_true, Nat.reduceAdd, bI0_i, bI_i, bI_x, bV0_v, bV_v, bV_x, ↓bnd_e, gd_t, m_ledges, m_of, hn, hs, nextL, lt_nle, g3]
          exact ih
end O
