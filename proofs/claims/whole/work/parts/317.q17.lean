/-! ledge, climber, lightest, lucky, who, leave -/
section O
variable {F : Nat} {S : mS}
theorem ag_ledge {p1 p2 : Int32} (hF : 6000 ≤ F) (hI : Inv S) : Ag (f_X9_ledge F p1 p2) (f_X10_ledge F p1 p2) [3, 4] S := by
  refine ag_ro hI (fun n nh nk A hn en hnh enh hnk enk hX hW hR => ?_)
  by_cases g1 : ∃ z, z < n ∧ p1 = nI z
  · obtain ⟨l, hl, rfl⟩ := g1
    by_cases g : nI 0 ≤ p2 ∧ p2 ≤ nI 7
    · obtain ⟨w, -, hw, rfl⟩ := withinN (by omega) g (by omega)
      by_cases w5 : w = 5
      · obtain ⟨p, q, h⟩ := x_laysAt (F := F) (S := S) (u := 24) (by omega) (by omega) (by omega : l < 10) hX hW
        refine ⟨.inl (some (.int (laysV A (S 25) l))), ⟨p, q, ?_⟩, fun U hC hM => ?_⟩
        · unfold f_X9_ledge
          simp (disch := omega) only [fa_lit, nI_ad, nI_mul, nI_cl, inb_nI, nI_ltE, nI_leE, nI_eqE, nI_m1, nI_m1', m1_lt, lt_m1, m1_le, le_m1, eq_self, not_true_eq_false, not_false_eq_true, ↓reduceIte, leT, leF, ltT, ltF, eqT, eqF, decide_true, decide_false, true_and, and_true, Nat.reduceAdd, bI0_i, bI_i, bI_x, bV0_v, bV_v, bV_x, ↓bnd_e, gd_t, x_needLedge hn en hl, w5, h]
        · have en' : cM (U 64) 12 = nI n := by rw [hC]; exact en
          obtain ⟨a, b, q, h⟩ := m_laysOf (F := F) (S := U) (by omega) (by omega : l < 10) hM hW
          refine res_ok (a := a) (b' := b) (q := q) fun T hU => ?_
          have e6 := w6 (U 64)
          rw [hC] at h e6
          unfold f_X10_ledge f_X10_ledge_b34; rw [bnd_e, show upS T 63 0 (0 : Int32) = U from hU.symm]
          simp (disch := omega) only [fa_lit, nI_ad, nI_mul, nI_cl, inb_nI, nI_ltE, nI_leE, nI_eqE, nI_m1, nI_m1', m1_lt, lt_m1, m1_le, le_m1, eq_self, not_true_eq_false, not_false_eq_true, ↓reduceIte, leT, leF, ltT, ltF, eqT, eqF, decide_true, decide_false, true_and, and_true, Nat.reduceAdd, bI0_i, bI_i, bI_x, bV0_v, bV_v, bV_x, ↓bnd_e, gd_t, m_noLedge hn en' hl, m_throw0, m_in, bT, w5, e6, h, hC]
      · by_cases w6' : w = 6
        · obtain ⟨p, q, h⟩ := x_winds (F := F) (S := S) hF (by omega : l < 10) hX hW 10 0 F (S 8) (S 9) (by omega) (by omega)
          rw [sX_id] at h
          refine ⟨.inl (some (.int (windV A (S 25) l 10))), ⟨p, q, ?_⟩, fun U hC hM => ?_⟩
          · unfold f_X9_ledge f_X9_windsTo
            simp (disch := omega) only [fa_lit, nI_ad, nI_mul, nI_cl, inb_nI, nI_ltE, nI_leE, nI_eqE, nI_m1, nI_m1', m1_lt, lt_m1, m1_le, le_m1, eq_self, not_true_eq_false, not_false_eq_true, ↓reduceIte, leT, leF, ltT, ltF, eqT, eqF, decide_true, decide_false, true_and, and_true, Nat.reduceAdd, bI0_i, bI_i, bI_x, bV0_v, bV_v, bV_x, ↓bnd_e, gd_t, x_needLedge hn en hl, w6', show f_X9_windsTo_b4 F F (nI l) (nI 0) (nI 0) S = _ from h]
          · have en' : cM (U 64) 12 = nI n := by rw [hC]; exact en
            obtain ⟨a, b, q, h⟩ := m_winds (F := F) (S := U) hF (by omega : l < 10) hM hW 10 0 F (U 63 18) (U 63 19) (U 71) (by omega) (by omega)
            rw [sM_id, hC] at h
            refine res_ok (a := a) (b' := b) (q := q) fun T hU => ?_
            unfold f_X10_ledge f_X10_ledge_b34 f_X10_windsTo; rw [bnd_e, show upS T 63 0 (0 : Int32) = U from hU.symm]
            simp (disch := omega) only [fa_lit, nI_ad, nI_mul, nI_cl, inb_nI, nI_ltE, nI_leE, nI_eqE, nI_m1, nI_m1', m1_lt, lt_m1, m1_le, le_m1, eq_self, not_true_eq_false, not_false_eq_true, ↓reduceIte, leT, leF, ltT, ltF, eqT, eqF, decide_true, decide_false, true_and, and_true, Nat.reduceAdd, bI0_i, bI_i, bI_x, bV0_v, bV_v, bV_x, ↓bnd_e, gd_t, m_noLedge hn en' hl, m_throw0, m_in, bT, w6', show f_X10_windsTo_b4 F F (nI l) (nI 0) (nI 0) U = _ from h]
        · by_cases w7' : w = 7
          · have h := x_next (F := F) (S := S) (by omega : l < 10) en hn n 0 F (by omega) (by omega)
            refine ⟨.inl (some (.int (encO (nextO (S 25) l n)))), idX ?_, fun U hC hM => res_ok' fun T hU => ?_⟩
            · unfold f_X9_ledge f_X9_ledge_b78 f_X9_nextTo
              simp (disch := omega) only [fa_lit, nI_ad, nI_mul, nI_cl, inb_nI, nI_ltE, nI_leE, nI_eqE, nI_m1, nI_m1', m1_lt, lt_m1, m1_le, le_m1, eq_self, not_true_eq_false, not_false_eq_true, ↓reduceIte, leT, leF, ltT, ltF, eqT, eqF, decide_true, decide_false, true_and, and_true, Nat.reduceAdd, bI0_i, bI_i, bI_x, bV0_v, bV_v, bV_x, ↓bnd_e, gd_t, x_needLedge hn en hl, w7', show f_X9_nextTo_b4 F F (nI l) (-nI 1) (nI 0) S = _ from h]
            · have en' : cM (U 64) 12 = nI n := by rw [hC]; exact en
              have h := m_next (F := F) (S := U) (by rw [hC]; exact hR) (by omega : l < 10) en' hn n 0 F (by omega) (by omega)
              rw [hC] at h
              unfold f_X10_ledge f_X10_ledge_b34 f_X10_nextTo; rw [bnd_e, show upS T 63 0 (0 : Int32) = U from hU.symm]
              simp (disch := omega) only [fa_lit, nI_ad, nI_mul, nI_cl, inb_nI, nI_ltE, nI_leE, nI_eqE, nI_m1, nI_m1', m1_lt, lt_m1, m1_le, le_m1, eq_self, not_true_eq_false, not_false_eq_true, ↓reduceIte, leT, leF, ltT, ltF, eqT, eqF, decide_true, decide_false, true_and, and_true, Nat.reduceAdd, bI0_i, bI_i, bI_x, bV0_v, bV_v, bV_x, ↓bnd_e, gd_t, m_noLedge hn en' hl, m_throw0, m_in, bT, w7', show f_X10_nextTo_b9 F F (nI l) (-nI 1) (nI 1000000) (nI 0) U = _ from h]
          · refine ⟨.inl (some (.int (S 25 (16 + l * 5 + w)))), idX ?_, fun U hC hM => res_ok' fun T hU => ?_⟩
            · unfold f_X9_ledge f_X9_ledge_b78
              simp (disch := omega) only [fa_lit, nI_ad, nI_mul, nI_cl, inb_nI, nI_ltE, nI_leE, nI_eqE, nI_m1, nI_m1', m1_lt, lt_m1, m1_le, le_m1, eq_self, not_true_eq_false, not_false_eq_true, ↓reduceIte, leT, leF, ltT, ltF, eqT, eqF, decide_true, decide_false, true_and, and_true, Nat.reduceAdd, bI0_i, bI_i, bI_x, bV0_v, bV_v, bV_x, ↓bnd_e, gd_t, x_needLedge hn en hl, x_ofLedge]
            · have en' : cM (U 64) 12 = nI n := by rw [hC]; exact en
              unfold f_X10_ledge f_X10_ledge_b34; rw [bnd_e, show upS T 63 0 (0 : Int32) = U from hU.symm]
              simp (disch := omega) only [fa_lit, nI_ad, nI_mul, nI_cl, inb_nI, nI_ltE, nI_leE, nI_eqE, nI_m1, nI_m1', m1_lt, lt_m1, m1_le, le_m1, eq_self, not_true_eq_false, not_false_eq_true, ↓reduceIte, leT, leF, ltT, ltF, eqT, eqF, decide_true, decide_false, true_and, and_true, Nat.reduceAdd, bI0_i, bI_i, bI_x, bV0_v, bV_v, bV_x, ↓bnd_e, gd_t, m_noLedge hn en' hl, m_throw0, m_in, bT, m_of, hC]
    · refine ⟨.inr 4, idX ?_, fun U hC hM => res_ex (b := nI 0) 1 rfl (by omega) fun T hU => ?_⟩
      · unfold f_X9_ledge f_X9_ledge_b15
        by_cases g1 : p2 < nI 0
        · simp (disch := omega) only [fa_lit, nI_ad, nI_mul, nI_cl, inb_nI, nI_ltE, nI_leE, nI_eqE, nI_m1, nI_m1', m1_lt, lt_m1, m1_le, le_m1, eq_self, not_true_eq_false, not_false_eq_true, ↓reduceIte, leT, leF, ltT, ltF, eqT, eqF, decide_true, decide_false, true_and, and_true, Nat.reduceAdd, bI0_i, bI_i, bI_x, bV0_v, bV_v, bV_x, ↓bnd_e, gd_t, x_needLedge hn en hl, g1]
        · have g2 : ¬ p2 ≤ nI 7 := fun q => g ⟨by rw [nle_lt]; exact g1, q⟩
          simp (disch := omega) only [fa_lit, nI_ad, nI_mul, nI_cl, inb_nI, nI_ltE, nI_leE, nI_eqE, nI_m1, nI_m1', m1_lt, lt_m1, m1_le, le_m1, eq_self, not_true_eq_false, not_false_eq_true, ↓reduceIte, leT, leF, ltT, ltF, eqT, eqF, decide_true, decide_false, true_and, and_true, Nat.reduceAdd, bI0_i, bI_i, bI_x, bV0_v, bV_v, bV_x, ↓bnd_e, gd_t, x_needLedge hn en hl, g1, g2]
      · have en' : cM (U 64) 12 = nI n := by rw [hC]; exact en
        have d : decide (nI 0 ≤ p2 ∧ p2 ≤ nI 7) = false := decide_eq_false g
        unfold f_X10_ledge f_X10_ledge_b34 f_X10_ledge_b41; rw [bnd_e, show upS T 63 0 (0 : Int32) = U from hU.symm]
        simp (disch := omega) only [fa_lit, nI_ad, nI_mul, nI_cl, inb_nI, nI_ltE, nI_leE, nI_eqE, nI_m1, nI_m1', m1_lt, lt_m1, m1_le, le_m1, eq_self, not_true_eq_false, not_false_eq_true, ↓reduceIte, leT, leF, ltT, ltF, eqT, eqF, decide_true, decide_false, true_and, and_true, Nat.reduceAdd, bI0_i, bI_i, bI_x, bV0_v, bV_v, bV_x, ↓bnd_e, gd_t, m_noLedge hn en' hl, m_throw0, m_throw, m_in, bF, d]
  · refine ⟨.inr 3, idX ?_, fun U hC hM => res_ex (b := nI 0) 0 rfl (by omega) fun T hU => ?_⟩
    · unfold f_X9_ledge
      simp (disch := omega) only [fa_lit, nI_ad, nI_mul, nI_cl, inb_nI, nI_ltE, nI_leE, nI_eqE, nI_m1, nI_m1', m1_lt, lt_m1, m1_le, le_m1, eq_self, not_true_eq_false, not_false_eq_true, ↓reduceIte, leT, leF, ltT, ltF, eqT, eqF, decide_true, decide_false, true_and, and_true, Nat.reduceAdd, bI0_i, bI_i, bI_x, bV0_v, bV_v, bV_x, ↓bnd_e, gd_t, x_needLedge_x hn en g1]
    · have en' : cM (U 64) 12 = nI n := by rw [hC]; exact en
      unfold f_X10_ledge f_X10_ledge_b41; rw [bnd_e, show upS T 63 0 (0 : Int32) = U from hU.symm]
      simp (disch := omega) only [fa_lit, nI_ad, nI_mul, nI_cl, inb_nI, nI_ltE, nI_leE, nI_eqE, nI_m1, nI_m1', m1_lt, lt_m1, m1_le, le_m1, eq_self, not_true_eq_false, not_false_eq_true, ↓reduceIte, leT, leF, ltT, ltF, eqT, eqF, decide_true, decide_false, true_and, and_true, Nat.reduceAdd, bI0_i, bI_i, bI_x, bV0_v, bV_v, bV_x, ↓bnd_e, gd_t, m_noLedge_x hn en' g1, m_throw]
def reachV (A : aL) (c : Nat → Int32) (k nh : Nat) : Nat → Int32
  | 0 => nI 0
  | l + 1 => reachV A c k nh l ||| (if canV A c k l nh = true then nI 1 <<< (nI l &&& nI 31) else nI 0)
theorem x_reach {A : aL} {j n nh : Nat} (hF : 6000 ≤ F) (hj : j < 4) (hn : S 25 12 = nI n) (hn10 : n ≤ 10) (hh : S 25 13 = nI nh) (hh6 : nh ≤ 6) (hA : LX A S 3) (hW : LW A) : ∀ (m i k : Nat) (p q : Nat → Int32), i + m = n → m < k →
    ∃ p' q', f_X9_reachOf_b4 F k (nI j) (reachV A (S 25) j nh (i)) (nI (i)) (sX S p q) = some (.inl (some (.int (reachV A (S 25) j nh n))), sX S p' q')
  | 0, i, k + 1, p, q, hi, hk => by
    refine ⟨p, q, ?_⟩
    have hie : i = n := by omega
    subst hie
    rw [f_X9_reachOf_b4]
    unfold f_X9_reachOf_b39
    simp (disch := omega) only [fa_lit, nI_ad, nI_mul, nI_cl, inb_nI, nI_ltE, nI_leE, nI_eqE, nI_m1, nI_m1', m1_lt, lt_m1, m1_le, le_m1, eq_self, not_true_eq_false, not_false_eq_true, ↓reduceIte, leT, leF, ltT, ltF, eqT, eqF, decide_true, decide_false, true_and, and_true, Nat.reduceAdd, bI0_i, bI_i, bI_x, bV0_v, bV_v, bV_x, ↓bnd_e, gd_t, x_at, sX_n, hn]
  | m + 1, i, k + 1, p, q, hi, hk => by
    obtain ⟨p1, q1, h⟩ := x_canLet (F := F) (u := 24) (S := sX S p q) (n := nh) (k := j) (l := i) (by omega) (by omega) hj (by omega) (by rw [sX_n (by omega) (by omega)]; exact hh) hh6 (LX_sX hA) hW
    rw [sX_sX, sX_n (by omega) (by omega)] at h
    obtain ⟨p2, q2, ih⟩ := x_reach (A := A) (j := j) (n := n) (nh := nh) hF hj hn hn10 hh hh6 hA hW m (i + 1) k p1 q1 (by omega) (by omega)
    refine ⟨p2, q2, ?_⟩
    rw [reachV] at ih
    rw [f_X9_reachOf_b4]
    unfold f_X9_reachOf_b39
    cases g0 : canV A (S 25) j i nh with
    | false =>
      try simp only [g0, ↓reduceIte, add_n0, or_n0, not_true_eq_false, not_false_eq_true, reduceCtorEq] at ih
      simp (disch := omega) only [fa_lit, nI_ad, nI_mul, nI_cl, inb_nI, nI_ltE, nI_leE, nI_eqE, nI_m1, nI_m1', m1_lt, lt_m1, m1_le, le_m1, eq_self, not_true_eq_false, not_false_eq_true, ↓reduceIte, leT, leF, ltT, ltF, eqT, eqF, decide_true, decide_false, true_and, and_true, Nat.reduceAdd, bI0_i, bI_i, bI_x, bV0_v, bV_v, bV_x, ↓bnd_e, gd_t, x_at, sX_n, hn, h, g0, bT, bF]
      exact ih
    | true =>
      try simp only [g0, ↓reduceIte, add_n0, or_n0, not_true_eq_false, not_false_eq_true, reduceCtorEq] at ih
      simp (disch := omega) only [fa_lit, nI_ad, nI_mul, nI_cl, inb_nI, nI_ltE, nI_leE, nI_eqE, nI_m1, nI_m1', m1_lt, lt_m1, m1_le, le_m1, eq_self, not_true_eq_false, not_false_eq_true, ↓reduceIte, leT, leF, ltT, ltF, eqT, eqF, decide_true, decide_false, true_and, and_true, Nat.reduceAdd, bI0_i, bI_i, bI_x, bV0_v, bV_v, bV_x, ↓bnd_e, gd_t, x_at, sX_n, hn, h, g0, bT, bF]
      exact ih
theorem m_reach {A : aL} {j n nh : Nat} (hF : 6000 ≤ F) (hj : j < 4) (hn : cM (S 64) 12 = nI n) (hn10 : n ≤ 10) (hh : cM (S 64) 13 = nI nh) (hh6 : nh ≤ 6) (hA : LM A (S 64)) (hW : LW A) : ∀ (m i k : Nat) (a b : Int32) (q : Nat → Int32), i + m = n → m < k →
    ∃ a' b' q', f_X10_canOf_b4 F k (nI j) (reachV A (cM (S 64)) j nh (i)) (nI (i)) (sM S a b q) = some (.inl (some (.int (reachV A (cM (S 64)) j nh n))), sM S a' b' q')
  | 0, i, k + 1, a, b, q, hi, hk => by
    refine ⟨a, b, q, ?_⟩
    have hie : i = n := by omega
    subst hie
    rw [f_X10_canOf_b4]
    unfold f_X10_canOf_b29
    simp (disch := omega) only [fa_lit, nI_ad, nI_mul, nI_cl, inb_nI, nI_ltE, nI_leE, nI_eqE, nI_m1, nI_m1', m1_lt, lt_m1, m1_le, le_m1, eq_self, not_true_eq_false, not_false_eq_true, ↓reduceIte, leT, leF, ltT, ltF, eqT, eqF, decide_true, decide_false, true_and, and_true, Nat.reduceAdd, bI0_i, bI_i, bI_x, bV0_v, bV_v, bV_x, ↓bnd_e, gd_t, m_ledges, sM64, hn]
  | m + 1, i, k + 1, a, b, q, hi, hk => by
    obtain ⟨a1, b1, q1, h⟩ := m_canLet (F := F) (S := sM S a b q) (n := nh) (k := j) (l := i) (by omega) hj (by omega) (by rw [sM64]; exact hh) hh6 (by rw [sM64]; exact hA) hW
    rw [sM_sM, sM64] at h
    obtain ⟨a2, b2, q2, ih⟩ := m_reach (A := A) (j := j) (n := n) (nh := nh) hF hj hn hn10 hh hh6 hA hW m (i + 1) k a1 b1 q1 (by omega) (by omega)
    refine ⟨a2, b2, q2, ?_⟩
    rw [reachV] at ih
    rw [f_X10_canOf_b4]
    unfold f_X10_canOf_b29
    cases g0 : canV A (cM (S 64)) j i nh with
    | false =>
      try simp only [g0, ↓reduceIte, add_n0, or_n0, not_true_eq_false, not_false_eq_true, reduceCtorEq] at ih
      simp (disch := omega) only [fa_lit, nI_ad, nI_mul, nI_cl, inb_nI, nI_ltE, nI_leE, nI_eqE, nI_m1, nI_m1', m1_lt, lt_m1, m1_le, le_m1, eq_self, not_true_eq_false, not_false_eq_true, ↓reduceIte, leT, leF, ltT, ltF, eqT, eqF, decide_true, decide_false, true_and, and_true, Nat.reduceAdd, bI0_i, bI_i, bI_x, bV0_v, bV_v, bV_x, ↓bnd_e, gd_t, m_ledges, sM64, hn, h, or_n0, g0, bT, bF]
      exact ih
    | true =>
      try simp only [g0, ↓reduceIte, add_n0, or_n0, not_true_eq_false, not_false_eq_true, reduceCtorEq] at ih
      simp (disch := omega) only [fa_lit, nI_ad, nI_mul, nI_cl, inb_nI, nI_ltE, nI_leE, nI_eqE, nI_m1, nI_m1', m1_lt, lt_m1, m1_le, le_m1, eq_self, not_true_eq_false, not_false_eq_true, ↓reduceIte, leT, leF, ltT, ltF, eqT, eqF, decide_true, decide_false, true_and, and_true, Nat.reduceAdd, bI0_i, bI_i, bI_x, bV0_v, bV_v, bV_x, ↓bnd_e, gd_t, m_ledges, sM64, hn, h, or_n0, g0, bT, bF]
      exact ih
theorem x_reachOf {A : aL} {j n nh : Nat} (hF : 6000 ≤ F) (hj : j < 4) (hn : S 25 12 = nI n) (hn10 : n ≤ 10) (hh : S 25 13 = nI nh) (hh6 : nh ≤ 6) (hA : LX A S 3) (hW : LW A) :
    ∃ p q, f_X9_reachOf F (nI j) S = some (.inl (some (.int (reachV A (S 25) j nh n))), sX S p q) := by
  obtain ⟨p, q, h⟩ := x_reach (F := F) hF hj hn hn10 hh hh6 hA hW n 0 F (S 8) (S 9) (by omega) (by omega)
  rw [sX_id] at h
  exact ⟨p, q, h⟩
theorem m_canOf {A : aL} {j n nh : Nat} (hF : 6000 ≤ F) (hj : j < 4) (hn : cM (S 64) 12 = nI n) (hn10 : n ≤ 10) (hh : cM (S 64) 13 = nI nh) (hh6 : nh ≤ 6) (hA : LM A (S 64)) (hW : LW A) :
    ∃ a b q, f_X10_canOf F (nI j) S = some (.inl (some (.int (reachV A (cM (S 64)) j nh n))), sM S a b q) := by
  obtain ⟨a, b, q, h⟩ := m_reach (F := F) hF hj hn hn10 hh hh6 hA hW n 0 F (S 63 18) (S 63 19) (S 71) (by omega) (by omega)
  rw [sM_id] at h
  exact ⟨a, b, q, h⟩
theorem ag_climber {p1 p2 : Int32} (hF : 6000 ≤ F) (hI : Inv S) : Ag (f_X9_climber F p1 p2) (f_X10_climber F p1 p2) [3, 4] S := by
  refine ag_ro hI (fun n nh nk A hn en hnh enh hnk enk hX hW hR => ?_)
  by_cases g1 : ∃ z, z < nk ∧ p1 = nI z
  · obtain ⟨j, hj, rfl⟩ := g1
    by_cases g : nI 0 ≤ p2 ∧ p2 ≤ nI 2
    · obtain ⟨w, -, hw, rfl⟩ := withinN (by omega) g (by omega)
      by_cases w2' : w = 2
      · obtain ⟨p, q, h⟩ := x_reachOf (F := F) (S := S) hF (by omega : j < 4) en hn enh hnh hX hW
        refine ⟨.inl (some (.int (reachV A (S 25) j nh n))), ⟨p, q, ?_⟩, fun U hC hM => ?_⟩
        · unfold f_X9_climber f_X9_climber_b46
          simp (disch := omega) only [fa_lit, nI_ad, nI_mul, nI_cl, inb_nI, nI_ltE, nI_leE, nI_eqE, nI_m1, nI_m1', m1_lt, lt_m1, m1_le, le_m1, eq_self, not_true_eq_false, not_false_eq_true, ↓reduceIte, leT, leF, ltT, ltF, eqT, eqF, decide_true, decide_false, true_and, and_true, Nat.reduceAdd, bI0_i, bI_i, bI_x, bV0_v, bV_v, bV_x, ↓bnd_e, gd_t, x_needClimber hnk enk hj, w2', h]
        · have en' : cM (U 64) 12 = nI n := by rw [hC]; exact en
          have enh' : cM (U 64) 13 = nI nh := by rw [hC]; exact enh
          have enk' : cM (U 64) 14 = nI nk := by rw [hC]; exact enk
          obtain ⟨a, b, q, h⟩ := m_canOf (F := F) (S := U) hF (by omega : j < 4) en' hn enh' hnh hM hW
          refine res_ok (a := a) (b' := b) (q := q) fun T hU => ?_
          unfold f_X10_climber f_X10_climber_b33 f_X10_climber_b61; rw [bnd_e, show upS T 63 0 (0 : Int32) = U from hU.symm]
          simp (disch := omega) only [fa_lit, nI_ad, nI_mul, nI_cl, inb_nI, nI_ltE, nI_leE, nI_eqE, nI_m1, nI_m1', m1_lt, lt_m1, m1_le, le_m1, eq_self, not_true_eq_false, not_false_eq_true, ↓reduceIte, leT, leF, ltT, ltF, eqT, eqF, decide_true, decide_false, true_and, and_true, Nat.reduceAdd, bI0_i, bI_i, bI_x, bV0_v, bV_v, bV_x, ↓bnd_e, gd_t, m_noClimber hnk enk' hj, m_throw0, m_in, bT, w2', h, hC]
      · refine ⟨.inl (some (.int (S 25 (78 + j * 2 + w)))), idX ?_, fun U hC hM => res_ok' fun T hU => ?_⟩
        · unfold f_X9_climber f_X9_climber_b46
          simp (disch := omega) only [fa_lit, nI_ad, nI_mul, nI_cl, inb_nI, nI_ltE, nI_leE, nI_eqE, nI_m1, nI_m1', m1_lt, lt_m1, m1_le, le_m1, eq_self, not_true_eq_false, not_false_eq_true, ↓reduceIte, leT, leF, ltT, ltF, eqT, eqF, decide_true, decide_false, true_and, and_true, Nat.reduceAdd, bI0_i, bI_i, bI_x, bV0_v, bV_v, bV_x, ↓bnd_e, gd_t, x_needClimber hnk enk hj, x_ofClimber]
        · have enk' : cM (U 64) 14 = nI nk := by rw [hC]; exact enk
          unfold f_X10_climber f_X10_climber_b33 f_X10_climber_b61; rw [bnd_e, show upS T 63 0 (0 : Int32) = U from hU.symm]
          simp (disch := omega) only [fa_lit, nI_ad, nI_mul, nI_cl, inb_nI, nI_ltE, nI_leE, nI_eqE, nI_m1, nI_m1', m1_lt, lt_m1, m1_le, le_m1, eq_self, not_true_eq_false, not_false_eq_true, ↓reduceIte, leT, leF, ltT, ltF, eqT, eqF, decide_true, decide_false, true_and, and_true, Nat.reduceAdd, bI0_i, bI_i, bI_x, bV0_v, bV_v, bV_x, ↓bnd_e, gd_t, m_noClimber hnk enk' hj, m_throw0, m_in, bT, m_ofClimber, hC]
    · refine ⟨.inr 4, idX ?_, fun U hC hM => res_ex (b := nI 0) 1 rfl (by omega) fun T hU => ?_⟩
      · unfold f_X9_climber f_X9_climber_b14
        by_cases g1 : p2 < nI 0
        · simp (disch := omega) only [fa_lit, nI_ad, nI_mul, nI_cl, inb_nI, nI_ltE, nI_leE, nI_eqE, nI_m1, nI_m1', m1_lt, lt_m1, m1_le, le_m1, eq_self, not_true_eq_false, not_false_eq_true, ↓reduceIte, leT, leF, ltT, ltF, eqT, eqF, decide_true, decide_false, true_and, and_true, Nat.reduceAdd, bI0_i, bI_i, bI_x, bV0_v, bV_v, bV_x, ↓bnd_e, gd_t, x_needClimber hnk enk hj, g1]
        · have g2 : ¬ p2 ≤ nI 2 := fun q => g ⟨by rw [nle_lt]; exact g1, q⟩
          simp (disch := omega) only [fa_lit, nI_ad, nI_mul, nI_cl, inb_nI, nI_ltE, nI_leE, nI_eqE, nI_m1, nI_m1', m1_lt, lt_m1, m1_le, le_m1, eq_self, not_true_eq_false, not_false_eq_true, ↓reduceIte, leT, leF, ltT, ltF, eqT, eqF, decide_true, decide_false, true_and, and_true, Nat.reduceAdd, bI0_i, bI_i, bI_x, bV0_v, bV_v, bV_x, ↓bnd_e, gd_t, x_needClimber hnk enk hj, g1, g2]
      · have enk' : cM (U 64) 14 = nI nk := by rw [hC]; exact enk
        have d : decide (nI 0 ≤ p2 ∧ p2 ≤ nI 2) = false := decide_eq_false g
        unfold f_X10_climber f_X10_climber_b33 f_X10_climber_b40; rw [bnd_e, show upS T 63 0 (0 : Int32) = U from hU.symm]
        simp (disch := omega) only [fa_lit, nI_ad, nI_mul, nI_cl, inb_nI, nI_ltE, nI_leE, nI_eqE, nI_m1, nI_m1', m1_lt, lt_m1, m1_le, le_m1, eq_self, not_true_eq_false, not_false_eq_true, ↓reduceIte, leT, leF, ltT, ltF, eqT, eqF, decide_true, decide_false, true_and, and_true, Nat.reduceAdd, bI0_i, bI_i, bI_x, bV0_v, bV_v, bV_x, ↓bnd_e, gd_t, m_noClimber hnk enk' hj, m_throw0, m_throw, m_in, bF, d]
  · refine ⟨.inr 3, idX ?_, fun U hC hM => res_ex (b := nI 0) 0 rfl (by omega) fun T hU => ?_⟩
    · unfold f_X9_climber
      simp (disch := omega) only [fa_lit, nI_ad, nI_mul, nI_cl, inb_nI, nI_ltE, nI_leE, nI_eqE, nI_m1, nI_m1', m1_lt, lt_m1, m1_le, le_m1, eq_self, not_true_eq_false, not_false_eq_true, ↓reduceIte, leT, leF, ltT, ltF, eqT, eqF, decide_true, decide_false, true_and, and_true, Nat.reduceAdd, bI0_i, bI_i, bI_x, bV0_v, bV_v, bV_x, ↓bnd_e, gd_t, x_needClimber_x hnk enk g1]
    · have enk' : cM (U 64) 14 = nI nk := by rw [hC]; exact enk
      unfold f_X10_climber f_X10_climber_b40; rw [bnd_e, show upS T 63 0 (0 : Int32) = U from hU.symm]
      simp (disch := omega) only [fa_lit, nI_ad, nI_mul, nI_cl, inb_nI, nI_ltE, nI_leE, nI_eqE, nI_m1, nI_m1', m1_lt, lt_m1, m1_le, le_m1, eq_self, not_true_eq_false, not_false_eq_true, ↓reduceIte, leT, leF, ltT, ltF, eqT, eqF, decide_true, decide_false, true_and, and_true, Nat.reduceAdd, bI0_i, bI_i, bI_x, bV0_v, bV_v, bV_x, ↓bnd_e, gd_t, m_noClimber_x hnk enk' g1, m_throw]
def lghtO (c : Nat → Int32) : Nat → Option Nat
  | 0 => none
  | k + 1 => match lghtO c k with
    | none => some k
    | some b => if c (78 + k * 2 + 0) < c (78 + b * 2 + 0) then some k else some b
theorem lght_lt {c : Nat → Int32} : ∀ {i b : Nat}, lghtO c i = some b → b < i
  | 0, b, h => by cases h
  | i + 1, b, h => by
    rw [lghtO] at h
    split at h
    · cases h; omega
    · rename_i b' hb
      have := lght_lt hb
      split at h <;> cases h <;> omega
theorem x_isLighter {a b : Nat} (ha : a < 4) (hb : b < 4) : f_X9_isLighter (nI a) (nI b) S = some (.inl (some (.int (bV32 (decide (S 25 (78 + a * 2 + 0) < S 25 (78 + b * 2 + 0)))))), S) := by
  unfold f_X9_isLighter f_X9_isLighter_b26
  by_cases g : S 25 (78 + a * 2 + 0) < S 25 (78 + b * 2 + 0) <;> simp (disch := omega) only [fa_lit, nI_ad, nI_mul, nI_cl, inb_nI, nI_ltE, nI_leE, nI_eqE, nI_m1, nI_m1', m1_lt, lt_m1, m1_le, le_m1, eq_self, not_true_eq_false, not_false_eq_true, ↓reduceIte, leT, leF, ltT, ltF, eqT, eqF, decide_true, decide_false, true_and, and_true, Nat.reduceAdd, bI0_i, bI_i, bI_x, bV0_v, bV_v, bV_x, ↓bnd_e, gd_t, x_ofClimber, nle_lt, g, and10, and00] <;> rfl
theorem x_light {n : Nat} (hn : S 25 14 = nI n) (hn4 : n ≤ 4) : ∀ (m i k : Nat), i + m = n → m < k →
    f_X9_lightest_b4 F k (encO (lghtO (S 25) i)) (nI i) S = some (.inl (some (.int (encO (lghtO (S 25) n)))), S)
  | 0, i, k + 1, hi, hk => by
    have hie : i = n := by omega
    subst hie
    rw [f_X9_lightest_b4]
    simp (disch := omega) only [fa_lit, nI_ad, nI_mul, nI_cl, inb_nI, nI_ltE, nI_leE, nI_eqE, nI_m1, nI_m1', m1_lt, lt_m1, m1_le, le_m1, eq_self, not_true_eq_false, not_false_eq_true, ↓reduceIte, leT, leF, ltT, ltF, eqT, eqF, decide_true, decide_false, true_and, and_true, Nat.reduceAdd, bI0_i, bI_i, bI_x, bV0_v, bV_v, bV_x, ↓bnd_e, gd_t, x_at, hn]
  | m + 1, i, k + 1, hi, hk => by
    have ih := x_light hn hn4 m (i + 1) k (by omega) (by omega)
    rw [lghtO] at ih
    rw [f_X9_lightest_b4]
    unfold f_X9_lightest_b31 f_X9_lightest_b33
    cases g2 : lghtO (S 25) i with
    | none =>
      rw [g2] at ih
      simp (disch := omega) only [fa_lit, nI_ad, nI_mul, nI_cl, inb_nI, nI_ltE, nI_leE, nI_eqE, nI_m1, nI_m1', m1_lt, lt_m1, m1_le, le_m1, eq_self, not_true_eq_false, not_false_eq_true, ↓reduceIte, leT, leF, ltT, ltF, eqT, eqF, decide_true, decide_false, true_and, and_true, Nat.reduceAdd, bI0_i, bI_i, bI_x, bV0_v, bV_v, bV_x, ↓bnd_e, gd_t, x_at, hn, enc_none, m1_m1, m1_lt0]
      exact ih
    | some b =>
      have hb := lght_lt g2
      rw [g2] at ih
      by_cases g3 : (S 25) (78 + i * 2 + 0) < (S 25) (78 + b * 2 + 0)
      · simp only [g3, ↓reduceIte] at ih
        simp (disch := omega) only [fa_lit, nI_ad, nI_mul, nI_cl, inb_nI, nI_ltE, nI_leE, nI_eqE, nI_m1, nI_m1', m1_lt, lt_m1, m1_le, le_m1, eq_self, not_true_eq_false, not_false_eq_true, ↓reduceIte, leT, leF, ltT, ltF, eqT, eqF, decide_true, decide_false, true_and, and_true, Nat.reduceAdd, bI0_i, bI_i, bI_x, bV0_v, bV_v, bV_x, ↓bnd_e, gd_t, x_at, hn, enc_some, x_isLighter, g3, bT]
        exact ih
      · simp only [g3, ↓reduceIte] at ih
        simp (disch := omega) only [fa_lit, nI_ad, nI_mul, nI_cl, inb_nI, nI_ltE, nI_leE, nI_eqE, nI_m1, nI_m1', m1_lt, lt_m1, m1_le, le_m1, eq_self, not_true_eq_false, not_false_eq_true, ↓reduceIte, leT, leF, ltT, ltF, eqT, eqF, decide_true, decide_false, true_and, and_true, Nat.reduceAdd, bI0_i, bI_i, bI_x, bV0_v, bV_v, bV_x, ↓bnd_e, gd_t, x_at, hn, enc_some, x_isLighter, g3, bF]
        exact ih
theorem m_light {n : Nat} (hn : cM (S 64) 14 = nI n) (hn4 : n ≤ 4) : ∀ (m i k : Nat), i + m = n → m < k →
    f_X10_lightest_b9 F k (encO (lghtO (cM (S 64)) i)) (nI i) S = some (.inl (some (.int (encO (lghtO (cM (S 64)) n)))), S)
  | 0, i, k + 1, hi, hk => by
    have hie : i = n := by omega
    subst hie
    rw [f_X10_lightest_b9]
    simp (disch := omega) only [fa_lit, nI_ad, nI_mul, nI_cl, inb_nI, nI_ltE, nI_leE, nI_eqE, nI_m1, nI_m1', m1_lt, lt_m1, m1_le, le_m1, eq_self, not_true_eq_false, not_false_eq_true, ↓reduceIte, leT, leF, ltT, ltF, eqT, eqF, decide_true, decide_false, true_and, and_true, Nat.reduceAdd, bI0_i, bI_i, bI_x, bV0_v, bV_v, bV_x, ↓bnd_e, gd_t, m_climbers, hn]
  | m + 1, i, k + 1, hi, hk => by
    have ih := m_light hn hn4 m (i + 1) k (by omega) (by omega)
    rw [lghtO] at ih
    rw [f_X10_lightest_b9]
    unfold f_X10_lightest_b36 f_X10_lightest_b38
    cases g2 : lghtO (cM (S 64)) i with
    | none =>
      rw [g2] at ih
      simp (disch := omega) only [fa_lit, nI_ad, nI_mul, nI_cl, inb_nI, nI_ltE, nI_leE, nI_eqE, nI_m1, nI_m1', m1_lt, lt_m1, m1_le, le_m1, eq_self, not_true_eq_false, not_false_eq_true, ↓reduceIte, leT, leF, ltT, ltF, eqT, eqF, decide_true, decide_false, true_and, and_true, Nat.reduceAdd, bI0_i, bI_i, bI_x, bV0_v, bV_v, bV_x, ↓bnd_e, gd_t, m_climbers, hn, enc_none, m1_m1, m1_lt0]
      exact ih
    | some b =>
      have hb := lght_lt g2
      rw [g2] at ih
      by_cases g3 : (cM (S 64)) (78 + i * 2 + 0) < (cM (S 64)) (78 + b * 2 + 0)
      · simp only [g3, ↓reduceIte] at ih
        simp (disch := omega) only [fa_lit, nI_ad, nI_mul, nI_cl, inb_nI, nI_ltE, nI_leE, nI_eqE, nI_m1, nI_m1', m1_lt, lt_m1, m1_le, le_m1, eq_self, not_true_eq_false, not_false_eq_true, ↓reduceIte, leT, leF, ltT, ltF, eqT, eqF, decide_true, decide_false, true_and, and_true, Nat.reduceAdd, bI0_i, bI_i, bI_x, bV0_v, bV_v, bV_x, ↓bnd_e, gd_t, m_climbers, hn, enc_some, m_ofClimber, nle_lt, g3, bT]
        exact ih
      · simp only [g3, ↓reduceIte] at ih
        simp (disch := omega) only [fa_lit, nI_ad, nI_mul, nI_cl, inb_nI, nI_ltE, nI_leE, nI_eqE, nI_m1, nI_m1', m1_lt, lt_m1, m1_le, le_m1, eq_self, not_true_eq_false, not_false_eq_true, ↓reduceIte, leT, leF, ltT, ltF, eqT, eqF, decide_true, decide_false, true_and, and_true, Nat.reduceAdd, bI0_i, bI_i, bI_x, bV0_v, bV_v, bV_x, ↓bnd_e, gd_t, m_climbers, hn, enc_some, m_ofClimber, nle_lt, g3, bF]
        exact ih
theorem ag_lightest (hF : 6000 ≤ F) (hI : Inv S) : Ag (f_X9_lightest F) (f_X10_lightest F) [] S := by
  refine ag_ro hI (fun n nh nk A hn en hnh enh hnk enk hX hW hR => ?_)
  have h := x_light (F := F) enk hnk nk 0 F (by omega) (by omega)
  refine ⟨.inl (some (.int (encO (lghtO (S 25) nk)))), idX ?_, fun U hC hM => ?_⟩
  · unfold f_X9_lightest 
    simp (disch := omega) only [fa_lit, nI_ad, nI_mul, nI_cl, inb_nI, nI_ltE, nI_leE, nI_eqE, nI_m1, nI_m1', m1_lt, lt_m1, m1_le, le_m1, eq_self, not_true_eq_false, not_false_eq_true, ↓reduceIte, leT, leF, ltT, ltF, eqT, eqF, decide_true, decide_false, true_and, and_true, Nat.reduceAdd, bI0_i, bI_i, bI_x, bV0_v, bV_v, bV_x, ↓bnd_e, gd_t, show f_X9_lightest_b4 F F (-nI 1) (nI 0) S = _ from h]
  · skip
    have en' : cM (U 64) 12 = nI n := by rw [hC]; exact en
    have enh' : cM (U 64) 13 = nI nh := by rw [hC]; exact enh
    have enk' : cM (U 64) 14 = nI nk := by rw [hC]; exact enk
    have h := m_light (F := F) (S := U) enk' hnk nk 0 F (by omega) (by omega)
    rw [hC] at h
    refine res_ok' fun T hU => ?_
    unfold f_X10_lightest ; rw [bnd_e, show upS T 63 0 (0 : Int32) = U from hU.symm]
    simp (disch := omega) only [fa_lit, nI_ad, nI_mul, nI_cl, inb_nI, nI_ltE, nI_leE, nI_eqE, nI_m1, nI_m1', m1_lt, lt_m1, m1_le, le_m1, eq_self, not_true_eq_false, not_false_eq_true, ↓reduceIte, leT, leF, ltT, ltF, eqT, eqF, decide_true, decide_false, true_and, and_true, Nat.reduceAdd, bI0_i, bI_i, bI_x, bV0_v, bV_v, bV_x, ↓bnd_e, gd_t, and10, and00, m_throw0, m_throw, Bool.not_true, Bool.not_false, bT, bF, m_in, m_noWind, show f_X10_lightest_b9 F F (-nI 1) (nI 0) U = _ from h, hC]
def luckV (c : Nat → Int32) (nr : Nat) : Nat → Int32 × Int32
  | 0 => (-nI 1, nI 0)
  | k + 1 => if logV c 1 (nI k) true nr ≤ (luckV c nr k).2 then luckV c nr k else (nI k, logV c 1 (nI k) true nr)
theorem x_luck {n nr : Nat} (hF : 6000 ≤ F) (hn : S 25 14 = nI n) (hn4 : n ≤ 4) (hr : S 25 15 = nI nr) (hr60 : nr ≤ 60) : ∀ (m i k : Nat) , i + m = n → m < k →
    f_X9_lucky_b6 F k (luckV (S 25) nr (i)).1 (luckV (S 25) nr (i)).2 (nI (i)) S = some (.inl (some (.int ((luckV (S 25) nr n).1))), S)
  | 0, i, k + 1, hi, hk => by
    have hie : i = n := by omega
    subst hie
    rw [f_X9_lucky_b6]
    unfold f_X9_lucky_b41
    simp (disch := omega) only [fa_lit, nI_ad, nI_mul, nI_cl, inb_nI, nI_ltE, nI_leE, nI_eqE, nI_m1, nI_m1', m1_lt, lt_m1, m1_le, le_m1, eq_self, not_true_eq_false, not_false_eq_true, ↓reduceIte, leT, leF, ltT, ltF, eqT, eqF, decide_true, decide_false, true_and, and_true, Nat.reduceAdd, bI0_i, bI_i, bI_x, bV0_v, bV_v, bV_x, ↓bnd_e, gd_t, x_at, hn]
  | m + 1, i, k + 1, hi, hk => by
    have h := x_logE (F := F) (S := S) (v := nI i) (w := 1) (by omega) hr hr60 nr 0 F (by omega) (by omega)
    have ih := x_luck (n := n) (nr := nr) hF hn hn4 hr hr60 m (i + 1) k (by omega) (by omega)
    rw [luckV] at ih
    rw [f_X9_lucky_b6]
    unfold f_X9_lucky_b41
    by_cases g0 : logV (S 25) 1 (nI i) true nr ≤ (luckV (S 25) nr i).2
    · skip
      try simp only [g0, ↓reduceIte, add_n0, or_n0, not_true_eq_false, not_false_eq_true, reduceCtorEq] at ih
      simp (disch := omega) only [fa_lit, nI_ad, nI_mul, nI_cl, inb_nI, nI_ltE, nI_leE, nI_eqE, nI_m1, nI_m1', m1_lt, lt_m1, m1_le, le_m1, eq_self, not_true_eq_false, not_false_eq_true, ↓reduceIte, leT, leF, ltT, ltF, eqT, eqF, decide_true, decide_false, true_and, and_true, Nat.reduceAdd, bI0_i, bI_i, bI_x, bV0_v, bV_v, bV_x, ↓bnd_e, gd_t, x_at, hn, f_X0_loggedEggs, show f_X0_loggedEggs_b5 F F (nI 1) (nI i) (nI 0) (nI 0) S = _ from h, g0, bT, bF]
      exact ih
    · skip
      try simp only [g0, ↓reduceIte, add_n0, or_n0, not_true_eq_false, not_false_eq_true, reduceCtorEq] at ih
      simp (disch := omega) only [fa_lit, nI_ad, nI_mul, nI_cl, inb_nI, nI_ltE, nI_leE, nI_eqE, nI_m1, nI_m1', m1_lt, lt_m1, m1_le, le_m1, eq_self, not_true_eq_false, not_false_eq_true, ↓reduceIte, leT, leF, ltT, ltF, eqT, eqF, decide_true, decide_false, true_and, and_true, Nat.reduceAdd, bI0_i, bI_i, bI_x, bV0_v, bV_v, bV_x, ↓bnd_e, gd_t, x_at, hn, f_X0_loggedEggs, show f_X0_loggedEggs_b5 F F (nI 1) (nI i) (nI 0) (nI 0) S = _ from h, g0, bT, bF]
      exact ih
theorem m_luck {n nr : Nat} (hF : 6000 ≤ F) (hn : cM (S 64) 14 = nI n) (hn4 : n ≤ 4) (hr : cM (S 64) 15 = nI nr) (hr60 : nr ≤ 60) : ∀ (m i k : Nat) , i + m = n → m < k →
    f_X10_lucky_b11 F k (luckV (cM (S 64)) nr (i)).1 (luckV (cM (S 64)) nr (i)).2 (nI (i)) S = some (.inl (some (.int ((luckV (cM (S 64)) nr n).1))), S)
  | 0, i, k + 1, hi, hk => by
    have hie : i = n := by omega
    subst hie
    rw [f_X10_lucky_b11]
    unfold f_X10_lucky_b42
    simp (disch := omega) only [fa_lit, nI_ad, nI_mul, nI_cl, inb_nI, nI_ltE, nI_leE, nI_eqE, nI_m1, nI_m1', m1_lt, lt_m1, m1_le, le_m1, eq_self, not_true_eq_false, not_false_eq_true, ↓reduceIte, leT, leF, ltT, ltF, eqT, eqF, decide_true, decide_false, true_and, and_true, Nat.reduceAdd, bI0_i, bI_i, bI_x, bV0_v, bV_v, bV_x, ↓bnd_e, gd_t, m_climbers, hn]
  | m + 1, i, k + 1, hi, hk => by
    have h := m_logE (F := F) (S := S) (v := nI i) (w := 1) (x := nI 1) (by omega) hr hr60 (by decide) nr 0 F (by omega) (by omega)
    have ih := m_luck (n := n) (nr := nr) hF hn hn4 hr hr60 m (i + 1) k (by omega) (by omega)
    rw [luckV] at ih
    rw [f_X10_lucky_b11]
    unfold f_X10_lucky_b42
    by_cases g0 : logV (cM (S 64)) 1 (nI i) true nr ≤ (luckV (cM (S 64)) nr i).2
    · skip
      try simp only [g0, ↓reduceIte, add_n0, or_n0, not_true_eq_false, not_false_eq_true, reduceCtorEq] at ih
      simp (disch := omega) only [fa_lit, nI_ad, nI_mul, nI_cl, inb_nI, nI_ltE, nI_leE, nI_eqE, nI_m1, nI_m1', m1_lt, lt_m1, m1_le, le_m1, eq_self, not_true_eq_false, not_false_eq_true, ↓reduceIte, leT, leF, ltT, ltF, eqT, eqF, decide_true, decide_false, true_and, and_true, Nat.reduceAdd, bI0_i, bI_i, bI_x, bV0_v, bV_v, bV_x, ↓bnd_e, gd_t, m_climbers, hn, f_X10_loggedOf, lt_nle, show f_X10_loggedOf_b6 F F (nI 1) (nI i) (nI 1) (nI 0) (nI 0) S = _ from h, g0, bT, bF]
      exact ih
    · skip
      try simp only [g0, ↓reduceIte, add_n0, or_n0, not_true_eq_false, not_false_eq_true, reduceCtorEq] at ih
      simp (disch := omega) only [fa_lit, nI_ad, nI_mul, nI_cl, inb_nI, nI_ltE, nI_leE, nI_eqE, nI_m1, nI_m1', m1_lt, lt_m1, m1_le, le_m1, eq_self, not_true_eq_false, not_false_eq_true, ↓reduceIte, leT, leF, ltT, ltF, eqT, eqF, decide_true, decide_false, true_and, and_true, Nat.reduceAdd, bI0_i, bI_i, bI_x, bV0_v, bV_v, bV_x, ↓bnd_e, gd_t, m_climbers, hn, f_X10_loggedOf, lt_nle, show f_X10_loggedOf_b6 F F (nI 1) (nI i) (nI 1) (nI 0) (nI 0) S = _ from h, g0, bT, bF]
      exact ih
theorem ag_lucky (hF : 6000 ≤ F) (hI : Inv S) : Ag (f_X9_lucky F) (f_X10_lucky F) [] S := by
  refine ag_ro hI (fun n nh nk A hn en hnh enh hnk enk hX hW hR => ?_)
  obtain ⟨nr, hnr, enr⟩ := hR.n15
  have h := x_luck (F := F) hF enk hnk enr hnr nk 0 F (by omega) (by omega)
  refine ⟨.inl (some (.int ((luckV (S 25) nr nk).1))), idX ?_, fun U hC hM => ?_⟩
  · unfold f_X9_lucky 
    simp (disch := omega) only [fa_lit, nI_ad, nI_mul, nI_cl, inb_nI, nI_ltE, nI_leE, nI_eqE, nI_m1, nI_m1', m1_lt, lt_m1, m1_le, le_m1, eq_self, not_true_eq_false, not_false_eq_true, ↓reduceIte, leT, leF, ltT, ltF, eqT, eqF, decide_true, decide_false, true_and, and_true, Nat.reduceAdd, bI0_i, bI_i, bI_x, bV0_v, bV_v, bV_x, ↓bnd_e, gd_t, show f_X9_lucky_b6 F F (-nI 1) (nI 0) (nI 0) S = _ from h]
  · skip
    have en' : cM (U 64) 12 = nI n := by rw [hC]; exact en
    have enh' : cM (U 64) 13 = nI nh := by rw [hC]; exact enh
    have enk' : cM (U 64) 14 = nI nk := by rw [hC]; exact enk
    have enr' : cM (U 64) 15 = nI nr := by rw [hC]; exact enr
    have h := m_luck (F := F) (S := U) hF enk' hnk enr' hnr nk 0 F (by omega) (by omega)
    rw [hC] at h
    refine res_ok' fun T hU => ?_
    unfold f_X10_lucky ; rw [bnd_e, show upS T 63 0 (0 : Int32) = U from hU.symm]
    simp (disch := omega) only [fa_lit, nI_ad, nI_mul, nI_cl, inb_nI, nI_ltE, nI_leE, nI_eqE, nI_m1, nI_m1', m1_lt, lt_m1, m1_le, le_m1, eq_self, not_true_eq_false, not_false_eq_true, ↓reduceIte, leT, leF, ltT, ltF, eqT, eqF, decide_true, decide_false, true_and, and_true, Nat.reduceAdd, bI0_i, bI_i, bI_x, bV0_v, bV_v, bV_x, ↓bnd_e, gd_t, and10, and00, m_throw0, m_throw, Bool.not_true, Bool.not_false, bT, bF, m_in, m_noWind, show f_X10_lucky_b11 F F (-nI 1) (nI 0) (nI 0) U = _ from h, hC]
-- the number of bits
def bcV (x : Int32) : Int32 := match f_J6_bitCount_0f7a4 x (fun _ _ => 0) with
  | some (.inl (some (.int v)), _) => v
  | _ => 0
theorem bc_eq {x : Int32} : f_J6_bitCount_0f7a4 x S = some (.inl (some (.int (bcV x))), S) := rfl
theorem nI_all (x : Int32) : ∃ n, x = nI n := by
  refine ⟨x.toBitVec.toNat, ?_⟩
  apply Int32.toBitVec_inj.1
  unfold nI
  rw [Int32.toBitVec_ofNat']
  simp
theorem and63 (y : Int32) : ∃ j, j ≤ 63 ∧ y &&& nI 63 = nI j := by
  obtain ⟨n, rfl⟩ := nI_all y
  refine ⟨n &&& 63, Nat.and_le_right, ?_⟩
  unfold nI
  apply Int32.toBitVec_inj.1
  rw [Int32.toBitVec_and, Int32.toBitVec_ofNat', Int32.toBitVec_ofNat', Int32.toBitVec_ofNat', BitVec.ofNat_and]
theorem bc_rng (x : Int32) : ∃ j, j ≤ 63 ∧ bcV x = nI j := and63 _
def whoO (A : aL) (c : Nat → Int32) (nh n : Nat) : Nat → Option Nat
  | 0 => none
  | k + 1 => match whoO A c nh n k with
    | none => some k
    | some b => if bcV (reachV A c b nh n) < bcV (reachV A c k nh n) then some k else if ¬ bcV (reachV A c k nh n) = bcV (reachV A c b nh n) then some b
      else if c (78 + k * 2 + 0) < c (78 + b * 2 + 0) then some k else some b
theorem who_lt {A : aL} {c : Nat → Int32} {nh n : Nat} : ∀ {i b : Nat}, whoO A c nh n i = some b → b < i
  | 0, b, h => by cases h
  | i + 1, b, h => by
    rw [whoO] at h
    split at h
    · cases h; omega
    · rename_i b' hb
      have := who_lt hb
      split at h
      · cases h; omega
      · split at h
        · cases h; omega
        · split at h <;> cases h <;> omega
def whoM (A : aL) (c : Nat → Int32) (nh n : Nat) (b : Option Nat) : Int32 := match b with
  | none => nI 0
  | some b => bcV (reachV A c b nh n)
theorem lt_self {x : Int32} : (x < x) = False := by
  apply eq_false; rw [Int32.lt_iff_toInt_lt]; omega
theorem x_who {A : aL} {n nh nk : Nat} (hF : 6000 ≤ F) (hn : S 25 12 = nI n) (hn10 : n ≤ 10) (hh : S 25 13 = nI nh) (hh6 : nh ≤ 6) (enk : S 25 14 = nI nk) (hnk : nk ≤ 4) (hA : LX A S 3) (hW : LW A) : ∀ (m i k : Nat) (p q : Nat → Int32), i + m = nk → m < k →
    ∃ p' q', f_X9_who_b6 F k (encO (whoO A (S 25) nh n i)) (whoM A (S 25) nh n (whoO A (S 25) nh n i)) (nI i) (sX S p q) = some (.inl (some (.int (encO (whoO A (S 25) nh n nk)))), sX S p' q')
  | 0, i, k + 1, p, q, hi, hk => by
    refine ⟨p, q, ?_⟩
    have hie : i = nk := by omega
    subst hie
    rw [f_X9_who_b6]
    simp (disch := omega) only [fa_lit, nI_ad, nI_mul, nI_cl, inb_nI, nI_ltE, nI_leE, nI_eqE, nI_m1, nI_m1', m1_lt, lt_m1, m1_le, le_m1, eq_self, not_true_eq_false, not_false_eq_true, ↓reduceIte, leT, leF, ltT, ltF, eqT, eqF, decide_true, decide_false, true_and, and_true, Nat.reduceAdd, bI0_i, bI_i, bI_x, bV0_v, bV_v, bV_x, ↓bnd_e, gd_t, x_at, sX_n, enk]
  | m + 1, i, k + 1, p, q, hi, hk => by
    obtain ⟨p1, q1, h⟩ := x_reachOf (F := F) (S := sX S p q) hF (by omega : i < 4) (by rw [sX_n (by omega) (by omega)]; exact hn) hn10 (by rw [sX_n (by omega) (by omega)]; exact hh) hh6 (LX_sX hA) hW
    rw [sX_sX, sX_n (by omega) (by omega)] at h
    have ih := fun p q => x_who (A := A) hF hn hn10 hh hh6 enk hnk hA hW m (i + 1) k p q (by omega) (by omega)
    rw [whoO] at ih
    rw [f_X9_who_b6]
    unfold f_X9_who_b55 f_X9_who_b60
    cases g2 : whoO A (S 25) nh n i with
    | none =>
      rw [g2] at ih
      obtain ⟨p2, q2, ih⟩ := ih p1 q1
      refine ⟨p2, q2, ?_⟩
      obtain ⟨jj, hjj, ejj⟩ := bc_rng (reachV A (S 25) i nh n)
      simp (disch := omega) only [fa_lit, nI_ad, nI_mul, nI_cl, inb_nI, nI_ltE, nI_leE, nI_eqE, nI_m1, nI_m1', m1_lt, lt_m1, m1_le, le_m1, eq_self, not_true_eq_false, not_false_eq_true, ↓reduceIte, leT, leF, ltT, ltF, eqT, eqF, decide_true, decide_false, true_and, and_true, Nat.reduceAdd, bI0_i, bI_i, bI_x, bV0_v, bV_v, bV_x, ↓bnd_e, gd_t, x_at, sX_n, enk, enc_none, m1_m1, le0_m1, h, bc_eq]
      exact ih
    | some b9 =>
      have hb := who_lt g2
      rw [g2] at ih
      obtain ⟨p2, q2, ih⟩ := ih p1 q1
      refine ⟨p2, q2, ?_⟩
      by_cases g3 : bcV (reachV A (S 25) b9 nh n) < bcV (reachV A (S 25) i nh n)
      · simp only [g3, ↓reduceIte] at ih
        simp (disch := omega) only [fa_lit, nI_ad, nI_mul, nI_cl, inb_nI, nI_ltE, nI_leE, nI_eqE, nI_m1, nI_m1', m1_lt, lt_m1, m1_le, le_m1, eq_self, not_true_eq_false, not_false_eq_true, ↓reduceIte, leT, leF, ltT, ltF, eqT, eqF, decide_true, decide_false, true_and, and_true, Nat.reduceAdd, bI0_i, bI_i, bI_x, bV0_v, bV_v, bV_x, ↓bnd_e, gd_t, x_at, sX_n, enk, enc_some, whoM, h, bc_eq, x_isLighter, g3]
        exact ih
      · by_cases g4 : bcV (reachV A (S 25) i nh n) = bcV (reachV A (S 25) b9 nh n)
        · by_cases g5 : S 25 (78 + i * 2 + 0) < S 25 (78 + b9 * 2 + 0)
          · simp only [g3, g4, g5, ↓reduceIte, not_true_eq_false, lt_self] at ih
            simp (disch := omega) only [fa_lit, nI_ad, nI_mul, nI_cl, inb_nI, nI_ltE, nI_leE, nI_eqE, nI_m1, nI_m1', m1_lt, lt_m1, m1_le, le_m1, eq_self, not_true_eq_false, not_false_eq_true, ↓reduceIte, leT, leF, ltT, ltF, eqT, eqF, decide_true, decide_false, true_and, and_true, Nat.reduceAdd, bI0_i, bI_i, bI_x, bV0_v, bV_v, bV_x, ↓bnd_e, gd_t, x_at, sX_n, enk, enc_some, whoM, h, bc_eq, x_isLighter, g3, g4, g5, bT, lt_self]
            rw [← g4]
            exact ih
          · simp only [g3, g4, g5, ↓reduceIte, not_true_eq_false, lt_self] at ih
            simp (disch := omega) only [fa_lit, nI_ad, nI_mul, nI_cl, inb_nI, nI_ltE, nI_leE, nI_eqE, nI_m1, nI_m1', m1_lt, lt_m1, m1_le, le_m1, eq_self, not_true_eq_false, not_false_eq_true, ↓reduceIte, leT, leF, ltT, ltF, eqT, eqF, decide_true, decide_false, true_and, and_true, Nat.reduceAdd, bI0_i, bI_i, bI_x, bV0_v, bV_v, bV_x, ↓bnd_e, gd_t, x_at, sX_n, enk, enc_some, whoM, h, bc_eq, x_isLighter, g3, g4, g5, bF, lt_self]
            exact ih
        · simp only [g3, g4, ↓reduceIte, not_false_eq_true] at ih
          simp (disch := omega) only [fa_lit, nI_ad, nI_mul, nI_cl, inb_nI, nI_ltE, nI_leE, nI_eqE, nI_m1, nI_m1', m1_lt, lt_m1, m1_le, le_m1, eq_self, not_true_eq_false, not_false_eq_true, ↓reduceIte, leT, leF, ltT, ltF, eqT, eqF, decide_true, decide_false, true_and, and_true, Nat.reduceAdd, bI0_i, bI_i, bI_x, bV0_v, bV_v, bV_x, ↓bnd_e, gd_t, x_at, sX_n, enk, enc_some, whoM, h, bc_eq, x_isLighter, g3, g4]
          exact ih
theorem m_who {A : aL} {n nh nk : Nat} (hF : 6000 ≤ F) (hn : cM (S 64) 12 = nI n) (hn10 : n ≤ 10) (hh : cM (S 64) 13 = nI nh) (hh6 : nh ≤ 6) (enk : cM (S 64) 14 = nI nk) (hnk : nk ≤ 4) (hA : LM A (S 64)) (hW : LW A) : ∀ (m i k : Nat) (a b : Int32) (q : Nat → Int32), i + m = nk → m < k →
    ∃ a' b' q', f_X10_who_b9 F k (encO (whoO A (cM (S 64)) nh n i)) (nI i) (sM S a b q) = some (.inl (some (.int (encO (whoO A (cM (S 64)) nh n nk)))), sM S a' b' q')
  | 0, i, k + 1, a, b, q, hi, hk => by
    refine ⟨a, b, q, ?_⟩
    have hie : i = nk := by omega
    subst hie
    rw [f_X10_who_b9]
    simp (disch := omega) only [fa_lit, nI_ad, nI_mul, nI_cl, inb_nI, nI_ltE, nI_leE, nI_eqE, nI_m1, nI_m1', m1_lt, lt_m1, m1_le, le_m1, eq_self, not_true_eq_false, not_false_eq_true, ↓reduceIte, leT, leF, ltT, ltF, eqT, eqF, decide_true, decide_false, true_and, and_true, Nat.reduceAdd, bI0_i, bI_i, bI_x, bV0_v, bV_v, bV_x, ↓bnd_e, gd_t, m_climbers, sM64, enk]
  | m + 1, i, k + 1, a, b, q, hi, hk => by
    obtain ⟨a0, b0, q0, h⟩ := m_canOf (F := F) (S := sM S a b q) hF (by omega : i < 4) (by rw [sM64]; exact hn) hn10 (by rw [sM64]; exact hh) hh6 (by rw [sM64]; exact hA) hW
    rw [sM_sM, sM64] at h
    have ih := fun a b q => m_who (A := A) hF hn hn10 hh hh6 enk hnk hA hW m (i + 1) k a b q (by omega) (by omega)
    rw [whoO] at ih
    rw [f_X10_who_b9]
    unfold f_X10_who_b42 f_X10_who_b71 f_X10_who_b73
    cases g2 : whoO A (cM (S 64)) nh n i with
    | none =>
      rw [g2] at ih
      obtain ⟨a2, b2, q2, ih⟩ := ih a0 b0 q0
      refine ⟨a2, b2, q2, ?_⟩
      obtain ⟨jj, hjj, ejj⟩ := bc_rng (reachV A (cM (S 64)) i nh n)
      simp (disch := omega) only [fa_lit, nI_ad, nI_mul, nI_cl, inb_nI, nI_ltE, nI_leE, nI_eqE, nI_m1, nI_m1', m1_lt, lt_m1, m1_le, le_m1, eq_self, not_true_eq_false, not_false_eq_true, ↓reduceIte, leT, leF, ltT, ltF, eqT, eqF, decide_true, decide_false, true_and, and_true, Nat.reduceAdd, bI0_i, bI_i, bI_x, bV0_v, bV_v, bV_x, ↓bnd_e, gd_t, m_climbers, sM64, enk, enc_none, m1_m1, le0_m1, h, bc_eq, ejj, m1_lt]
      exact ih
    | some b9 =>
      have hb := who_lt g2
      rw [g2] at ih
      obtain ⟨a1, b1, q1, h'⟩ := m_canOf (F := F) (S := sM S a0 b0 q0) hF (by omega : b9 < 4) (by rw [sM64]; exact hn) hn10 (by rw [sM64]; exact hh) hh6 (by rw [sM64]; exact hA) hW
      rw [sM_sM, sM64] at h'
      obtain ⟨a2, b2, q2, ih⟩ := ih a1 b1 q1
      refine ⟨a2, b2, q2, ?_⟩
      by_cases g3 : bcV (reachV A (cM (S 64)) b9 nh n) < bcV (reachV A (cM (S 64)) i nh n)
      · simp only [g3, ↓reduceIte] at ih
        simp (disch := omega) only [fa_lit, nI_ad, nI_mul, nI_cl, inb_nI, nI_ltE, nI_leE, nI_eqE, nI_m1, nI_m1', m1_lt, lt_m1, m1_le, le_m1, eq_self, not_true_eq_false, not_false_eq_true, ↓reduceIte, leT, leF, ltT, ltF, eqT, eqF, decide_true, decide_false, true_and, and_true, Nat.reduceAdd, bI0_i, bI_i, bI_x, bV0_v, bV_v, bV_x, ↓bnd_e, gd_t, m_climbers, sM64, enk, enc_some, whoM, h, bc_eq, h', m_ofClimber, nle_lt, g3]
        exact ih
      · by_cases g4 : bcV (reachV A (cM (S 64)) i nh n) = bcV (reachV A (cM (S 64)) b9 nh n)
        · by_cases g5 : cM (S 64) (78 + i * 2 + 0) < cM (S 64) (78 + b9 * 2 + 0)
          · simp only [g3, g4, g5, ↓reduceIte, not_true_eq_false, lt_self] at ih
            simp (disch := omega) only [fa_lit, nI_ad, nI_mul, nI_cl, inb_nI, nI_ltE, nI_leE, nI_eqE, nI_m1, nI_m1', m1_lt, lt_m1, m1_le, le_m1, eq_self, not_true_eq_false, not_false_eq_true, ↓reduceIte, leT, leF, ltT, ltF, eqT, eqF, decide_true, decide_false, true_and, and_true, Nat.reduceAdd, bI0_i, bI_i, bI_x, bV0_v, bV_v, bV_x, ↓bnd_e, gd_t, m_climbers, sM64, enk, enc_some, whoM, h, bc_eq, h', m_ofClimber, nle_lt, g3, g4, g5, bT, lt_self]
            exact ih
          · simp only [g3, g4, g5, ↓reduceIte, not_true_eq_false, lt_self] at ih
            simp (disch := omega) only [fa_lit, nI_ad, nI_mul, nI_cl, inb_nI, nI_ltE, nI_leE, nI_eqE, nI_m1, nI_m1', m1_lt, lt_m1, m1_le, le_m1, eq_self, not_true_eq_false, not_false_eq_true, ↓reduceIte, leT, leF, ltT, ltF, eqT, eqF, decide_true, decide_false, true_and, and_true, Nat.reduceAdd, bI0_i, bI_i, bI_x, bV0_v, bV_v, bV_x, ↓bnd_e, gd_t, m_climbers, sM64, enk, enc_some, whoM, h, bc_eq, h', m_ofClimber, nle_lt, g3, g4, g5, bF, lt_self]
            exact ih
        · simp only [g3, g4, ↓reduceIte, not_false_eq_true] at ih
          simp (disch := omega) only [fa_lit, nI_ad, nI_mul, nI_cl, inb_nI, nI_ltE, nI_leE, nI_eqE, nI_m1, nI_m1', m1_lt, lt_m1, m1_le, le_m1, eq_self, not_true_eq_false, not_false_eq_true, ↓reduceIte, leT, leF, ltT, ltF, eqT, eqF, decide_true, decide_false, true_and, and_true, Nat.reduceAdd, bI0_i, bI_i, bI_x, bV0_v, bV_v, bV_x, ↓bnd_e, gd_t, m_climbers, sM64, enk, enc_some, whoM, h, bc_eq, h', m_ofClimber, nle_lt, g3, g4]
          exact ih
theorem ag_who (hF : 6000 ≤ F) (hI : Inv S) : Ag (f_X9_who F) (f_X10_who F) [] S := by
  refine ag_ro hI (fun n nh nk A hn en hnh enh hnk enk hX hW hR => ?_)
  obtain ⟨p, q, h⟩ := x_who (F := F) (S := S) hF en hn enh hnh enk hnk hX hW nk 0 F (S 8) (S 9) (by omega) (by omega)
  rw [sX_id] at h
  refine ⟨.inl (some (.int (encO (whoO A (S 25) nh n nk)))), ⟨p, q, ?_⟩, fun U hC hM => ?_⟩
  · unfold f_X9_who 
    simp (disch := omega) only [fa_lit, nI_ad, nI_mul, nI_cl, inb_nI, nI_ltE, nI_leE, nI_eqE, nI_m1, nI_m1', m1_lt, lt_m1, m1_le, le_m1, eq_self, not_true_eq_false, not_false_eq_true, ↓reduceIte, leT, leF, ltT, ltF, eqT, eqF, decide_true, decide_false, true_and, and_true, Nat.reduceAdd, bI0_i, bI_i, bI_x, bV0_v, bV_v, bV_x, ↓bnd_e, gd_t, show f_X9_who_b6 F F (-nI 1) (nI 0) (nI 0) S = _ from h]
  · skip
    have en' : cM (U 64) 12 = nI n := by rw [hC]; exact en
    have enh' : cM (U 64) 13 = nI nh := by rw [hC]; exact enh
    have enk' : cM (U 64) 14 = nI nk := by rw [hC]; exact enk
    obtain ⟨a, b, q, h⟩ := m_who (F := F) (S := U) hF en' hn enh' hnh enk' hnk hM hW nk 0 F (U 63 18) (U 63 19) (U 71) (by omega) (by omega)
    rw [sM_id, hC] at h
    refine res_ok (a := a) (b' := b) (q := q) fun T hU => ?_
    unfold f_X10_who ; rw [bnd_e, show upS T 63 0 (0 : Int32) = U from hU.symm]
    simp (disch := omega) only [fa_lit, nI_ad, nI_mul, nI_cl, inb_nI, nI_ltE, nI_leE, nI_eqE, nI_m1, nI_m1', m1_lt, lt_m1, m1_le, le_m1, eq_self, not_true_eq_false, not_false_eq_true, ↓reduceIte, leT, leF, ltT, ltF, eqT, eqF, decide_true, decide_false, true_and, and_true, Nat.reduceAdd, bI0_i, bI_i, bI_x, bV0_v, bV_v, bV_x, ↓bnd_e, gd_t, and10, and00, m_throw0, m_throw, Bool.not_true, Bool.not_false, bT, bF, m_in, m_noWind, show f_X10_who_b9 F F (-nI 1) (nI 0) U = _ from h, hC]
def leavO (c : Nat → Int32) (n : Nat) (w : Int32) : Nat → Option Nat
  | 0 => none
  | s + 1 => if sumSV c (nI s) 4 n < w then leavO c n w s else match leavO c n w s with
    | none => some s
    | some b => if sumSV c (nI b) 2 n ≤ sumSV c (nI s) 2 n then some b else some s
theorem leav_lt {c : Nat → Int32} {n : Nat} {w : Int32} : ∀ {i b : Nat}, leavO c n w i = some b → b < i
  | 0, b, h => by cases h
  | i + 1, b, h => by
    rw [leavO] at h
    split at h
    · have := leav_lt h; omega
    · split at h
      · cases h; omega
      · rename_i b' hb
        have := leav_lt hb
        split at h <;> cases h <;> omega
def leavM (c : Nat → Int32) (n : Nat) (b : Option Nat) : Int32 := match b with
  | none => nI 0
  | some b => sumSV c (nI b) 2 n
theorem x_leave {w : Int32} {n N : Nat} (hF : 6000 ≤ F) (hn : S 25 12 = nI n) (hn10 : n ≤ 10) (hN : N = 2 ^ n) (hN1 : 1 ≤ N) (hN2 : N ≤ 1024) : ∀ (m i k : Nat), i + m = N → m < k →
    f_X9_leave_b14 F k w (encO (leavO (S 25) n w i)) (leavM (S 25) n (leavO (S 25) n w i)) (nI i) S = some (.inl (some (.int (encO (leavO (S 25) n w N)))), S)
  | 0, i, k + 1, hi, hk => by
    have hie : i = N := by omega
    subst hie
    rw [f_X9_leave_b14]
    simp (disch := omega) only [fa_lit, nI_ad, nI_mul, nI_cl, inb_nI, nI_ltE, nI_leE, nI_eqE, nI_m1, nI_m1', m1_lt, lt_m1, m1_le, le_m1, eq_self, not_true_eq_false, not_false_eq_true, ↓reduceIte, leT, leF, ltT, ltF, eqT, eqF, decide_true, decide_false, true_and, and_true, Nat.reduceAdd, bI0_i, bI_i, bI_x, bV0_v, bV_v, bV_x, ↓bnd_e, gd_t, x_ledgeSets hn hn10, ← hN, x_sumOf hF (by omega : 2 < 5) hn hn10, x_sumOf hF (by omega : 4 < 5) hn hn10]
  | m + 1, i, k + 1, hi, hk => by
    have ih := x_leave (w := w) hF hn hn10 hN hN1 hN2 m (i + 1) k (by omega) (by omega)
    rw [leavO] at ih
    rw [f_X9_leave_b14]
    unfold f_X9_leave_b54 f_X9_leave_b60
    by_cases g : sumSV (S 25) (nI i) 4 n < w
    · rw [if_pos g] at ih
      simp (disch := omega) only [fa_lit, nI_ad, nI_mul, nI_cl, inb_nI, nI_ltE, nI_leE, nI_eqE, nI_m1, nI_m1', m1_lt, lt_m1, m1_le, le_m1, eq_self, not_true_eq_false, not_false_eq_true, ↓reduceIte, leT, leF, ltT, ltF, eqT, eqF, decide_true, decide_false, true_and, and_true, Nat.reduceAdd, bI0_i, bI_i, bI_x, bV0_v, bV_v, bV_x, ↓bnd_e, gd_t, x_ledgeSets hn hn10, ← hN, x_sumOf hF (by omega : 2 < 5) hn hn10, x_sumOf hF (by omega : 4 < 5) hn hn10, g]
      exact ih
    · rw [if_neg g] at ih
      cases g2 : leavO (S 25) n w i with
      | none =>
        rw [g2] at ih
        simp (disch := omega) only [fa_lit, nI_ad, nI_mul, nI_cl, inb_nI, nI_ltE, nI_leE, nI_eqE, nI_m1, nI_m1', m1_lt, lt_m1, m1_le, le_m1, eq_self, not_true_eq_false, not_false_eq_true, ↓reduceIte, leT, leF, ltT, ltF, eqT, eqF, decide_true, decide_false, true_and, and_true, Nat.reduceAdd, bI0_i, bI_i, bI_x, bV0_v, bV_v, bV_x, ↓bnd_e, gd_t, x_ledgeSets hn hn10, ← hN, x_sumOf hF (by omega : 2 < 5) hn hn10, x_sumOf hF (by omega : 4 < 5) hn hn10, enc_none, m1_m1, m1_lt0, g]
        exact ih
      | some b =>
        have hb := leav_lt g2
        rw [g2] at ih
        by_cases g3 : sumSV (S 25) (nI b) 2 n ≤ sumSV (S 25) (nI i) 2 n
        · simp only [g3, ↓reduceIte] at ih
          simp (disch := omega) only [fa_lit, nI_ad, nI_mul, nI_cl, inb_nI, nI_ltE, nI_leE, nI_eqE, nI_m1, nI_m1', m1_lt, lt_m1, m1_le, le_m1, eq_self, not_true_eq_false, not_false_eq_true, ↓reduceIte, leT, leF, ltT, ltF, eqT, eqF, decide_true, decide_false, true_and, and_true, Nat.reduceAdd, bI0_i, bI_i, bI_x, bV0_v, bV_v, bV_x, ↓bnd_e, gd_t, x_ledgeSets hn hn10, ← hN, x_sumOf hF (by omega : 2 < 5) hn hn10, x_sumOf hF (by omega : 4 < 5) hn hn10, enc_some, leavM, g, g3]
          exact ih
        · simp only [g3, ↓reduceIte] at ih
          simp (disch := omega) only [fa_lit, nI_ad, nI_mul, nI_cl, inb_nI, nI_ltE, nI_leE, nI_eqE, nI_m1, nI_m1', m1_lt, lt_m1, m1_le, le_m1, eq_self, not_true_eq_false, not_false_eq_true, ↓reduceIte, leT, leF, ltT, ltF, eqT, eqF, decide_true, decide_false, true_and, and_true, Nat.reduceAdd, bI0_i, bI_i, bI_x, bV0_v, bV_v, bV_x, ↓bnd_e, gd_t, x_ledgeSets hn hn10, ← hN, x_sumOf hF (by omega : 2 < 5) hn hn10, x_sumOf hF (by omega : 4 < 5) hn hn10, enc_some, leavM, g, g3]
          exact ih
theorem m_leave {w : Int32} {n N : Nat} (hF : 6000 ≤ F) (hn : cM (S 64) 12 = nI n) (hn10 : n ≤ 10) (hN : N = 2 ^ n) (hN1 : 1 ≤ N) (hN2 : N ≤ 1024) : ∀ (m i k : Nat), i + m = N → m < k →
    f_X10_leave_b34 F k w (encO (leavO (cM (S 64)) n w i)) (nI i) S = some (.inl (some (.int (encO (leavO (cM (S 64)) n w N)))), S)
  | 0, i, k + 1, hi, hk => by
    have hie : i = N := by omega
    subst hie
    rw [f_X10_leave_b34]
    simp (disch := omega) only [fa_lit, nI_ad, nI_mul, nI_cl, inb_nI, nI_ltE, nI_leE, nI_eqE, nI_m1, nI_m1', m1_lt, lt_m1, m1_le, le_m1, eq_self, not_true_eq_false, not_false_eq_true, ↓reduceIte, leT, leF, ltT, ltF, eqT, eqF, decide_true, decide_false, true_and, and_true, Nat.reduceAdd, bI0_i, bI_i, bI_x, bV0_v, bV_v, bV_x, ↓bnd_e, gd_t, m_allLedges hn hn10, ← hN, m_sumIn hF (by omega : 2 < 5) hn hn10, m_sumIn hF (by omega : 4 < 5) hn hn10]
  | m + 1, i, k + 1, hi, hk => by
    have ih := m_leave (w := w) hF hn hn10 hN hN1 hN2 m (i + 1) k (by omega) (by omega)
    rw [leavO] at ih
    rw [f_X10_leave_b34]
    unfold f_X10_leave_b71 f_X10_leave_b73
    by_cases g : sumSV (cM (S 64)) (nI i) 4 n < w
    · rw [if_pos g] at ih
      simp (disch := omega) only [fa_lit, nI_ad, nI_mul, nI_cl, inb_nI, nI_ltE, nI_leE, nI_eqE, nI_m1, nI_m1', m1_lt, lt_m1, m1_le, le_m1, eq_self, not_true_eq_false, not_false_eq_true, ↓reduceIte, leT, leF, ltT, ltF, eqT, eqF, decide_true, decide_false, true_and, and_true, Nat.reduceAdd, bI0_i, bI_i, bI_x, bV0_v, bV_v, bV_x, ↓bnd_e, gd_t, m_allLedges hn hn10, ← hN, m_sumIn hF (by omega : 2 < 5) hn hn10, m_sumIn hF (by omega : 4 < 5) hn hn10, g]
      exact ih
    · rw [if_neg g] at ih
      cases g2 : leavO (cM (S 64)) n w i with
      | none =>
        rw [g2] at ih
        simp (disch := omega) only [fa_lit, nI_ad, nI_mul, nI_cl, inb_nI, nI_ltE, nI_leE, nI_eqE, nI_m1, nI_m1', m1_lt, lt_m1, m1_le, le_m1, eq_self, not_true_eq_false, not_false_eq_true, ↓reduceIte, leT, leF, ltT, ltF, eqT, eqF, decide_true, decide_false, true_and, and_true, Nat.reduceAdd, bI0_i, bI_i, bI_x, bV0_v, bV_v, bV_x, ↓bnd_e, gd_t, m_allLedges hn hn10, ← hN, m_sumIn hF (by omega : 2 < 5) hn hn10, m_sumIn hF (by omega : 4 < 5) hn hn10, enc_none, m1_m1, m1_lt0, g]
        exact ih
      | some b =>
        have hb := leav_lt g2
        rw [g2] at ih
        by_cases g3 : sumSV (cM (S 64)) (nI b) 2 n ≤ sumSV (cM (S 64)) (nI i) 2 n
        · simp only [g3, ↓reduceIte] at ih
          simp (disch := omega) only [fa_lit, nI_ad, nI_mul, nI_cl, inb_nI, nI_ltE, nI_leE, nI_eqE, nI_m1, nI_m1', m1_lt, lt_m1, m1_le, le_m1, eq_self, not_true_eq_false, not_false_eq_true, ↓reduceIte, leT, leF, ltT, ltF, eqT, eqF, decide_true, decide_false, true_and, and_true, Nat.reduceAdd, bI0_i, bI_i, bI_x, bV0_v, bV_v, bV_x, ↓bnd_e, gd_t, m_allLedges hn hn10, ← hN, m_sumIn hF (by omega : 2 < 5) hn hn10, m_sumIn hF (by omega : 4 < 5) hn hn10, enc_some, leavM, g, g3]
          exact ih
        · simp only [g3, ↓reduceIte] at ih
          simp (disch := omega) only [fa_lit, nI_ad, nI_mul, nI_cl, inb_nI, nI_ltE, nI_leE, nI_eqE, nI_m1, nI_m1', m1_lt, lt_m1, m1_le, le_m1, eq_self, not_true_eq_false, not_false_eq_true, ↓reduceIte, leT, leF, ltT, ltF, eqT, eqF, decide_true, decide_false, true_and, and_true, Nat.reduceAdd, bI0_i, bI_i, bI_x, bV0_v, bV_v, bV_x, ↓bnd_e, gd_t, m_allLedges hn hn10, ← hN, m_sumIn hF (by omega : 2 < 5) hn hn10, m_sumIn hF (by omega : 4 < 5) hn hn10, enc_some, leavM, g, g3]
          exact ih
theorem ag_leave {p1 : Int32} (hF : 6000 ≤ F) (hI : Inv S) : Ag (f_X9_leave F p1) (f_X10_leave F p1) [1] S := by
  refine ag_ro hI (fun n nh nk A hn en hnh enh hnk enk hX hW hR => ?_)
  by_cases g_p1 : nI 0 ≤ p1 ∧ p1 ≤ nI 90
  · skip
    have hp := pow10 hn
    have h := x_leave (F := F) (S := S) (w := p1) hF en hn rfl pow_pos' hp (2 ^ n) 0 F (by omega) (by omega)
    refine ⟨.inl (some (.int (encO (leavO (S 25) n p1 (2 ^ n))))), idX ?_, fun U hC hM => ?_⟩
    · unfold f_X9_leave 
      simp (disch := omega) only [fa_lit, nI_ad, nI_mul, nI_cl, inb_nI, nI_ltE, nI_leE, nI_eqE, nI_m1, nI_m1', m1_lt, lt_m1, m1_le, le_m1, eq_self, not_true_eq_false, not_false_eq_true, ↓reduceIte, leT, leF, ltT, ltF, eqT, eqF, decide_true, decide_false, true_and, and_true, Nat.reduceAdd, bI0_i, bI_i, bI_x, bV0_v, bV_v, bV_x, ↓bnd_e, gd_t, x_need g_p1, show f_X9_leave_b14 F F p1 (-nI 1) (nI 0) (nI 0) S = _ from h]
    · skip
      have en' : cM (U 64) 12 = nI n := by rw [hC]; exact en
      have enh' : cM (U 64) 13 = nI nh := by rw [hC]; exact enh
      have enk' : cM (U 64) 14 = nI nk := by rw [hC]; exact enk
      have d_p1 : decide (nI 0 ≤ p1 ∧ p1 ≤ nI 90) = true := decide_eq_true g_p1
      have h := m_leave (F := F) (S := U) (w := p1) hF en' hn rfl pow_pos' hp (2 ^ n) 0 F (by omega) (by omega)
      rw [hC] at h
      refine res_ok' fun T hU => ?_
      unfold f_X10_leave f_X10_leave_b21; rw [bnd_e, show upS T 63 0 (0 : Int32) = U from hU.symm]
      simp (disch := omega) only [fa_lit, nI_ad, nI_mul, nI_cl, inb_nI, nI_ltE, nI_leE, nI_eqE, nI_m1, nI_m1', m1_lt, lt_m1, m1_le, le_m1, eq_self, not_true_eq_false, not_false_eq_true, ↓reduceIte, leT, leF, ltT, ltF, eqT, eqF, decide_true, decide_false, true_and, and_true, Nat.reduceAdd, bI0_i, bI_i, bI_x, bV0_v, bV_v, bV_x, ↓bnd_e, gd_t, and10, and00, m_throw0, m_throw, Bool.not_true, Bool.not_false, bT, bF, d_p1, m_in, m_noWind, show f_X10_leave_b34 F F p1 (-nI 1) (nI 0) U = _ from h, hC]
  · refine ⟨.inr 1, idX ?_, fun U hC hM => res_ex (b := nI 0) 0 rfl (by omega) fun T hU => ?_⟩
    · unfold f_X9_leave 
      simp (disch := omega) only [fa_lit, nI_ad, nI_mul, nI_cl, inb_nI, nI_ltE, nI_leE, nI_eqE, nI_m1, nI_m1', m1_lt, lt_m1, m1_le, le_m1, eq_self, not_true_eq_false, not_false_eq_true, ↓reduceIte, leT, leF, ltT, ltF, eqT, eqF, decide_true, decide_false, true_and, and_true, Nat.reduceAdd, bI0_i, bI_i, bI_x, bV0_v, bV_v, bV_x, ↓bnd_e, gd_t, x_need_x g_p1]
    · unfold f_X10_leave f_X10_leave_b21; rw [bnd_e, show upS T 63 0 (0 : Int32) = U from hU.symm]
      have en' : cM (U 64) 12 = nI n := by rw [hC]; exact en
      have enh' : cM (U 64) 13 = nI nh := by rw [hC]; exact enh
      have enk' : cM (U 64) 14 = nI nk := by rw [hC]; exact enk
      have d_p1 : decide (nI 0 ≤ p1 ∧ p1 ≤ nI 90) = false := decide_eq_false g_p1
      simp (disch := omega) only [fa_lit, nI_ad, nI_mul, nI_cl, inb_nI, nI_ltE, nI_leE, nI_eqE, nI_m1, nI_m1', m1_lt, lt_m1, m1_le, le_m1, eq_self, not_true_eq_false, not_false_eq_true, ↓reduceIte, leT, leF, ltT, ltF, eqT, eqF, decide_true, decide_false, true_and, and_true, Nat.reduceAdd, bI0_i, bI_i, bI_x, bV0_v, bV_v, bV_x, ↓bnd_e, gd_t, and10, and00, m_throw0, m_throw, Bool.not_true, Bool.not_false, bT, bF, d_p1, m_in, m_noWind]
end O
