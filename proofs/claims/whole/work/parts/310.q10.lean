/-! calls that only look, first lot -/
theorem res_ok {U : mS} {fM : mS → Option mR} {b a b' : Int32} {q : Nat → Int32} {cs : List Nat} (h : ∀ T, U = upS T 63 0 (nI 0) → fM T = some (.inl (some (.int b)), sM U a b' q)) :
    ∃ b0 t a b' q, (∀ T, U = upS T 63 0 (nI 0) → fM T = some (.inl (some (.int b0)), sM (upS U 63 0 t) a b' q)) ∧ Res (.inl (some (.int b))) b0 t cs := by
  refine ⟨b, nI 0, a, b', q, fun T hT => ?_, rfl, rfl⟩
  rw [h T hT]
  have e : upS U 63 0 (nI 0) = U := by
    rw [hT]; unfold upS; rw [seS_seS, seS_s, upd_upd]
  rw [e]
theorem res_ok' {U : mS} {fM : mS → Option mR} {b : Int32} {cs : List Nat} (h : ∀ T, U = upS T 63 0 (nI 0) → fM T = some (.inl (some (.int b)), U)) :
    ∃ b0 t a b' q, (∀ T, U = upS T 63 0 (nI 0) → fM T = some (.inl (some (.int b0)), sM (upS U 63 0 t) a b' q)) ∧ Res (.inl (some (.int b))) b0 t cs :=
  res_ok (a := U 63 18) (b' := U 63 19) (q := U 71) (fun T hT => by rw [h T hT, sM_id])
theorem res_ex {U : mS} {fM : mS → Option mR} {b : Int32} {cs : List Nat} (j : Nat) {e : Nat} (hj : cs[j]? = some e) (hj8 : j < 8) (h : ∀ T, U = upS T 63 0 (nI 0) → fM T = some (.inl (some (.int b)), upS U 63 0 (nI (j + 1)))) :
    ∃ b0 t a b' q, (∀ T, U = upS T 63 0 (nI 0) → fM T = some (.inl (some (.int b0)), sM (upS U 63 0 t) a b' q)) ∧ Res (.inr e) b0 t cs :=
  ⟨b, nI (j + 1), (upS U 63 0 (nI (j + 1))) 63 18, (upS U 63 0 (nI (j + 1))) 63 19, (upS U 63 0 (nI (j + 1))) 71, fun T hT => by rw [h T hT, sM_id], j, hj, hj8, rfl⟩
theorem idX {S : mS} {fX : mS → Option mR} {r1 : Option Value ⊕ Nat} (h : fX S = some (r1, S)) : ∃ p q, fX S = some (r1, sX S p q) := ⟨S 8, S 9, by rw [h, sX_id]⟩
section O
variable {F : Nat} {S : mS}
theorem ag_kicks {p1 p2 : Int32} (hF : 6000 ≤ F) (hI : Inv S) : Ag (f_X9_kicks F p1 p2) (f_X10_kicks F p1 p2) [3, 1] S := by
  refine ag_ro hI (fun n nh nk A hn en hnh enh hnk enk hX hW hR => ?_)
  by_cases g_p1 : ∃ z, z < n ∧ p1 = nI z
  · obtain ⟨l, h_p1, rfl⟩ := g_p1
    by_cases g_p2 : nI 0 ≤ p2 ∧ p2 ≤ nI 9
    · skip
      obtain ⟨p, q, h⟩ := x_kicksTo (F := F) (u := 24) (wind := p2) (by omega) (by omega) (by omega : l < 10) hX hW
      refine ⟨.inl (some (.int (kicksV A (S 25) l p2))), ⟨p, q, ?_⟩, fun U hC hM => ?_⟩
      · unfold f_X9_kicks 
        simp (disch := omega) only [fa_lit, nI_ad, nI_mul, nI_cl, inb_nI, nI_ltE, nI_leE, nI_eqE, nI_m1, nI_m1', m1_lt, lt_m1, m1_le, le_m1, eq_self, not_true_eq_false, not_false_eq_true, ↓reduceIte, leT, leF, ltT, ltF, eqT, eqF, decide_true, decide_false, true_and, and_true, Nat.reduceAdd, bI0_i, bI_i, bI_x, bV0_v, bV_v, bV_x, ↓bnd_e, gd_t, x_needLedge hn en h_p1, x_need g_p2, h]
      · skip
        have en' : cM (U 64) 12 = nI n := by rw [hC]; exact en
        have enh' : cM (U 64) 13 = nI nh := by rw [hC]; exact enh
        have enk' : cM (U 64) 14 = nI nk := by rw [hC]; exact enk
        have d_p2 : decide (nI 0 ≤ p2 ∧ p2 ≤ nI 9) = true := decide_eq_true g_p2
        obtain ⟨a, b, q, h⟩ := m_kicksTo (F := F) (S := U) (wind := p2) (by omega) (by omega : l < 10) hM hW
        refine res_ok (a := a) (b' := b) (q := q) fun T hU => ?_
        unfold f_X10_kicks f_X10_kicks_b30 f_X10_kicks_b40; rw [bnd_e, show upS T 63 0 (0 : Int32) = U from hU.symm]
        simp (disch := omega) only [fa_lit, nI_ad, nI_mul, nI_cl, inb_nI, nI_ltE, nI_leE, nI_eqE, nI_m1, nI_m1', m1_lt, lt_m1, m1_le, le_m1, eq_self, not_true_eq_false, not_false_eq_true, ↓reduceIte, leT, leF, ltT, ltF, eqT, eqF, decide_true, decide_false, true_and, and_true, Nat.reduceAdd, bI0_i, bI_i, bI_x, bV0_v, bV_v, bV_x, ↓bnd_e, gd_t, and10, and00, m_throw0, m_throw, Bool.not_true, Bool.not_false, bT, bF, m_noLedge hn en' h_p1, d_p2, m_in, m_noWind, h, hC]
    · refine ⟨.inr 1, idX ?_, fun U hC hM => res_ex (b := nI 0) 1 rfl (by omega) fun T hU => ?_⟩
      · unfold f_X9_kicks 
        simp (disch := omega) only [fa_lit, nI_ad, nI_mul, nI_cl, inb_nI, nI_ltE, nI_leE, nI_eqE, nI_m1, nI_m1', m1_lt, lt_m1, m1_le, le_m1, eq_self, not_true_eq_false, not_false_eq_true, ↓reduceIte, leT, leF, ltT, ltF, eqT, eqF, decide_true, decide_false, true_and, and_true, Nat.reduceAdd, bI0_i, bI_i, bI_x, bV0_v, bV_v, bV_x, ↓bnd_e, gd_t, x_needLedge hn en h_p1, x_need_x g_p2]
      · unfold f_X10_kicks f_X10_kicks_b30 f_X10_kicks_b40; rw [bnd_e, show upS T 63 0 (0 : Int32) = U from hU.symm]
        have en' : cM (U 64) 12 = nI n := by rw [hC]; exact en
        have enh' : cM (U 64) 13 = nI nh := by rw [hC]; exact enh
        have enk' : cM (U 64) 14 = nI nk := by rw [hC]; exact enk
        have d_p2 : decide (nI 0 ≤ p2 ∧ p2 ≤ nI 9) = false := decide_eq_false g_p2
        simp (disch := omega) only [fa_lit, nI_ad, nI_mul, nI_cl, inb_nI, nI_ltE, nI_leE, nI_eqE, nI_m1, nI_m1', m1_lt, lt_m1, m1_le, le_m1, eq_self, not_true_eq_false, not_false_eq_true, ↓reduceIte, leT, leF, ltT, ltF, eqT, eqF, decide_true, decide_false, true_and, and_true, Nat.reduceAdd, bI0_i, bI_i, bI_x, bV0_v, bV_v, bV_x, ↓bnd_e, gd_t, and10, and00, m_throw0, m_throw, Bool.not_true, Bool.not_false, bT, bF, m_noLedge hn en' h_p1, d_p2, m_in, m_noWind]
  · refine ⟨.inr 3, idX ?_, fun U hC hM => res_ex (b := nI 0) 0 rfl (by omega) fun T hU => ?_⟩
    · unfold f_X9_kicks 
      simp (disch := omega) only [fa_lit, nI_ad, nI_mul, nI_cl, inb_nI, nI_ltE, nI_leE, nI_eqE, nI_m1, nI_m1', m1_lt, lt_m1, m1_le, le_m1, eq_self, not_true_eq_false, not_false_eq_true, ↓reduceIte, leT, leF, ltT, ltF, eqT, eqF, decide_true, decide_false, true_and, and_true, Nat.reduceAdd, bI0_i, bI_i, bI_x, bV0_v, bV_v, bV_x, ↓bnd_e, gd_t, x_needLedge_x hn en g_p1]
    · unfold f_X10_kicks f_X10_kicks_b30 f_X10_kicks_b40; rw [bnd_e, show upS T 63 0 (0 : Int32) = U from hU.symm]
      have en' : cM (U 64) 12 = nI n := by rw [hC]; exact en
      have enh' : cM (U 64) 13 = nI nh := by rw [hC]; exact enh
      have enk' : cM (U 64) 14 = nI nk := by rw [hC]; exact enk
      simp (disch := omega) only [fa_lit, nI_ad, nI_mul, nI_cl, inb_nI, nI_ltE, nI_leE, nI_eqE, nI_m1, nI_m1', m1_lt, lt_m1, m1_le, le_m1, eq_self, not_true_eq_false, not_false_eq_true, ↓reduceIte, leT, leF, ltT, ltF, eqT, eqF, decide_true, decide_false, true_and, and_true, Nat.reduceAdd, bI0_i, bI_i, bI_x, bV0_v, bV_v, bV_x, ↓bnd_e, gd_t, and10, and00, m_throw0, m_throw, Bool.not_true, Bool.not_false, bT, bF, m_noLedge_x hn en' g_p1, m_in, m_noWind]
theorem ag_swing {p1 p2 p3 : Int32} (hF : 6000 ≤ F) (hI : Inv S) : Ag (f_X9_swing F p1 p2 p3) (f_X10_swing F p1 p2 p3) [3, 1] S := by
  refine ag_ro hI (fun n nh nk A hn en hnh enh hnk enk hX hW hR => ?_)
  by_cases g_p1 : ∃ z, z < n ∧ p1 = nI z
  · obtain ⟨l, h_p1, rfl⟩ := g_p1
    by_cases g_p2 : nI 1 ≤ p2 ∧ p2 ≤ nI 12
    · skip
      by_cases g_p3 : nI 0 ≤ p3 ∧ p3 ≤ nI 9
      · skip
        obtain ⟨p, q, h⟩ := x_swingOf (F := F) (u := 24) (kick := p2) (wind := p3) (by omega) (by omega) (by omega : l < 10) hX hW
        refine ⟨.inl (some (.int (swingV A (S 25) l p2 p3))), ⟨p, q, ?_⟩, fun U hC hM => ?_⟩
        · unfold f_X9_swing 
          simp (disch := omega) only [fa_lit, nI_ad, nI_mul, nI_cl, inb_nI, nI_ltE, nI_leE, nI_eqE, nI_m1, nI_m1', m1_lt, lt_m1, m1_le, le_m1, eq_self, not_true_eq_false, not_false_eq_true, ↓reduceIte, leT, leF, ltT, ltF, eqT, eqF, decide_true, decide_false, true_and, and_true, Nat.reduceAdd, bI0_i, bI_i, bI_x, bV0_v, bV_v, bV_x, ↓bnd_e, gd_t, x_needLedge hn en h_p1, x_need g_p2, x_need g_p3, h]
        · skip
          have en' : cM (U 64) 12 = nI n := by rw [hC]; exact en
          have enh' : cM (U 64) 13 = nI nh := by rw [hC]; exact enh
          have enk' : cM (U 64) 14 = nI nk := by rw [hC]; exact enk
          have d_p2 : decide (nI 1 ≤ p2 ∧ p2 ≤ nI 12) = true := decide_eq_true g_p2
          have d_p3 : decide (nI 0 ≤ p3 ∧ p3 ≤ nI 9) = true := decide_eq_true g_p3
          obtain ⟨a, b, q, h⟩ := m_swingOf (F := F) (S := U) (kick := p2) (wind := p3) (by omega) (by omega : l < 10) hM hW
          refine res_ok (a := a) (b' := b) (q := q) fun T hU => ?_
          unfold f_X10_swing f_X10_swing_b36 f_X10_swing_b41 f_X10_swing_b48 f_X10_swing_b59; rw [bnd_e, show upS T 63 0 (0 : Int32) = U from hU.symm]
          simp (disch := omega) only [fa_lit, nI_ad, nI_mul, nI_cl, inb_nI, nI_ltE, nI_leE, nI_eqE, nI_m1, nI_m1', m1_lt, lt_m1, m1_le, le_m1, eq_self, not_true_eq_false, not_false_eq_true, ↓reduceIte, leT, leF, ltT, ltF, eqT, eqF, decide_true, decide_false, true_and, and_true, Nat.reduceAdd, bI0_i, bI_i, bI_x, bV0_v, bV_v, bV_x, ↓bnd_e, gd_t, and10, and00, m_throw0, m_throw, Bool.not_true, Bool.not_false, bT, bF, m_noLedge hn en' h_p1, d_p2, d_p3, m_in, m_noWind, h, hC]
      · refine ⟨.inr 1, idX ?_, fun U hC hM => res_ex (b := nI 0) 1 rfl (by omega) fun T hU => ?_⟩
        · unfold f_X9_swing 
          simp (disch := omega) only [fa_lit, nI_ad, nI_mul, nI_cl, inb_nI, nI_ltE, nI_leE, nI_eqE, nI_m1, nI_m1', m1_lt, lt_m1, m1_le, le_m1, eq_self, not_true_eq_false, not_false_eq_true, ↓reduceIte, leT, leF, ltT, ltF, eqT, eqF, decide_true, decide_false, true_and, and_true, Nat.reduceAdd, bI0_i, bI_i, bI_x, bV0_v, bV_v, bV_x, ↓bnd_e, gd_t, x_needLedge hn en h_p1, x_need g_p2, x_need_x g_p3]
        · unfold f_X10_swing f_X10_swing_b36 f_X10_swing_b41 f_X10_swing_b48 f_X10_swing_b59; rw [bnd_e, show upS T 63 0 (0 : Int32) = U from hU.symm]
          have en' : cM (U 64) 12 = nI n := by rw [hC]; exact en
          have enh' : cM (U 64) 13 = nI nh := by rw [hC]; exact enh
          have enk' : cM (U 64) 14 = nI nk := by rw [hC]; exact enk
          have d_p2 : decide (nI 1 ≤ p2 ∧ p2 ≤ nI 12) = true := decide_eq_true g_p2
          have d_p3 : decide (nI 0 ≤ p3 ∧ p3 ≤ nI 9) = false := decide_eq_false g_p3
          simp (disch := omega) only [fa_lit, nI_ad, nI_mul, nI_cl, inb_nI, nI_ltE, nI_leE, nI_eqE, nI_m1, nI_m1', m1_lt, lt_m1, m1_le, le_m1, eq_self, not_true_eq_false, not_false_eq_true, ↓reduceIte, leT, leF, ltT, ltF, eqT, eqF, decide_true, decide_false, true_and, and_true, Nat.reduceAdd, bI0_i, bI_i, bI_x, bV0_v, bV_v, bV_x, ↓bnd_e, gd_t, and10, and00, m_throw0, m_throw, Bool.not_true, Bool.not_false, bT, bF, m_noLedge hn en' h_p1, d_p2, d_p3, m_in, m_noWind]
    · refine ⟨.inr 1, idX ?_, fun U hC hM => res_ex (b := nI 0) 1 rfl (by omega) fun T hU => ?_⟩
      · unfold f_X9_swing 
        simp (disch := omega) only [fa_lit, nI_ad, nI_mul, nI_cl, inb_nI, nI_ltE, nI_leE, nI_eqE, nI_m1, nI_m1', m1_lt, lt_m1, m1_le, le_m1, eq_self, not_true_eq_false, not_false_eq_true, ↓reduceIte, leT, leF, ltT, ltF, eqT, eqF, decide_true, decide_false, true_and, and_true, Nat.reduceAdd, bI0_i, bI_i, bI_x, bV0_v, bV_v, bV_x, ↓bnd_e, gd_t, x_needLedge hn en h_p1, x_need_x g_p2]
      · unfold f_X10_swing f_X10_swing_b36 f_X10_swing_b41 f_X10_swing_b48 f_X10_swing_b59; rw [bnd_e, show upS T 63 0 (0 : Int32) = U from hU.symm]
        have en' : cM (U 64) 12 = nI n := by rw [hC]; exact en
        have enh' : cM (U 64) 13 = nI nh := by rw [hC]; exact enh
        have enk' : cM (U 64) 14 = nI nk := by rw [hC]; exact enk
        have d_p2 : decide (nI 1 ≤ p2 ∧ p2 ≤ nI 12) = false := decide_eq_false g_p2
        simp (disch := omega) only [fa_lit, nI_ad, nI_mul, nI_cl, inb_nI, nI_ltE, nI_leE, nI_eqE, nI_m1, nI_m1', m1_lt, lt_m1, m1_le, le_m1, eq_self, not_true_eq_false, not_false_eq_true, ↓reduceIte, leT, leF, ltT, ltF, eqT, eqF, decide_true, decide_false, true_and, and_true, Nat.reduceAdd, bI0_i, bI_i, bI_x, bV0_v, bV_v, bV_x, ↓bnd_e, gd_t, and10, and00, m_throw0, m_throw, Bool.not_true, Bool.not_false, bT, bF, m_noLedge hn en' h_p1, d_p2, m_in, m_noWind]
  · refine ⟨.inr 3, idX ?_, fun U hC hM => res_ex (b := nI 0) 0 rfl (by omega) fun T hU => ?_⟩
    · unfold f_X9_swing 
      simp (disch := omega) only [fa_lit, nI_ad, nI_mul, nI_cl, inb_nI, nI_ltE, nI_leE, nI_eqE, nI_m1, nI_m1', m1_lt, lt_m1, m1_le, le_m1, eq_self, not_true_eq_false, not_false_eq_true, ↓reduceIte, leT, leF, ltT, ltF, eqT, eqF, decide_true, decide_false, true_and, and_true, Nat.reduceAdd, bI0_i, bI_i, bI_x, bV0_v, bV_v, bV_x, ↓bnd_e, gd_t, x_needLedge_x hn en g_p1]
    · unfold f_X10_swing f_X10_swing_b36 f_X10_swing_b41 f_X10_swing_b48 f_X10_swing_b59; rw [bnd_e, show upS T 63 0 (0 : Int32) = U from hU.symm]
      have en' : cM (U 64) 12 = nI n := by rw [hC]; exact en
      have enh' : cM (U 64) 13 = nI nh := by rw [hC]; exact enh
      have enk' : cM (U 64) 14 = nI nk := by rw [hC]; exact enk
      simp (disch := omega) only [fa_lit, nI_ad, nI_mul, nI_cl, inb_nI, nI_ltE, nI_leE, nI_eqE, nI_m1, nI_m1', m1_lt, lt_m1, m1_le, le_m1, eq_self, not_true_eq_false, not_false_eq_true, ↓reduceIte, leT, leF, ltT, ltF, eqT, eqF, decide_true, decide_false, true_and, and_true, Nat.reduceAdd, bI0_i, bI_i, bI_x, bV0_v, bV_v, bV_x, ↓bnd_e, gd_t, and10, and00, m_throw0, m_throw, Bool.not_true, Bool.not_false, bT, bF, m_noLedge_x hn en' g_p1, m_in, m_noWind]
theorem ag_load {p1 p2 : Int32} (hI : Inv S) : Ag (f_X9_load p1 p2) (f_X10_load p1 p2) [3] S := by
  refine ag_ro hI (fun n nh nk A hn en hnh enh hnk enk hX hW hR => ?_)
  by_cases g_p1 : ∃ z, z < nk ∧ p1 = nI z
  · obtain ⟨k, h_p1, rfl⟩ := g_p1
    by_cases g_p2 : ∃ z, z < n ∧ p2 = nI z
    · obtain ⟨l, h_p2, rfl⟩ := g_p2
      refine ⟨.inl (some (.int (loadV (S 25) k l))), idX ?_, fun U hC hM => ?_⟩
      · unfold f_X9_load 
        simp (disch := omega) only [fa_lit, nI_ad, nI_mul, nI_cl, inb_nI, nI_ltE, nI_leE, nI_eqE, nI_m1, nI_m1', m1_lt, lt_m1, m1_le, le_m1, eq_self, not_true_eq_false, not_false_eq_true, ↓reduceIte, leT, leF, ltT, ltF, eqT, eqF, decide_true, decide_false, true_and, and_true, Nat.reduceAdd, bI0_i, bI_i, bI_x, bV0_v, bV_v, bV_x, ↓bnd_e, gd_t, x_needClimber hnk enk h_p1, x_needLedge hn en h_p2, x_loadOf]
      · skip
        have en' : cM (U 64) 12 = nI n := by rw [hC]; exact en
        have enh' : cM (U 64) 13 = nI nh := by rw [hC]; exact enh
        have enk' : cM (U 64) 14 = nI nk := by rw [hC]; exact enk
        refine res_ok' fun T hU => ?_
        unfold f_X10_load f_X10_load_b29; rw [bnd_e, show upS T 63 0 (0 : Int32) = U from hU.symm]
        simp (disch := omega) only [fa_lit, nI_ad, nI_mul, nI_cl, inb_nI, nI_ltE, nI_leE, nI_eqE, nI_m1, nI_m1', m1_lt, lt_m1, m1_le, le_m1, eq_self, not_true_eq_false, not_false_eq_true, ↓reduceIte, leT, leF, ltT, ltF, eqT, eqF, decide_true, decide_false, true_and, and_true, Nat.reduceAdd, bI0_i, bI_i, bI_x, bV0_v, bV_v, bV_x, ↓bnd_e, gd_t, and10, and00, m_throw0, m_throw, Bool.not_true, Bool.not_false, bT, bF, m_noBoth hn en' h_p2 hnk enk' h_p1, m_in, m_noWind, m_loadOf, hC]
    · refine ⟨.inr 3, idX ?_, fun U hC hM => res_ex (b := nI 0) 0 rfl (by omega) fun T hU => ?_⟩
      · unfold f_X9_load 
        simp (disch := omega) only [fa_lit, nI_ad, nI_mul, nI_cl, inb_nI, nI_ltE, nI_leE, nI_eqE, nI_m1, nI_m1', m1_lt, lt_m1, m1_le, le_m1, eq_self, not_true_eq_false, not_false_eq_true, ↓reduceIte, leT, leF, ltT, ltF, eqT, eqF, decide_true, decide_false, true_and, and_true, Nat.reduceAdd, bI0_i, bI_i, bI_x, bV0_v, bV_v, bV_x, ↓bnd_e, gd_t, x_needClimber hnk enk h_p1, x_needLedge_x hn en g_p2]
      · unfold f_X10_load f_X10_load_b29; rw [bnd_e, show upS T 63 0 (0 : Int32) = U from hU.symm]
        have en' : cM (U 64) 12 = nI n := by rw [hC]; exact en
        have enh' : cM (U 64) 13 = nI nh := by rw [hC]; exact enh
        have enk' : cM (U 64) 14 = nI nk := by rw [hC]; exact enk
        simp (disch := omega) only [fa_lit, nI_ad, nI_mul, nI_cl, inb_nI, nI_ltE, nI_leE, nI_eqE, nI_m1, nI_m1', m1_lt, lt_m1, m1_le, le_m1, eq_self, not_true_eq_false, not_false_eq_true, ↓reduceIte, leT, leF, ltT, ltF, eqT, eqF, decide_true, decide_false, true_and, and_true, Nat.reduceAdd, bI0_i, bI_i, bI_x, bV0_v, bV_v, bV_x, ↓bnd_e, gd_t, and10, and00, m_throw0, m_throw, Bool.not_true, Bool.not_false, bT, bF, m_noBoth_l hnk enk' h_p1 hn en' g_p2, m_in, m_noWind]
  · refine ⟨.inr 3, idX ?_, fun U hC hM => res_ex (b := nI 0) 0 rfl (by omega) fun T hU => ?_⟩
    · unfold f_X9_load 
      simp (disch := omega) only [fa_lit, nI_ad, nI_mul, nI_cl, inb_nI, nI_ltE, nI_leE, nI_eqE, nI_m1, nI_m1', m1_lt, lt_m1, m1_le, le_m1, eq_self, not_true_eq_false, not_false_eq_true, ↓reduceIte, leT, leF, ltT, ltF, eqT, eqF, decide_true, decide_false, true_and, and_true, Nat.reduceAdd, bI0_i, bI_i, bI_x, bV0_v, bV_v, bV_x, ↓bnd_e, gd_t, x_needClimber_x hnk enk g_p1]
    · unfold f_X10_load f_X10_load_b29; rw [bnd_e, show upS T 63 0 (0 : Int32) = U from hU.symm]
      have en' : cM (U 64) 12 = nI n := by rw [hC]; exact en
      have enh' : cM (U 64) 13 = nI nh := by rw [hC]; exact enh
      have enk' : cM (U 64) 14 = nI nk := by rw [hC]; exact enk
      simp (disch := omega) only [fa_lit, nI_ad, nI_mul, nI_cl, inb_nI, nI_ltE, nI_leE, nI_eqE, nI_m1, nI_m1', m1_lt, lt_m1, m1_le, le_m1, eq_self, not_true_eq_false, not_false_eq_true, ↓reduceIte, leT, leF, ltT, ltF, eqT, eqF, decide_true, decide_false, true_and, and_true, Nat.reduceAdd, bI0_i, bI_i, bI_x, bV0_v, bV_v, bV_x, ↓bnd_e, gd_t, and10, and00, m_throw0, m_throw, Bool.not_true, Bool.not_false, bT, bF, m_noBoth_k hnk enk' g_p1, m_in, m_noWind]
theorem ag_held {p1 p2 p3 : Int32} (hF : 6000 ≤ F) (hI : Inv S) : Ag (f_X9_held F p1 p2 p3) (f_X10_held F p1 p2 p3) [3] S := by
  refine ag_ro hI (fun n nh nk A hn en hnh enh hnk enk hX hW hR => ?_)
  by_cases g_p1 : ∃ z, z < nk ∧ p1 = nI z
  · obtain ⟨k, h_p1, rfl⟩ := g_p1
    by_cases g_p2 : ∃ z, z < n ∧ p2 = nI z
    · obtain ⟨l, h_p2, rfl⟩ := g_p2
      have h := x_strengthOf (F := F) (u := 24) (S := S) (set := p3) (by omega) enh hnh
      have hs : strV (S 25) (p3 &&& nI (2 ^ nh - 1)) nh = strV (S 25) p3 nh := strV_congr (fun h hh => has_and (has_all nh (by omega) h hh))
      refine ⟨.inl (some (.int (bV32 (heldV (S 25) k l p3 nh)))), idX ?_, fun U hC hM => ?_⟩
      · unfold f_X9_held f_X9_held_b43
        simp (disch := omega) only [fa_lit, nI_ad, nI_mul, nI_cl, inb_nI, nI_ltE, nI_leE, nI_eqE, nI_m1, nI_m1', m1_lt, lt_m1, m1_le, le_m1, eq_self, not_true_eq_false, not_false_eq_true, ↓reduceIte, leT, leF, ltT, ltF, eqT, eqF, decide_true, decide_false, true_and, and_true, Nat.reduceAdd, bI0_i, bI_i, bI_x, bV0_v, bV_v, bV_x, ↓bnd_e, gd_t, x_needClimber hnk enk h_p1, x_needLedge hn en h_p2, x_loadOf, h, and10, and00]
        unfold heldV
        by_cases gg : strV (S 25) p3 nh < loadV (S 25) k l <;> simp only [gg, ↓reduceIte, decide_true, decide_false, not_true_eq_false, not_false_eq_true] <;> rfl
      · skip
        have en' : cM (U 64) 12 = nI n := by rw [hC]; exact en
        have enh' : cM (U 64) 13 = nI nh := by rw [hC]; exact enh
        have enk' : cM (U 64) 14 = nI nk := by rw [hC]; exact enk
        have h1 := m_allHolders (S := U) enh' hnh
        have h := m_isHeld (F := F) (S := U) (set := p3 &&& nI (2 ^ nh - 1)) (by omega) (by omega : k < 4) (by omega : l < 10) enh' hnh
        have e : heldV (S 25) k l (p3 &&& nI (2 ^ nh - 1)) nh = heldV (S 25) k l p3 nh := by unfold heldV; rw [hs]
        rw [hC, e] at h
        refine res_ok' fun T hU => ?_
        unfold f_X10_held f_X10_held_b38 f_X10_held_b39; rw [bnd_e, show upS T 63 0 (0 : Int32) = U from hU.symm]
        simp (disch := omega) only [fa_lit, nI_ad, nI_mul, nI_cl, inb_nI, nI_ltE, nI_leE, nI_eqE, nI_m1, nI_m1', m1_lt, lt_m1, m1_le, le_m1, eq_self, not_true_eq_false, not_false_eq_true, ↓reduceIte, leT, leF, ltT, ltF, eqT, eqF, decide_true, decide_false, true_and, and_true, Nat.reduceAdd, bI0_i, bI_i, bI_x, bV0_v, bV_v, bV_x, ↓bnd_e, gd_t, and10, and00, m_throw0, m_throw, Bool.not_true, Bool.not_false, bT, bF, m_noBoth hn en' h_p2 hnk enk' h_p1, m_in, m_noWind, h1, h, and10, and00, hC]
        cases heldV (S 25) k l p3 nh <;> rfl
    · refine ⟨.inr 3, idX ?_, fun U hC hM => res_ex (b := nI 0) 0 rfl (by omega) fun T hU => ?_⟩
      · unfold f_X9_held f_X9_held_b43
        simp (disch := omega) only [fa_lit, nI_ad, nI_mul, nI_cl, inb_nI, nI_ltE, nI_leE, nI_eqE, nI_m1, nI_m1', m1_lt, lt_m1, m1_le, le_m1, eq_self, not_true_eq_false, not_false_eq_true, ↓reduceIte, leT, leF, ltT, ltF, eqT, eqF, decide_true, decide_false, true_and, and_true, Nat.reduceAdd, bI0_i, bI_i, bI_x, bV0_v, bV_v, bV_x, ↓bnd_e, gd_t, x_needClimber hnk enk h_p1, x_needLedge_x hn en g_p2]
      · unfold f_X10_held f_X10_held_b38 f_X10_held_b39; rw [bnd_e, show upS T 63 0 (0 : Int32) = U from hU.symm]
        have en' : cM (U 64) 12 = nI n := by rw [hC]; exact en
        have enh' : cM (U 64) 13 = nI nh := by rw [hC]; exact enh
        have enk' : cM (U 64) 14 = nI nk := by rw [hC]; exact enk
        simp (disch := omega) only [fa_lit, nI_ad, nI_mul, nI_cl, inb_nI, nI_ltE, nI_leE, nI_eqE, nI_m1, nI_m1', m1_lt, lt_m1, m1_le, le_m1, eq_self, not_true_eq_false, not_false_eq_true, ↓reduceIte, leT, leF, ltT, ltF, eqT, eqF, decide_true, decide_false, true_and, and_true, Nat.reduceAdd, bI0_i, bI_i, bI_x, bV0_v, bV_v, bV_x, ↓bnd_e, gd_t, and10, and00, m_throw0, m_throw, Bool.not_true, Bool.not_false, bT, bF, m_noBoth_l hnk enk' h_p1 hn en' g_p2, m_in, m_noWind]
  · refine ⟨.inr 3, idX ?_, fun U hC hM => res_ex (b := nI 0) 0 rfl (by omega) fun T hU => ?_⟩
    · unfold f_X9_held f_X9_held_b43
      simp (disch := omega) only [fa_lit, nI_ad, nI_mul, nI_cl, inb_nI, nI_ltE, nI_leE, nI_eqE, nI_m1, nI_m1', m1_lt, lt_m1, m1_le, le_m1, eq_self, not_true_eq_false, not_false_eq_true, ↓reduceIte, leT, leF, ltT, ltF, eqT, eqF, decide_true, decide_false, true_and, and_true, Nat.reduceAdd, bI0_i, bI_i, bI_x, bV0_v, bV_v, bV_x, ↓bnd_e, gd_t, x_needClimber_x hnk enk g_p1]
    · unfold f_X10_held f_X10_held_b38 f_X10_held_b39; rw [bnd_e, show upS T 63 0 (0 : Int32) = U from hU.symm]
      have en' : cM (U 64) 12 = nI n := by rw [hC]; exact en
      have enh' : cM (U 64) 13 = nI nh := by rw [hC]; exact enh
      have enk' : cM (U 64) 14 = nI nk := by rw [hC]; exact enk
      simp (disch := omega) only [fa_lit, nI_ad, nI_mul, nI_cl, inb_nI, nI_ltE, nI_leE, nI_eqE, nI_m1, nI_m1', m1_lt, lt_m1, m1_le, le_m1, eq_self, not_true_eq_false, not_false_eq_true, ↓reduceIte, leT, leF, ltT, ltF, eqT, eqF, decide_true, decide_false, true_and, and_true, Nat.reduceAdd, bI0_i, bI_i, bI_x, bV0_v, bV_v, bV_x, ↓bnd_e, gd_t, and10, and00, m_throw0, m_throw, Bool.not_true, Bool.not_false, bT, bF, m_noBoth_k hnk enk' g_p1, m_in, m_noWind]
theorem ag_holder {p1 p2 : Int32} (hI : Inv S) : Ag (f_X9_holder p1 p2) (f_X10_holder p1 p2) [3] S := by
  refine ag_ro hI (fun n nh nk A hn en hnh enh hnk enk hX hW hR => ?_)
  by_cases g1 : ∃ l, l < nh ∧ p1 = nI l
  · obtain ⟨l, hl, rfl⟩ := g1
    by_cases g2 : p2 = nI 0
    · refine ⟨_, idX (r1 := .inl (some (.int (S 25 (66 + l * 2 + 0))))) ?_, fun U hC hM => res_ok' fun T hU => ?_⟩
      · unfold f_X9_holder f_X9_holder_b19
        simp (disch := omega) only [fa_lit, nI_ad, nI_mul, nI_cl, inb_nI, nI_ltE, nI_leE, nI_eqE, nI_m1, nI_m1', m1_lt, lt_m1, m1_le, le_m1, eq_self, not_true_eq_false, not_false_eq_true, ↓reduceIte, leT, leF, ltT, ltF, eqT, eqF, decide_true, decide_false, true_and, and_true, Nat.reduceAdd, bI0_i, bI_i, bI_x, bV0_v, bV_v, bV_x, ↓bnd_e, gd_t, x_needHolder hnh enh hl, g2, x_ofHolder]
      · unfold f_X10_holder f_X10_holder_b33 f_X10_holder_b36; rw [bnd_e, show upS T 63 0 (0 : Int32) = U from hU.symm]
        have enh' : cM (U 64) 13 = nI nh := by rw [hC]; exact enh
        simp (disch := omega) only [fa_lit, nI_ad, nI_mul, nI_cl, inb_nI, nI_ltE, nI_leE, nI_eqE, nI_m1, nI_m1', m1_lt, lt_m1, m1_le, le_m1, eq_self, not_true_eq_false, not_false_eq_true, ↓reduceIte, leT, leF, ltT, ltF, eqT, eqF, decide_true, decide_false, true_and, and_true, Nat.reduceAdd, bI0_i, bI_i, bI_x, bV0_v, bV_v, bV_x, ↓bnd_e, gd_t, m_noHolder hnh enh' hl, m_throw0, g2, m_ofHolder, hC]
    · refine ⟨_, idX (r1 := .inl (some (.int (S 25 (66 + l * 2 + 1))))) ?_, fun U hC hM => res_ok' fun T hU => ?_⟩
      · unfold f_X9_holder f_X9_holder_b19
        simp (disch := omega) only [fa_lit, nI_ad, nI_mul, nI_cl, inb_nI, nI_ltE, nI_leE, nI_eqE, nI_m1, nI_m1', m1_lt, lt_m1, m1_le, le_m1, eq_self, not_true_eq_false, not_false_eq_true, ↓reduceIte, leT, leF, ltT, ltF, eqT, eqF, decide_true, decide_false, true_and, and_true, Nat.reduceAdd, bI0_i, bI_i, bI_x, bV0_v, bV_v, bV_x, ↓bnd_e, gd_t, x_needHolder hnh enh hl, g2, x_ofHolder]
      · unfold f_X10_holder f_X10_holder_b33 f_X10_holder_b36; rw [bnd_e, show upS T 63 0 (0 : Int32) = U from hU.symm]
        have enh' : cM (U 64) 13 = nI nh := by rw [hC]; exact enh
        simp (disch := omega) only [fa_lit, nI_ad, nI_mul, nI_cl, inb_nI, nI_ltE, nI_leE, nI_eqE, nI_m1, nI_m1', m1_lt, lt_m1, m1_le, le_m1, eq_self, not_true_eq_false, not_false_eq_true, ↓reduceIte, leT, leF, ltT, ltF, eqT, eqF, decide_true, decide_false, true_and, and_true, Nat.reduceAdd, bI0_i, bI_i, bI_x, bV0_v, bV_v, bV_x, ↓bnd_e, gd_t, m_noHolder hnh enh' hl, m_throw0, g2, m_ofHolder, hC]
  · refine ⟨_, idX (r1 := .inr 3) ?_, fun U hC hM => res_ex (b := nI 0) 0 rfl (by omega) fun T hU => ?_⟩
    · unfold f_X9_holder
      simp (disch := omega) only [fa_lit, nI_ad, nI_mul, nI_cl, inb_nI, nI_ltE, nI_leE, nI_eqE, nI_m1, nI_m1', m1_lt, lt_m1, m1_le, le_m1, eq_self, not_true_eq_false, not_false_eq_true, ↓reduceIte, leT, leF, ltT, ltF, eqT, eqF, decide_true, decide_false, true_and, and_true, Nat.reduceAdd, bI0_i, bI_i, bI_x, bV0_v, bV_v, bV_x, ↓bnd_e, gd_t, x_needHolder_x hnh enh g1]
    · unfold f_X10_holder f_X10_holder_b33 f_X10_holder_b36; rw [bnd_e, show upS T 63 0 (0 : Int32) = U from hU.symm]
      have enh' : cM (U 64) 13 = nI nh := by rw [hC]; exact enh
      simp (disch := omega) only [fa_lit, nI_ad, nI_mul, nI_cl, inb_nI, nI_ltE, nI_leE, nI_eqE, nI_m1, nI_m1', m1_lt, lt_m1, m1_le, le_m1, eq_self, not_true_eq_false, not_false_eq_true, ↓reduceIte, leT, leF, ltT, ltF, eqT, eqF, decide_true, decide_false, true_and, and_true, Nat.reduceAdd, bI0_i, bI_i, bI_x, bV0_v, bV_v, bV_x, ↓bnd_e, gd_t, m_noHolder_x hnh enh' g1, m_throw]
end O
