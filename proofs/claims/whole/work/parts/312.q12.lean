/-! calls that only look, second lot -/
section O
variable {F : Nat} {S : mS}
theorem ag_fresh (hF : 6000 ≤ F) (hI : Inv S) : Ag (f_X9_fresh F) (f_X10_fresh F) [] S := by
  refine ag_ro hI (fun n nh nk A hn en hnh enh hnk enk hX hW hR => ?_)
  have h := x_freshS (F := F) en hn n 0 F (by omega) (by omega)
  refine ⟨.inl (some (.int (freshS (S 25) n))), idX ?_, fun U hC hM => ?_⟩
  · unfold f_X9_fresh 
    simp (disch := omega) only [fa_lit, nI_ad, nI_mul, nI_cl, inb_nI, nI_ltE, nI_leE, nI_eqE, nI_m1, nI_m1', m1_lt, lt_m1, m1_le, le_m1, eq_self, not_true_eq_false, not_false_eq_true, ↓reduceIte, leT, leF, ltT, ltF, eqT, eqF, decide_true, decide_false, true_and, and_true, Nat.reduceAdd, bI0_i, bI_i, bI_x, bV0_v, bV_v, bV_x, ↓bnd_e, gd_t, show f_X9_fresh_b4 F F (nI 0) (nI 0) S = _ from h]
  · skip
    have en' : cM (U 64) 12 = nI n := by rw [hC]; exact en
    have enh' : cM (U 64) 13 = nI nh := by rw [hC]; exact enh
    have enk' : cM (U 64) 14 = nI nk := by rw [hC]; exact enk
    have h := m_freshS (F := F) (S := U) en' hn n 0 F (by omega) (by omega)
    rw [hC] at h
    refine res_ok' fun T hU => ?_
    unfold f_X10_fresh ; rw [bnd_e, show upS T 63 0 (0 : Int32) = U from hU.symm]
    simp (disch := omega) only [fa_lit, nI_ad, nI_mul, nI_cl, inb_nI, nI_ltE, nI_leE, nI_eqE, nI_m1, nI_m1', m1_lt, lt_m1, m1_le, le_m1, eq_self, not_true_eq_false, not_false_eq_true, ↓reduceIte, leT, leF, ltT, ltF, eqT, eqF, decide_true, decide_false, true_and, and_true, Nat.reduceAdd, bI0_i, bI_i, bI_x, bV0_v, bV_v, bV_x, ↓bnd_e, gd_t, and10, and00, m_throw0, m_throw, Bool.not_true, Bool.not_false, bT, bF, m_in, m_noWind, show f_X10_fresh_b9 F F (nI 0) (nI 0) U = _ from h, hC]
theorem ag_round {p1 : Int32} (hF : 6000 ≤ F) (hI : Inv S) : Ag (f_X9_round F p1) (f_X10_round F p1) [] S := by
  refine ag_ro hI (fun n nh nk A hn en hnh enh hnk enk hX hW hR => ?_)
  have h := x_deep (F := F) (set := p1) en hn n 0 F (by omega) (by omega)
  refine ⟨.inl (some (.int (if deepV (S 25) p1 n ≤ S 25 0 then nI 2 * deepV (S 25) p1 n else -nI 1))), idX ?_, fun U hC hM => ?_⟩
  · unfold f_X9_round 
    simp (disch := omega) only [fa_lit, nI_ad, nI_mul, nI_cl, inb_nI, nI_ltE, nI_leE, nI_eqE, nI_m1, nI_m1', m1_lt, lt_m1, m1_le, le_m1, eq_self, not_true_eq_false, not_false_eq_true, ↓reduceIte, leT, leF, ltT, ltF, eqT, eqF, decide_true, decide_false, true_and, and_true, Nat.reduceAdd, bI0_i, bI_i, bI_x, bV0_v, bV_v, bV_x, ↓bnd_e, gd_t, show f_X9_round_b4 F F p1 (nI 0) (nI 0) S = _ from h]
  · skip
    have en' : cM (U 64) 12 = nI n := by rw [hC]; exact en
    have enh' : cM (U 64) 13 = nI nh := by rw [hC]; exact enh
    have enk' : cM (U 64) 14 = nI nk := by rw [hC]; exact enk
    have h := m_deep (F := F) (S := U) (set := p1) en' hn n 0 F (by omega) (by omega)
    rw [hC] at h
    refine res_ok' fun T hU => ?_
    unfold f_X10_round ; rw [bnd_e, show upS T 63 0 (0 : Int32) = U from hU.symm]
    simp (disch := omega) only [fa_lit, nI_ad, nI_mul, nI_cl, inb_nI, nI_ltE, nI_leE, nI_eqE, nI_m1, nI_m1', m1_lt, lt_m1, m1_le, le_m1, eq_self, not_true_eq_false, not_false_eq_true, ↓reduceIte, leT, leF, ltT, ltF, eqT, eqF, decide_true, decide_false, true_and, and_true, Nat.reduceAdd, bI0_i, bI_i, bI_x, bV0_v, bV_v, bV_x, ↓bnd_e, gd_t, and10, and00, m_throw0, m_throw, Bool.not_true, Bool.not_false, bT, bF, m_in, m_noWind, show f_X10_round_b9 F F p1 (nI 0) (nI 0) U = _ from h, hC]
theorem ag_how {p1 p2 : Int32} (hF : 6000 ≤ F) (hI : Inv S) : Ag (f_X9_how F p1 p2) (f_X10_how F p1 p2) [] S := by
  refine ag_ro hI (fun n nh nk A hn en hnh enh hnk enk hX hW hR => ?_)
  have hp := pow10 hn
  have h := x_how (F := F) (e := p1) (s := p2) hF en hn rfl hp (2 ^ n) 0 F (by omega) (by omega)
  refine ⟨.inl (some (.int (howR (S 25) n p1 p2))), idX ?_, fun U hC hM => ?_⟩
  · unfold f_X9_how 
    simp (disch := omega) only [fa_lit, nI_ad, nI_mul, nI_cl, inb_nI, nI_ltE, nI_leE, nI_eqE, nI_m1, nI_m1', m1_lt, lt_m1, m1_le, le_m1, eq_self, not_true_eq_false, not_false_eq_true, ↓reduceIte, leT, leF, ltT, ltF, eqT, eqF, decide_true, decide_false, true_and, and_true, Nat.reduceAdd, bI0_i, bI_i, bI_x, bV0_v, bV_v, bV_x, ↓bnd_e, gd_t, x_ledgeSets en hn, sub_one_pow, show f_X9_how_b13 F F p1 p2 (nI 0) (nI (2 ^ n - 1)) (nI 0) S = _ from h]
  · skip
    have en' : cM (U 64) 12 = nI n := by rw [hC]; exact en
    have enh' : cM (U 64) 13 = nI nh := by rw [hC]; exact enh
    have enk' : cM (U 64) 14 = nI nk := by rw [hC]; exact enk
    have h := m_how (F := F) (S := U) (e := p1) (s := p2) hF en' hn rfl pow_pos' hp (2 ^ n) 0 F (by omega) (by omega)
    rw [hC] at h
    refine res_ok' fun T hU => ?_
    unfold f_X10_how ; rw [bnd_e, show upS T 63 0 (0 : Int32) = U from hU.symm]
    simp (disch := omega) only [fa_lit, nI_ad, nI_mul, nI_cl, inb_nI, nI_ltE, nI_leE, nI_eqE, nI_m1, nI_m1', m1_lt, lt_m1, m1_le, le_m1, eq_self, not_true_eq_false, not_false_eq_true, ↓reduceIte, leT, leF, ltT, ltF, eqT, eqF, decide_true, decide_false, true_and, and_true, Nat.reduceAdd, bI0_i, bI_i, bI_x, bV0_v, bV_v, bV_x, ↓bnd_e, gd_t, and10, and00, m_throw0, m_throw, Bool.not_true, Bool.not_false, bT, bF, m_in, m_noWind, m_allLedges en' hn, show f_X10_how_b16 F F p1 p2 (nI 0) (nI (2 ^ n - 1)) (nI 0) U = _ from h, hC]
theorem has0 : ∀ l, l < 10 → hasV (nI 0) l = false := by decide
theorem sum0 {c : Nat → Int32} {w n : Nat} (h : n ≤ 10) : sumSV c (nI 0) w n = nI 0 := by
  induction n with
  | zero => rfl
  | succ n ih => rw [sumSV, ih (by omega), has0 n (by omega)]; rfl
theorem le_abs (x : Int32) : x ≤ absV x := by
  unfold absV
  split
  · rw [Int32.le_iff_toInt_le]; omega
  · rename_i h
    rw [Int32.le_iff_toInt_le] at *
    have e : nI 0 - x = -x := by show (0 : Int32) - x = -x; exact Int32.zero_sub x
    rw [e, Int32.toInt_neg]
    have h1 := x.le_toInt
    have h0 : (nI 0).toInt = 0 := by decide
    rw [h0] at h
    by_cases q : -2147483648 < x.toInt
    · rw [Int.bmod_eq_of_le (by omega) (by omega)]; omega
    · have e2 : x.toInt = -2147483648 := by
        have : (-2 ^ 31 : Int) = -2147483648 := by decide
        omega
      rw [e2]; decide
theorem spl1 {c : Nat → Int32} {n : Nat} {all : Int32} (h : n ≤ 10) : splV c n all 1 = (nI 0, all) := by
  show (if all ≤ absV (all - nI 2 * sumSV c (nI 0) 2 n) then (nI 0, all) else _) = _
  rw [sum0 h]
  have e : all - nI 2 * nI 0 = all := by
    have : nI 2 * nI 0 = 0 := by decide
    rw [this]; exact Int32.sub_zero all
  rw [e, if_pos (le_abs all)]
theorem ag_split {p1 : Int32} (hF : 6000 ≤ F) (hI : Inv S) : Ag (f_X9_split F p1) (f_X10_split F p1) [] S := by
  refine ag_ro hI (fun n nh nk A hn en hnh enh hnk enk hX hW hR => ?_)
  have hp := pow10 hn
  have hp1 := pow_pos' (n := n)
  have h0 := x_totalOf (F := F) (S := S) (u := 24) hF (by omega : 2 < 5) en hn
  have h := x_spl (F := F) (p := p1) (all := totV (S 25) 2 n) hF en hn rfl hp (2 ^ n) 0 F (by omega) (by omega)
  refine ⟨.inl (some (.int (if p1 = nI 0 then (splV (S 25) n (totV (S 25) 2 n) (2 ^ n)).2 else (splV (S 25) n (totV (S 25) 2 n) (2 ^ n)).1))), idX ?_, fun U hC hM => ?_⟩
  · unfold f_X9_split 
    simp (disch := omega) only [fa_lit, nI_ad, nI_mul, nI_cl, inb_nI, nI_ltE, nI_leE, nI_eqE, nI_m1, nI_m1', m1_lt, lt_m1, m1_le, le_m1, eq_self, not_true_eq_false, not_false_eq_true, ↓reduceIte, leT, leF, ltT, ltF, eqT, eqF, decide_true, decide_false, true_and, and_true, Nat.reduceAdd, bI0_i, bI_i, bI_x, bV0_v, bV_v, bV_x, ↓bnd_e, gd_t, h0, show f_X9_split_b17 F F p1 (totV (S 25) 2 n) (nI 0) (totV (S 25) 2 n) (nI 0) S = _ from h]
  · skip
    have en' : cM (U 64) 12 = nI n := by rw [hC]; exact en
    have enh' : cM (U 64) 13 = nI nh := by rw [hC]; exact enh
    have enk' : cM (U 64) 14 = nI nk := by rw [hC]; exact enk
    have h := m_spl (F := F) (S := U) (p := p1) (all := totV (S 25) 2 n) hF en' hn rfl hp1 hp (2 ^ n - 1) 1 F (by omega) (by omega)
    rw [hC, spl1 hn] at h
    have h0 := m_sumIn (F := F) (S := U) (set := nI (2 ^ n - 1)) hF (by omega : 2 < 5) en' hn
    rw [hC, sum_all hn (Nat.le_refl n)] at h0
    refine res_ok' fun T hU => ?_
    unfold f_X10_split ; rw [bnd_e, show upS T 63 0 (0 : Int32) = U from hU.symm]
    simp (disch := omega) only [fa_lit, nI_ad, nI_mul, nI_cl, inb_nI, nI_ltE, nI_leE, nI_eqE, nI_m1, nI_m1', m1_lt, lt_m1, m1_le, le_m1, eq_self, not_true_eq_false, not_false_eq_true, ↓reduceIte, leT, leF, ltT, ltF, eqT, eqF, decide_true, decide_false, true_and, and_true, Nat.reduceAdd, bI0_i, bI_i, bI_x, bV0_v, bV_v, bV_x, ↓bnd_e, gd_t, and10, and00, m_throw0, m_throw, Bool.not_true, Bool.not_false, bT, bF, m_in, m_noWind, m_allLedges en' hn, h0, show f_X10_split_b23 F F p1 (totV (S 25) 2 n) (nI 0) (totV (S 25) 2 n) (nI 1) U = _ from h, hC]
def restV (a b : Int32) : Int32 := (if a < b then nI 0 else nI 1) ||| (if a < nI 2 * b then nI 0 else if b < a then nI 0 else nI 6) ||| (if nI 2 * b < a then nI 0 else nI 8)
theorem ag_rests (hF : 6000 ≤ F) (hI : Inv S) : Ag (f_X9_rests F) (f_X10_rests F) [] S := by
  refine ag_ro hI (fun n nh nk A hn en hnh enh hnk enk hX hW hR => ?_)
  have h0 := x_totalOf (F := F) (S := S) (u := 24) hF (by omega : 2 < 5) en hn
  have h1 := x_totalOf (F := F) (S := S) (u := 24) hF (by omega : 4 < 5) en hn
  refine ⟨.inl (some (.int (restV (totV (S 25) 2 n) (totV (S 25) 4 n)))), idX ?_, fun U hC hM => ?_⟩
  · unfold f_X9_rests f_X9_rests_b29 f_X9_rests_b46 f_X9_rests_b58
    simp (disch := omega) only [fa_lit, nI_ad, nI_mul, nI_cl, inb_nI, nI_ltE, nI_leE, nI_eqE, nI_m1, nI_m1', m1_lt, lt_m1, m1_le, le_m1, eq_self, not_true_eq_false, not_false_eq_true, ↓reduceIte, leT, leF, ltT, ltF, eqT, eqF, decide_true, decide_false, true_and, and_true, Nat.reduceAdd, bI0_i, bI_i, bI_x, bV0_v, bV_v, bV_x, ↓bnd_e, gd_t, h0, h1]
    generalize totV (S 25) 2 n = a
    generalize totV (S 25) 4 n = b
    unfold restV
    by_cases g1 : a < b <;> by_cases g2 : a < nI 2 * b <;> by_cases g3 : b < a <;> by_cases g4 : nI 2 * b < a <;> simp only [g1, g2, g3, g4, ↓reduceIte, bnd_e] <;> rfl
  · skip
    have en' : cM (U 64) 12 = nI n := by rw [hC]; exact en
    have enh' : cM (U 64) 13 = nI nh := by rw [hC]; exact enh
    have enk' : cM (U 64) 14 = nI nk := by rw [hC]; exact enk
    have h0 := m_sumIn (F := F) (S := U) (set := nI (2 ^ n - 1)) hF (by omega : 2 < 5) en' hn
    rw [hC, sum_all hn (Nat.le_refl n)] at h0
    have h1 := m_sumIn (F := F) (S := U) (set := nI (2 ^ n - 1)) hF (by omega : 4 < 5) en' hn
    rw [hC, sum_all hn (Nat.le_refl n)] at h1
    refine res_ok' fun T hU => ?_
    unfold f_X10_rests f_X10_rests_b35 f_X10_rests_b52 f_X10_rests_b53 f_X10_rests_b67; rw [bnd_e, show upS T 63 0 (0 : Int32) = U from hU.symm]
    simp (disch := omega) only [fa_lit, nI_ad, nI_mul, nI_cl, inb_nI, nI_ltE, nI_leE, nI_eqE, nI_m1, nI_m1', m1_lt, lt_m1, m1_le, le_m1, eq_self, not_true_eq_false, not_false_eq_true, ↓reduceIte, leT, leF, ltT, ltF, eqT, eqF, decide_true, decide_false, true_and, and_true, Nat.reduceAdd, bI0_i, bI_i, bI_x, bV0_v, bV_v, bV_x, ↓bnd_e, gd_t, and10, and00, m_throw0, m_throw, Bool.not_true, Bool.not_false, bT, bF, m_in, m_noWind, m_allLedges en' hn, h0, h1, hC]
    generalize totV (S 25) 2 n = a
    generalize totV (S 25) 4 n = b
    unfold restV
    by_cases g1 : a < b <;> by_cases g2 : a < nI 2 * b <;> by_cases g3 : b < a <;> by_cases g4 : nI 2 * b < a <;> simp only [g1, g2, g3, g4, ↓reduceIte, bnd_e] <;> rfl
theorem ag_led {p1 p2 : Int32} (hF : 6000 ≤ F) (hI : Inv S) : Ag (f_X9_led F p1 p2) (f_X10_led F p1 p2) [3] S := by
  refine ag_ro hI (fun n nh nk A hn en hnh enh hnk enk hX hW hR => ?_)
  by_cases g_p1 : ∃ z, z < n ∧ p1 = nI z
  · obtain ⟨l, h_p1, rfl⟩ := g_p1
    obtain ⟨nr, hnr, enr⟩ := hR.n15
    by_cases g2 : p2 = nI 0
    · skip
      have h := x_logR (F := F) (v := nI l) enr hnr nr 0 F (by omega) (by omega)
      refine ⟨.inl (some (.int (logV (S 25) 2 (nI l) false nr))), idX ?_, fun U hC hM => ?_⟩
      · unfold f_X9_led f_X9_led_b29
        simp (disch := omega) only [fa_lit, nI_ad, nI_mul, nI_cl, inb_nI, nI_ltE, nI_leE, nI_eqE, nI_m1, nI_m1', m1_lt, lt_m1, m1_le, le_m1, eq_self, not_true_eq_false, not_false_eq_true, ↓reduceIte, leT, leF, ltT, ltF, eqT, eqF, decide_true, decide_false, true_and, and_true, Nat.reduceAdd, bI0_i, bI_i, bI_x, bV0_v, bV_v, bV_x, ↓bnd_e, gd_t, x_needLedge hn en h_p1, f_X0_loggedRows, g2, show f_X0_loggedRows_b4 F F (nI l) (nI 0) (nI 0) S = _ from h]
      · skip
        have en' : cM (U 64) 12 = nI n := by rw [hC]; exact en
        have enh' : cM (U 64) 13 = nI nh := by rw [hC]; exact enh
        have enk' : cM (U 64) 14 = nI nk := by rw [hC]; exact enk
        have enr' : cM (U 64) 15 = nI nr := by rw [hC]; exact enr
        have h := m_logR (F := F) (S := U) (v := nI l) (w := 2) (by omega) enr' hnr nr 0 F (by omega) (by omega)
        rw [hC] at h
        refine res_ok' fun T hU => ?_
        unfold f_X10_led f_X10_led_b29; rw [bnd_e, show upS T 63 0 (0 : Int32) = U from hU.symm]
        simp (disch := omega) only [fa_lit, nI_ad, nI_mul, nI_cl, inb_nI, nI_ltE, nI_leE, nI_eqE, nI_m1, nI_m1', m1_lt, lt_m1, m1_le, le_m1, eq_self, not_true_eq_false, not_false_eq_true, ↓reduceIte, leT, leF, ltT, ltF, eqT, eqF, decide_true, decide_false, true_and, and_true, Nat.reduceAdd, bI0_i, bI_i, bI_x, bV0_v, bV_v, bV_x, ↓bnd_e, gd_t, and10, and00, m_throw0, m_throw, Bool.not_true, Bool.not_false, bT, bF, m_noLedge hn en' h_p1, m_in, m_noWind, f_X10_loggedOf, g2, show f_X10_loggedOf_b6 F F (nI 2) (nI l) (nI 0) (nI 0) (nI 0) U = _ from h, hC]
    · skip
      have h := x_logE (F := F) (v := nI l) (w := 2) (by omega) enr hnr nr 0 F (by omega) (by omega)
      refine ⟨.inl (some (.int (logV (S 25) 2 (nI l) true nr))), idX ?_, fun U hC hM => ?_⟩
      · unfold f_X9_led f_X9_led_b29
        simp (disch := omega) only [fa_lit, nI_ad, nI_mul, nI_cl, inb_nI, nI_ltE, nI_leE, nI_eqE, nI_m1, nI_m1', m1_lt, lt_m1, m1_le, le_m1, eq_self, not_true_eq_false, not_false_eq_true, ↓reduceIte, leT, leF, ltT, ltF, eqT, eqF, decide_true, decide_false, true_and, and_true, Nat.reduceAdd, bI0_i, bI_i, bI_x, bV0_v, bV_v, bV_x, ↓bnd_e, gd_t, x_needLedge hn en h_p1, f_X0_loggedEggs, g2, show f_X0_loggedEggs_b5 F F (nI 2) (nI l) (nI 0) (nI 0) S = _ from h]
      · skip
        have en' : cM (U 64) 12 = nI n := by rw [hC]; exact en
        have enh' : cM (U 64) 13 = nI nh := by rw [hC]; exact enh
        have enk' : cM (U 64) 14 = nI nk := by rw [hC]; exact enk
        have enr' : cM (U 64) 15 = nI nr := by rw [hC]; exact enr
        have h := m_logE (F := F) (S := U) (v := nI l) (w := 2) (x := p2) (by omega) enr' hnr g2 nr 0 F (by omega) (by omega)
        rw [hC] at h
        refine res_ok' fun T hU => ?_
        unfold f_X10_led f_X10_led_b29; rw [bnd_e, show upS T 63 0 (0 : Int32) = U from hU.symm]
        simp (disch := omega) only [fa_lit, nI_ad, nI_mul, nI_cl, inb_nI, nI_ltE, nI_leE, nI_eqE, nI_m1, nI_m1', m1_lt, lt_m1, m1_le, le_m1, eq_self, not_true_eq_false, not_false_eq_true, ↓reduceIte, leT, leF, ltT, ltF, eqT, eqF, decide_true, decide_false, true_and, and_true, Nat.reduceAdd, bI0_i, bI_i, bI_x, bV0_v, bV_v, bV_x, ↓bnd_e, gd_t, and10, and00, m_throw0, m_throw, Bool.not_true, Bool.not_false, bT, bF, m_noLedge hn en' h_p1, m_in, m_noWind, f_X10_loggedOf, g2, show f_X10_loggedOf_b6 F F (nI 2) (nI l) p2 (nI 0) (nI 0) U = _ from h, hC]
  · refine ⟨.inr 3, idX ?_, fun U hC hM => res_ex (b := nI 0) 0 rfl (by omega) fun T hU => ?_⟩
    · unfold f_X9_led f_X9_led_b29
      simp (disch := omega) only [fa_lit, nI_ad, nI_mul, nI_cl, inb_nI, nI_ltE, nI_leE, nI_eqE, nI_m1, nI_m1', m1_lt, lt_m1, m1_le, le_m1, eq_self, not_true_eq_false, not_false_eq_true, ↓reduceIte, leT, leF, ltT, ltF, eqT, eqF, decide_true, decide_false, true_and, and_true, Nat.reduceAdd, bI0_i, bI_i, bI_x, bV0_v, bV_v, bV_x, ↓bnd_e, gd_t, x_needLedge_x hn en g_p1]
    · unfold f_X10_led f_X10_led_b29; rw [bnd_e, show upS T 63 0 (0 : Int32) = U from hU.symm]
      have en' : cM (U 64) 12 = nI n := by rw [hC]; exact en
      have enh' : cM (U 64) 13 = nI nh := by rw [hC]; exact enh
      have enk' : cM (U 64) 14 = nI nk := by rw [hC]; exact enk
      simp (disch := omega) only [fa_lit, nI_ad, nI_mul, nI_cl, inb_nI, nI_ltE, nI_leE, nI_eqE, nI_m1, nI_m1', m1_lt, lt_m1, m1_le, le_m1, eq_self, not_true_eq_false, not_false_eq_true, ↓reduceIte, leT, leF, ltT, ltF, eqT, eqF, decide_true, decide_false, true_and, and_true, Nat.reduceAdd, bI0_i, bI_i, bI_x, bV0_v, bV_v, bV_x, ↓bnd_e, gd_t, and10, and00, m_throw0, m_throw, Bool.not_true, Bool.not_false, bT, bF, m_noLedge_x hn en' g_p1, m_in, m_noWind]
end O
