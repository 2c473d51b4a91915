/-! the model's sums -/
theorem m_isFresh {l : Nat} {S : mS} (h : l < 10) : f_X10_isFresh (nI l) S = some (.inl (some (.int (bV32 (isF (cM (S 64)) l)))), S) := by
  unfold f_X10_isFresh f_X10_isFresh_b23 f_X10_isFresh_b24 isF freshV
  simp (disch := omega) only [fa_lit, nI_ad, nI_mul, nI_cl, inb_nI, nI_ltE, nI_leE, nI_eqE, nI_m1, nI_m1', m1_lt, lt_m1, m1_le, le_m1, eq_self, not_true_eq_false, not_false_eq_true, ↓reduceIte, leT, leF, ltT, ltF, eqT, eqF, decide_true, decide_false, true_and, and_true, Nat.reduceAdd, bI0_i, bI_i, bI_x, bV0_v, bV_v, bV_x, ↓bnd_e, gd_t, m_of, nle_lt, and10, and00]
  by_cases g1 : nI 0 < cM (S 64) (16 + l * 5 + 2)
  · rw [if_neg (by simpa using g1)]
    by_cases g2 : nI 3 < cM (S 64) (16 + l * 5 + 3)
    · rw [if_pos g2, if_pos g2]; rfl
    · rw [if_neg g2, if_neg g2, decide_eq_true g1]; rfl
  · rw [if_pos g1]
    split
    · rfl
    · rw [decide_eq_false g1]; rfl
theorem m_fact {x l : Nat} {S : mS} {T T' : List Bool} (hx : x < 1009) (h : tyStep x T = some T') (hl : l < 10) :
    f_X10_factOf (nI (stepOf x)) (nI (argOf x)) (nI l) S = some (.inl (some (.int (if x < 1000 then nI x else facts (cM (S 64)) l (S 63 18) (S 63 19) (x - 1000)))), S) := by
  unfold f_X10_factOf f_X10_factOf_b117
  rcases Nat.lt_or_ge x 1000 with q | q
  · have e1 : stepOf x = 9 := if_pos q
    have e2 : argOf x = x := if_pos q
    rw [e1, e2]
    simp (disch := omega) only [fa_lit, nI_ad, nI_mul, nI_cl, inb_nI, nI_ltE, nI_leE, nI_eqE, nI_m1, nI_m1', m1_lt, lt_m1, m1_le, le_m1, eq_self, not_true_eq_false, not_false_eq_true, ↓reduceIte, leT, leF, ltT, ltF, eqT, eqF, decide_true, decide_false, true_and, and_true, Nat.reduceAdd, bI0_i, bI_i, bI_x, bV0_v, bV_v, bV_x, ↓bnd_e, gd_t, Nat.reduceEqDiff]
  · have e2 : argOf x = 0 := if_neg (by omega)
    obtain ⟨y, rfl⟩ : ∃ y, x = 1000 + y := ⟨x - 1000, by omega⟩
    have hy : y < 9 := by omega
    match y, hy with
    | 0, _ => simp (disch := omega) only [fa_lit, nI_ad, nI_mul, nI_cl, inb_nI, nI_ltE, nI_leE, nI_eqE, nI_m1, nI_m1', m1_lt, lt_m1, m1_le, le_m1, eq_self, not_true_eq_false, not_false_eq_true, ↓reduceIte, leT, leF, ltT, ltF, eqT, eqF, decide_true, decide_false, true_and, and_true, Nat.reduceAdd, bI0_i, bI_i, bI_x, bV0_v, bV_v, bV_x, ↓bnd_e, gd_t, m_of, show stepOf (1000 + 0) = 1 from rfl]; rfl
    | 1, _ => simp (disch := omega) only [fa_lit, nI_ad, nI_mul, nI_cl, inb_nI, nI_ltE, nI_leE, nI_eqE, nI_m1, nI_m1', m1_lt, lt_m1, m1_le, le_m1, eq_self, not_true_eq_false, not_false_eq_true, ↓reduceIte, leT, leF, ltT, ltF, eqT, eqF, decide_true, decide_false, true_and, and_true, Nat.reduceAdd, bI0_i, bI_i, bI_x, bV0_v, bV_v, bV_x, ↓bnd_e, gd_t, m_of, show stepOf (1000 + 1) = 2 from rfl]; rfl
    | 2, _ => simp (disch := omega) only [fa_lit, nI_ad, nI_mul, nI_cl, inb_nI, nI_ltE, nI_leE, nI_eqE, nI_m1, nI_m1', m1_lt, lt_m1, m1_le, le_m1, eq_self, not_true_eq_false, not_false_eq_true, ↓reduceIte, leT, leF, ltT, ltF, eqT, eqF, decide_true, decide_false, true_and, and_true, Nat.reduceAdd, bI0_i, bI_i, bI_x, bV0_v, bV_v, bV_x, ↓bnd_e, gd_t, m_of, show stepOf (1000 + 2) = 4 from rfl]; rfl
    | 3, _ => simp (disch := omega) only [fa_lit, nI_ad, nI_mul, nI_cl, inb_nI, nI_ltE, nI_leE, nI_eqE, nI_m1, nI_m1', m1_lt, lt_m1, m1_le, le_m1, eq_self, not_true_eq_false, not_false_eq_true, ↓reduceIte, leT, leF, ltT, ltF, eqT, eqF, decide_true, decide_false, true_and, and_true, Nat.reduceAdd, bI0_i, bI_i, bI_x, bV0_v, bV_v, bV_x, ↓bnd_e, gd_t, m_of, show stepOf (1000 + 3) = 5 from rfl]; rfl
    | 4, _ => simp (disch := omega) only [fa_lit, nI_ad, nI_mul, nI_cl, inb_nI, nI_ltE, nI_leE, nI_eqE, nI_m1, nI_m1', m1_lt, lt_m1, m1_le, le_m1, eq_self, not_true_eq_false, not_false_eq_true, ↓reduceIte, leT, leF, ltT, ltF, eqT, eqF, decide_true, decide_false, true_and, and_true, Nat.reduceAdd, bI0_i, bI_i, bI_x, bV0_v, bV_v, bV_x, ↓bnd_e, gd_t, m_of, show stepOf (1000 + 4) = 6 from rfl]; rfl
    | 5, _ => simp (disch := omega) only [fa_lit, nI_ad, nI_mul, nI_cl, inb_nI, nI_ltE, nI_leE, nI_eqE, nI_m1, nI_m1', m1_lt, lt_m1, m1_le, le_m1, eq_self, not_true_eq_false, not_false_eq_true, ↓reduceIte, leT, leF, ltT, ltF, eqT, eqF, decide_true, decide_false, true_and, and_true, Nat.reduceAdd, bI0_i, bI_i, bI_x, bV0_v, bV_v, bV_x, ↓bnd_e, gd_t, m_of, show stepOf (1000 + 5) = 0 from rfl]; rfl
    | 6, _ => simp (disch := omega) only [fa_lit, nI_ad, nI_mul, nI_cl, inb_nI, nI_ltE, nI_leE, nI_eqE, nI_m1, nI_m1', m1_lt, lt_m1, m1_le, le_m1, eq_self, not_true_eq_false, not_false_eq_true, ↓reduceIte, leT, leF, ltT, ltF, eqT, eqF, decide_true, decide_false, true_and, and_true, Nat.reduceAdd, bI0_i, bI_i, bI_x, bV0_v, bV_v, bV_x, ↓bnd_e, gd_t, m_of, show stepOf (1000 + 6) = 3 from rfl]; rfl
    | 7, _ => simp (disch := omega) only [fa_lit, nI_ad, nI_mul, nI_cl, inb_nI, nI_ltE, nI_leE, nI_eqE, nI_m1, nI_m1', m1_lt, lt_m1, m1_le, le_m1, eq_self, not_true_eq_false, not_false_eq_true, ↓reduceIte, leT, leF, ltT, ltF, eqT, eqF, decide_true, decide_false, true_and, and_true, Nat.reduceAdd, bI0_i, bI_i, bI_x, bV0_v, bV_v, bV_x, ↓bnd_e, gd_t, m_of, show stepOf (1000 + 7) = 7 from rfl]; rfl
    | 8, _ =>
      simp (disch := omega) only [fa_lit, nI_ad, nI_mul, nI_cl, inb_nI, nI_ltE, nI_leE, nI_eqE, nI_m1, nI_m1', m1_lt, lt_m1, m1_le, le_m1, eq_self, not_true_eq_false, not_false_eq_true, ↓reduceIte, leT, leF, ltT, ltF, eqT, eqF, decide_true, decide_false, true_and, and_true, Nat.reduceAdd, bI0_i, bI_i, bI_x, bV0_v, bV_v, bV_x, ↓bnd_e, gd_t, m_isFresh, show stepOf (1000 + 8) = 8 from rfl, b_e0]
      show _ = some (Sum.inl (some (Value.int (bV32 (isF (cM (S 64)) l)))), S)
      cases isF (cM (S 64)) l <;> rfl
theorem m_and {a b : Int32} (h : a = nI 0 ∨ a = nI 1) (h2 : b = nI 0 ∨ b = nI 1) : (if ¬ a + b = nI 2 then nI 0 else nI 1) = a &&& b := by
  rcases h with h | h <;> rcases h2 with h2 | h2 <;> subst h <;> subst h2 <;> decide
theorem m_or {a b : Int32} (h : a = nI 0 ∨ a = nI 1) (h2 : b = nI 0 ∨ b = nI 1) : (if a + b ≤ nI 0 then nI 0 else nI 1) = a ||| b := by
  rcases h with h | h <;> rcases h2 with h2 | h2 <;> subst h <;> subst h2 <;> decide
theorem stepOf_lt (x : Nat) : stepOf x < 16 := by
  unfold stepOf
  by_cases h0 : x < 1000
  · rw [if_pos h0]; omega
  rw [if_neg h0]
  by_cases h1 : x = 1000
  · rw [if_pos h1]; omega
  rw [if_neg h1]
  by_cases h2 : x = 1001
  · rw [if_pos h2]; omega
  rw [if_neg h2]
  by_cases h3 : x = 1002
  · rw [if_pos h3]; omega
  rw [if_neg h3]
  by_cases h4 : x = 1003
  · rw [if_pos h4]; omega
  rw [if_neg h4]
  by_cases h5 : x = 1004
  · rw [if_pos h5]; omega
  rw [if_neg h5]
  by_cases h6 : x = 1005
  · rw [if_pos h6]; omega
  rw [if_neg h6]
  by_cases h7 : x = 1006
  · rw [if_pos h7]; omega
  rw [if_neg h7]
  by_cases h8 : x = 1007
  · rw [if_pos h8]; omega
  rw [if_neg h8]
  by_cases h9 : x = 1008
  · rw [if_pos h9]; omega
  rw [if_neg h9]
  by_cases h10 : x = 2000
  · rw [if_pos h10]; omega
  rw [if_neg h10]
  by_cases h11 : x = 2001
  · rw [if_pos h11]; omega
  rw [if_neg h11]
  by_cases h12 : x = 2002
  · rw [if_pos h12]; omega
  rw [if_neg h12]
  by_cases h13 : x = 2003
  · rw [if_pos h13]; omega
  rw [if_neg h13]
  by_cases h14 : x = 2004
  · rw [if_pos h14]; omega
  rw [if_neg h14]
  omega
theorem stepOf_lo {x : Nat} (h : x < 1009) : ¬ 9 < stepOf x := by
  unfold stepOf
  by_cases h0 : x < 1000
  · rw [if_pos h0]; omega
  rw [if_neg h0]
  by_cases h1 : x = 1000
  · rw [if_pos h1]; omega
  rw [if_neg h1]
  by_cases h2 : x = 1001
  · rw [if_pos h2]; omega
  rw [if_neg h2]
  by_cases h3 : x = 1002
  · rw [if_pos h3]; omega
  rw [if_neg h3]
  by_cases h4 : x = 1003
  · rw [if_pos h4]; omega
  rw [if_neg h4]
  by_cases h5 : x = 1004
  · rw [if_pos h5]; omega
  rw [if_neg h5]
  by_cases h6 : x = 1005
  · rw [if_pos h6]; omega
  rw [if_neg h6]
  by_cases h7 : x = 1006
  · rw [if_pos h7]; omega
  rw [if_neg h7]
  by_cases h8 : x = 1007
  · rw [if_pos h8]; omega
  rw [if_neg h8]
  by_cases h9 : x = 1008
  · rw [if_pos h9]; omega
  rw [if_neg h9]
  by_cases h10 : x = 2000
  · rw [if_pos h10]; omega
  rw [if_neg h10]
  by_cases h11 : x = 2001
  · rw [if_pos h11]; omega
  rw [if_neg h11]
  by_cases h12 : x = 2002
  · rw [if_pos h12]; omega
  rw [if_neg h12]
  by_cases h13 : x = 2003
  · rw [if_pos h13]; omega
  rw [if_neg h13]
  by_cases h14 : x = 2004
  · rw [if_pos h14]; omega
  rw [if_neg h14]
  omega
theorem m_stP {F k e i l K t : Nat} {S : mS} {a b : Int32} {q : Nat → Int32} (hK : K < 2000) (hKe : S 64 (K + 3) = nI e) (hi : i < e) (he : e ≤ 400) (ht : t < 20) {x : Nat} {T T' : List Bool} (hl : l < 10) (hx : S 64 (496 + 2 * i) = nI (stepOf x)) (hx' : S 64 (496 + 2 * i + 1) = nI (argOf x)) (h1 : x < 1009) (hty : tyStep x T = some T') :
    f_X10_holdsLine_b22 F (k + 1) (nI l) (nI t) (nI K) (nI i) (sM S a b q) = f_X10_holdsLine_b22 F k (nI l) (nI (t + 1)) (nI K) (nI (i + 1)) (sM S a b (upd q t (if x < 1000 then nI x else facts (cM (S 64)) l a b (x - 1000)))) := by
  have e18 : (sM S a b q) 63 18 = a := by rw [sM_63, upd_n (by omega), upd_s]
  have e19 : (sM S a b q) 63 19 = b := by rw [sM_63, upd_s]
  have hs : (9 < stepOf x) = False := eq_false (stepOf_lo h1)
  have hs16 := stepOf_lt x
  have hf := m_fact (S := sM S a b q) h1 hty hl
  have e1 : (sM S a b q) 64 = S 64 := sM_n (by omega) (by omega)
  have hie : (e ≤ i) = False := eq_false (by omega)
  rw [f_X10_holdsLine_b22]
  rw [e1, e18, e19] at hf
  unfold f_X10_holdsLine_b257
  simp (disch := omega) only [fa_lit, nI_ad, nI_mul, nI_cl, inb_nI, nI_ltE, nI_leE, nI_eqE, nI_m1, nI_m1', m1_lt, lt_m1, m1_le, le_m1, eq_self, not_true_eq_false, not_false_eq_true, ↓reduceIte, leT, leF, ltT, ltF, eqT, eqF, decide_true, decide_false, true_and, and_true, Nat.reduceAdd, bI0_i, bI_i, bI_x, bV0_v, bV_v, bV_x, ↓bnd_e, gd_t, e1, hKe, hx, hx', hie, hs, hf, up_sM71]
theorem m_stN {F k e i l K t : Nat} {S : mS} {a b : Int32} {q : Nat → Int32} (hK : K < 2000) (hKe : S 64 (K + 3) = nI e) (hi : i < e) (he : e ≤ 400) (ht : t < 20) {v : Int32} (hx : S 64 (496 + 2 * i) = nI 13) (hq : q t = v) :
    f_X10_holdsLine_b22 F (k + 1) (nI l) (nI (t + 1)) (nI K) (nI i) (sM S a b q) = f_X10_holdsLine_b22 F k (nI l) (nI (t + 1)) (nI K) (nI (i + 1)) (sM S a b (upd q t (nI 1 - v))) := by
  have e1 : (sM S a b q) 64 = S 64 := sM_n (by omega) (by omega)
  have hie : (e ≤ i) = False := eq_false (by omega)
  rw [f_X10_holdsLine_b22]
  unfold f_X10_holdsLine_b257
  simp (disch := omega) only [fa_lit, nI_ad, nI_mul, nI_cl, inb_nI, nI_ltE, nI_leE, nI_eqE, nI_m1, nI_m1', m1_lt, lt_m1, m1_le, le_m1, eq_self, not_true_eq_false, not_false_eq_true, ↓reduceIte, leT, leF, ltT, ltF, eqT, eqF, decide_true, decide_false, true_and, and_true, Nat.reduceAdd, bI0_i, bI_i, bI_x, bV0_v, bV_v, bV_x, ↓bnd_e, gd_t, e1, hKe, hx, hie, up_sM71, sub1, sM_71, hq]
theorem m_st10 {F k e i l K t : Nat} {S : mS} {a b : Int32} {q : Nat → Int32} (hK : K < 2000) (hKe : S 64 (K + 3) = nI e) (hi : i < e) (he : e ≤ 400) (ht : t < 20) {y z : Int32} (hx : S 64 (496 + 2 * i) = nI 10) (hq : q (t + 1) = y) (hq2 : q t = z) :
    f_X10_holdsLine_b22 F (k + 1) (nI l) (nI (t + 1 + 1)) (nI K) (nI i) (sM S a b q) = f_X10_holdsLine_b22 F k (nI l) (nI (t + 1)) (nI K) (nI (i + 1)) (sM S a b (upd q t (z + y))) := by
  have e1 : (sM S a b q) 64 = S 64 := sM_n (by omega) (by omega)
  have hie : (e ≤ i) = False := eq_false (by omega)
  rw [f_X10_holdsLine_b22]
  unfold f_X10_holdsLine_b222 f_X10_holdsLine_b256 f_X10_holdsLine_b257
  simp (disch := omega) only [fa_lit, nI_ad, nI_mul, nI_cl, inb_nI, nI_ltE, nI_leE, nI_eqE, nI_m1, nI_m1', m1_lt, lt_m1, m1_le, le_m1, eq_self, not_true_eq_false, not_false_eq_true, ↓reduceIte, leT, leF, ltT, ltF, eqT, eqF, decide_true, decide_false, true_and, and_true, Nat.reduceAdd, bI0_i, bI_i, bI_x, bV0_v, bV_v, bV_x, ↓bnd_e, gd_t, e1, hKe, hx, hie, up_sM71, sub1, subm1, sM_71, hq, hq2, nle_lt]
  split <;> rfl
theorem m_st11 {F k e i l K t : Nat} {S : mS} {a b : Int32} {q : Nat → Int32} (hK : K < 2000) (hKe : S 64 (K + 3) = nI e) (hi : i < e) (he : e ≤ 400) (ht : t < 20) {y z : Int32} (hx : S 64 (496 + 2 * i) = nI 11) (hq : q (t + 1) = y) (hq2 : q t = z) :
    f_X10_holdsLine_b22 F (k + 1) (nI l) (nI (t + 1 + 1)) (nI K) (nI i) (sM S a b q) = f_X10_holdsLine_b22 F k (nI l) (nI (t + 1)) (nI K) (nI (i + 1)) (sM S a b (upd q t (if z < y then nI 1 else nI 0))) := by
  have e1 : (sM S a b q) 64 = S 64 := sM_n (by omega) (by omega)
  have hie : (e ≤ i) = False := eq_false (by omega)
  rw [f_X10_holdsLine_b22]
  unfold f_X10_holdsLine_b222 f_X10_holdsLine_b256 f_X10_holdsLine_b257
  by_cases g : z < y <;> simp (disch := omega) only [fa_lit, nI_ad, nI_mul, nI_cl, inb_nI, nI_ltE, nI_leE, nI_eqE, nI_m1, nI_m1', m1_lt, lt_m1, m1_le, le_m1, eq_self, not_true_eq_false, not_false_eq_true, ↓reduceIte, leT, leF, ltT, ltF, eqT, eqF, decide_true, decide_false, true_and, and_true, Nat.reduceAdd, bI0_i, bI_i, bI_x, bV0_v, bV_v, bV_x, ↓bnd_e, gd_t, e1, hKe, hx, hie, up_sM71, sub1, subm1, sM_71, hq, hq2, nle_lt, g]
theorem m_st12 {F k e i l K t : Nat} {S : mS} {a b : Int32} {q : Nat → Int32} (hK : K < 2000) (hKe : S 64 (K + 3) = nI e) (hi : i < e) (he : e ≤ 400) (ht : t < 20) {y z : Int32} (hx : S 64 (496 + 2 * i) = nI 12) (hq : q (t + 1) = y) (hq2 : q t = z) :
    f_X10_holdsLine_b22 F (k + 1) (nI l) (nI (t + 1 + 1)) (nI K) (nI i) (sM S a b q) = f_X10_holdsLine_b22 F k (nI l) (nI (t + 1)) (nI K) (nI (i + 1)) (sM S a b (upd q t (if y < z then nI 1 else nI 0))) := by
  have e1 : (sM S a b q) 64 = S 64 := sM_n (by omega) (by omega)
  have hie : (e ≤ i) = False := eq_false (by omega)
  rw [f_X10_holdsLine_b22]
  unfold f_X10_holdsLine_b222 f_X10_holdsLine_b256 f_X10_holdsLine_b257
  by_cases g : y < z <;> simp (disch := omega) only [fa_lit, nI_ad, nI_mul, nI_cl, inb_nI, nI_ltE, nI_leE, nI_eqE, nI_m1, nI_m1', m1_lt, lt_m1, m1_le, le_m1, eq_self, not_true_eq_false, not_false_eq_true, ↓reduceIte, leT, leF, ltT, ltF, eqT, eqF, decide_true, decide_false, true_and, and_true, Nat.reduceAdd, bI0_i, bI_i, bI_x, bV0_v, bV_v, bV_x, ↓bnd_e, gd_t, e1, hKe, hx, hie, up_sM71, sub1, subm1, sM_71, hq, hq2, nle_lt, g]
theorem m_st14 {F k e i l K t : Nat} {S : mS} {a b : Int32} {q : Nat → Int32} (hK : K < 2000) (hKe : S 64 (K + 3) = nI e) (hi : i < e) (he : e ≤ 400) (ht : t < 20) {y z : Int32} (hx : S 64 (496 + 2 * i) = nI 14) (hq : q (t + 1) = y) (hq2 : q t = z) :
    f_X10_holdsLine_b22 F (k + 1) (nI l) (nI (t + 1 + 1)) (nI K) (nI i) (sM S a b q) = f_X10_holdsLine_b22 F k (nI l) (nI (t + 1)) (nI K) (nI (i + 1)) (sM S a b (upd q t (if z + y = nI 2 then nI 1 else nI 0))) := by
  have e1 : (sM S a b q) 64 = S 64 := sM_n (by omega) (by omega)
  have hie : (e ≤ i) = False := eq_false (by omega)
  rw [f_X10_holdsLine_b22]
  unfold f_X10_holdsLine_b222 f_X10_holdsLine_b256 f_X10_holdsLine_b257
  by_cases g : z + y = nI 2 <;> simp (disch := omega) only [fa_lit, nI_ad, nI_mul, nI_cl, inb_nI, nI_ltE, nI_leE, nI_eqE, nI_m1, nI_m1', m1_lt, lt_m1, m1_le, le_m1, eq_self, not_true_eq_false, not_false_eq_true, ↓reduceIte, leT, leF, ltT, ltF, eqT, eqF, decide_true, decide_false, true_and, and_true, Nat.reduceAdd, bI0_i, bI_i, bI_x, bV0_v, bV_v, bV_x, ↓bnd_e, gd_t, e1, hKe, hx, hie, up_sM71, sub1, subm1, sM_71, hq, hq2, nle_lt, g]
theorem m_st15 {F k e i l K t : Nat} {S : mS} {a b : Int32} {q : Nat → Int32} (hK : K < 2000) (hKe : S 64 (K + 3) = nI e) (hi : i < e) (he : e ≤ 400) (ht : t < 20) {y z : Int32} (hx : S 64 (496 + 2 * i) = nI 15) (hq : q (t + 1) = y) (hq2 : q t = z) :
    f_X10_holdsLine_b22 F (k + 1) (nI l) (nI (t + 1 + 1)) (nI K) (nI i) (sM S a b q) = f_X10_holdsLine_b22 F k (nI l) (nI (t + 1)) (nI K) (nI (i + 1)) (sM S a b (upd q t (if nI 0 < z + y then nI 1 else nI 0))) := by
  have e1 : (sM S a b q) 64 = S 64 := sM_n (by omega) (by omega)
  have hie : (e ≤ i) = False := eq_false (by omega)
  rw [f_X10_holdsLine_b22]
  unfold f_X10_holdsLine_b222 f_X10_holdsLine_b256 f_X10_holdsLine_b257
  by_cases g : nI 0 < z + y <;> simp (disch := omega) only [fa_lit, nI_ad, nI_mul, nI_cl, inb_nI, nI_ltE, nI_leE, nI_eqE, nI_m1, nI_m1', m1_lt, lt_m1, m1_le, le_m1, eq_self, not_true_eq_false, not_false_eq_true, ↓reduceIte, leT, leF, ltT, ltF, eqT, eqF, decide_true, decide_false, true_and, and_true, Nat.reduceAdd, bI0_i, bI_i, bI_x, bV0_v, bV_v, bV_x, ↓bnd_e, gd_t, e1, hKe, hx, hie, up_sM71, sub1, subm1, sM_71, hq, hq2, nle_lt, g]
