theorem shl_pow : ∀ n, n < 11 → nI 1 <<< (nI n &&& nI 31) = nI (2 ^ n) := by decide
theorem has_all : ∀ n, n < 7 → ∀ h, h < n → hasV (nI (2 ^ n - 1)) h = true := by decide
theorem has_m1 : ∀ h, h < 10 → hasV (-nI 1) h = true := by decide
theorem has_all10 : ∀ n, n < 11 → ∀ h, h < n → hasV (nI (2 ^ n - 1)) h = true := by decide
theorem shr_and (a b c : Int32) : (a &&& b) >>> c = (a >>> c) &&& (b >>> c) := by
  apply Int32.toBitVec_inj.1
  simp [Int32.toBitVec_shiftRight]
  exact BitVec.sshiftRight_and_distrib _ _ _
theorem has_and {set m : Int32} {h : Nat} (hm : hasV m h = true) : hasV (set &&& m) h = hasV set h := by
  unfold hasV at *
  have e := of_decide_eq_true hm
  rw [shr_and, Int32.and_assoc, e]
theorem strV_congr {c : Nat → Int32} {s s' : Int32} : ∀ {n : Nat}, (∀ h, h < n → hasV s h = hasV s' h) → strV c s n = strV c s' n
  | 0, _ => rfl
  | n + 1, h => by rw [strV, strV, strV_congr (fun k hk => h k (by omega)), h n (by omega)]
theorem sub_one_pow {n : Nat} : nI (2 ^ n) - nI 1 = nI (2 ^ n - 1) := nI_sub (Nat.one_le_two_pow)
section M
variable {F l : Nat} {S : mS} {A : aL}
theorem m_swingOf {kick wind : Int32} (hF : 401 ≤ F) (hl : l < 10) (hA : LM A (S 64)) (hW : LW A) :
    ∃ a b q, f_X10_swingOf F (nI l) kick wind S = some (.inl (some (.int (swingV A (cM (S 64)) l kick wind))), sM S a b q) := by
  obtain ⟨q, h⟩ := m_sum (kick := kick) (wind := wind) (kind := 0) hF (by omega) hl hA hW
  refine ⟨kick, wind, q, ?_⟩
  unfold f_X10_swingOf swingV
  simp (disch := omega) only [fa_lit, nI_ad, nI_mul, nI_cl, inb_nI, nI_ltE, nI_leE, nI_eqE, nI_m1, nI_m1', m1_lt, lt_m1, m1_le, le_m1, eq_self, not_true_eq_false, not_false_eq_true, ↓reduceIte, leT, leF, ltT, ltF, eqT, eqF, decide_true, decide_false, true_and, and_true, Nat.reduceAdd, bI0_i, bI_i, bI_x, bV0_v, bV_v, bV_x, ↓bnd_e, gd_t, h]
  rw [Int32.add_comm]
theorem m_wearOf {wind : Int32} (hF : 401 ≤ F) (hl : l < 10) (hA : LM A (S 64)) (hW : LW A) :
    ∃ a b q, f_X10_wearOf F (nI l) wind S = some (.inl (some (.int (sumV A 1 (cM (S 64)) l (nI 0) wind))), sM S a b q) := by
  obtain ⟨q, h⟩ := m_sum (kick := nI 0) (wind := wind) (kind := 1) hF (by omega) hl hA hW
  refine ⟨nI 0, wind, q, ?_⟩
  unfold f_X10_wearOf
  simp (disch := omega) only [fa_lit, nI_ad, nI_mul, nI_cl, inb_nI, nI_ltE, nI_leE, nI_eqE, nI_m1, nI_m1', m1_lt, lt_m1, m1_le, le_m1, eq_self, not_true_eq_false, not_false_eq_true, ↓reduceIte, leT, leF, ltT, ltF, eqT, eqF, decide_true, decide_false, true_and, and_true, Nat.reduceAdd, bI0_i, bI_i, bI_x, bV0_v, bV_v, bV_x, ↓bnd_e, gd_t, h]
theorem min_comm (a b : Int32) : (if a < b then a else b) = (if b < a then b else a) := by
  by_cases h1 : a < b
  · have h2 : ¬ b < a := by rw [Int32.lt_iff_toInt_lt] at *; omega
    rw [if_pos h1, if_neg h2]
  · by_cases h2 : b < a
    · rw [if_neg h1, if_pos h2]
    · rw [if_neg h1, if_neg h2]
      apply Int32.toInt_inj.1
      rw [Int32.lt_iff_toInt_lt] at *; omega
theorem m_laysOf (hF : 401 ≤ F) (hl : l < 10) (hA : LM A (S 64)) (hW : LW A) :
    ∃ a b q, f_X10_laysOf F (nI l) (cM (S 64) 4) S = some (.inl (some (.int (laysV A (cM (S 64)) l))), sM S a b q) := by
  obtain ⟨q, h⟩ := m_sum (kick := nI 0) (wind := cM (S 64) 4) (kind := 2) hF (by omega) hl hA hW
  refine ⟨nI 0, cM (S 64) 4, q, ?_⟩
  unfold f_X10_laysOf laysV
  simp (disch := omega) only [fa_lit, nI_ad, nI_mul, nI_cl, inb_nI, nI_ltE, nI_leE, nI_eqE, nI_m1, nI_m1', m1_lt, lt_m1, m1_le, le_m1, eq_self, not_true_eq_false, not_false_eq_true, ↓reduceIte, leT, leF, ltT, ltF, eqT, eqF, decide_true, decide_false, true_and, and_true, Nat.reduceAdd, bI0_i, bI_i, bI_x, bV0_v, bV_v, bV_x, ↓bnd_e, gd_t, h, m_of]
  rw [min_comm]
theorem sM_id {S : mS} : sM S (S 63 18) (S 63 19) (S 71) = S := by
  funext o
  by_cases h : o = 71
  · subst h; rw [sM_71]
  · by_cases h2 : o = 63
    · subst h2; rw [sM_63, upd_id (f := S 63) rfl, upd_id rfl]
    · rw [sM_n h h2]
theorem sM64 {S : mS} {a b : Int32} {q : Nat → Int32} : sM S a b q 64 = S 64 := sM_n (by omega) (by omega)
theorem m_swingloop {wind : Int32} {n : Nat} (hn : n ≤ 13) (hF : 401 ≤ F) (hl : l < 10) (hA : LM A (S 64)) (hW : LW A) : ∀ (m i k : Nat) (a b : Int32) (q : Nat → Int32), i + m = n → m < k →
    ∃ a' b' q', f_X10_swings_b6 F k (nI l) (nI n) wind (farV A (cM (S 64)) l wind i) (nI (i + 1)) (sM S a b q) = some (.inl (some (.int (farV A (cM (S 64)) l wind n))), sM S a' b' q')
  | 0, i, k + 1, a, b, q, hi, hk => by
    have hie : i = n := by omega
    subst hie
    refine ⟨a, b, q, ?_⟩
    rw [f_X10_swings_b6]
    simp (disch := omega) only [fa_lit, nI_ad, nI_mul, nI_cl, inb_nI, nI_ltE, nI_leE, nI_eqE, nI_m1, nI_m1', m1_lt, lt_m1, m1_le, le_m1, eq_self, not_true_eq_false, not_false_eq_true, ↓reduceIte, leT, leF, ltT, ltF, eqT, eqF, decide_true, decide_false, true_and, and_true, Nat.reduceAdd, bI0_i, bI_i, bI_x, bV0_v, bV_v, bV_x, ↓bnd_e, gd_t]
  | m + 1, i, k + 1, a, b, q, hi, hk => by
    obtain ⟨a1, b1, q1, h⟩ := m_swingOf (kick := nI (i + 1)) (wind := wind) (S := sM S a b q) hF hl (by rw [sM64]; exact hA) hW
    obtain ⟨a2, b2, q2, ih⟩ := m_swingloop (wind := wind) hn hF hl hA hW m (i + 1) k a1 b1 q1 (by omega) (by omega)
    refine ⟨a2, b2, q2, ?_⟩
    rw [sM_sM, sM64] at h
    rw [f_X10_swings_b6]
    simp (disch := omega) only [fa_lit, nI_ad, nI_mul, nI_cl, inb_nI, nI_ltE, nI_leE, nI_eqE, nI_m1, nI_m1', m1_lt, lt_m1, m1_le, le_m1, eq_self, not_true_eq_false, not_false_eq_true, ↓reduceIte, leT, leF, ltT, ltF, eqT, eqF, decide_true, decide_false, true_and, and_true, Nat.reduceAdd, bI0_i, bI_i, bI_x, bV0_v, bV_v, bV_x, ↓bnd_e, gd_t, h]
    exact ih
theorem m_swings {wind : Int32} {n : Nat} (hn : n ≤ 13) (hF : 401 ≤ F) (hl : l < 10) (hA : LM A (S 64)) (hW : LW A) :
    ∃ a b q, f_X10_swings F (nI l) (nI n) wind S = some (.inl (some (.int (farV A (cM (S 64)) l wind n))), sM S a b q) := by
  obtain ⟨a, b, q, h⟩ := m_swingloop (wind := wind) hn hF hl hA hW n 0 F (S 63 18) (S 63 19) (S 71) (by omega) (by omega)
  rw [sM_id] at h
  exact ⟨a, b, q, h⟩
theorem m_kickloop {wind : Int32} (hF : 401 ≤ F) (hl : l < 10) (hA : LM A (S 64)) (hW : LW A) : ∀ (m i k : Nat) (a b : Int32) (q : Nat → Int32), i + m = 13 → m < k →
    ∃ a' b' q', f_X10_kicksTo_b2 F k (nI l) wind (nI i) (sM S a b q) = some (.inl (some (.int (kickF A (cM (S 64)) l wind m i))), sM S a' b' q')
  | 0, i, k + 1, a, b, q, hi, hk => by
    refine ⟨a, b, q, ?_⟩
    rw [f_X10_kicksTo_b2, kickF]
    simp (disch := omega) only [fa_lit, nI_ad, nI_mul, nI_cl, inb_nI, nI_ltE, nI_leE, nI_eqE, nI_m1, nI_m1', m1_lt, lt_m1, m1_le, le_m1, eq_self, not_true_eq_false, not_false_eq_true, ↓reduceIte, leT, leF, ltT, ltF, eqT, eqF, decide_true, decide_false, true_and, and_true, Nat.reduceAdd, bI0_i, bI_i, bI_x, bV0_v, bV_v, bV_x, ↓bnd_e, gd_t]
  | m + 1, i, k + 1, a, b, q, hi, hk => by
    obtain ⟨a1, b1, q1, h⟩ := m_swings (wind := wind) (S := sM S a b q) (by omega : i ≤ 13) hF hl (by rw [sM64]; exact hA) hW
    rw [sM_sM, sM64] at h
    rw [f_X10_kicksTo_b2, kickF]
    by_cases g : farV A (cM (S 64)) l wind i < cM (S 64) (16 + l * 5 + 1)
    · obtain ⟨a2, b2, q2, ih⟩ := m_kickloop (wind := wind) hF hl hA hW m (i + 1) k a1 b1 q1 (by omega) (by omega)
      refine ⟨a2, b2, q2, ?_⟩
      simp (disch := omega) only [fa_lit, nI_ad, nI_mul, nI_cl, inb_nI, nI_ltE, nI_leE, nI_eqE, nI_m1, nI_m1', m1_lt, lt_m1, m1_le, le_m1, eq_self, not_true_eq_false, not_false_eq_true, ↓reduceIte, leT, leF, ltT, ltF, eqT, eqF, decide_true, decide_false, true_and, and_true, Nat.reduceAdd, bI0_i, bI_i, bI_x, bV0_v, bV_v, bV_x, ↓bnd_e, gd_t, h, m_of, sM64, g]
      exact ih
    · refine ⟨a1, b1, q1, ?_⟩
      simp (disch := omega) only [fa_lit, nI_ad, nI_mul, nI_cl, inb_nI, nI_ltE, nI_leE, nI_eqE, nI_m1, nI_m1', m1_lt, lt_m1, m1_le, le_m1, eq_self, not_true_eq_false, not_false_eq_true, ↓reduceIte, leT, leF, ltT, ltF, eqT, eqF, decide_true, decide_false, true_and, and_true, Nat.reduceAdd, bI0_i, bI_i, bI_x, bV0_v, bV_v, bV_x, ↓bnd_e, gd_t, h, m_of, sM64, g]
theorem m_kicksTo {wind : Int32} (hF : 401 ≤ F) (hl : l < 10) (hA : LM A (S 64)) (hW : LW A) :
    ∃ a b q, f_X10_kicksTo F (nI l) wind S = some (.inl (some (.int (kicksV A (cM (S 64)) l wind))), sM S a b q) := by
  obtain ⟨a, b, q, h⟩ := m_kickloop (wind := wind) hF hl hA hW 13 0 F (S 63 18) (S 63 19) (S 71) (by omega) (by omega)
  rw [sM_id] at h
  exact ⟨a, b, q, h⟩
theorem m_loadOf {k : Nat} (hk : k < 4) (hl : l < 10) : f_X10_loadOf (nI k) (nI l) S = some (.inl (some (.int (loadV (cM (S 64)) k l))), S) := by
  unfold f_X10_loadOf loadV
  simp (disch := omega) only [fa_lit, nI_ad, nI_mul, nI_cl, inb_nI, nI_ltE, nI_leE, nI_eqE, nI_m1, nI_m1', m1_lt, lt_m1, m1_le, le_m1, eq_self, not_true_eq_false, not_false_eq_true, ↓reduceIte, leT, leF, ltT, ltF, eqT, eqF, decide_true, decide_false, true_and, and_true, Nat.reduceAdd, bI0_i, bI_i, bI_x, bV0_v, bV_v, bV_x, ↓bnd_e, gd_t, m_of, m_ofClimber]
theorem m_strloop {set : Int32} {n : Nat} (hn : cM (S 64) 13 = nI n) (hn6 : n ≤ 6) : ∀ (m i k : Nat), i + m = n → m < k →
    f_X10_strengthOf_b4 F k set (strV (cM (S 64)) set i) (nI i) S = some (.inl (some (.int (strV (cM (S 64)) set n))), S)
  | 0, i, k + 1, hi, hk => by
    have hie : i = n := by omega
    subst hie
    rw [f_X10_strengthOf_b4]
    simp (disch := omega) only [fa_lit, nI_ad, nI_mul, nI_cl, inb_nI, nI_ltE, nI_leE, nI_eqE, nI_m1, nI_m1', m1_lt, lt_m1, m1_le, le_m1, eq_self, not_true_eq_false, not_false_eq_true, ↓reduceIte, leT, leF, ltT, ltF, eqT, eqF, decide_true, decide_false, true_and, and_true, Nat.reduceAdd, bI0_i, bI_i, bI_x, bV0_v, bV_v, bV_x, ↓bnd_e, gd_t, m_holders, hn]
  | m + 1, i, k + 1, hi, hk => by
    have ih := m_strloop (set := set) hn hn6 m (i + 1) k (by omega) (by omega)
    rw [f_X10_strengthOf_b4]
    unfold f_X10_strengthOf_b42
    rw [strV, max0] at ih
    cases g : hasV set i with
    | false =>
      rw [g, if_neg (by simp)] at ih
      simp (disch := omega) only [fa_lit, nI_ad, nI_mul, nI_cl, inb_nI, nI_ltE, nI_leE, nI_eqE, nI_m1, nI_m1', m1_lt, lt_m1, m1_le, le_m1, eq_self, not_true_eq_false, not_false_eq_true, ↓reduceIte, leT, leF, ltT, ltF, eqT, eqF, decide_true, decide_false, true_and, and_true, Nat.reduceAdd, bI0_i, bI_i, bI_x, bV0_v, bV_v, bV_x, ↓bnd_e, gd_t, m_holders, hn, m_has, g, bF]
      exact ih
    | true =>
      rw [g, if_pos rfl] at ih
      simp (disch := omega) only [fa_lit, nI_ad, nI_mul, nI_cl, inb_nI, nI_ltE, nI_leE, nI_eqE, nI_m1, nI_m1', m1_lt, lt_m1, m1_le, le_m1, eq_self, not_true_eq_false, not_false_eq_true, ↓reduceIte, leT, leF, ltT, ltF, eqT, eqF, decide_true, decide_false, true_and, and_true, Nat.reduceAdd, bI0_i, bI_i, bI_x, bV0_v, bV_v, bV_x, ↓bnd_e, gd_t, m_holders, hn, m_has, g, bT, m_ofHolder]
      exact ih
theorem m_strengthOf {set : Int32} {n : Nat} (hF : 401 ≤ F) (hn : cM (S 64) 13 = nI n) (hn6 : n ≤ 6) : f_X10_strengthOf F set S = some (.inl (some (.int (strV (cM (S 64)) set n))), S) :=
  m_strloop hn hn6 n 0 F (by omega) (by omega)
theorem m_allHolders {n : Nat} (hn : cM (S 64) 13 = nI n) (hn6 : n ≤ 6) : f_X10_allHolders S = some (.inl (some (.int (nI (2 ^ n - 1)))), S) := by
  unfold f_X10_allHolders
  simp (disch := omega) only [fa_lit, nI_ad, nI_mul, nI_cl, inb_nI, nI_ltE, nI_leE, nI_eqE, nI_m1, nI_m1', m1_lt, lt_m1, m1_le, le_m1, eq_self, not_true_eq_false, not_false_eq_true, ↓reduceIte, leT, leF, ltT, ltF, eqT, eqF, decide_true, decide_false, true_and, and_true, Nat.reduceAdd, bI0_i, bI_i, bI_x, bV0_v, bV_v, bV_x, ↓bnd_e, gd_t, m_holders, hn, shl_pow, sub_one_pow]
theorem m_allLedges {n : Nat} (hn : cM (S 64) 12 = nI n) (hn6 : n ≤ 10) : f_X10_allLedges S = some (.inl (some (.int (nI (2 ^ n - 1)))), S) := by
  unfold f_X10_allLedges
  simp (disch := omega) only [fa_lit, nI_ad, nI_mul, nI_cl, inb_nI, nI_ltE, nI_leE, nI_eqE, nI_m1, nI_m1', m1_lt, lt_m1, m1_le, le_m1, eq_self, not_true_eq_false, not_false_eq_true, ↓reduceIte, leT, leF, ltT, ltF, eqT, eqF, decide_true, decide_false, true_and, and_true, Nat.reduceAdd, bI0_i, bI_i, bI_x, bV0_v, bV_v, bV_x, ↓bnd_e, gd_t, m_ledges, hn, shl_pow, sub_one_pow]
theorem m_isHeld {k n : Nat} {set : Int32} (hF : 401 ≤ F) (hk : k < 4) (hl : l < 10) (hn : cM (S 64) 13 = nI n) (hn6 : n ≤ 6) :
    f_X10_isHeld F (nI k) (nI l) set S = some (.inl (some (.int (bV32 (heldV (cM (S 64)) k l set n)))), S) := by
  unfold f_X10_isHeld f_X10_isHeld_b19 heldV
  have h := m_strengthOf (set := set) hF hn hn6
  by_cases g : strV (cM (S 64)) set n < loadV (cM (S 64)) k l <;> simp (disch := omega) only [fa_lit, nI_ad, nI_mul, nI_cl, inb_nI, nI_ltE, nI_leE, nI_eqE, nI_m1, nI_m1', m1_lt, lt_m1, m1_le, le_m1, eq_self, not_true_eq_false, not_false_eq_true, ↓reduceIte, leT, leF, ltT, ltF, eqT, eqF, decide_true, decide_false, true_and, and_true, Nat.reduceAdd, bI0_i, bI_i, bI_x, bV0_v, bV_v, bV_x, ↓bnd_e, gd_t, h, m_loadOf, g, and10, and00] <;> rfl
theorem held_all {c : Nat → Int32} {k n : Nat} (hn6 : n ≤ 6) : heldV c k l (nI (2 ^ n - 1)) n = heldV c k l (-nI 1) n := by
  unfold heldV
  rw [strV_congr (s' := -nI 1)]
  intro h hh
  rw [has_all n (by omega) h hh, has_m1 h (by omega)]
theorem kick_neg {A : aL} {c : Nat → Int32} {wind : Int32} : (kicksV A c l wind < nI 0) = (kicksV A c l wind = -nI 1) := by
  rcases kicksV_cases (A := A) (c := c) (l := l) (wind := wind) with h | ⟨j, h1, h⟩
  · rw [h]; apply propext; constructor <;> intro _ <;> decide
  · rw [h, nI_m1 (by omega), nI_ltE (by omega) (by omega)]; simp
theorem m_canLet {k n : Nat} (hF : 401 ≤ F) (hk : k < 4) (hl : l < 10) (hn : cM (S 64) 13 = nI n) (hn6 : n ≤ 6) (hA : LM A (S 64)) (hW : LW A) :
    ∃ a b q, f_X10_canLet F (nI k) (nI l) S = some (.inl (some (.int (bV32 (canV A (cM (S 64)) k l n)))), sM S a b q) := by
  have h := m_isHeld (set := nI (2 ^ n - 1)) hF hk hl hn hn6
  rw [held_all hn6] at h
  obtain ⟨a, b, q, h2⟩ := m_kicksTo (wind := cM (S 64) 4) hF hl hA hW
  have id := sM_id (S := S)
  have h3 := m_allHolders hn hn6
  have e7 := w7 (S 64)
  have e6 := w6 (S 64)
  have e8 := w8 (S 64)
  have e9 := w9 (S 64)
  unfold f_X10_canLet f_X10_canLet_b65 f_X10_canLet_b66 canV
  by_cases g1 : cM (S 64) 0 < cM (S 64) (16 + l * 5 + 0)
  · refine ⟨S 63 18, S 63 19, S 71, ?_⟩
    simp (disch := omega) only [fa_lit, nI_ad, nI_mul, nI_cl, inb_nI, nI_ltE, nI_leE, nI_eqE, nI_m1, nI_m1', m1_lt, lt_m1, m1_le, le_m1, eq_self, not_true_eq_false, not_false_eq_true, ↓reduceIte, leT, leF, ltT, ltF, eqT, eqF, decide_true, decide_false, true_and, and_true, Nat.reduceAdd, bI0_i, bI_i, bI_x, bV0_v, bV_v, bV_x, ↓bnd_e, gd_t, m_of, e7, g1, and00, id, Bool.false_and]; rfl
  · cases g3 : heldV (cM (S 64)) k l (-nI 1) n with
    | false =>
      refine ⟨S 63 18, S 63 19, S 71, ?_⟩
      rw [g3] at h
      simp (disch := omega) only [fa_lit, nI_ad, nI_mul, nI_cl, inb_nI, nI_ltE, nI_leE, nI_eqE, nI_m1, nI_m1', m1_lt, lt_m1, m1_le, le_m1, eq_self, not_true_eq_false, not_false_eq_true, ↓reduceIte, leT, leF, ltT, ltF, eqT, eqF, decide_true, decide_false, true_and, and_true, Nat.reduceAdd, bI0_i, bI_i, bI_x, bV0_v, bV_v, bV_x, ↓bnd_e, gd_t, m_of, e7, g1, and00, id, h, h3, bF, Bool.false_and, Bool.and_false, Bool.true_and]
    | true =>
      refine ⟨a, b, q, ?_⟩
      rw [g3] at h
      by_cases g4 : kicksV A (cM (S 64)) l (cM (S 64) 4) = -nI 1
      · simp (disch := omega) only [fa_lit, nI_ad, nI_mul, nI_cl, inb_nI, nI_ltE, nI_leE, nI_eqE, nI_m1, nI_m1', m1_lt, lt_m1, m1_le, le_m1, eq_self, not_true_eq_false, not_false_eq_true, ↓reduceIte, leT, leF, ltT, ltF, eqT, eqF, decide_true, decide_false, true_and, and_true, Nat.reduceAdd, bI0_i, bI_i, bI_x, bV0_v, bV_v, bV_x, ↓bnd_e, gd_t, m_of, e7, e6, g1, and00, h, h3, bT, h2, kick_neg, g4, Bool.and_false, Bool.true_and]; rfl
      · by_cases g2 : cM (S 64) 1 < cM (S 64) 2
        · simp (disch := omega) only [fa_lit, nI_ad, nI_mul, nI_cl, inb_nI, nI_ltE, nI_leE, nI_eqE, nI_m1, nI_m1', m1_lt, lt_m1, m1_le, le_m1, eq_self, not_true_eq_false, not_false_eq_true, ↓reduceIte, leT, leF, ltT, ltF, eqT, eqF, decide_true, decide_false, true_and, and_true, Nat.reduceAdd, bI0_i, bI_i, bI_x, bV0_v, bV_v, bV_x, ↓bnd_e, gd_t, m_of, e7, e6, e8, e9, sM64, g1, g2, and10, h, h3, bT, h2, kick_neg, g4, nle_lt, Bool.and_true, Bool.true_and]
        · simp (disch := omega) only [fa_lit, nI_ad, nI_mul, nI_cl, inb_nI, nI_ltE, nI_leE, nI_eqE, nI_m1, nI_m1', m1_lt, lt_m1, m1_le, le_m1, eq_self, not_true_eq_false, not_false_eq_true, ↓reduceIte, leT, leF, ltT, ltF, eqT, eqF, decide_true, decide_false, true_and, and_true, Nat.reduceAdd, bI0_i, bI_i, bI_x, bV0_v, bV_v, bV_x, ↓bnd_e, gd_t, m_of, e7, e6, e8, e9, sM64, g1, g2, and00, h, h3, bT, h2, kick_neg, g4, nle_lt, Bool.and_true, Bool.true_and]; rfl
end M
