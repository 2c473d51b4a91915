/-! calls that only look, fifth lot -/
section O
variable {F : Nat} {S : mS}
def encO (b : Option Nat) : Int32 := match b with
  | none => -nI 1
  | some k => nI k
theorem enc_none : encO none = -nI 1 := rfl
theorem enc_some {k : Nat} : encO (some k) = nI k := rfl
theorem m1_lt0 : (-nI 1 < nI 0) = True := by
  apply propext; exact ⟨fun _ => trivial, fun _ => by decide⟩
theorem le0_m1 : (nI 0 ≤ -nI 1) = False := by
  apply propext; exact ⟨fun h => absurd h (by decide), fun h => h.elim⟩
theorem m1_m1 : (-nI 1 = -nI 1) = True := eq_self _
-- signs
def safeIn (signs : Int32) (e a : Nat) (is : Bool) : Nat → Bool
  | 0 => is
  | b + 1 => safeIn signs e a is b && !(hasV signs a && hasV signs b && decide (a - b ≤ 2 * e))
def safeOut (signs : Int32) (e : Nat) : Nat → Bool
  | 0 => true
  | a + 1 => safeIn signs e a (safeOut signs e a) a
theorem m_safeIn {K : Int32 → Int32 → Int32 → Int32 → mS → Option mR} {signs : Int32} {e a : Nat} {is : Bool} (ha : a < 12) (he : e ≤ 5) : ∀ (m i k : Nat), i + m = a → m < k →
    f_X10_safe_b34 K F k signs (nI e) (bV32 (safeIn signs e a is i)) (nI a) (nI i) S = K signs (nI e) (bV32 (safeIn signs e a is a)) (nI (a + 1)) S
  | 0, i, k + 1, hi, hk => by
    have hie : i = a := by omega
    subst hie
    rw [f_X10_safe_b34]
    simp (disch := omega) only [fa_lit, nI_ad, nI_mul, nI_cl, inb_nI, nI_ltE, nI_leE, nI_eqE, nI_m1, nI_m1', m1_lt, lt_m1, m1_le, le_m1, eq_self, not_true_eq_false, not_false_eq_true, ↓reduceIte, leT, leF, ltT, ltF, eqT, eqF, decide_true, decide_false, true_and, and_true, Nat.reduceAdd, bI0_i, bI_i, bI_x, bV0_v, bV_v, bV_x, ↓bnd_e, gd_t]
  | m + 1, i, k + 1, hi, hk => by
    have ih := m_safeIn (K := K) (signs := signs) (is := is) ha he m (i + 1) k (by omega) (by omega)
    rw [safeIn] at ih
    rw [f_X10_safe_b34]
    unfold f_X10_safe_b78 f_X10_safe_b74 f_X10_safe_b79
    cases g0 : safeIn signs e a is i with
    | false =>
      rw [g0, Bool.false_and] at ih
      simp (disch := omega) only [fa_lit, nI_ad, nI_mul, nI_cl, inb_nI, nI_ltE, nI_leE, nI_eqE, nI_m1, nI_m1', m1_lt, lt_m1, m1_le, le_m1, eq_self, not_true_eq_false, not_false_eq_true, ↓reduceIte, leT, leF, ltT, ltF, eqT, eqF, decide_true, decide_false, true_and, and_true, Nat.reduceAdd, bI0_i, bI_i, bI_x, bV0_v, bV_v, bV_x, ↓bnd_e, gd_t, bF]
      exact ih
    | true =>
      rw [g0, Bool.true_and] at ih
      cases g1 : hasV signs a with
      | false =>
        rw [g1, Bool.false_and, Bool.false_and, Bool.not_false] at ih
        simp (disch := omega) only [fa_lit, nI_ad, nI_mul, nI_cl, inb_nI, nI_ltE, nI_leE, nI_eqE, nI_m1, nI_m1', m1_lt, lt_m1, m1_le, le_m1, eq_self, not_true_eq_false, not_false_eq_true, ↓reduceIte, leT, leF, ltT, ltF, eqT, eqF, decide_true, decide_false, true_and, and_true, Nat.reduceAdd, bI0_i, bI_i, bI_x, bV0_v, bV_v, bV_x, ↓bnd_e, gd_t, bT, bF, m_has, g1]
        exact ih
      | true =>
        rw [g1, Bool.true_and] at ih
        cases g2 : hasV signs i with
        | false =>
          rw [g2, Bool.false_and, Bool.not_false] at ih
          simp (disch := omega) only [fa_lit, nI_ad, nI_mul, nI_cl, inb_nI, nI_ltE, nI_leE, nI_eqE, nI_m1, nI_m1', m1_lt, lt_m1, m1_le, le_m1, eq_self, not_true_eq_false, not_false_eq_true, ↓reduceIte, leT, leF, ltT, ltF, eqT, eqF, decide_true, decide_false, true_and, and_true, Nat.reduceAdd, bI0_i, bI_i, bI_x, bV0_v, bV_v, bV_x, ↓bnd_e, gd_t, bT, bF, m_has, g1, g2]
          exact ih
        | true =>
          rw [g2, Bool.true_and] at ih
          by_cases g3 : a - i ≤ 2 * e
          · rw [decide_eq_true g3, Bool.not_true] at ih
            simp (disch := omega) only [fa_lit, nI_ad, nI_mul, nI_cl, inb_nI, nI_ltE, nI_leE, nI_eqE, nI_m1, nI_m1', m1_lt, lt_m1, m1_le, le_m1, eq_self, not_true_eq_false, not_false_eq_true, ↓reduceIte, leT, leF, ltT, ltF, eqT, eqF, decide_true, decide_false, true_and, and_true, Nat.reduceAdd, bI0_i, bI_i, bI_x, bV0_v, bV_v, bV_x, ↓bnd_e, gd_t, bT, bF, m_has, g1, g2, nI_sub, g3]
            exact ih
          · rw [decide_eq_false g3, Bool.not_false] at ih
            simp (disch := omega) only [fa_lit, nI_ad, nI_mul, nI_cl, inb_nI, nI_ltE, nI_leE, nI_eqE, nI_m1, nI_m1', m1_lt, lt_m1, m1_le, le_m1, eq_self, not_true_eq_false, not_false_eq_true, ↓reduceIte, leT, leF, ltT, ltF, eqT, eqF, decide_true, decide_false, true_and, and_true, Nat.reduceAdd, bI0_i, bI_i, bI_x, bV0_v, bV_v, bV_x, ↓bnd_e, gd_t, bT, bF, m_has, g1, g2, nI_sub, g3]
            exact ih
theorem bAnd {b : Bool} : bV32 b &&& nI 1 = bV32 b := by cases b <;> decide
theorem m_safe {signs : Int32} {e : Nat} (hF : 6000 ≤ F) (he : e ≤ 5) : ∀ (m i k : Nat) , i + m = 12 → m < k →
    f_X10_safe_b24 F k signs (nI e) (bV32 (safeOut signs e (i))) (nI (i)) S = some (.inl (some (.int (bV32 (safeOut signs e 12)))), S)
  | 0, i, k + 1, hi, hk => by
    have hie : i = 12 := by omega
    rw [hie]
    rw [f_X10_safe_b24]
    simp (disch := omega) only [fa_lit, nI_ad, nI_mul, nI_cl, inb_nI, nI_ltE, nI_leE, nI_eqE, nI_m1, nI_m1', m1_lt, lt_m1, m1_le, le_m1, eq_self, not_true_eq_false, not_false_eq_true, ↓reduceIte, leT, leF, ltT, ltF, eqT, eqF, decide_true, decide_false, true_and, and_true, Nat.reduceAdd, bI0_i, bI_i, bI_x, bV0_v, bV_v, bV_x, ↓bnd_e, gd_t, bAnd]
  | m + 1, i, k + 1, hi, hk => by
    have hin := m_safeIn (F := F) (S := S) (K := fun x1 x2 x3 x4 S => f_X10_safe_b24 F k x1 x2 x3 x4 S) (signs := signs) (e := e) (a := i) (is := safeOut signs e i) (by omega) he i 0 F (by omega) (by omega)
    rw [safeIn] at hin
    have ih := m_safe (signs := signs) (e := e) hF he m (i + 1) k (by omega) (by omega)
    rw [safeOut] at ih
    rw [f_X10_safe_b24]
    simp (disch := omega) only [fa_lit, nI_ad, nI_mul, nI_cl, inb_nI, nI_ltE, nI_leE, nI_eqE, nI_m1, nI_m1', m1_lt, lt_m1, m1_le, le_m1, eq_self, not_true_eq_false, not_false_eq_true, ↓reduceIte, leT, leF, ltT, ltF, eqT, eqF, decide_true, decide_false, true_and, and_true, Nat.reduceAdd, bI0_i, bI_i, bI_x, bV0_v, bV_v, bV_x, ↓bnd_e, gd_t, hin]
    exact ih
def prevO (signs : Int32) : Nat → Option Nat
  | 0 => none
  | s + 1 => if hasV signs s = true then some s else prevO signs s
theorem prev_none {signs : Int32} : ∀ {s : Nat}, prevO signs s = none → ∀ b, b < s → hasV signs b = false
  | 0, _, b, hb => absurd hb (by omega)
  | s + 1, h, b, hb => by
    rw [prevO] at h
    cases g : hasV signs s with
    | true => rw [g] at h; simp at h
    | false =>
      rw [g, if_neg (by simp)] at h
      by_cases e : b = s
      · rw [e, g]
      · exact prev_none h b (by omega)
theorem prev_some {signs : Int32} : ∀ {s k : Nat}, prevO signs s = some k → k < s ∧ hasV signs k = true ∧ ∀ b, b < s → k < b → hasV signs b = false
  | 0, _, h => by cases h
  | s + 1, k, h => by
    rw [prevO] at h
    cases g : hasV signs s with
    | true =>
      rw [g, if_pos rfl] at h
      cases h
      exact ⟨by omega, g, fun b hb hb2 => absurd hb2 (by omega)⟩
    | false =>
      rw [g, if_neg (by simp)] at h
      obtain ⟨h1, h2, h3⟩ := prev_some h
      refine ⟨by omega, h2, fun b hb hb2 => ?_⟩
      by_cases e : b = s
      · rw [e, g]
      · exact h3 b (by omega) hb2
theorem safeIn_false {signs : Int32} {e a : Nat} : ∀ {b : Nat}, safeIn signs e a false b = false
  | 0 => rfl
  | b + 1 => by rw [safeIn, safeIn_false, Bool.false_and]
theorem safeOut_false {signs : Int32} {e a : Nat} (h : safeOut signs e a = false) : ∀ d, safeOut signs e (a + d) = false
  | 0 => h
  | d + 1 => by
    show safeIn signs e (a + d) (safeOut signs e (a + d)) (a + d) = false
    rw [safeOut_false h d, safeIn_false]
theorem safeIn_ok {signs : Int32} {e a : Nat} : ∀ {b : Nat}, (∀ i, i < b → (hasV signs a && hasV signs i && decide (a - i ≤ 2 * e)) = false) → safeIn signs e a true b = true
  | 0, _ => rfl
  | b + 1, h => by rw [safeIn, safeIn_ok (fun i hi => h i (by omega)), h b (by omega)]; rfl
theorem safeIn_bad {signs : Int32} {e a i : Nat} (hi : (hasV signs a && hasV signs i && decide (a - i ≤ 2 * e)) = true) : ∀ {b : Nat}, i < b → safeIn signs e a true b = false
  | 0, h => absurd h (by omega)
  | b + 1, h => by
    rw [safeIn]
    by_cases q : i = b
    · subst q; rw [hi, Bool.not_true, Bool.and_false]
    · rw [safeIn_bad hi (by omega), Bool.false_and]
theorem x_safe {signs : Int32} {e : Nat} (he : e ≤ 5) : ∀ (m i k : Nat), i + m = 12 → m < k → safeOut signs e i = true →
    f_X9_safe_b11 F k signs (nI e) (encO (prevO signs i)) (nI i) S = some (.inl (some (.int (bV32 (safeOut signs e 12)))), S)
  | 0, i, k + 1, hi, hk, hs => by
    have hie : i = 12 := by omega
    subst hie
    rw [f_X9_safe_b11, hs]
    simp (disch := omega) only [fa_lit, nI_ad, nI_mul, nI_cl, inb_nI, nI_ltE, nI_leE, nI_eqE, nI_m1, nI_m1', m1_lt, lt_m1, m1_le, le_m1, eq_self, not_true_eq_false, not_false_eq_true, ↓reduceIte, leT, leF, ltT, ltF, eqT, eqF, decide_true, decide_false, true_and, and_true, Nat.reduceAdd, bI0_i, bI_i, bI_x, bV0_v, bV_v, bV_x, ↓bnd_e, gd_t, and10, bT]
  | m + 1, i, k + 1, hi, hk, hs => by
    have ih := x_safe (signs := signs) he m (i + 1) k (by omega) (by omega)
    rw [safeOut, hs, prevO] at ih
    rw [f_X9_safe_b11]
    unfold f_X9_safe_b44 f_X9_safe_b47
    cases g1 : hasV signs i with
    | false =>
      rw [g1, if_neg (by simp)] at ih
      have ih := ih (safeIn_ok (fun j hj => by rw [g1]; rfl))
      simp (disch := omega) only [fa_lit, nI_ad, nI_mul, nI_cl, inb_nI, nI_ltE, nI_leE, nI_eqE, nI_m1, nI_m1', m1_lt, lt_m1, m1_le, le_m1, eq_self, not_true_eq_false, not_false_eq_true, ↓reduceIte, leT, leF, ltT, ltF, eqT, eqF, decide_true, decide_false, true_and, and_true, Nat.reduceAdd, bI0_i, bI_i, bI_x, bV0_v, bV_v, bV_x, ↓bnd_e, gd_t, x_hasBit, g1, bF]
      exact ih
    | true =>
      rw [g1, if_pos rfl, enc_some] at ih
      cases g2 : prevO signs i with
      | none =>
        have ih := ih (safeIn_ok (fun j hj => by rw [prev_none g2 j hj, Bool.and_false, Bool.false_and]))
        simp (disch := omega) only [fa_lit, nI_ad, nI_mul, nI_cl, inb_nI, nI_ltE, nI_leE, nI_eqE, nI_m1, nI_m1', m1_lt, lt_m1, m1_le, le_m1, eq_self, not_true_eq_false, not_false_eq_true, ↓reduceIte, leT, leF, ltT, ltF, eqT, eqF, decide_true, decide_false, true_and, and_true, Nat.reduceAdd, bI0_i, bI_i, bI_x, bV0_v, bV_v, bV_x, ↓bnd_e, gd_t, x_hasBit, g1, bT, enc_none, m1_m1]
        exact ih
      | some b =>
        obtain ⟨h1, h2, h3⟩ := prev_some g2
        by_cases g3 : i - b ≤ 2 * e
        · have hf : safeOut signs e (i + 1) = false := by
            rw [safeOut, hs]
            exact safeIn_bad (i := b) (by rw [g1, h2, decide_eq_true g3]; rfl) h1
          have hf2 := safeOut_false hf m
          rw [show i + 1 + m = 12 by omega] at hf2
          simp (disch := omega) only [fa_lit, nI_ad, nI_mul, nI_cl, inb_nI, nI_ltE, nI_leE, nI_eqE, nI_m1, nI_m1', m1_lt, lt_m1, m1_le, le_m1, eq_self, not_true_eq_false, not_false_eq_true, ↓reduceIte, leT, leF, ltT, ltF, eqT, eqF, decide_true, decide_false, true_and, and_true, Nat.reduceAdd, bI0_i, bI_i, bI_x, bV0_v, bV_v, bV_x, ↓bnd_e, gd_t, x_hasBit, g1, bT, enc_some, nI_sub, and00, hf2, bF]
        · have ih := ih (safeIn_ok (fun j hj => by
            by_cases q : j ≤ b
            · rw [decide_eq_false (by omega), Bool.and_false]
            · rw [h3 j hj (by omega), Bool.and_false, Bool.false_and]))
          simp (disch := omega) only [fa_lit, nI_ad, nI_mul, nI_cl, inb_nI, nI_ltE, nI_leE, nI_eqE, nI_m1, nI_m1', m1_lt, lt_m1, m1_le, le_m1, eq_self, not_true_eq_false, not_false_eq_true, ↓reduceIte, leT, leF, ltT, ltF, eqT, eqF, decide_true, decide_false, true_and, and_true, Nat.reduceAdd, bI0_i, bI_i, bI_x, bV0_v, bV_v, bV_x, ↓bnd_e, gd_t, x_hasBit, g1, bT, enc_some, nI_sub]
          exact ih
theorem ag_safe {p1 p2 : Int32} (hF : 6000 ≤ F) (hI : Inv S) : Ag (f_X9_safe F p1 p2) (f_X10_safe F p1 p2) [1] S := by
  refine ag_ro hI (fun n nh nk A hn en hnh enh hnk enk hX hW hR => ?_)
  by_cases g_p2 : nI 0 ≤ p2 ∧ p2 ≤ nI 5
  · skip
    obtain ⟨e, e_lo, e_hi, rfl⟩ := withinN (by omega) g_p2 (by omega)
    have h := x_safe (F := F) (S := S) (signs := p1) e_hi 12 0 F (by omega) (by omega) rfl
    refine ⟨.inl (some (.int (bV32 (safeOut p1 e 12)))), idX ?_, fun U hC hM => ?_⟩
    · unfold f_X9_safe 
      simp (disch := omega) only [fa_lit, nI_ad, nI_mul, nI_cl, inb_nI, nI_ltE, nI_leE, nI_eqE, nI_m1, nI_m1', m1_lt, lt_m1, m1_le, le_m1, eq_self, not_true_eq_false, not_false_eq_true, ↓reduceIte, leT, leF, ltT, ltF, eqT, eqF, decide_true, decide_false, true_and, and_true, Nat.reduceAdd, bI0_i, bI_i, bI_x, bV0_v, bV_v, bV_x, ↓bnd_e, gd_t, x_need g_p2, show f_X9_safe_b11 F F p1 (nI e) (-nI 1) (nI 0) S = _ from h]
    · skip
      have en' : cM (U 64) 12 = nI n := by rw [hC]; exact en
      have enh' : cM (U 64) 13 = nI nh := by rw [hC]; exact enh
      have enk' : cM (U 64) 14 = nI nk := by rw [hC]; exact enk
      have d_p2 : decide (nI 0 ≤ (nI e) ∧ (nI e) ≤ nI 5) = true := decide_eq_true g_p2
      have h := m_safe (F := F) (S := U) (signs := p1) hF e_hi 12 0 F (by omega) (by omega)
      refine res_ok' fun T hU => ?_
      unfold f_X10_safe ; rw [bnd_e, show upS T 63 0 (0 : Int32) = U from hU.symm]
      simp (disch := omega) only [fa_lit, nI_ad, nI_mul, nI_cl, inb_nI, nI_ltE, nI_leE, nI_eqE, nI_m1, nI_m1', m1_lt, lt_m1, m1_le, le_m1, eq_self, not_true_eq_false, not_false_eq_true, ↓reduceIte, leT, leF, ltT, ltF, eqT, eqF, decide_true, decide_false, true_and, and_true, Nat.reduceAdd, bI0_i, bI_i, bI_x, bV0_v, bV_v, bV_x, ↓bnd_e, gd_t, and10, and00, m_throw0, m_throw, Bool.not_true, Bool.not_false, bT, bF, d_p2, m_in, m_noWind, m_noEar, show f_X10_safe_b24 F F p1 (nI e) (nI 1) (nI 0) U = _ from h, hC]
  · refine ⟨.inr 1, idX ?_, fun U hC hM => res_ex (b := nI 0) 0 rfl (by omega) fun T hU => ?_⟩
    · unfold f_X9_safe 
      simp (disch := omega) only [fa_lit, nI_ad, nI_mul, nI_cl, inb_nI, nI_ltE, nI_leE, nI_eqE, nI_m1, nI_m1', m1_lt, lt_m1, m1_le, le_m1, eq_self, not_true_eq_false, not_false_eq_true, ↓reduceIte, leT, leF, ltT, ltF, eqT, eqF, decide_true, decide_false, true_and, and_true, Nat.reduceAdd, bI0_i, bI_i, bI_x, bV0_v, bV_v, bV_x, ↓bnd_e, gd_t, x_need_x g_p2]
    · unfold f_X10_safe ; rw [bnd_e, show upS T 63 0 (0 : Int32) = U from hU.symm]
      have en' : cM (U 64) 12 = nI n := by rw [hC]; exact en
      have enh' : cM (U 64) 13 = nI nh := by rw [hC]; exact enh
      have enk' : cM (U 64) 14 = nI nk := by rw [hC]; exact enk
      have d_p2 : decide (nI 0 ≤ p2 ∧ p2 ≤ nI 5) = false := decide_eq_false g_p2
      simp (disch := omega) only [fa_lit, nI_ad, nI_mul, nI_cl, inb_nI, nI_ltE, nI_leE, nI_eqE, nI_m1, nI_m1', m1_lt, lt_m1, m1_le, le_m1, eq_self, not_true_eq_false, not_false_eq_true, ↓reduceIte, leT, leF, ltT, ltF, eqT, eqF, decide_true, decide_false, true_and, and_true, Nat.reduceAdd, bI0_i, bI_i, bI_x, bV0_v, bV_v, bV_x, ↓bnd_e, gd_t, and10, and00, m_throw0, m_throw, Bool.not_true, Bool.not_false, bT, bF, d_p2, m_in, m_noEar, m_noWind]
-- what was heard
theorem hr64 : ∀ s, s < 12 → (nI (s + 1)).toInt64 = (nI s).toInt64 + Int64.ofNat 1 := by decide
theorem hr_a {J : Int32} {s : Nat} (hs : s < 12) : J.toInt64 - (nI s).toInt64 - Int64.ofNat 1 = J.toInt64 - (nI (s + 1)).toInt64 := by
  rw [hr64 s hs, Int64.sub_eq_add_neg, Int64.sub_eq_add_neg, Int64.sub_eq_add_neg, Int64.neg_add, Int64.add_assoc, Int64.sub_eq_add_neg]
theorem hr_b {J : Int32} {s : Nat} (hs : s < 12) : (nI s).toInt64 + Int64.ofNat 1 - J.toInt64 = -(J.toInt64 - (nI (s + 1)).toInt64) := by
  rw [hr64 s hs, Int64.neg_sub]
def hrV (signs J e : Int32) : Nat → Int32
  | 0 => nI 0
  | s + 1 => hrV signs J e s ||| (if hasV signs s = true ∧ ¬ 0 < lg_cmp (J.toInt64 - (nI (s + 1)).toInt64) e.toInt64 ∧ ¬ 0 < lg_cmp (-(J.toInt64 - (nI (s + 1)).toInt64)) e.toInt64 then nI 1 <<< (nI s &&& nI 31) else nI 0)
theorem x_heard {signs J e : Int32} : ∀ (m i k : Nat), i + m = 12 → m < k →
    f_X9_heard_b12 F k signs J e (hrV signs J e i) (nI i) S = some (.inl (some (.int (hrV signs J e 12))), S)
  | 0, i, k + 1, hi, hk => by
    have hie : i = 12 := by omega
    rw [hie, f_X9_heard_b12]
    simp (disch := omega) only [fa_lit, nI_ad, nI_mul, nI_cl, inb_nI, nI_ltE, nI_leE, nI_eqE, nI_m1, nI_m1', m1_lt, lt_m1, m1_le, le_m1, eq_self, not_true_eq_false, not_false_eq_true, ↓reduceIte, leT, leF, ltT, ltF, eqT, eqF, decide_true, decide_false, true_and, and_true, Nat.reduceAdd, bI0_i, bI_i, bI_x, bV0_v, bV_v, bV_x, ↓bnd_e, gd_t]
  | m + 1, i, k + 1, hi, hk => by
    have ih := x_heard (signs := signs) (J := J) (e := e) m (i + 1) k (by omega) (by omega)
    have z : (0 : Int32) = nI 0 := rfl
    rw [hrV, z] at ih
    rw [f_X9_heard_b12]
    unfold f_X9_heard_b64
    cases g1 : hasV signs i with
    | false =>
      rw [g1, if_neg (by simp), or_n0] at ih
      simp (disch := omega) only [fa_lit, nI_ad, nI_mul, nI_cl, inb_nI, nI_ltE, nI_leE, nI_eqE, nI_m1, nI_m1', m1_lt, lt_m1, m1_le, le_m1, eq_self, not_true_eq_false, not_false_eq_true, ↓reduceIte, leT, leF, ltT, ltF, eqT, eqF, decide_true, decide_false, true_and, and_true, Nat.reduceAdd, bI0_i, bI_i, bI_x, bV0_v, bV_v, bV_x, ↓bnd_e, gd_t, x_hasBit, g1, bF]
      exact ih
    | true =>
      by_cases g2 : nI 0 < lg_cmp (J.toInt64 - (nI (i + 1)).toInt64) e.toInt64
      · rw [if_neg (fun h => h.2.1 g2), or_n0] at ih
        simp (disch := omega) only [fa_lit, nI_ad, nI_mul, nI_cl, inb_nI, nI_ltE, nI_leE, nI_eqE, nI_m1, nI_m1', m1_lt, lt_m1, m1_le, le_m1, eq_self, not_true_eq_false, not_false_eq_true, ↓reduceIte, leT, leF, ltT, ltF, eqT, eqF, decide_true, decide_false, true_and, and_true, Nat.reduceAdd, bI0_i, bI_i, bI_x, bV0_v, bV_v, bV_x, ↓bnd_e, gd_t, x_hasBit, g1, bT, g2]
        exact ih
      · by_cases g3 : nI 0 < lg_cmp (-(J.toInt64 - (nI (i + 1)).toInt64)) e.toInt64
        · rw [if_neg (fun h => h.2.2 g3), or_n0] at ih
          simp (disch := omega) only [fa_lit, nI_ad, nI_mul, nI_cl, inb_nI, nI_ltE, nI_leE, nI_eqE, nI_m1, nI_m1', m1_lt, lt_m1, m1_le, le_m1, eq_self, not_true_eq_false, not_false_eq_true, ↓reduceIte, leT, leF, ltT, ltF, eqT, eqF, decide_true, decide_false, true_and, and_true, Nat.reduceAdd, bI0_i, bI_i, bI_x, bV0_v, bV_v, bV_x, ↓bnd_e, gd_t, x_hasBit, g1, bT, g2, g3]
          exact ih
        · rw [if_pos ⟨g1, g2, g3⟩] at ih
          simp (disch := omega) only [fa_lit, nI_ad, nI_mul, nI_cl, inb_nI, nI_ltE, nI_leE, nI_eqE, nI_m1, nI_m1', m1_lt, lt_m1, m1_le, le_m1, eq_self, not_true_eq_false, not_false_eq_true, ↓reduceIte, leT, leF, ltT, ltF, eqT, eqF, decide_true, decide_false, true_and, and_true, Nat.reduceAdd, bI0_i, bI_i, bI_x, bV0_v, bV_v, bV_x, ↓bnd_e, gd_t, x_hasBit, g1, bT, g2, g3]
          exact ih
theorem m_heard {signs J e : Int32} : ∀ (m i k : Nat), i + m = 12 → m < k →
    f_X10_heard_b25 F k signs J e (hrV signs J e i) (nI i) S = some (.inl (some (.int (hrV signs J e 12))), S)
  | 0, i, k + 1, hi, hk => by
    have hie : i = 12 := by omega
    rw [hie, f_X10_heard_b25]
    simp (disch := omega) only [fa_lit, nI_ad, nI_mul, nI_cl, inb_nI, nI_ltE, nI_leE, nI_eqE, nI_m1, nI_m1', m1_lt, lt_m1, m1_le, le_m1, eq_self, not_true_eq_false, not_false_eq_true, ↓reduceIte, leT, leF, ltT, ltF, eqT, eqF, decide_true, decide_false, true_and, and_true, Nat.reduceAdd, bI0_i, bI_i, bI_x, bV0_v, bV_v, bV_x, ↓bnd_e, gd_t]
  | m + 1, i, k + 1, hi, hk => by
    have ih := m_heard (signs := signs) (J := J) (e := e) m (i + 1) k (by omega) (by omega)
    have z : (0 : Int32) = nI 0 := rfl
    rw [hrV, z] at ih
    rw [f_X10_heard_b25]
    unfold f_X10_heard_b78 f_X10_heard_b79
    cases g1 : hasV signs i with
    | false =>
      rw [g1, if_neg (by simp), or_n0] at ih
      simp (disch := omega) only [fa_lit, nI_ad, nI_mul, nI_cl, inb_nI, nI_ltE, nI_leE, nI_eqE, nI_m1, nI_m1', m1_lt, lt_m1, m1_le, le_m1, eq_self, not_true_eq_false, not_false_eq_true, ↓reduceIte, leT, leF, ltT, ltF, eqT, eqF, decide_true, decide_false, true_and, and_true, Nat.reduceAdd, bI0_i, bI_i, bI_x, bV0_v, bV_v, bV_x, ↓bnd_e, gd_t, m_has, g1, bF, hr_a (J := J) (s := i) (by omega), hr_b (J := J) (s := i) (by omega), or_n0]
      exact ih
    | true =>
      by_cases g2 : nI 0 < lg_cmp (J.toInt64 - (nI (i + 1)).toInt64) e.toInt64
      · rw [if_neg (fun h => h.2.1 g2), or_n0] at ih
        simp (disch := omega) only [fa_lit, nI_ad, nI_mul, nI_cl, inb_nI, nI_ltE, nI_leE, nI_eqE, nI_m1, nI_m1', m1_lt, lt_m1, m1_le, le_m1, eq_self, not_true_eq_false, not_false_eq_true, ↓reduceIte, leT, leF, ltT, ltF, eqT, eqF, decide_true, decide_false, true_and, and_true, Nat.reduceAdd, bI0_i, bI_i, bI_x, bV0_v, bV_v, bV_x, ↓bnd_e, gd_t, m_has, g1, bT, hr_a (J := J) (s := i) (by omega), hr_b (J := J) (s := i) (by omega), or_n0, g2]
        exact ih
      · by_cases g3 : nI 0 < lg_cmp (-(J.toInt64 - (nI (i + 1)).toInt64)) e.toInt64
        · rw [if_neg (fun h => h.2.2 g3), or_n0] at ih
          simp (disch := omega) only [fa_lit, nI_ad, nI_mul, nI_cl, inb_nI, nI_ltE, nI_leE, nI_eqE, nI_m1, nI_m1', m1_lt, lt_m1, m1_le, le_m1, eq_self, not_true_eq_false, not_false_eq_true, ↓reduceIte, leT, leF, ltT, ltF, eqT, eqF, decide_true, decide_false, true_and, and_true, Nat.reduceAdd, bI0_i, bI_i, bI_x, bV0_v, bV_v, bV_x, ↓bnd_e, gd_t, m_has, g1, bT, hr_a (J := J) (s := i) (by omega), hr_b (J := J) (s := i) (by omega), or_n0, g2, g3]
          exact ih
        · rw [if_pos ⟨g1, g2, g3⟩] at ih
          simp (disch := omega) only [fa_lit, nI_ad, nI_mul, nI_cl, inb_nI, nI_ltE, nI_leE, nI_eqE, nI_m1, nI_m1', m1_lt, lt_m1, m1_le, le_m1, eq_self, not_true_eq_false, not_false_eq_true, ↓reduceIte, leT, leF, ltT, ltF, eqT, eqF, decide_true, decide_false, true_and, and_true, Nat.reduceAdd, bI0_i, bI_i, bI_x, bV0_v, bV_v, bV_x, ↓bnd_e, gd_t, m_has, g1, bT, hr_a (J := J) (s := i) (by omega), hr_b (J := J) (s := i) (by omega), or_n0, g2, g3]
          exact ih
theorem ag_heard {p1 p2 p3 : Int32} (hF : 6000 ≤ F) (hI : Inv S) : Ag (f_X9_heard F p1 p2 p3) (f_X10_heard F p1 p2 p3) [1] S := by
  refine ag_ro hI (fun n nh nk A hn en hnh enh hnk enk hX hW hR => ?_)
  by_cases g_p3 : nI 0 ≤ p3 ∧ p3 ≤ nI 5
  · skip
    have h := x_heard (F := F) (S := S) (signs := p1) (J := p2) (e := p3) 12 0 F (by omega) (by omega)
    refine ⟨.inl (some (.int (hrV p1 p2 p3 12))), idX ?_, fun U hC hM => ?_⟩
    · unfold f_X9_heard 
      simp (disch := omega) only [fa_lit, nI_ad, nI_mul, nI_cl, inb_nI, nI_ltE, nI_leE, nI_eqE, nI_m1, nI_m1', m1_lt, lt_m1, m1_le, le_m1, eq_self, not_true_eq_false, not_false_eq_true, ↓reduceIte, leT, leF, ltT, ltF, eqT, eqF, decide_true, decide_false, true_and, and_true, Nat.reduceAdd, bI0_i, bI_i, bI_x, bV0_v, bV_v, bV_x, ↓bnd_e, gd_t, x_need g_p3, show f_X9_heard_b12 F F p1 p2 p3 (nI 0) (nI 0) S = _ from h]
    · skip
      have en' : cM (U 64) 12 = nI n := by rw [hC]; exact en
      have enh' : cM (U 64) 13 = nI nh := by rw [hC]; exact enh
      have enk' : cM (U 64) 14 = nI nk := by rw [hC]; exact enk
      have d_p3 : decide (nI 0 ≤ p3 ∧ p3 ≤ nI 5) = true := decide_eq_true g_p3
      have h := m_heard (F := F) (S := U) (signs := p1) (J := p2) (e := p3) 12 0 F (by omega) (by omega)
      refine res_ok' fun T hU => ?_
      unfold f_X10_heard ; rw [bnd_e, show upS T 63 0 (0 : Int32) = U from hU.symm]
      simp (disch := omega) only [fa_lit, nI_ad, nI_mul, nI_cl, inb_nI, nI_ltE, nI_leE, nI_eqE, nI_m1, nI_m1', m1_lt, lt_m1, m1_le, le_m1, eq_self, not_true_eq_false, not_false_eq_true, ↓reduceIte, leT, leF, ltT, ltF, eqT, eqF, decide_true, decide_false, true_and, and_true, Nat.reduceAdd, bI0_i, bI_i, bI_x, bV0_v, bV_v, bV_x, ↓bnd_e, gd_t, and10, and00, m_throw0, m_throw, Bool.not_true, Bool.not_false, bT, bF, d_p3, m_in, m_noWind, m_noEar, show f_X10_heard_b25 F F p1 p2 p3 (nI 0) (nI 0) U = _ from h, hC]
  · refine ⟨.inr 1, idX ?_, fun U hC hM => res_ex (b := nI 0) 0 rfl (by omega) fun T hU => ?_⟩
    · unfold f_X9_heard 
      simp (disch := omega) only [fa_lit, nI_ad, nI_mul, nI_cl, inb_nI, nI_ltE, nI_leE, nI_eqE, nI_m1, nI_m1', m1_lt, lt_m1, m1_le, le_m1, eq_self, not_true_eq_false, not_false_eq_true, ↓reduceIte, leT, leF, ltT, ltF, eqT, eqF, decide_true, decide_false, true_and, and_true, Nat.reduceAdd, bI0_i, bI_i, bI_x, bV0_v, bV_v, bV_x, ↓bnd_e, gd_t, x_need_x g_p3]
    · unfold f_X10_heard ; rw [bnd_e, show upS T 63 0 (0 : Int32) = U from hU.symm]
      have en' : cM (U 64) 12 = nI n := by rw [hC]; exact en
      have enh' : cM (U 64) 13 = nI nh := by rw [hC]; exact enh
      have enk' : cM (U 64) 14 = nI nk := by rw [hC]; exact enk
      have d_p3 : decide (nI 0 ≤ p3 ∧ p3 ≤ nI 5) = false := decide_eq_false g_p3
      simp (disch := omega) only [fa_lit, nI_ad, nI_mul, nI_cl, inb_nI, nI_ltE, nI_leE, nI_eqE, nI_m1, nI_m1', m1_lt, lt_m1, m1_le, le_m1, eq_self, not_true_eq_false, not_false_eq_true, ↓reduceIte, leT, leF, ltT, ltF, eqT, eqF, decide_true, decide_false, true_and, and_true, Nat.reduceAdd, bI0_i, bI_i, bI_x, bV0_v, bV_v, bV_x, ↓bnd_e, gd_t, and10, and00, m_throw0, m_throw, Bool.not_true, Bool.not_false, bT, bF, d_p3, m_in, m_noEar, m_noWind]
end O
