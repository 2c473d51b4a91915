/-! kicks, loads, strengths, who can be let down -/
theorem LX_of {A : aL} {S S' : mS} {b : Nat} (h : ∀ o, b ≤ o → o ≤ b + 4 → S' o = S o) (hA : LX A S b) : LX A S' b := by
  unfold LX at *
  rw [h b (by omega) (by omega), h (b + 1) (by omega) (by omega), h (b + 2) (by omega) (by omega), h (b + 3) (by omega) (by omega), h (b + 4) (by omega) (by omega)]
  exact hA
theorem LX_sX {A : aL} {S : mS} {p q : Nat → Int32} (hA : LX A S 3) : LX A (sX S p q) 3 := LX_of (fun o h1 h2 => sX_n (by omega) (by omega)) hA
theorem LX_up {A : aL} {S : mS} {i k : Nat} {v : Int32} (hi : 8 ≤ i) (hA : LX A S 3) : LX A (upS S i k v) 3 := LX_of (fun o h1 h2 => upS_n (by omega)) hA
theorem LX_se {A : aL} {S : mS} {i : Nat} {f : Nat → Int32} (hi : 8 ≤ i) (hA : LX A S 3) : LX A (seS S i f) 3 := LX_of (fun o h1 h2 => seS_n (by omega)) hA
theorem LM_up {A : aL} {w : Nat → Int32} {k : Nat} {v : Int32} (h4 : k ≠ 4) (hk : k < 447) (hA : LM A w) : LM A (upd w k v) := by
  unfold LM at *
  split at hA
  · rw [upd_n (by omega)]; exact hA
  · obtain ⟨h1, h2, h3, h4⟩ := hA
    refine ⟨by rw [upd_n (by omega)]; exact h1, by rw [upd_n (by omega)]; exact h2, fun i hi => ?_, fun j hj i hi => ?_⟩
    · rw [upd_n (by omega), upd_n (by omega), upd_n (by omega), upd_n (by omega)]; exact h3 i hi
    · rw [upd_n (by omega), upd_n (by omega)]; exact h4 j hj i hi
def swingV (A : aL) (c : Nat → Int32) (l : Nat) (kick wind : Int32) : Int32 := sumV A 0 c l kick wind + nI 1
def farV (A : aL) (c : Nat → Int32) (l : Nat) (wind : Int32) : Nat → Int32
  | 0 => nI 0
  | k + 1 => farV A c l wind k + swingV A c l (nI (k + 1)) wind
def kickF (A : aL) (c : Nat → Int32) (l : Nat) (wind : Int32) : Nat → Nat → Int32
  | 0, _ => -nI 1
  | m + 1, k => if farV A c l wind k < c (16 + l * 5 + 1) then kickF A c l wind m (k + 1) else nI k
def kicksV (A : aL) (c : Nat → Int32) (l : Nat) (wind : Int32) : Int32 := kickF A c l wind 13 0
theorem kickF_cases {A : aL} {c : Nat → Int32} {l : Nat} {wind : Int32} : ∀ {m k : Nat}, kickF A c l wind m k = -nI 1 ∨ ∃ j, j < k + m ∧ kickF A c l wind m k = nI j
  | 0, k => Or.inl rfl
  | m + 1, k => by
    rw [kickF]
    split
    · rcases kickF_cases (m := m) (k := k + 1) with h | ⟨j, h1, h2⟩
      · exact Or.inl h
      · exact Or.inr ⟨j, by omega, h2⟩
    · exact Or.inr ⟨k, by omega, rfl⟩
theorem kicksV_cases {A : aL} {c : Nat → Int32} {l : Nat} {wind : Int32} : kicksV A c l wind = -nI 1 ∨ ∃ j, j < 13 ∧ kicksV A c l wind = nI j := kickF_cases
section X
variable {F u l : Nat} {S : mS} {A : aL}
theorem x_swingOf {kick wind : Int32} (hF : 401 ≤ F) (hu : 9 ≤ u) (hl : l < 10) (hA : LX A S 3) (hW : LW A) :
    ∃ p q, f_X7_swingOf F u (nI l) kick wind S = some (.inl (some (.int (swingV A (S (u + 1)) l kick wind))), sX S p q) := by
  obtain ⟨p, q, h⟩ := x_sum (kick := kick) (wind := wind) (kind := 0) hF hu (by omega) hl hA hW
  refine ⟨p, q, ?_⟩
  unfold f_X7_swingOf swingV
  simp (disch := omega) only [fa_lit, nI_ad, nI_mul, nI_cl, inb_nI, nI_ltE, nI_leE, nI_eqE, nI_m1, nI_m1', m1_lt, lt_m1, m1_le, le_m1, eq_self, not_true_eq_false, not_false_eq_true, ↓reduceIte, leT, leF, ltT, ltF, eqT, eqF, decide_true, decide_false, true_and, and_true, Nat.reduceAdd, bI0_i, bI_i, bI_x, bV0_v, bV_v, bV_x, ↓bnd_e, gd_t, h]
theorem x_wearAt {wind : Int32} (hF : 401 ≤ F) (hu : 9 ≤ u) (hl : l < 10) (hA : LX A S 3) (hW : LW A) :
    ∃ p q, f_X7_wearAt F u (nI l) wind S = some (.inl (some (.int (sumV A 1 (S (u + 1)) l (nI 0) wind))), sX S p q) := by
  obtain ⟨p, q, h⟩ := x_sum (kick := nI 0) (wind := wind) (kind := 1) hF hu (by omega) hl hA hW
  refine ⟨p, q, ?_⟩
  unfold f_X7_wearAt
  simp (disch := omega) only [fa_lit, nI_ad, nI_mul, nI_cl, inb_nI, nI_ltE, nI_leE, nI_eqE, nI_m1, nI_m1', m1_lt, lt_m1, m1_le, le_m1, eq_self, not_true_eq_false, not_false_eq_true, ↓reduceIte, leT, leF, ltT, ltF, eqT, eqF, decide_true, decide_false, true_and, and_true, Nat.reduceAdd, bI0_i, bI_i, bI_x, bV0_v, bV_v, bV_x, ↓bnd_e, gd_t, h]
def laysV (A : aL) (c : Nat → Int32) (l : Nat) : Int32 := if c (16 + l * 5 + 4) < sumV A 2 c l (nI 0) (c 4) then c (16 + l * 5 + 4) else sumV A 2 c l (nI 0) (c 4)
theorem x_laysAt (hF : 401 ≤ F) (hu : 9 ≤ u) (hl : l < 10) (hA : LX A S 3) (hW : LW A) :
    ∃ p q, f_X7_laysAt F u (nI l) S = some (.inl (some (.int (laysV A (S (u + 1)) l))), sX S p q) := by
  obtain ⟨p, q, h⟩ := x_sum (kick := nI 0) (wind := S (u + 1) 4) (kind := 2) hF hu (by omega) hl hA hW
  refine ⟨p, q, ?_⟩
  unfold f_X7_laysAt laysV
  simp (disch := omega) only [fa_lit, nI_ad, nI_mul, nI_cl, inb_nI, nI_ltE, nI_leE, nI_eqE, nI_m1, nI_m1', m1_lt, lt_m1, m1_le, le_m1, eq_self, not_true_eq_false, not_false_eq_true, ↓reduceIte, leT, leF, ltT, ltF, eqT, eqF, decide_true, decide_false, true_and, and_true, Nat.reduceAdd, bI0_i, bI_i, bI_x, bV0_v, bV_v, bV_x, ↓bnd_e, gd_t, h, x_at, x_ofLedge, sX_n]
theorem x_kickloop {wind : Int32} (hF : 401 ≤ F) (hu : 9 ≤ u) (hl : l < 10) (hA : LX A S 3) (hW : LW A) : ∀ (m i k : Nat) (p q : Nat → Int32), i + m = 13 → m < k →
    ∃ p' q', f_X7_kicksTo_b14 F u k (nI l) wind (S (u + 1) (16 + l * 5 + 1)) (farV A (S (u + 1)) l wind i) (nI i) (sX S p q) = some (.inl (some (.int (kickF A (S (u + 1)) l wind m i))), sX S p' q')
  | 0, i, k + 1, p, q, hi, hk => by
    refine ⟨p, q, ?_⟩
    rw [f_X7_kicksTo_b14, kickF]
    simp (disch := omega) only [fa_lit, nI_ad, nI_mul, nI_cl, inb_nI, nI_ltE, nI_leE, nI_eqE, nI_m1, nI_m1', m1_lt, lt_m1, m1_le, le_m1, eq_self, not_true_eq_false, not_false_eq_true, ↓reduceIte, leT, leF, ltT, ltF, eqT, eqF, decide_true, decide_false, true_and, and_true, Nat.reduceAdd, bI0_i, bI_i, bI_x, bV0_v, bV_v, bV_x, ↓bnd_e, gd_t]
  | m + 1, i, k + 1, p, q, hi, hk => by
    rw [f_X7_kicksTo_b14, kickF]
    by_cases g : farV A (S (u + 1)) l wind i < S (u + 1) (16 + l * 5 + 1)
    · obtain ⟨p1, q1, h⟩ := x_swingOf (kick := nI (i + 1)) (wind := wind) (S := sX S p q) hF hu hl (LX_sX hA) hW
      obtain ⟨p2, q2, ih⟩ := x_kickloop (wind := wind) hF hu hl hA hW m (i + 1) k p1 q1 (by omega) (by omega)
      refine ⟨p2, q2, ?_⟩
      rw [sX_sX, sX_n (by omega) (by omega)] at h
      simp (disch := omega) only [fa_lit, nI_ad, nI_mul, nI_cl, inb_nI, nI_ltE, nI_leE, nI_eqE, nI_m1, nI_m1', m1_lt, lt_m1, m1_le, le_m1, eq_self, not_true_eq_false, not_false_eq_true, ↓reduceIte, leT, leF, ltT, ltF, eqT, eqF, decide_true, decide_false, true_and, and_true, Nat.reduceAdd, bI0_i, bI_i, bI_x, bV0_v, bV_v, bV_x, ↓bnd_e, gd_t, g, h]
      exact ih
    · refine ⟨p, q, ?_⟩
      simp (disch := omega) only [fa_lit, nI_ad, nI_mul, nI_cl, inb_nI, nI_ltE, nI_leE, nI_eqE, nI_m1, nI_m1', m1_lt, lt_m1, m1_le, le_m1, eq_self, not_true_eq_false, not_false_eq_true, ↓reduceIte, leT, leF, ltT, ltF, eqT, eqF, decide_true, decide_false, true_and, and_true, Nat.reduceAdd, bI0_i, bI_i, bI_x, bV0_v, bV_v, bV_x, ↓bnd_e, gd_t, g]
theorem x_kicksTo {wind : Int32} (hF : 401 ≤ F) (hu : 9 ≤ u) (hl : l < 10) (hA : LX A S 3) (hW : LW A) :
    ∃ p q, f_X7_kicksTo F u (nI l) wind S = some (.inl (some (.int (kicksV A (S (u + 1)) l wind))), sX S p q) := by
  obtain ⟨p, q, h⟩ := x_kickloop (wind := wind) (F := F) hF hu hl hA hW 13 0 F (S 8) (S 9) (by omega) (by omega)
  refine ⟨p, q, ?_⟩
  rw [sX_id] at h
  unfold f_X7_kicksTo
  simp (disch := omega) only [fa_lit, nI_ad, nI_mul, nI_cl, inb_nI, nI_ltE, nI_leE, nI_eqE, nI_m1, nI_m1', m1_lt, lt_m1, m1_le, le_m1, eq_self, not_true_eq_false, not_false_eq_true, ↓reduceIte, leT, leF, ltT, ltF, eqT, eqF, decide_true, decide_false, true_and, and_true, Nat.reduceAdd, bI0_i, bI_i, bI_x, bV0_v, bV_v, bV_x, ↓bnd_e, gd_t, x_ofLedge]
  exact h
def loadV (c : Nat → Int32) (k l : Nat) : Int32 := c (78 + k * 2 + 0) + c (16 + l * 5 + 0) / nI 10
theorem x_loadOf {k : Nat} (hk : k < 4) (hl : l < 10) : f_X7_loadOf u (nI k) (nI l) S = some (.inl (some (.int (loadV (S (u + 1)) k l))), S) := by
  unfold f_X7_loadOf loadV
  simp (disch := omega) only [fa_lit, nI_ad, nI_mul, nI_cl, inb_nI, nI_ltE, nI_leE, nI_eqE, nI_m1, nI_m1', m1_lt, lt_m1, m1_le, le_m1, eq_self, not_true_eq_false, not_false_eq_true, ↓reduceIte, leT, leF, ltT, ltF, eqT, eqF, decide_true, decide_false, true_and, and_true, Nat.reduceAdd, bI0_i, bI_i, bI_x, bV0_v, bV_v, bV_x, ↓bnd_e, gd_t, x_ofLedge, x_ofClimber]
def hasV (set : Int32) (k : Nat) : Bool := decide ((set >>> (nI k &&& nI 31)) &&& nI 1 = nI 1)
theorem x_hasBit {set : Int32} {k : Nat} : f_X9_hasBit set (nI k) S = some (.inl (some (.int (bV32 (hasV set k)))), S) := by
  unfold f_X9_hasBit f_X9_hasBit_b14 hasV
  by_cases g : (set >>> (nI k &&& nI 31)) &&& nI 1 = nI 1 <;> simp (disch := omega) only [fa_lit, nI_ad, nI_mul, nI_cl, inb_nI, nI_ltE, nI_leE, nI_eqE, nI_m1, nI_m1', m1_lt, lt_m1, m1_le, le_m1, eq_self, not_true_eq_false, not_false_eq_true, ↓reduceIte, leT, leF, ltT, ltF, eqT, eqF, decide_true, decide_false, true_and, and_true, Nat.reduceAdd, bI0_i, bI_i, bI_x, bV0_v, bV_v, bV_x, ↓bnd_e, gd_t, g, and10, and00] <;> rfl
theorem m_has {set : Int32} {k : Nat} : f_X10_has set (nI k) S = some (.inl (some (.int (bV32 (hasV set k)))), S) := by
  unfold f_X10_has f_X10_has_b14 hasV
  by_cases g : (set >>> (nI k &&& nI 31)) &&& nI 1 = nI 1 <;> simp (disch := omega) only [fa_lit, nI_ad, nI_mul, nI_cl, inb_nI, nI_ltE, nI_leE, nI_eqE, nI_m1, nI_m1', m1_lt, lt_m1, m1_le, le_m1, eq_self, not_true_eq_false, not_false_eq_true, ↓reduceIte, leT, leF, ltT, ltF, eqT, eqF, decide_true, decide_false, true_and, and_true, Nat.reduceAdd, bI0_i, bI_i, bI_x, bV0_v, bV_v, bV_x, ↓bnd_e, gd_t, g, and10, and00] <;> rfl
def max0 (x : Int32) : Int32 := if nI 0 < x then x else nI 0
def strV (c : Nat → Int32) (set : Int32) : Nat → Int32
  | 0 => nI 0
  | h + 1 => strV c set h + (if hasV set h = true then max0 (c (66 + h * 2 + 0) - c (66 + h * 2 + 1)) else nI 0)
theorem x_strloop {set : Int32} {n : Nat} (hn : S (u + 1) 13 = nI n) (hn6 : n ≤ 6) : ∀ (m i k : Nat), i + m = n → m < k →
    f_X7_strengthOf_b5 F u k set (strV (S (u + 1)) set i) (nI i) S = some (.inl (some (.int (strV (S (u + 1)) set n))), S)
  | 0, i, k + 1, hi, hk => by
    have hie : i = n := by omega
    subst hie
    rw [f_X7_strengthOf_b5]
    simp (disch := omega) only [fa_lit, nI_ad, nI_mul, nI_cl, inb_nI, nI_ltE, nI_leE, nI_eqE, nI_m1, nI_m1', m1_lt, lt_m1, m1_le, le_m1, eq_self, not_true_eq_false, not_false_eq_true, ↓reduceIte, leT, leF, ltT, ltF, eqT, eqF, decide_true, decide_false, true_and, and_true, Nat.reduceAdd, bI0_i, bI_i, bI_x, bV0_v, bV_v, bV_x, ↓bnd_e, gd_t, x_at, hn]
  | m + 1, i, k + 1, hi, hk => by
    have ih := x_strloop (set := set) hn hn6 m (i + 1) k (by omega) (by omega)
    rw [f_X7_strengthOf_b5]
    unfold f_X7_strengthOf_b51
    rw [strV, max0] at ih
    cases g : hasV set i with
    | false =>
      rw [g, if_neg (by simp), add_n0] at ih
      simp (disch := omega) only [fa_lit, nI_ad, nI_mul, nI_cl, inb_nI, nI_ltE, nI_leE, nI_eqE, nI_m1, nI_m1', m1_lt, lt_m1, m1_le, le_m1, eq_self, not_true_eq_false, not_false_eq_true, ↓reduceIte, leT, leF, ltT, ltF, eqT, eqF, decide_true, decide_false, true_and, and_true, Nat.reduceAdd, bI0_i, bI_i, bI_x, bV0_v, bV_v, bV_x, ↓bnd_e, gd_t, x_at, hn, x_hasBit, g, bF]
      exact ih
    | true =>
      rw [g, if_pos rfl] at ih
      simp (disch := omega) only [fa_lit, nI_ad, nI_mul, nI_cl, inb_nI, nI_ltE, nI_leE, nI_eqE, nI_m1, nI_m1', m1_lt, lt_m1, m1_le, le_m1, eq_self, not_true_eq_false, not_false_eq_true, ↓reduceIte, leT, leF, ltT, ltF, eqT, eqF, decide_true, decide_false, true_and, and_true, Nat.reduceAdd, bI0_i, bI_i, bI_x, bV0_v, bV_v, bV_x, ↓bnd_e, gd_t, x_at, hn, x_hasBit, g, bT, x_ofHolder]
      exact ih
theorem x_strengthOf {set : Int32} {n : Nat} (hF : 401 ≤ F) (hn : S (u + 1) 13 = nI n) (hn6 : n ≤ 6) : f_X7_strengthOf F u set S = some (.inl (some (.int (strV (S (u + 1)) set n))), S) :=
  x_strloop hn hn6 n 0 F (by omega) (by omega)
def heldV (c : Nat → Int32) (k l : Nat) (set : Int32) (n : Nat) : Bool := decide (¬ strV c set n < loadV c k l)
theorem x_isHeldByAll {k n : Nat} (hF : 401 ≤ F) (hk : k < 4) (hl : l < 10) (hn : S (u + 1) 13 = nI n) (hn6 : n ≤ 6) :
    f_X7_isHeldByAll F u (nI k) (nI l) S = some (.inl (some (.int (bV32 (heldV (S (u + 1)) k l (-nI 1) n)))), S) := by
  unfold f_X7_isHeldByAll f_X7_isHeldByAll_b21 heldV
  have h := x_strengthOf (set := -nI 1) hF hn hn6
  by_cases g : strV (S (u + 1)) (-nI 1) n < loadV (S (u + 1)) k l <;> simp (disch := omega) only [fa_lit, nI_ad, nI_mul, nI_cl, inb_nI, nI_ltE, nI_leE, nI_eqE, nI_m1, nI_m1', m1_lt, lt_m1, m1_le, le_m1, eq_self, not_true_eq_false, not_false_eq_true, ↓reduceIte, leT, leF, ltT, ltF, eqT, eqF, decide_true, decide_false, true_and, and_true, Nat.reduceAdd, bI0_i, bI_i, bI_x, bV0_v, bV_v, bV_x, ↓bnd_e, gd_t, h, x_loadOf, g, and10, and00] <;> rfl
def canV (A : aL) (c : Nat → Int32) (k l n : Nat) : Bool :=
  decide (¬ c 0 < c (16 + l * 5 + 0)) && decide (c 1 < c 2) && heldV c k l (-nI 1) n && decide (¬ kicksV A c l (c 4) = -nI 1)
theorem x_canLet {k n : Nat} (hF : 401 ≤ F) (hu : 9 ≤ u) (hk : k < 4) (hl : l < 10) (hn : S (u + 1) 13 = nI n) (hn6 : n ≤ 6) (hA : LX A S 3) (hW : LW A) :
    ∃ p q, f_X7_canLet F u (nI k) (nI l) S = some (.inl (some (.int (bV32 (canV A (S (u + 1)) k l n)))), sX S p q) := by
  have h := x_isHeldByAll hF hk hl hn hn6
  obtain ⟨p, q, h2⟩ := x_kicksTo (wind := S (u + 1) 4) hF hu hl hA hW
  have id := sX_id (S := S)
  unfold f_X7_canLet f_X7_canLet_b56 f_X7_canLet_b57 canV
  by_cases g1 : S (u + 1) 0 < S (u + 1) (16 + l * 5 + 0)
  · refine ⟨S 8, S 9, ?_⟩
    simp (disch := omega) only [fa_lit, nI_ad, nI_mul, nI_cl, inb_nI, nI_ltE, nI_leE, nI_eqE, nI_m1, nI_m1', m1_lt, lt_m1, m1_le, le_m1, eq_self, not_true_eq_false, not_false_eq_true, ↓reduceIte, leT, leF, ltT, ltF, eqT, eqF, decide_true, decide_false, true_and, and_true, Nat.reduceAdd, bI0_i, bI_i, bI_x, bV0_v, bV_v, bV_x, ↓bnd_e, gd_t, x_at, x_ofLedge, g1, and00, id, Bool.false_and]; rfl
  · by_cases g2 : S (u + 1) 1 < S (u + 1) 2
    · cases g3 : heldV (S (u + 1)) k l (-nI 1) n with
      | false =>
        refine ⟨S 8, S 9, ?_⟩
        rw [g3] at h
        simp (disch := omega) only [fa_lit, nI_ad, nI_mul, nI_cl, inb_nI, nI_ltE, nI_leE, nI_eqE, nI_m1, nI_m1', m1_lt, lt_m1, m1_le, le_m1, eq_self, not_true_eq_false, not_false_eq_true, ↓reduceIte, leT, leF, ltT, ltF, eqT, eqF, decide_true, decide_false, true_and, and_true, Nat.reduceAdd, bI0_i, bI_i, bI_x, bV0_v, bV_v, bV_x, ↓bnd_e, gd_t, x_at, x_ofLedge, g1, g2, and00, id, h, bF, nle_lt, Bool.false_and, Bool.and_false, Bool.true_and]
      | true =>
        refine ⟨p, q, ?_⟩
        rw [g3] at h
        by_cases g4 : kicksV A (S (u + 1)) l (S (u + 1) 4) = -nI 1
        · simp (disch := omega) only [fa_lit, nI_ad, nI_mul, nI_cl, inb_nI, nI_ltE, nI_leE, nI_eqE, nI_m1, nI_m1', m1_lt, lt_m1, m1_le, le_m1, eq_self, not_true_eq_false, not_false_eq_true, ↓reduceIte, leT, leF, ltT, ltF, eqT, eqF, decide_true, decide_false, true_and, and_true, Nat.reduceAdd, bI0_i, bI_i, bI_x, bV0_v, bV_v, bV_x, ↓bnd_e, gd_t, x_at, x_ofLedge, g1, g2, and00, h, bT, nle_lt, h2, g4, Bool.true_and]; rfl
        · simp (disch := omega) only [fa_lit, nI_ad, nI_mul, nI_cl, inb_nI, nI_ltE, nI_leE, nI_eqE, nI_m1, nI_m1', m1_lt, lt_m1, m1_le, le_m1, eq_self, not_true_eq_false, not_false_eq_true, ↓reduceIte, leT, leF, ltT, ltF, eqT, eqF, decide_true, decide_false, true_and, and_true, Nat.reduceAdd, bI0_i, bI_i, bI_x, bV0_v, bV_v, bV_x, ↓bnd_e, gd_t, x_at, x_ofLedge, g1, g2, and10, h, bT, nle_lt, h2, g4, Bool.true_and]
    · refine ⟨S 8, S 9, ?_⟩
      simp (disch := omega) only [fa_lit, nI_ad, nI_mul, nI_cl, inb_nI, nI_ltE, nI_leE, nI_eqE, nI_m1, nI_m1', m1_lt, lt_m1, m1_le, le_m1, eq_self, not_true_eq_false, not_false_eq_true, ↓reduceIte, leT, leF, ltT, ltF, eqT, eqF, decide_true, decide_false, true_and, and_true, Nat.reduceAdd, bI0_i, bI_i, bI_x, bV0_v, bV_v, bV_x, ↓bnd_e, gd_t, x_at, x_ofLedge, g1, g2, and00, id, nle_lt, Bool.false_and, Bool.true_and]; rfl
end X
