/-! enough, shifts, lasts -/
def FX (S S1 : mS) : Prop := (∀ o, o ≠ 8 → o ≠ 9 → o ≠ 27 → o ≠ 33 → o ≠ 34 → o ≠ 35 → o ≠ 62 → S1 o = S o) ∧ (zb (S 27) → zb (S1 27))
def FM (T T2 : mS) : Prop := (∀ o, o ≠ 63 → o ≠ 66 → o ≠ 67 → o ≠ 70 → o ≠ 71 → o ≠ 72 → o ≠ 73 → o ≠ 74 → T2 o = T o) ∧ ∀ k, k = 6 ∨ k = 7 ∨ k = 9 ∨ k = 14 → T2 63 k = T 63 k
theorem ag_g {S : mS} {fX fM : mS → Option mR} {cs : List Nat} (hI : Inv S)
    (h : ∀ n nh nk A, n ≤ 10 → S 25 12 = nI n → nh ≤ 6 → S 25 13 = nI nh → nk ≤ 4 → S 25 14 = nI nk → LX A S 3 → LW A → Rg (S 25) → zb (S 27) →
      ∃ r1 S1, fX S = some (r1, S1) ∧ FX S S1 ∧ ∀ T, cM (T 64) = S 25 → LM A (T 64) → ∃ b T2, fM T = some (.inl (some (.int b)), T2) ∧ FM T T2 ∧ Res r1 b (T2 63 0) cs) : Ag fX fM cs S := by
  have hI0 := hI
  obtain ⟨h1, h2, ⟨A, a1, a2, a3⟩, h4, -⟩ := hI
  obtain ⟨n, hn, en⟩ := h1.n12
  obtain ⟨nh, hnh, enh⟩ := h1.n13
  obtain ⟨nk, hnk, enk⟩ := h1.n14
  obtain ⟨r1, S1, hX, f1, hM⟩ := h n nh nk A hn en hnh enh hnk enk a2 a1 h1 h4
  refine ⟨r1, S1, hX, fun T hT => ?_⟩
  have e64 : T 64 = S 64 := by rw [hT 64 (by omega), f1.1 64 (by omega) (by omega) (by omega) (by omega) (by omega) (by omega) (by omega)]
  obtain ⟨b, T2, hf, f2, hr⟩ := hM T (by rw [e64]; exact h2) (by rw [e64]; exact a3)
  refine ⟨b, T2, hf, Inv_same hI0 ⟨fun o ho => ?_, fun k hk => ?_, ?_⟩, hr⟩
  · unfold keepO at ho
    rw [f2.1 o (by omega) (by omega) (by omega) (by omega) (by omega) (by omega) (by omega) (by omega), hT o (by omega), f1.1 o (by omega) (by omega) (by omega) (by omega) (by omega) (by omega) (by omega)]
  · rw [f2.2 k hk, hT 63 (by omega), f1.1 63 (by omega) (by omega) (by omega) (by omega) (by omega) (by omega) (by omega)]
  · rw [f2.1 27 (by omega) (by omega) (by omega) (by omega) (by omega) (by omega) (by omega) (by omega), hT 27 (by omega)]
    exact f1.2 h4
section O
variable {F : Nat} {S : mS}
theorem x_holderSets {n : Nat} (hn : S 25 13 = nI n) (hn6 : n ≤ 6) : f_X9_holderSets S = some (.inl (some (.int (nI (2 ^ n)))), S) := by
  unfold f_X9_holderSets
  simp (disch := omega) only [fa_lit, nI_ad, nI_mul, nI_cl, inb_nI, nI_ltE, nI_leE, nI_eqE, nI_m1, nI_m1', m1_lt, lt_m1, m1_le, le_m1, eq_self, not_true_eq_false, not_false_eq_true, ↓reduceIte, leT, leF, ltT, ltF, eqT, eqF, decide_true, decide_false, true_and, and_true, Nat.reduceAdd, bI0_i, bI_i, bI_x, bV0_v, bV_v, bV_x, ↓bnd_e, gd_t, x_at, hn, shl_pow]
def bI' (s : Nat) : Int := (bcV (nI s)).toInt
theorem bc_le {a b : Nat} : (bcV (nI a) ≤ bcV (nI b)) = (bI' a ≤ bI' b) := by unfold bI'; rw [Int32.le_iff_toInt_le]
theorem bc_lt {a b : Nat} : (bcV (nI a) < bcV (nI b)) = (bI' a < bI' b) := by unfold bI'; rw [Int32.lt_iff_toInt_lt]
def enO (H : Nat → Bool) : Nat → Option Nat
  | 0 => none
  | s + 1 => match enO H s with
    | none => if H s = true then some s else none
    | some b => if bI' b ≤ bI' s then some b else if H s = true then some s else some b
def emO (H : Nat → Bool) (N : Nat) : Nat → Option Nat
  | 0 => none
  | d + 1 => if H (N - 1 - d) = true then (match emO H N d with
    | none => some (N - 1 - d)
    | some b => if bI' b < bI' (N - 1 - d) then some b else some (N - 1 - d)) else emO H N d
def BestIn (H : Nat → Bool) (lo hi : Nat) (o : Option Nat) : Prop := match o with
  | none => ∀ s, lo ≤ s → s < hi → H s = false
  | some b => lo ≤ b ∧ b < hi ∧ H b = true ∧ ∀ s, lo ≤ s → s < hi → H s = true → bI' b < bI' s ∨ (bI' b = bI' s ∧ b ≤ s)
theorem en_best {H : Nat → Bool} : ∀ i, BestIn H 0 i (enO H i)
  | 0 => fun s _ h => absurd h (by omega)
  | i + 1 => by
    have ih := en_best (H := H) i
    rw [enO]
    cases g : enO H i with
    | none =>
      rw [g] at ih
      cases g2 : H i with
      | true =>
        refine ⟨by omega, by omega, g2, fun s _ hs hH => ?_⟩
        by_cases e : s = i
        · subst e; exact Or.inr ⟨rfl, Nat.le_refl _⟩
        · have := ih s (by omega) (by omega); rw [this] at hH; cases hH
      | false =>
        intro s _ hs
        by_cases e : s = i
        · subst e; exact g2
        · exact ih s (by omega) (by omega)
    | some b =>
      rw [g] at ih
      obtain ⟨h1, h2, h3, h4⟩ := ih
      by_cases g3 : bI' b ≤ bI' i
      · simp only [g3, if_true]
        refine ⟨by omega, by omega, h3, fun s _ hs hH => ?_⟩
        by_cases e : s = i
        · subst e; omega
        · exact h4 s (by omega) (by omega) hH
      · simp only [g3, if_false]
        cases g2 : H i with
        | true =>
          refine ⟨by omega, by omega, g2, fun s _ hs hH => ?_⟩
          by_cases e : s = i
          · subst e; omega
          · have := h4 s (by omega) (by omega) hH; omega
        | false =>
          refine ⟨by omega, by omega, h3, fun s _ hs hH => ?_⟩
          by_cases e : s = i
          · subst e; rw [g2] at hH; cases hH
          · exact h4 s (by omega) (by omega) hH
theorem em_best {H : Nat → Bool} {N : Nat} : ∀ d, d ≤ N → BestIn H (N - d) N (emO H N d)
  | 0, _ => fun s h1 h => absurd h (by omega)
  | d + 1, hd => by
    have ih := em_best (H := H) (N := N) d (by omega)
    rw [emO]
    cases g2 : H (N - 1 - d) with
    | false =>
      rw [if_neg (by simp)]
      cases g : emO H N d with
      | none =>
        rw [g] at ih
        intro s h1 hs
        by_cases e : s = N - 1 - d
        · subst e; exact g2
        · exact ih s (by omega) hs
      | some b =>
        rw [g] at ih
        obtain ⟨h1, h2, h3, h4⟩ := ih
        refine ⟨by omega, h2, h3, fun s h5 hs hH => ?_⟩
        by_cases e : s = N - 1 - d
        · subst e; rw [g2] at hH; cases hH
        · exact h4 s (by omega) hs hH
    | true =>
      rw [if_pos rfl]
      cases g : emO H N d with
      | none =>
        rw [g] at ih
        refine ⟨by omega, by omega, g2, fun s h5 hs hH => ?_⟩
        by_cases e : s = N - 1 - d
        · subst e; exact Or.inr ⟨rfl, Nat.le_refl _⟩
        · have := ih s (by omega) hs; rw [this] at hH; cases hH
      | some b =>
        rw [g] at ih
        obtain ⟨h1, h2, h3, h4⟩ := ih
        by_cases g3 : bI' b < bI' (N - 1 - d)
        · simp only [g3, if_true]
          refine ⟨by omega, h2, h3, fun s h5 hs hH => ?_⟩
          by_cases e : s = N - 1 - d
          · subst e; omega
          · exact h4 s (by omega) hs hH
        · simp only [g3, if_false]
          refine ⟨by omega, by omega, g2, fun s h5 hs hH => ?_⟩
          by_cases e : s = N - 1 - d
          · subst e; exact Or.inr ⟨rfl, Nat.le_refl _⟩
          · have := h4 s (by omega) hs hH; omega
theorem best_one {H : Nat → Bool} {lo hi : Nat} {o o' : Option Nat} (h : BestIn H lo hi o) (h' : BestIn H lo hi o') : o = o' := by
  cases o with
  | none =>
    cases o' with
    | none => rfl
    | some b => have := h b h'.1 h'.2.1; rw [h'.2.2.1] at this; cases this
  | some a =>
    cases o' with
    | none => have := h' a h.1 h.2.1; rw [h.2.2.1] at this; cases this
    | some b =>
      have h1 := h.2.2.2 b h'.1 h'.2.1 h'.2.2.1
      have h2 := h'.2.2.2 a h.1 h.2.1 h.2.2.1
      congr 1; omega
theorem en_lt {H : Nat → Bool} {i b : Nat} (h : enO H i = some b) : b < i := by
  have := en_best (H := H) i
  rw [h] at this
  exact this.2.1
theorem em_lt {H : Nat → Bool} {N d b : Nat} (hd : d ≤ N) (h : emO H N d = some b) : b < N := by
  have := em_best (H := H) d hd
  rw [h] at this
  exact this.2.1
def hH (c : Nat → Int32) (j l nh : Nat) (s : Nat) : Bool := heldV c j l (nI s) nh
theorem x_enough {j l nh N : Nat} (hF : 6000 ≤ F) (hh : S 25 13 = nI nh) (hh6 : nh ≤ 6) (hN : N = 2 ^ nh) (hN2 : N ≤ 64) : ∀ (m i k : Nat), i + m = N → m < k →
    f_X9_enough_b30 F k (loadV (S 25) j l) (encO (enO (hH (S 25) j l nh) i)) (nI i) S = some (.inl (some (.int (encO (enO (hH (S 25) j l nh) N)))), S)
  | 0, i, k + 1, hi, hk => by
    have hie : i = N := by omega
    subst hie
    rw [f_X9_enough_b30]
    simp (disch := omega) only [fa_lit, nI_ad, nI_mul, nI_cl, inb_nI, nI_ltE, nI_leE, nI_eqE, nI_m1, nI_m1', m1_lt, lt_m1, m1_le, le_m1, eq_self, not_true_eq_false, not_false_eq_true, ↓reduceIte, leT, leF, ltT, ltF, eqT, eqF, decide_true, decide_false, true_and, and_true, Nat.reduceAdd, bI0_i, bI_i, bI_x, bV0_v, bV_v, bV_x, ↓bnd_e, gd_t, x_holderSets hh hh6, ← hN]
  | m + 1, i, k + 1, hi, hk => by
    have ih := x_enough (j := j) (l := l) hF hh hh6 hN hN2 m (i + 1) k (by omega) (by omega)
    have hst := x_strengthOf (F := F) (S := S) (u := 24) (set := nI i) (by omega) hh hh6
    rw [enO] at ih
    rw [f_X9_enough_b30]
    unfold f_X9_enough_b58 f_X9_enough_b63 f_X9_enough_b91
    cases g : enO (hH (S 25) j l nh) i with
    | none =>
      rw [g] at ih
      by_cases g2 : strV (S 25) (nI i) nh < loadV (S 25) j l
      · have e : hH (S 25) j l nh i = false := decide_eq_false (by simpa using g2)
        simp only [e, reduceCtorEq, ↓reduceIte] at ih
        simp (disch := omega) only [fa_lit, nI_ad, nI_mul, nI_cl, inb_nI, nI_ltE, nI_leE, nI_eqE, nI_m1, nI_m1', m1_lt, lt_m1, m1_le, le_m1, eq_self, not_true_eq_false, not_false_eq_true, ↓reduceIte, leT, leF, ltT, ltF, eqT, eqF, decide_true, decide_false, true_and, and_true, Nat.reduceAdd, bI0_i, bI_i, bI_x, bV0_v, bV_v, bV_x, ↓bnd_e, gd_t, x_holderSets hh hh6, ← hN, enc_none, m1_m1, hst, g2]
        exact ih
      · have e : hH (S 25) j l nh i = true := decide_eq_true g2
        simp only [e, ↓reduceIte] at ih
        simp (disch := omega) only [fa_lit, nI_ad, nI_mul, nI_cl, inb_nI, nI_ltE, nI_leE, nI_eqE, nI_m1, nI_m1', m1_lt, lt_m1, m1_le, le_m1, eq_self, not_true_eq_false, not_false_eq_true, ↓reduceIte, leT, leF, ltT, ltF, eqT, eqF, decide_true, decide_false, true_and, and_true, Nat.reduceAdd, bI0_i, bI_i, bI_x, bV0_v, bV_v, bV_x, ↓bnd_e, gd_t, x_holderSets hh hh6, ← hN, enc_none, m1_m1, hst, g2]
        exact ih
    | some b =>
      have hb := en_lt g
      rw [g] at ih
      by_cases g3 : bI' b ≤ bI' i
      · simp only [g3, ↓reduceIte] at ih
        simp (disch := omega) only [fa_lit, nI_ad, nI_mul, nI_cl, inb_nI, nI_ltE, nI_leE, nI_eqE, nI_m1, nI_m1', m1_lt, lt_m1, m1_le, le_m1, eq_self, not_true_eq_false, not_false_eq_true, ↓reduceIte, leT, leF, ltT, ltF, eqT, eqF, decide_true, decide_false, true_and, and_true, Nat.reduceAdd, bI0_i, bI_i, bI_x, bV0_v, bV_v, bV_x, ↓bnd_e, gd_t, x_holderSets hh hh6, ← hN, enc_some, bc_eq, bc_le, g3]
        exact ih
      · by_cases g2 : strV (S 25) (nI i) nh < loadV (S 25) j l
        · have e : hH (S 25) j l nh i = false := decide_eq_false (by simpa using g2)
          simp only [g3, e, reduceCtorEq, ↓reduceIte] at ih
          simp (disch := omega) only [fa_lit, nI_ad, nI_mul, nI_cl, inb_nI, nI_ltE, nI_leE, nI_eqE, nI_m1, nI_m1', m1_lt, lt_m1, m1_le, le_m1, eq_self, not_true_eq_false, not_false_eq_true, ↓reduceIte, leT, leF, ltT, ltF, eqT, eqF, decide_true, decide_false, true_and, and_true, Nat.reduceAdd, bI0_i, bI_i, bI_x, bV0_v, bV_v, bV_x, ↓bnd_e, gd_t, x_holderSets hh hh6, ← hN, enc_some, bc_eq, bc_le, g3, hst, g2]
          exact ih
        · have e : hH (S 25) j l nh i = true := decide_eq_true g2
          simp only [g3, e, ↓reduceIte] at ih
          simp (disch := omega) only [fa_lit, nI_ad, nI_mul, nI_cl, inb_nI, nI_ltE, nI_leE, nI_eqE, nI_m1, nI_m1', m1_lt, lt_m1, m1_le, le_m1, eq_self, not_true_eq_false, not_false_eq_true, ↓reduceIte, leT, leF, ltT, ltF, eqT, eqF, decide_true, decide_false, true_and, and_true, Nat.reduceAdd, bI0_i, bI_i, bI_x, bV0_v, bV_v, bV_x, ↓bnd_e, gd_t, x_holderSets hh hh6, ← hN, enc_some, bc_eq, bc_le, g3, hst, g2]
          exact ih
def dnV (m : Nat) : Int32 := match m with
  | 0 => -nI 1
  | m + 1 => nI m
theorem dn_pred {m : Nat} : nI m + -nI 1 = dnV m := by
  cases m with
  | zero => decide
  | succ m => exact subm1
theorem m_enough {j l nh N : Nat} (hF : 6000 ≤ F) (hj : j < 4) (hl : l < 10) (hh : cM (S 64) 13 = nI nh) (hh6 : nh ≤ 6) (hN2 : N ≤ 64) : ∀ (m d k : Nat), d + m = N → m < k →
    f_X10_enough_b29 F k (nI j) (nI l) (encO (emO (hH (cM (S 64)) j l nh) N d)) (dnV m) S = some (.inl (some (.int (encO (emO (hH (cM (S 64)) j l nh) N N)))), S)
  | 0, d, k + 1, hi, hk => by
    have hie : d = N := by omega
    subst hie
    rw [f_X10_enough_b29]
    simp (disch := omega) only [fa_lit, nI_ad, nI_mul, nI_cl, inb_nI, nI_ltE, nI_leE, nI_eqE, nI_m1, nI_m1', m1_lt, lt_m1, m1_le, le_m1, eq_self, not_true_eq_false, not_false_eq_true, ↓reduceIte, leT, leF, ltT, ltF, eqT, eqF, decide_true, decide_false, true_and, and_true, Nat.reduceAdd, bI0_i, bI_i, bI_x, bV0_v, bV_v, bV_x, ↓bnd_e, gd_t, dnV, m1_lt0]
  | m + 1, d, k + 1, hi, hk => by
    have ih := m_enough (j := j) (l := l) hF hj hl hh hh6 hN2 m (d + 1) k (by omega) (by omega)
    have hst := m_isHeld (F := F) (S := S) (set := nI m) (by omega) hj hl hh hh6
    have em : N - 1 - d = m := by omega
    rw [emO, em] at ih
    rw [f_X10_enough_b29]
    unfold f_X10_enough_b61 f_X10_enough_b64
    cases g2 : hH (cM (S 64)) j l nh m with
    | false =>
      have g2' : heldV (cM (S 64)) j l (nI m) nh = false := g2
      rw [g2, if_neg (by simp)] at ih
      simp (disch := omega) only [fa_lit, nI_ad, nI_mul, nI_cl, inb_nI, nI_ltE, nI_leE, nI_eqE, nI_m1, nI_m1', m1_lt, lt_m1, m1_le, le_m1, eq_self, not_true_eq_false, not_false_eq_true, ↓reduceIte, leT, leF, ltT, ltF, eqT, eqF, decide_true, decide_false, true_and, and_true, Nat.reduceAdd, bI0_i, bI_i, bI_x, bV0_v, bV_v, bV_x, ↓bnd_e, gd_t, dnV, hst, g2', bF, dn_pred]
      exact ih
    | true =>
      have g2' : heldV (cM (S 64)) j l (nI m) nh = true := g2
      rw [g2, if_pos rfl] at ih
      cases g : emO (hH (cM (S 64)) j l nh) N d with
      | none =>
        rw [g] at ih
        simp (disch := omega) only [fa_lit, nI_ad, nI_mul, nI_cl, inb_nI, nI_ltE, nI_leE, nI_eqE, nI_m1, nI_m1', m1_lt, lt_m1, m1_le, le_m1, eq_self, not_true_eq_false, not_false_eq_true, ↓reduceIte, leT, leF, ltT, ltF, eqT, eqF, decide_true, decide_false, true_and, and_true, Nat.reduceAdd, bI0_i, bI_i, bI_x, bV0_v, bV_v, bV_x, ↓bnd_e, gd_t, dnV, hst, g2', bT, dn_pred, enc_none, m1_lt0]
        exact ih
      | some b =>
        have hb := em_lt (by omega) g
        rw [g] at ih
        by_cases g3 : bI' b < bI' m
        · simp only [g3, ↓reduceIte] at ih
          simp (disch := omega) only [fa_lit, nI_ad, nI_mul, nI_cl, inb_nI, nI_ltE, nI_leE, nI_eqE, nI_m1, nI_m1', m1_lt, lt_m1, m1_le, le_m1, eq_self, not_true_eq_false, not_false_eq_true, ↓reduceIte, leT, leF, ltT, ltF, eqT, eqF, decide_true, decide_false, true_and, and_true, Nat.reduceAdd, bI0_i, bI_i, bI_x, bV0_v, bV_v, bV_x, ↓bnd_e, gd_t, dnV, hst, g2', bT, dn_pred, enc_some, bc_eq, bc_lt, g3]
          exact ih
        · simp only [g3, ↓reduceIte] at ih
          simp (disch := omega) only [fa_lit, nI_ad, nI_mul, nI_cl, inb_nI, nI_ltE, nI_leE, nI_eqE, nI_m1, nI_m1', m1_lt, lt_m1, m1_le, le_m1, eq_self, not_true_eq_false, not_false_eq_true, ↓reduceIte, leT, leF, ltT, ltF, eqT, eqF, decide_true, decide_false, true_and, and_true, Nat.reduceAdd, bI0_i, bI_i, bI_x, bV0_v, bV_v, bV_x, ↓bnd_e, gd_t, dnV, hst, g2', bT, dn_pred, enc_some, bc_eq, bc_lt, g3]
          exact ih
theorem pow6 {n : Nat} (h : n ≤ 6) : 2 ^ n ≤ 64 := by
  have : n < 7 := by omega
  revert this; revert n; decide
theorem ag_enough {p1 p2 : Int32} (hF : 6000 ≤ F) (hI : Inv S) : Ag (f_X9_enough F p1 p2) (f_X10_enough F p1 p2) [3] S := by
  refine ag_ro hI (fun n nh nk A hn en hnh enh hnk enk hX hW hR => ?_)
  by_cases g_p1 : ∃ z, z < nk ∧ p1 = nI z
  · obtain ⟨j, h_p1, rfl⟩ := g_p1
    by_cases g_p2 : ∃ z, z < n ∧ p2 = nI z
    · obtain ⟨l, h_p2, rfl⟩ := g_p2
      have hp := pow6 hnh
      have hp1 := pow_pos' (n := nh)
      have h := x_enough (F := F) (S := S) (j := j) (l := l) hF enh hnh rfl hp (2 ^ nh) 0 F (by omega) (by omega)
      refine ⟨.inl (some (.int (encO (enO (hH (S 25) j l nh) (2 ^ nh))))), idX ?_, fun U hC hM => ?_⟩
      · unfold f_X9_enough 
        simp (disch := omega) only [fa_lit, nI_ad, nI_mul, nI_cl, inb_nI, nI_ltE, nI_leE, nI_eqE, nI_m1, nI_m1', m1_lt, lt_m1, m1_le, le_m1, eq_self, not_true_eq_false, not_false_eq_true, ↓reduceIte, leT, leF, ltT, ltF, eqT, eqF, decide_true, decide_false, true_and, and_true, Nat.reduceAdd, bI0_i, bI_i, bI_x, bV0_v, bV_v, bV_x, ↓bnd_e, gd_t, x_needClimber hnk enk h_p1, x_needLedge hn en h_p2, x_loadOf, show f_X9_enough_b30 F F (loadV (S 25) j l) (-nI 1) (nI 0) S = _ from h]
      · skip
        have en' : cM (U 64) 12 = nI n := by rw [hC]; exact en
        have enh' : cM (U 64) 13 = nI nh := by rw [hC]; exact enh
        have enk' : cM (U 64) 14 = nI nk := by rw [hC]; exact enk
        have h := m_enough (F := F) (S := U) (j := j) (l := l) hF (by omega) (by omega) enh' hnh hp (2 ^ nh) 0 F (by omega) (by omega)
        rw [hC, best_one (H := hH (S 25) j l nh) (o := emO (hH (S 25) j l nh) (2 ^ nh) (2 ^ nh)) (by have := em_best (H := hH (S 25) j l nh) (N := 2 ^ nh) (2 ^ nh) (Nat.le_refl _); rw [Nat.sub_self] at this; exact this) (en_best (2 ^ nh))] at h
        have e0 : dnV (2 ^ nh) = nI (2 ^ nh - 1) := by generalize 2 ^ nh = N at hp1; cases N with | zero => omega | succ N => rfl
        rw [e0] at h
        refine res_ok' fun T hU => ?_
        unfold f_X10_enough ; rw [bnd_e, show upS T 63 0 (0 : Int32) = U from hU.symm]
        simp (disch := omega) only [fa_lit, nI_ad, nI_mul, nI_cl, inb_nI, nI_ltE, nI_leE, nI_eqE, nI_m1, nI_m1', m1_lt, lt_m1, m1_le, le_m1, eq_self, not_true_eq_false, not_false_eq_true, ↓reduceIte, leT, leF, ltT, ltF, eqT, eqF, decide_true, decide_false, true_and, and_true, Nat.reduceAdd, bI0_i, bI_i, bI_x, bV0_v, bV_v, bV_x, ↓bnd_e, gd_t, and10, and00, m_throw0, m_throw, Bool.not_true, Bool.not_false, bT, bF, m_noBoth hn en' h_p2 hnk enk' h_p1, m_in, m_noWind, m_allHolders enh' hnh, show f_X10_enough_b29 F F (nI j) (nI l) (-nI 1) (nI (2 ^ nh - 1)) U = _ from h, hC]
    · refine ⟨.inr 3, idX ?_, fun U hC hM => res_ex (b := nI 0) 0 rfl (by omega) fun T hU => ?_⟩
      · unfold f_X9_enough 
        simp (disch := omega) only [fa_lit, nI_ad, nI_mul, nI_cl, inb_nI, nI_ltE, nI_leE, nI_eqE, nI_m1, nI_m1', m1_lt, lt_m1, m1_le, le_m1, eq_self, not_true_eq_false, not_false_eq_true, ↓reduceIte, leT, leF, ltT, ltF, eqT, eqF, decide_true, decide_false, true_and, and_true, Nat.reduceAdd, bI0_i, bI_i, bI_x, bV0_v, bV_v, bV_x, ↓bnd_e, gd_t, x_needClimber hnk enk h_p1, x_needLedge_x hn en g_p2]
      · unfold f_X10_enough ; rw [bnd_e, show upS T 63 0 (0 : Int32) = U from hU.symm]
        have en' : cM (U 64) 12 = nI n := by rw [hC]; exact en
        have enh' : cM (U 64) 13 = nI nh := by rw [hC]; exact enh
        have enk' : cM (U 64) 14 = nI nk := by rw [hC]; exact enk
        simp (disch := omega) only [fa_lit, nI_ad, nI_mul, nI_cl, inb_nI, nI_ltE, nI_leE, nI_eqE, nI_m1, nI_m1', m1_lt, lt_m1, m1_le, le_m1, eq_self, not_true_eq_false, not_false_eq_true, ↓reduceIte, leT, leF, ltT, ltF, eqT, eqF, decide_true, decide_false, true_and, and_true, Nat.reduceAdd, bI0_i, bI_i, bI_x, bV0_v, bV_v, bV_x, ↓bnd_e, gd_t, and10, and00, m_throw0, m_throw, Bool.not_true, Bool.not_false, bT, bF, m_noBoth_l hnk enk' h_p1 hn en' g_p2, m_in, m_noWind]
  · refine ⟨.inr 3, idX ?_, fun U hC hM => res_ex (b := nI 0) 0 rfl (by omega) fun T hU => ?_⟩
    · unfold f_X9_enough 
      simp (disch := omega) only [fa_lit, nI_ad, nI_mul, nI_cl, inb_nI, nI_ltE, nI_leE, nI_eqE, nI_m1, nI_m1', m1_lt, lt_m1, m1_le, le_m1, eq_self, not_true_eq_false, not_false_eq_true, ↓reduceIte, leT, leF, ltT, ltF, eqT, eqF, decide_true, decide_false, true_and, and_true, Nat.reduceAdd, bI0_i, bI_i, bI_x, bV0_v, bV_v, bV_x, ↓bnd_e, gd_t, x_needClimber_x hnk enk g_p1]
    · unfold f_X10_enough ; rw [bnd_e, show upS T 63 0 (0 : Int32) = U from hU.symm]
      have en' : cM (U 64) 12 = nI n := by rw [hC]; exact en
      have enh' : cM (U 64) 13 = nI nh := by rw [hC]; exact enh
      have enk' : cM (U 64) 14 = nI nk := by rw [hC]; exact enk
      simp (disch := omega) only [fa_lit, nI_ad, nI_mul, nI_cl, inb_nI, nI_ltE, nI_leE, nI_eqE, nI_m1, nI_m1', m1_lt, lt_m1, m1_le, le_m1, eq_self, not_true_eq_false, not_false_eq_true, ↓reduceIte, leT, leF, ltT, ltF, eqT, eqF, decide_true, decide_false, true_and, and_true, Nat.reduceAdd, bI0_i, bI_i, bI_x, bV0_v, bV_v, bV_x, ↓bnd_e, gd_t, and10, and00, m_throw0, m_throw, Bool.not_true, Bool.not_false, bT, bF, m_noBoth_k hnk enk' g_p1, m_in, m_noWind]
end O
