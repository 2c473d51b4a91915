theorem m_and' {a b : Int32} (h : a = nI 0 ∨ a = nI 1) (h2 : b = nI 0 ∨ b = nI 1) : (if a + b = nI 2 then nI 1 else nI 0) = a &&& b := by
  rcases h with h | h <;> rcases h2 with h2 | h2 <;> subst h <;> subst h2 <;> decide
theorem m_or' {a b : Int32} (h : a = nI 0 ∨ a = nI 1) (h2 : b = nI 0 ∨ b = nI 1) : (if nI 0 < a + b then nI 1 else nI 0) = a ||| b := by
  rcases h with h | h <;> rcases h2 with h2 | h2 <;> subst h <;> subst h2 <;> decide
theorem m_step {F k e i x l K : Nat} {S : mS} {a b : Int32} {q : Nat → Int32} {T T' : List Bool} {V : List Int32} (hl : l < 10) (hK : K < 2000) (hKe : S 64 (K + 3) = nI e) (hi : i < e) (he : e ≤ 400)
    (hx : S 64 (496 + 2 * i) = nI (stepOf x)) (hx' : S 64 (496 + 2 * i + 1) = nI (argOf x)) (ht : tyStep x T = some T') (hV : VT T V) (hT : T.length ≤ 20) (hq : Arr q V) :
    ∃ q', Arr q' (evStep (facts (cM (S 64)) l a b) x V) ∧ f_X10_holdsLine_b22 F (k + 1) (nI l) (nI V.length) (nI K) (nI i) (sM S a b q) = f_X10_holdsLine_b22 F k (nI l) (nI (evStep (facts (cM (S 64)) l a b) x V).length) (nI K) (nI (i + 1)) (sM S a b q') := by
  have hlen := hV.len
  have hx2 := ty_lt ht
  have pushc : x < 1009 → T.length < 20 → ∀ v, v = (if x < 1000 then nI x else facts (cM (S 64)) l a b (x - 1000)) → evStep (facts (cM (S 64)) l a b) x V = v :: V →
      ∃ q', Arr q' (evStep (facts (cM (S 64)) l a b) x V) ∧ f_X10_holdsLine_b22 F (k + 1) (nI l) (nI V.length) (nI K) (nI i) (sM S a b q) = f_X10_holdsLine_b22 F k (nI l) (nI (evStep (facts (cM (S 64)) l a b) x V).length) (nI K) (nI (i + 1)) (sM S a b q') := by
    intro h1 h3 v hv hev
    rw [hev]
    refine ⟨upd q V.length v, hq.push, ?_⟩
    rw [hv]
    exact m_stP hK hKe hi he (by omega) hl hx hx' h1 ht
  rcases ty_cases ht with ⟨h1, h3, rfl⟩ | ⟨h1, h2, h3, rfl⟩ | ⟨h1, h3, rfl⟩ | ⟨h1, r, rfl, rfl⟩ | ⟨h1, r, rfl, rfl⟩ | ⟨h1, r, rfl, rfl⟩ | ⟨h1, r, rfl, rfl⟩
  · exact pushc (by omega) h3 _ rfl (by unfold evStep; rw [if_pos h1, if_pos h1])
  · exact pushc (by omega) h3 _ rfl (by unfold evStep; rw [if_neg (by omega), if_pos (by omega), if_neg (by omega)])
  · exact pushc (by omega) h3 _ rfl (by unfold evStep; rw [if_neg (by omega), if_pos (by omega), if_neg (by omega)])
  · obtain ⟨v, W, rfl, h2, h3⟩ := VT_cons hV
    rw [List.length_cons] at hlen
    rw [List.length_cons] at hlen hT
    have hev : evStep (facts (cM (S 64)) l a b) x (v :: W) = (nI 1 - v) :: W := by unfold evStep; rw [if_neg (by omega), if_neg (by omega), if_pos h1]
    rw [hev]
    refine ⟨upd q W.length (nI 1 - v), ⟨upd_s, hq.2.keep (Nat.le_refl _)⟩, ?_⟩
    rw [h1] at hx
    exact m_stN hK hKe hi he (by omega) hx hq.1
  all_goals
    obtain ⟨y, W, rfl, h2, h3⟩ := VT_cons hV
    obtain ⟨z, W, rfl, h4, h5⟩ := VT_cons h3
    rw [List.length_cons, List.length_cons] at hlen
    rw [List.length_cons, List.length_cons] at hlen hT
    have hev : evStep (facts (cM (S 64)) l a b) x (y :: z :: W) = joinV x z y :: W := by unfold evStep; rw [if_neg (by omega), if_neg (by omega), if_neg (by omega)]
    rw [hev]
    refine ⟨upd q W.length (joinV x z y), ⟨upd_s, hq.2.2.keep (Nat.le_refl _)⟩, ?_⟩
    have hq1 := hq.1
    rw [List.length_cons] at hq1
  · rcases h1 with h1 | h1
    · rw [h1] at hx
      have hj : joinV x z y = z &&& y := by unfold joinV; rw [if_pos h1]
      rw [hj, ← m_and' (h4 rfl) (h2 rfl)]
      exact m_st14 hK hKe hi he (by omega) hx hq1 hq.2.1
    · rw [h1] at hx
      have hj : joinV x z y = z ||| y := by unfold joinV; rw [if_neg (by omega), if_pos h1]
      rw [hj, ← m_or' (h4 rfl) (h2 rfl)]
      exact m_st15 hK hKe hi he (by omega) hx hq1 hq.2.1
  · rcases h1 with h1 | h1
    · rw [h1] at hx
      have hj : joinV x z y = if z < y then nI 1 else nI 0 := by unfold joinV; rw [if_neg (by omega), if_neg (by omega), if_pos h1]
      rw [hj]
      exact m_st11 hK hKe hi he (by omega) hx hq1 hq.2.1
    · rw [h1] at hx
      have hj : joinV x z y = if y < z then nI 1 else nI 0 := by unfold joinV; rw [if_neg (by omega), if_neg (by omega), if_neg (by omega), if_pos h1]
      rw [hj]
      exact m_st12 hK hKe hi he (by omega) hx hq1 hq.2.1
  · rw [h1] at hx
    have hj : joinV x z y = z + y := by unfold joinV; rw [if_neg (by omega), if_neg (by omega), if_neg (by omega), if_neg (by omega)]
    rw [hj]
    exact m_st10 hK hKe hi he (by omega) hx hq1 hq.2.1
theorem fact8 {c : Nat → Int32} {l : Nat} {a b : Int32} : facts c l a b 8 = nI 0 ∨ facts c l a b 8 = nI 1 := by
  show bV32 _ = _ ∨ bV32 _ = _
  cases isF c l
  · exact Or.inl rfl
  · exact Or.inr rfl
theorem m_loop {F e l K : Nat} {S : mS} {a b : Int32} {cd : Nat → Nat} (hl : l < 10) (hK : K < 2000) (hKe : S 64 (K + 3) = nI e) (he : e ≤ 400)
    (hc : ∀ i, i < e → S 64 (496 + 2 * i) = nI (stepOf (cd i)) ∧ S 64 (496 + 2 * i + 1) = nI (argOf (cd i))) :
    ∀ (m i k : Nat) (q : Nat → Int32) (T T' : List Bool) (V : List Int32), i + m = e → m < k → tyRun cd i m T = some T' → (T' = [] ∨ T' = [true]) → VT T V → T.length ≤ 20 → Arr q V →
    ∃ q', f_X10_holdsLine_b22 F k (nI l) (nI V.length) (nI K) (nI i) (sM S a b q) = some (.inl (some (.int (bV32 (hvV (evRun cd (facts (cM (S 64)) l a b) i m V))))), sM S a b q')
  | 0, i, k + 1, q, T, T', V, hi, hk, ht, hT', hV, hT, hq => by
    cases ht
    refine ⟨q, ?_⟩
    have e1 : (sM S a b q) 64 = S 64 := sM_n (by omega) (by omega)
    rw [f_X10_holdsLine_b22]
    unfold f_X10_holdsLine_b277 f_X10_holdsLine_b282
    have hie : i = e := by omega
    subst hie
    rcases hT' with rfl | rfl
    · cases V with
      | nil =>
        simp (disch := omega) only [fa_lit, nI_ad, nI_mul, nI_cl, inb_nI, nI_ltE, nI_leE, nI_eqE, nI_m1, nI_m1', m1_lt, lt_m1, m1_le, le_m1, eq_self, not_true_eq_false, not_false_eq_true, ↓reduceIte, leT, leF, ltT, ltF, eqT, eqF, decide_true, decide_false, true_and, and_true, Nat.reduceAdd, bI0_i, bI_i, bI_x, bV0_v, bV_v, bV_x, ↓bnd_e, gd_t, e1, hKe, List.length_nil]
        rfl
      | cons => exact hV.elim
    · obtain ⟨v, W, rfl, h2, h3⟩ := VT_cons hV
      cases W with
      | cons => exact h3.elim
      | nil =>
        have e9 : sM S a b q 71 0 = v := hq.1
        by_cases h : v = nI 1
        · simp (disch := omega) only [fa_lit, nI_ad, nI_mul, nI_cl, inb_nI, nI_ltE, nI_leE, nI_eqE, nI_m1, nI_m1', m1_lt, lt_m1, m1_le, le_m1, eq_self, not_true_eq_false, not_false_eq_true, ↓reduceIte, leT, leF, ltT, ltF, eqT, eqF, decide_true, decide_false, true_and, and_true, Nat.reduceAdd, bI0_i, bI_i, bI_x, bV0_v, bV_v, bV_x, ↓bnd_e, gd_t, e1, hKe, List.length_cons, List.length_nil, e9, evRun, hvV, h]
          rfl
        · simp (disch := omega) only [fa_lit, nI_ad, nI_mul, nI_cl, inb_nI, nI_ltE, nI_leE, nI_eqE, nI_m1, nI_m1', m1_lt, lt_m1, m1_le, le_m1, eq_self, not_true_eq_false, not_false_eq_true, ↓reduceIte, leT, leF, ltT, ltF, eqT, eqF, decide_true, decide_false, true_and, and_true, Nat.reduceAdd, bI0_i, bI_i, bI_x, bV0_v, bV_v, bV_x, ↓bnd_e, gd_t, e1, hKe, List.length_cons, List.length_nil, e9, evRun, hvV, h]
          rfl
  | m + 1, i, k + 1, q, T, T', V, hi, hk, ht, hT', hV, hT, hq => by
    rw [tyRun] at ht
    cases hs : tyStep (cd i) T with
    | none => rw [hs] at ht; cases ht
    | some T1 =>
      rw [hs, Option.bind_some] at ht
      obtain ⟨q1, h1, h2⟩ := m_step (F := F) (k := k) (a := a) (b := b) hl hK hKe (by omega : i < e) he (hc i (by omega)).1 (hc i (by omega)).2 hs hV hT hq
      rw [h2]
      exact m_loop hl hK hKe he hc m (i + 1) k q1 T1 T' _ (by omega) (by omega) ht hT' (ev_VT fact8 hs hV) (ty_len hs hT) h1
theorem m_holds {F n l j : Nat} {S : mS} {a b : Int32} {q : Nat → Int32} {kd nm en cd : Nat → Nat} (hF : 401 ≤ F) (hl : l < 10) (hA : LM (some (n, kd, nm, en, cd)) (S 64)) (hW : LW (some (n, kd, nm, en, cd))) (hj : j < n) :
    ∃ q', f_X10_holdsLine F (nI j) (nI l) (sM S a b q) = some (.inl (some (.int (bV32 (holdsV cd (facts (cM (S 64)) l a b) (sLn en j) (en j))))), sM S a b q') := by
  obtain ⟨h1, h2, h3, h4⟩ := hA
  have hn := hW.1
  obtain ⟨w1, w2, w3, w4, T, hT, hT2⟩ := hW.2 j hj
  obtain ⟨g1, g2, g3, g4⟩ := h3 j hj
  have hc := h4 j hj
  obtain ⟨q', h⟩ := m_loop (F := F) (a := a) (b := b) hl (by omega : 448 + 4 * j < 2000) g4 w4 hc (en j - sLn en j) (sLn en j) F q [] T [] (by omega) (by omega) hT hT2 trivial (by simp) trivial
  refine ⟨q', ?_⟩
  unfold f_X10_holdsLine
  have e1 : (sM S a b q) 64 = S 64 := sM_n (by omega) (by omega)
  simp (disch := omega) only [fa_lit, nI_ad, nI_mul, nI_cl, inb_nI, nI_ltE, nI_leE, nI_eqE, nI_m1, nI_m1', m1_lt, lt_m1, m1_le, le_m1, eq_self, not_true_eq_false, not_false_eq_true, ↓reduceIte, leT, leF, ltT, ltF, eqT, eqF, decide_true, decide_false, true_and, and_true, Nat.reduceAdd, bI0_i, bI_i, bI_x, bV0_v, bV_v, bV_x, ↓bnd_e, gd_t, e1, g3]
  exact h
theorem m_sumloop {F n kind l : Nat} {S : mS} {a b : Int32} {kd nm en cd : Nat → Nat} (hF : 401 ≤ F) (hk : kind ≤ 2) (hl : l < 10) (hA : LM (some (n, kd, nm, en, cd)) (S 64)) (hW : LW (some (n, kd, nm, en, cd))) :
    ∀ (m i k : Nat) (q : Nat → Int32), i + m = n → m < k →
    ∃ q', f_X10_sumOf_b17 F k (nI kind) (nI l) (sumN kd nm en cd kind (facts (cM (S 64)) l a b) i) (nI i) (sM S a b q) = some (.inl (some (.int (sumN kd nm en cd kind (facts (cM (S 64)) l a b) n))), sM S a b q')
  | 0, i, k + 1, q, hi, hk2 => by
    obtain ⟨h1, h2, h3, h4⟩ := hA
    have hn := hW.1
    have hie : i = n := by omega
    subst hie
    refine ⟨q, ?_⟩
    have e1 : (sM S a b q) 64 = S 64 := sM_n (by omega) (by omega)
    rw [f_X10_sumOf_b17]
    unfold f_X10_sumOf_b93
    simp (disch := omega) only [fa_lit, nI_ad, nI_mul, nI_cl, inb_nI, nI_ltE, nI_leE, nI_eqE, nI_m1, nI_m1', m1_lt, lt_m1, m1_le, le_m1, eq_self, not_true_eq_false, not_false_eq_true, ↓reduceIte, leT, leF, ltT, ltF, eqT, eqF, decide_true, decide_false, true_and, and_true, Nat.reduceAdd, bI0_i, bI_i, bI_x, bV0_v, bV_v, bV_x, ↓bnd_e, gd_t, e1, h1, h2]
  | m + 1, i, k + 1, q, hi, hk2 => by
    have hn := hW.1
    have ih := fun q => m_sumloop (F := F) (a := a) (b := b) hF hk hl hA hW m (i + 1) k q (by omega) (by omega)
    obtain ⟨q1, hh⟩ := m_holds (a := a) (b := b) (q := q) hF hl hA hW (by omega : i < n)
    obtain ⟨h1, h2, h3, h4⟩ := hA
    obtain ⟨w1, w2, w3, w4, T, hT, hT2⟩ := hW.2 i (by omega)
    obtain ⟨g1, g2, g3, g4⟩ := h3 i (by omega)
    have e1 : ∀ q, (sM S a b q) 64 = S 64 := fun q => sM_n (by omega) (by omega)
    rw [f_X10_sumOf_b17]
    unfold f_X10_sumOf_b87
    by_cases e : kd i = kind
    · cases hv : holdsV cd (facts (cM (S 64)) l a b) (sLn en i) (en i) with
      | false =>
        obtain ⟨q2, ih⟩ := ih q1
        refine ⟨q2, ?_⟩
        rw [sumN, if_neg (by rw [hv]; simp), add_n0] at ih
        rw [hv] at hh
        simp (disch := omega) only [fa_lit, nI_ad, nI_mul, nI_cl, inb_nI, nI_ltE, nI_leE, nI_eqE, nI_m1, nI_m1', m1_lt, lt_m1, m1_le, le_m1, eq_self, not_true_eq_false, not_false_eq_true, ↓reduceIte, leT, leF, ltT, ltF, eqT, eqF, decide_true, decide_false, true_and, and_true, Nat.reduceAdd, bI0_i, bI_i, bI_x, bV0_v, bV_v, bV_x, ↓bnd_e, gd_t, e1, h1, h2, g1, e, hh, b_e0]
        exact ih
      | true =>
        obtain ⟨q2, ih⟩ := ih q1
        refine ⟨q2, ?_⟩
        rw [sumN, if_pos ⟨e, hv⟩] at ih
        rw [hv] at hh
        simp (disch := omega) only [fa_lit, nI_ad, nI_mul, nI_cl, inb_nI, nI_ltE, nI_leE, nI_eqE, nI_m1, nI_m1', m1_lt, lt_m1, m1_le, le_m1, eq_self, not_true_eq_false, not_false_eq_true, ↓reduceIte, leT, leF, ltT, ltF, eqT, eqF, decide_true, decide_false, true_and, and_true, Nat.reduceAdd, bI0_i, bI_i, bI_x, bV0_v, bV_v, bV_x, ↓bnd_e, gd_t, e1, h1, h2, g1, g2, e, hh, b_e0, reduceCtorEq]
        exact ih
    · obtain ⟨q2, ih⟩ := ih q
      refine ⟨q2, ?_⟩
      rw [sumN, if_neg (fun h => e h.1), add_n0] at ih
      simp (disch := omega) only [fa_lit, nI_ad, nI_mul, nI_cl, inb_nI, nI_ltE, nI_leE, nI_eqE, nI_m1, nI_m1', m1_lt, lt_m1, m1_le, le_m1, eq_self, not_true_eq_false, not_false_eq_true, ↓reduceIte, leT, leF, ltT, ltF, eqT, eqF, decide_true, decide_false, true_and, and_true, Nat.reduceAdd, bI0_i, bI_i, bI_x, bV0_v, bV_v, bV_x, ↓bnd_e, gd_t, e1, h1, h2, g1, e]
      exact ih
theorem m_sum {F kind l : Nat} {kick wind : Int32} {S : mS} {A : aL} (hF : 401 ≤ F) (hk : kind ≤ 2) (hl : l < 10) (hA : LM A (S 64)) (hW : LW A) :
    ∃ q, f_X10_sumOf F (nI kind) (nI l) kick wind S = some (.inl (some (.int (sumV A kind (cM (S 64)) l kick wind))), sM S kick wind q) := by
  unfold f_X10_sumOf
  have e0 : upS (upS S 63 18 kick) 63 19 wind = sM S kick wind (S 71) := by
    funext o
    by_cases h : o = 63
    · subst h; rw [upS_s, upS_s, sM_63]
    · rw [upS_n h, upS_n h]
      by_cases h2 : o = 71
      · subst h2; rw [sM_71]
      · rw [sM_n h2 h]
  rw [bnd_e, bnd_e, e0]
  match A, hA, hW with
  | none, hA, hW =>
    obtain ⟨G, hG⟩ : ∃ G, F = G + 1 := ⟨F - 1, by omega⟩
    refine ⟨S 71, ?_⟩
    have e1 : (sM S kick wind (S 71)) 64 = S 64 := sM_n (by omega) (by omega)
    have h1 : S 64 4 = nI 0 := hA
    rw [hG, f_X10_sumOf_b17]
    unfold f_X10_sumOf_b93 sumV
    simp (disch := omega) only [fa_lit, nI_ad, nI_mul, nI_cl, inb_nI, nI_ltE, nI_leE, nI_eqE, nI_m1, nI_m1', m1_lt, lt_m1, m1_le, le_m1, eq_self, not_true_eq_false, not_false_eq_true, ↓reduceIte, leT, leF, ltT, ltF, eqT, eqF, decide_true, decide_false, true_and, and_true, Nat.reduceAdd, bI0_i, bI_i, bI_x, bV0_v, bV_v, bV_x, ↓bnd_e, gd_t, e1, h1]
  | some (n, kd, nm, en, cd), hA, hW =>
    have hn := hW.1
    exact m_sumloop (F := F) (a := kick) (b := wind) hF hk hl hA hW n 0 F (S 71) (by omega) (by omega)
