/-! sums by THE LAW, of the class and of the model -/
def sLn (en : Nat → Nat) : Nat → Nat
  | 0 => 0
  | i + 1 => en i
def facts (c : Nat → Int32) (l : Nat) (kick wind : Int32) : Nat → Int32 := fun i =>
  if i < 5 then c (16 + l * 5 + i) else if i = 5 then kick else if i = 6 then wind else if i = 7 then c 3 else bV32 (isF c l)
def sumN (kd nm en cd : Nat → Nat) (kind : Nat) (p : Nat → Int32) : Nat → Int32
  | 0 => nI 0
  | i + 1 => sumN kd nm en cd kind p i + (if kd i = kind ∧ holdsV cd p (sLn en i) (en i) = true then nI (nm i) else nI 0)
def sumV (A : aL) (kind : Nat) (c : Nat → Int32) (l : Nat) (kick wind : Int32) : Int32 := match A with
  | none => nI 0
  | some (n, kd, nm, en, cd) => sumN kd nm en cd kind (facts c l kick wind) n
def LX (A : aL) (S : mS) (b : Nat) : Prop := match A with
  | none => S b 6 = -nI 1
  | some (n, kd, nm, en, cd) => S b 6 = nI n ∧ (∀ i, i < n → S (b + 1) i = nI (kd i) ∧ S (b + 2) i = nI (nm i) ∧ S (b + 3) i = nI (en i)) ∧ ∀ j, j < n → ∀ i, i < en j → S (b + 4) i = nI (cd i)
def LW (A : aL) : Prop := match A with
  | none => True
  | some (n, kd, nm, en, cd) => n ≤ 12 ∧ ∀ i, i < n → kd i ≤ 2 ∧ nm i ≤ 20 ∧ sLn en i ≤ en i ∧ en i ≤ 400 ∧ ∃ T, tyRun cd (sLn en i) (en i - sLn en i) [] = some T ∧ (T = [] ∨ T = [true])
def stepOf (x : Nat) : Nat := if x < 1000 then 9 else if x = 1000 then 1 else if x = 1001 then 2 else if x = 1002 then 4 else if x = 1003 then 5 else if x = 1004 then 6
  else if x = 1005 then 0 else if x = 1006 then 3 else if x = 1007 then 7 else if x = 1008 then 8 else if x = 2000 then 13 else if x = 2001 then 14 else if x = 2002 then 15
  else if x = 2003 then 11 else if x = 2004 then 12 else 10
def argOf (x : Nat) : Nat := if x < 1000 then x else 0
def LM (A : aL) (w : Nat → Int32) : Prop := match A with
  | none => w 4 = nI 0
  | some (n, kd, nm, en, cd) => w 4 = nI 1 ∧ w 447 = nI n ∧ (∀ i, i < n → w (448 + 4 * i) = nI (kd i) ∧ w (448 + 4 * i + 1) = nI (nm i) ∧ w (448 + 4 * i + 2) = nI (sLn en i) ∧ w (448 + 4 * i + 3) = nI (en i))
    ∧ ∀ j, j < n → ∀ i, i < en j → w (496 + 2 * i) = nI (stepOf (cd i)) ∧ w (496 + 2 * i + 1) = nI (argOf (cd i))
theorem add_n0 {x : Int32} : x + nI 0 = x := Int32.add_zero x
theorem ev_congr {p p' : Nat → Int32} {x : Nat} {T T' : List Bool} {V : List Int32} (h : tyStep x T = some T') (hp : ∀ i, i < 9 → p i = p' i) : evStep p x V = evStep p' x V := by
  unfold evStep
  by_cases h1 : x < 1000
  · rw [if_pos h1, if_pos h1]
  · rw [if_neg h1, if_neg h1]
    by_cases h2 : x < 2000
    · rw [if_pos h2, if_pos h2]
      rcases ty_cases h with ⟨h1, h3, rfl⟩ | ⟨h1, h2, h3, rfl⟩ | ⟨rfl, h3, rfl⟩ | ⟨rfl, r, rfl, rfl⟩ | ⟨h1, r, rfl, rfl⟩ | ⟨h1, r, rfl, rfl⟩ | ⟨rfl, r, rfl, rfl⟩ <;> first | omega | rw [hp _ (by omega)]
    · rw [if_neg h2, if_neg h2]
theorem evRun_congr {p p' : Nat → Int32} {cd : Nat → Nat} (hp : ∀ i, i < 9 → p i = p' i) : ∀ {m s : Nat} {T T' : List Bool} {V : List Int32}, tyRun cd s m T = some T' → evRun cd p s m V = evRun cd p' s m V
  | 0, _, _, _, _, _ => rfl
  | m + 1, s, T, T', V, h => by
    rw [tyRun] at h
    cases hs : tyStep (cd s) T with
    | none => rw [hs] at h; cases h
    | some T1 =>
      rw [hs, Option.bind_some] at h
      rw [evRun, evRun, ev_congr hs hp, evRun_congr hp h]
theorem sumN_congr {kd nm en cd : Nat → Nat} {kind : Nat} {p p' : Nat → Int32} (hp : ∀ i, i < 9 → p i = p' i) : ∀ {n : Nat}, (∀ i, i < n → ∃ T, tyRun cd (sLn en i) (en i - sLn en i) [] = some T) → sumN kd nm en cd kind p n = sumN kd nm en cd kind p' n
  | 0, _ => rfl
  | n + 1, h => by
    obtain ⟨T, hT⟩ := h n (by omega)
    rw [sumN, sumN, sumN_congr hp (fun i hi => h i (by omega))]
    unfold holdsV
    rw [evRun_congr hp hT]
theorem x_sumloop {F u n kind : Nat} {S : mS} {p : Nat → Int32} {kd nm en cd : Nat → Nat} (hF : 401 ≤ F) (hp : p 8 = nI 0 ∨ p 8 = nI 1) (hk : kind ≤ 2) (hA : LX (some (n, kd, nm, en, cd)) S 3) (hW : LW (some (n, kd, nm, en, cd))) :
    ∀ (m i k : Nat) (q : Nat → Int32), i + m = n → m < k →
    ∃ q', f_X2_sum_b98 F u k (nI kind) (sumN kd nm en cd kind p i) (nI (sLn en i)) (nI i) (sX S p q) = some (.inl (some (.int (sumN kd nm en cd kind p n))), sX S p q')
  | 0, i, k + 1, q, hi, hk2 => by
    obtain ⟨h1, h2, h3⟩ := hA
    have hn := hW.1
    have hie : i = n := by omega
    subst hie
    refine ⟨q, ?_⟩
    rw [f_X2_sum_b98]
    unfold f_X2_sum_b168
    simp (disch := omega) only [fa_lit, nI_ad, nI_mul, nI_cl, inb_nI, nI_ltE, nI_leE, nI_eqE, nI_m1, nI_m1', m1_lt, lt_m1, m1_le, le_m1, eq_self, not_true_eq_false, not_false_eq_true, ↓reduceIte, leT, leF, ltT, ltF, eqT, eqF, decide_true, decide_false, true_and, and_true, Nat.reduceAdd, bI0_i, bI_i, bI_x, bV0_v, bV_v, bV_x, ↓bnd_e, gd_t, sX_n, h1, Nat.le_refl]
  | m + 1, i, k + 1, q, hi, hk2 => by
    obtain ⟨h1, h2, h3⟩ := hA
    have hn := hW.1
    obtain ⟨w1, w2, w3, w4, T, hT, hT2⟩ := hW.2 i (by omega)
    obtain ⟨g1, g2, g3⟩ := h2 i (by omega)
    have hc := h3 i (by omega)
    have ih := fun q => x_sumloop (F := F) (u := u) hF hp hk ⟨h1, h2, h3⟩ hW m (i + 1) k q (by omega) (by omega)
    obtain ⟨q1, hh⟩ := x_holds (q := q) hF w3 w4 hp hc hT hT2
    rw [f_X2_sum_b98]
    unfold f_X2_sum_b153
    have hin : ¬ n ≤ i := by omega
    have hkd : kd i < 2147483648 := by omega
    simp (disch := omega) only [fa_lit, nI_ad, nI_mul, nI_cl, inb_nI, nI_ltE, nI_leE, nI_eqE, nI_m1, nI_m1', m1_lt, lt_m1, m1_le, le_m1, eq_self, not_true_eq_false, not_false_eq_true, ↓reduceIte, leT, leF, ltT, ltF, eqT, eqF, decide_true, decide_false, true_and, and_true, Nat.reduceAdd, bI0_i, bI_i, bI_x, bV0_v, bV_v, bV_x, ↓bnd_e, gd_t, sX_n, h1, g1, g2, g3, hin]
    by_cases e : kd i = kind
    · simp (disch := omega) only [fa_lit, nI_ad, nI_mul, nI_cl, inb_nI, nI_ltE, nI_leE, nI_eqE, nI_m1, nI_m1', m1_lt, lt_m1, m1_le, le_m1, eq_self, not_true_eq_false, not_false_eq_true, ↓reduceIte, leT, leF, ltT, ltF, eqT, eqF, decide_true, decide_false, true_and, and_true, Nat.reduceAdd, bI0_i, bI_i, bI_x, bV0_v, bV_v, bV_x, ↓bnd_e, gd_t, sX_n, e, hh, b_e0, g2, g3]
      cases hv : holdsV cd p (sLn en i) (en i) with
      | false =>
        obtain ⟨q2, ih⟩ := ih q1
        refine ⟨q2, ?_⟩
        rw [sumN, if_neg (by rw [hv]; simp), add_n0] at ih
        simp (disch := omega) only [fa_lit, nI_ad, nI_mul, nI_cl, inb_nI, nI_ltE, nI_leE, nI_eqE, nI_m1, nI_m1', m1_lt, lt_m1, m1_le, le_m1, eq_self, not_true_eq_false, not_false_eq_true, ↓reduceIte, leT, leF, ltT, ltF, eqT, eqF, decide_true, decide_false, true_and, and_true, Nat.reduceAdd, bI0_i, bI_i, bI_x, bV0_v, bV_v, bV_x, ↓bnd_e, gd_t, sX_n, g3]
        exact ih
      | true =>
        obtain ⟨q2, ih⟩ := ih q1
        refine ⟨q2, ?_⟩
        rw [sumN, if_pos ⟨e, hv⟩] at ih
        simp (disch := omega) only [fa_lit, nI_ad, nI_mul, nI_cl, inb_nI, nI_ltE, nI_leE, nI_eqE, nI_m1, nI_m1', m1_lt, lt_m1, m1_le, le_m1, eq_self, not_true_eq_false, not_false_eq_true, ↓reduceIte, leT, leF, ltT, ltF, eqT, eqF, decide_true, decide_false, true_and, and_true, Nat.reduceAdd, bI0_i, bI_i, bI_x, bV0_v, bV_v, bV_x, ↓bnd_e, gd_t, sX_n, g2, g3, reduceCtorEq]
        exact ih
    · obtain ⟨q2, ih⟩ := ih q
      refine ⟨q2, ?_⟩
      rw [sumN, if_neg (fun h => e h.1), add_n0] at ih
      simp (disch := omega) only [fa_lit, nI_ad, nI_mul, nI_cl, inb_nI, nI_ltE, nI_leE, nI_eqE, nI_m1, nI_m1', m1_lt, lt_m1, m1_le, le_m1, eq_self, not_true_eq_false, not_false_eq_true, ↓reduceIte, leT, leF, ltT, ltF, eqT, eqF, decide_true, decide_false, true_and, and_true, Nat.reduceAdd, bI0_i, bI_i, bI_x, bV0_v, bV_v, bV_x, ↓bnd_e, gd_t, sX_n, g3, e]
      exact ih
theorem x_sum {F u kind l : Nat} {kick wind : Int32} {S : mS} {A : aL} (hF : 401 ≤ F) (hu : 9 ≤ u) (hk : kind ≤ 2) (hl : l < 10) (hA : LX A S 3) (hW : LW A) :
    ∃ p q, f_X2_sum F u (nI kind) (nI l) kick wind S = some (.inl (some (.int (sumV A kind (S (u + 1)) l kick wind))), sX S p q) := by
  obtain ⟨G, hG⟩ : ∃ G, F = G + 1 + 1 + 1 + 1 + 1 + 1 := ⟨F - 6, by omega⟩
  unfold f_X2_sum
  generalize hp : (fun i => if i = 8 then bV32 (isF (S (u + 1)) l) else if i = 7 then S (u + 1) 3 else if i = 6 then wind else if i = 5 then kick else if i = 4 then S (u + 1) (16 + l * 5 + 4) else if i = 3 then S (u + 1) (16 + l * 5 + 3) else if i = 2 then S (u + 1) (16 + l * 5 + 2) else if i = 1 then S (u + 1) (16 + l * 5 + 1) else if i = 0 then S (u + 1) (16 + l * 5 + 0) else S 8 i : Nat → Int32) = p
  have hf : ∀ i, i < 9 → p i = facts (S (u + 1)) l kick wind i := by
    intro i hi
    subst hp
    unfold facts
    match i, hi with
    | 0, _ => rfl
    | 1, _ => rfl
    | 2, _ => rfl
    | 3, _ => rfl
    | 4, _ => rfl
    | 5, _ => rfl
    | 6, _ => rfl
    | 7, _ => rfl
    | 8, _ => rfl
  have hp8 : p 8 = nI 0 ∨ p 8 = nI 1 := by
    rw [hf 8 (by omega)]
    unfold facts
    show bV32 _ = _ ∨ bV32 _ = _
    cases isF (S (u + 1)) l
    · exact Or.inl rfl
    · exact Or.inr rfl
  have key : f_X2_sum_b3 F u F (nI kind) (nI l) kick wind (0 : Int32) S = f_X2_sum_b98 F u F (nI kind) (nI 0) (nI 0) (nI 0) (sX S p (S 9)) := by
    conv => lhs; rw [← sX_id (S := S)]
    rw [hG]
    rw [f_X2_sum_b3]
    simp (disch := omega) only [fa_lit, nI_ad, nI_mul, nI_cl, inb_nI, nI_ltE, nI_leE, nI_eqE, nI_m1, nI_m1', m1_lt, lt_m1, m1_le, le_m1, eq_self, not_true_eq_false, not_false_eq_true, ↓reduceIte, leT, leF, ltT, ltF, eqT, eqF, decide_true, decide_false, true_and, and_true, Nat.reduceAdd, bI0_i, bI_i, bI_x, bV0_v, bV_v, bV_x, ↓bnd_e, gd_t, x_ofLedge, up_sX8, sX_n, x_at, sX_8, upd_n, upd_s, Nat.reduceAdd]
    rw [f_X2_sum_b3]
    simp (disch := omega) only [fa_lit, nI_ad, nI_mul, nI_cl, inb_nI, nI_ltE, nI_leE, nI_eqE, nI_m1, nI_m1', m1_lt, lt_m1, m1_le, le_m1, eq_self, not_true_eq_false, not_false_eq_true, ↓reduceIte, leT, leF, ltT, ltF, eqT, eqF, decide_true, decide_false, true_and, and_true, Nat.reduceAdd, bI0_i, bI_i, bI_x, bV0_v, bV_v, bV_x, ↓bnd_e, gd_t, x_ofLedge, up_sX8, sX_n, x_at, sX_8, upd_n, upd_s, Nat.reduceAdd]
    rw [f_X2_sum_b3]
    simp (disch := omega) only [fa_lit, nI_ad, nI_mul, nI_cl, inb_nI, nI_ltE, nI_leE, nI_eqE, nI_m1, nI_m1', m1_lt, lt_m1, m1_le, le_m1, eq_self, not_true_eq_false, not_false_eq_true, ↓reduceIte, leT, leF, ltT, ltF, eqT, eqF, decide_true, decide_false, true_and, and_true, Nat.reduceAdd, bI0_i, bI_i, bI_x, bV0_v, bV_v, bV_x, ↓bnd_e, gd_t, x_ofLedge, up_sX8, sX_n, x_at, sX_8, upd_n, upd_s, Nat.reduceAdd]
    rw [f_X2_sum_b3]
    simp (disch := omega) only [fa_lit, nI_ad, nI_mul, nI_cl, inb_nI, nI_ltE, nI_leE, nI_eqE, nI_m1, nI_m1', m1_lt, lt_m1, m1_le, le_m1, eq_self, not_true_eq_false, not_false_eq_true, ↓reduceIte, leT, leF, ltT, ltF, eqT, eqF, decide_true, decide_false, true_and, and_true, Nat.reduceAdd, bI0_i, bI_i, bI_x, bV0_v, bV_v, bV_x, ↓bnd_e, gd_t, x_ofLedge, up_sX8, sX_n, x_at, sX_8, upd_n, upd_s, Nat.reduceAdd]
    rw [f_X2_sum_b3]
    simp (disch := omega) only [fa_lit, nI_ad, nI_mul, nI_cl, inb_nI, nI_ltE, nI_leE, nI_eqE, nI_m1, nI_m1', m1_lt, lt_m1, m1_le, le_m1, eq_self, not_true_eq_false, not_false_eq_true, ↓reduceIte, leT, leF, ltT, ltF, eqT, eqF, decide_true, decide_false, true_and, and_true, Nat.reduceAdd, bI0_i, bI_i, bI_x, bV0_v, bV_v, bV_x, ↓bnd_e, gd_t, x_ofLedge, up_sX8, sX_n, x_at, sX_8, upd_n, upd_s, Nat.reduceAdd]
    rw [f_X2_sum_b3]
    unfold f_X2_sum_b87 f_X2_sum_b88
    simp (disch := omega) only [fa_lit, nI_ad, nI_mul, nI_cl, inb_nI, nI_ltE, nI_leE, nI_eqE, nI_m1, nI_m1', m1_lt, lt_m1, m1_le, le_m1, eq_self, not_true_eq_false, not_false_eq_true, ↓reduceIte, leT, leF, ltT, ltF, eqT, eqF, decide_true, decide_false, true_and, and_true, Nat.reduceAdd, bI0_i, bI_i, bI_x, bV0_v, bV_v, bV_x, ↓bnd_e, gd_t, x_ofLedge, up_sX8, sX_n, x_at, sX_8, upd_n, upd_s, Nat.reduceAdd]
    have hfin : ∀ t : Int32, t = bV32 (isF (S (u + 1)) l) → (upd (upd (upd (upd (upd (upd (upd (upd (upd (S 8) 0 (S (u + 1) (16 + l * 5 + 0))) 1 (S (u + 1) (16 + l * 5 + 1))) 2 (S (u + 1) (16 + l * 5 + 2))) 3 (S (u + 1) (16 + l * 5 + 3))) 4 (S (u + 1) (16 + l * 5 + 4))) 5 kick) 6 wind) 7 (S (u + 1) 3)) 8 t) = p := by
      intro t ht
      subst ht
      subst hp
      funext i
      unfold upd
      rfl
    by_cases g1 : S (u + 1) (16 + l * 5 + 2) ≤ nI 0
    · rw [if_pos g1, hfin]
      unfold isF freshV
      rw [nle_lt] at g1
      rw [decide_eq_false]
      · rfl
      · split
        · decide
        · exact g1
    · rw [if_neg g1]
      by_cases g2 : nI 3 < S (u + 1) (16 + l * 5 + 3)
      · rw [if_pos g2, hfin]
        unfold isF freshV
        rw [if_pos g2]; rfl
      · rw [if_neg g2, hfin]
        unfold isF freshV
        rw [if_neg g2]
        rw [nle_lt] at g1
        rw [decide_eq_true (Classical.not_not.mp g1)]; rfl
  rw [key]
  match A, hA, hW with
  | none, hA, hW =>
    refine ⟨p, S 9, ?_⟩
    rw [hG, f_X2_sum_b98]
    unfold f_X2_sum_b168 sumV
    have h1 : S 3 6 = -nI 1 := hA
    simp (disch := omega) only [fa_lit, nI_ad, nI_mul, nI_cl, inb_nI, nI_ltE, nI_leE, nI_eqE, nI_m1, nI_m1', m1_lt, lt_m1, m1_le, le_m1, eq_self, not_true_eq_false, not_false_eq_true, ↓reduceIte, leT, leF, ltT, ltF, eqT, eqF, decide_true, decide_false, true_and, and_true, Nat.reduceAdd, bI0_i, bI_i, bI_x, bV0_v, bV_v, bV_x, ↓bnd_e, gd_t, sX_n, h1]
  | some (n, kd, nm, en, cd), hA, hW =>
    obtain ⟨q', h⟩ := x_sumloop (F := F) (u := u) hF hp8 hk hA hW n 0 F (S 9) (by omega) (by have := hW.1; omega)
    refine ⟨p, q', ?_⟩
    rw [sumN_congr (n := n) hf (fun i hi => by obtain ⟨w1, w2, w3, w4, T, hT, hT2⟩ := hW.2 i hi; exact ⟨T, hT⟩)] at h
    exact h
