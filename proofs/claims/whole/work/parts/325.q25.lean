/-! days -/
theorem ifLt {α : Type} {a b : Nat} {x y : α} (ha : a < 2147483648) (hb : b < 2147483648) : (if nI a < nI b then x else y) = (if a < b then x else y) := by
  simp only [nI_ltE ha hb]
section D
variable {F : Nat} {S : mS} {A : aL}
theorem sumN_rng {kd nm en cd : Nat → Nat} {kind : Nat} {p : Nat → Int32} : ∀ {n : Nat}, n ≤ 12 → (∀ i, i < n → nm i ≤ 20) → ∃ s, s ≤ 20 * n ∧ sumN kd nm en cd kind p n = nI s
  | 0, _, _ => ⟨0, by omega, rfl⟩
  | n + 1, hn, h => by
    obtain ⟨s, h1, h2⟩ := sumN_rng (kd := kd) (en := en) (cd := cd) (kind := kind) (p := p) (n := n) (by omega) (fun i hi => h i (by omega))
    have := h n (by omega)
    rw [sumN, h2]
    split
    · exact ⟨s + nm n, by omega, nI_ad _ _⟩
    · exact ⟨s + 0, by omega, nI_ad _ _⟩
theorem sumV_rng {kind l : Nat} {c : Nat → Int32} {kick wind : Int32} (hW : LW A) : ∃ s, s ≤ 240 ∧ sumV A kind c l kick wind = nI s := by
  match A, hW with
  | none, _ => exact ⟨0, by omega, rfl⟩
  | some (n, kd, nm, en, cd), hW =>
    obtain ⟨s, h1, h2⟩ := sumN_rng (kd := kd) (nm := nm) (en := en) (cd := cd) (kind := kind) (p := facts c l kick wind) hW.1 (fun i hi => (hW.2 i hi).2.1)
    have := hW.1
    exact ⟨s, by omega, h2⟩
theorem lays_rng {l : Nat} {c : Nat → Int32} (hW : LW A) (hR : Rg c) (hl : l < 10) : ∃ y, y ≤ 9 ∧ laysV A c l = nI y := by
  obtain ⟨s, h1, h2⟩ := sumV_rng (kind := 2) (l := l) (c := c) (kick := nI 0) (wind := c 4) hW
  obtain ⟨b, h3, h4⟩ := hR.birds hl
  unfold laysV
  rw [h2, h4, ifLt (by omega) (by omega)]
  split
  · exact ⟨b, h3, rfl⟩
  · exact ⟨s, by omega, rfl⟩
def layN (A : aL) (c : Nat → Int32) (l : Nat) : Int32 := if c (16 + l * 5 + 2) + laysV A c l < nI 20 then c (16 + l * 5 + 2) + laysV A c l else nI 20
def layA (c : Nat → Int32) (l : Nat) : Int32 := if ¬ c (16 + l * 5 + 2) = nI 0 then (if c (16 + l * 5 + 3) + nI 1 < nI 99 then c (16 + l * 5 + 3) + nI 1 else nI 99) else nI 0
def layC (A : aL) (c : Nat → Int32) (l : Nat) : Nat → Int32 := upd (upd c (16 + l * 5 + 3) (layA c l)) (16 + l * 5 + 2) (layN A c l)
def layR (A : aL) (c : Nat → Int32) (l : Nat) : Int32 := layN A c l - c (16 + l * 5 + 2)
theorem layC_rg {c : Nat → Int32} {l : Nat} (hW : LW A) (hR : Rg c) (hl : l < 10) : Rg (layC A c l) := by
  obtain ⟨y, h1, h2⟩ := lays_rng hW hR hl
  obtain ⟨e, h3, h4⟩ := hR.eggs hl
  obtain ⟨a, h5, h6⟩ := hR.age hl
  refine (hR.up (by omega) (fun b hb => ?_)).up (by omega) (fun b hb => ?_)
  · rw [lim_ledge l hl 3 (by omega)] at hb
    cases hb
    simp only [Nat.reduceEqDiff, ↓reduceIte]
    unfold layA
    rw [h4, h6, nI_ad, ifLt (by omega) (by omega)]
    split
    · split
      · exact ⟨a + 1, by omega, rfl⟩
      · exact ⟨99, by omega, rfl⟩
    · exact ⟨0, by omega, rfl⟩
  · rw [lim_ledge l hl 2 (by omega)] at hb
    cases hb
    simp only [Nat.reduceEqDiff, ↓reduceIte]
    unfold layN
    rw [h2, h4, nI_ad, ifLt (by omega) (by omega)]
    split
    · exact ⟨e + y, by omega, rfl⟩
    · exact ⟨20, by omega, rfl⟩
theorem layC_out {c : Nat → Int32} {l i : Nat} (h : i ≠ 16 + l * 5 + 2) (h2 : i ≠ 16 + l * 5 + 3) : layC A c l i = c i := by
  unfold layC; rw [upd_n h, upd_n h2]
theorem x_layOn {u l : Nat} {c p q : Nat → Int32} (hF : 401 ≤ F) (hu : 9 ≤ u) (hl : l < 10) (hA : LX A S 3) (hW : LW A) :
    ∃ p' q', f_X7_layOn F u (nI l) (sX (seS S (u + 1) c) p q) = some (.inl (some (.int (layR A c l))), sX (seS S (u + 1) (layC A c l)) p' q') := by
  obtain ⟨p', q', h⟩ := x_laysAt (F := F) (S := sX (seS S (u + 1) c) p q) hF hu hl (LX_sX (LX_se (by omega) hA)) hW
  rw [at_x (by omega) (by omega), sX_sX] at h
  refine ⟨p', q', ?_⟩
  unfold f_X7_layOn f_X7_layOn_b48
  simp (disch := omega) only [fa_lit, nI_ad, nI_mul, nI_cl, inb_nI, nI_ltE, nI_leE, nI_eqE, nI_m1, nI_m1', m1_lt, lt_m1, m1_le, le_m1, eq_self, not_true_eq_false, not_false_eq_true, ↓reduceIte, leT, leF, ltT, ltF, eqT, eqF, decide_true, decide_false, true_and, and_true, Nat.reduceAdd, bI0_i, bI_i, bI_x, bV0_v, bV_v, bV_x, ↓bnd_e, gd_t, h, x_ofLedge, x_putLedge, at_x, up_x]
  unfold layR layC layA layN
  by_cases g : c (16 + l * 5 + 2) = nI 0
  · simp (disch := omega) only [g, not_true_eq_false, ↓reduceIte]
  · simp (disch := omega) only [g, not_false_eq_true, ↓reduceIte]
theorem m_goesOn {l : Nat} {w c q : Nat → Int32} {a b : Int32} (hF : 401 ≤ F) (hl : l < 10) (hR : Rg c) (hA : LM A w) (hW : LW A) :
    ∃ a' b' q', f_X10_goesOn F (nI l) (sM (seS S 64 (wO w c)) a b q) = some (.inl (some (.int (layR A c l))), sM (seS S 64 (wO w (layC A c l))) a' b' q') := by
  obtain ⟨a', b', q', h⟩ := m_laysOf (F := F) (S := sM (seS S 64 (wO w c)) a b q) hF hl (by rw [at_m]; exact LM_wO hW hA) hW
  rw [at_m, cM_wO hR.2, sM_sM] at h
  refine ⟨a', b', q', ?_⟩
  obtain ⟨y, h1, h2⟩ := lays_rng hW hR hl
  obtain ⟨e, h3, h4⟩ := hR.eggs hl
  obtain ⟨g, h5, h6⟩ := hR.age hl
  unfold f_X10_goesOn f_X10_goesOn_b60
  simp (disch := omega) only [fa_lit, nI_ad, nI_mul, nI_cl, inb_nI, nI_ltE, nI_leE, nI_eqE, nI_m1, nI_m1', m1_lt, lt_m1, m1_le, le_m1, eq_self, not_true_eq_false, not_false_eq_true, ↓reduceIte, leT, leF, ltT, ltF, eqT, eqF, decide_true, decide_false, true_and, and_true, Nat.reduceAdd, bI0_i, bI_i, bI_x, bV0_v, bV_v, bV_x, ↓bnd_e, gd_t, at_m, cM_wOi, wO_at, up_m, pj_l, pj_h, pj_k, pj_0, pj_1, pj_2, pj_3, pj_5, pj_6, pj_7, pj_8, pj_9, pj_10, pj_11, pj_12, pj_13, pj_14, pj_15, pj_16, h, m_of, m_at, h2, h4]
  have eN : layN A c l = nI (if e + y < 20 then e + y else 20) := by
    unfold layN; rw [h2, h4, nI_ad, ifLt (by omega) (by omega)]; split <;> rfl
  have eD : (if nI 20 - nI e < nI y then nI 20 - nI e else nI y) = nI ((if e + y < 20 then e + y else 20) - e) := by
    rw [nI_sub h3, ifLt (by omega) (by omega)]
    split <;> split <;> congr 1 <;> omega
  have eR : layR A c l = nI ((if e + y < 20 then e + y else 20) - e) := by
    unfold layR; rw [eN, h4, nI_sub (by split <;> omega)]
  have eS : nI e + nI ((if e + y < 20 then e + y else 20) - e) = layN A c l := by
    rw [eN, nI_ad]; congr 1; split <;> omega
  rw [eR]
  by_cases g0 : e = 0
  · have eA : layA c l = nI 0 := by unfold layA; rw [h4, g0]; rfl
    unfold layC
    rw [eA, ← eS]
    simp (disch := omega) only [fa_lit, nI_ad, nI_mul, nI_cl, inb_nI, nI_ltE, nI_leE, nI_eqE, nI_m1, nI_m1', m1_lt, lt_m1, m1_le, le_m1, eq_self, not_true_eq_false, not_false_eq_true, ↓reduceIte, leT, leF, ltT, ltF, eqT, eqF, decide_true, decide_false, true_and, and_true, Nat.reduceAdd, bI0_i, bI_i, bI_x, bV0_v, bV_v, bV_x, ↓bnd_e, gd_t, at_m, cM_wOi, wO_at, up_m, pj_l, pj_h, pj_k, pj_0, pj_1, pj_2, pj_3, pj_5, pj_6, pj_7, pj_8, pj_9, pj_10, pj_11, pj_12, pj_13, pj_14, pj_15, pj_16, m_of, m_at, eD, upd_n, upd_s, h4, h6]
  · have eA : layA c l = (if nI (g + 1) < nI 99 then nI (g + 1) else nI 99) := by
      unfold layA; rw [h4, h6, nI_ad, if_pos (by rw [nI_eqE (by omega) (by omega)]; exact g0)]
    unfold layC
    rw [eA, ← eS]
    simp (disch := omega) only [fa_lit, nI_ad, nI_mul, nI_cl, inb_nI, nI_ltE, nI_leE, nI_eqE, nI_m1, nI_m1', m1_lt, lt_m1, m1_le, le_m1, eq_self, not_true_eq_false, not_false_eq_true, ↓reduceIte, leT, leF, ltT, ltF, eqT, eqF, decide_true, decide_false, true_and, and_true, Nat.reduceAdd, bI0_i, bI_i, bI_x, bV0_v, bV_v, bV_x, ↓bnd_e, gd_t, at_m, cM_wOi, wO_at, up_m, pj_l, pj_h, pj_k, pj_0, pj_1, pj_2, pj_3, pj_5, pj_6, pj_7, pj_8, pj_9, pj_10, pj_11, pj_12, pj_13, pj_14, pj_15, pj_16, m_of, m_at, eD, upd_n, upd_s, h4, h6]
/-- all ledges, one behind another -/
def lys (A : aL) (c : Nat → Int32) : Nat → (Nat → Int32) × Int32
  | 0 => (c, nI 0)
  | i + 1 => (layC A (lys A c i).1 i, (lys A c i).2 + layR A (lys A c i).1 i)
theorem lys_out {c : Nat → Int32} {j : Nat} (h : j < 16 ∨ 66 ≤ j) : ∀ {i : Nat}, i ≤ 10 → (lys A c i).1 j = c j
  | 0, _ => rfl
  | i + 1, hi => by
    show layC A (lys A c i).1 i j = c j
    rw [layC_out (by omega) (by omega), lys_out h (by omega)]
theorem lys_rg {c : Nat → Int32} (hW : LW A) (hR : Rg c) : ∀ {i : Nat}, i ≤ 10 → Rg (lys A c i).1
  | 0, _ => hR
  | i + 1, hi => by
    exact layC_rg hW (lys_rg hW hR (by omega)) (by omega)
def easeC (c : Nat → Int32) : Nat → Nat → Int32
  | 0 => c
  | i + 1 => upd (easeC c i) (66 + i * 2 + 1) (max0 (easeC c i (66 + i * 2 + 1) - nI 2))
theorem easeC_out {c : Nat → Int32} {j : Nat} (h : j < 66 ∨ 78 ≤ j) : ∀ {i : Nat}, i ≤ 6 → easeC c i j = c j
  | 0, _ => rfl
  | i + 1, hi => by rw [easeC, upd_n (by omega), easeC_out h (by omega)]
theorem easeC_rg {c : Nat → Int32} (hR : Rg c) : ∀ {i : Nat}, i ≤ 6 → Rg (easeC c i)
  | 0, _ => hR
  | i + 1, hi => by
    have h := easeC_rg hR (i := i) (by omega)
    rw [easeC]
    refine h.up (by omega) (fun b hb => ?_)
    rw [lim_holder i (by omega) 1 (by omega)] at hb
    cases hb
    obtain ⟨t, h1, h2⟩ := h.hold (show i < 6 by omega) (show 1 < 2 by omega)
    rw [h2]
    have : ∀ t, t ≤ 9 → ∃ n, n ≤ 9 ∧ max0 (nI t - nI 2) = nI n := by
      intro t ht
      match t, ht with
      | 0, _ => exact ⟨0, by omega, by decide⟩
      | 1, _ => exact ⟨0, by omega, by decide⟩
      | t + 2, ht =>
        refine ⟨t, by omega, ?_⟩
        rw [nI_sub (by omega), show t + 2 - 2 = t by omega]
        unfold max0
        rw [ifLt (by omega) (by omega)]
        split
        · rfl
        · congr 1; omega
    exact this t h1
def passC (c : Nat → Int32) : Nat → Int32 := upd c 3 (if c 3 + nI 1 < nI 9999 then c 3 + nI 1 else nI 9999)
theorem passC_rg {c : Nat → Int32} (hR : Rg c) : Rg (passC c) := by
  refine hR.up (by omega) (fun b hb => ?_)
  cases hb
  obtain ⟨d, h1, h2⟩ := hR.1 3 9999 rfl
  rw [h2, nI_ad, ifLt (by omega) (by omega)]
  split
  · exact ⟨d + 1, by omega, rfl⟩
  · exact ⟨9999, by omega, rfl⟩
theorem x_easeL {u n : Nat} {p q c : Nat → Int32} (hu : 9 ≤ u) (hn6 : n ≤ 6) (hn : c 13 = nI n) : ∀ (m i k : Nat), i + m = n → m < k →
    f_X7_easeHolders_b2 F u k (nI i) (sX (seS S (u + 1) (easeC c i)) p q) = some (.inl none, sX (seS S (u + 1) (easeC c n)) p q)
  | 0, i, k + 1, hi, hk => by
    have hie : i = n := by omega
    subst hie
    have e13 : easeC c i 13 = nI i := by rw [easeC_out (by omega) hn6]; exact hn
    rw [f_X7_easeHolders_b2]
    simp (disch := omega) only [fa_lit, nI_ad, nI_mul, nI_cl, inb_nI, nI_ltE, nI_leE, nI_eqE, nI_m1, nI_m1', m1_lt, lt_m1, m1_le, le_m1, eq_self, not_true_eq_false, not_false_eq_true, ↓reduceIte, leT, leF, ltT, ltF, eqT, eqF, decide_true, decide_false, true_and, and_true, Nat.reduceAdd, bI0_i, bI_i, bI_x, bV0_v, bV_v, bV_x, ↓bnd_e, gd_t, x_at, at_x, up_x, e13, Nat.le_refl]
  | m + 1, i, k + 1, hi, hk => by
    have ih := x_easeL (u := u) (p := p) (q := q) hu hn6 hn m (i + 1) k (by omega) (by omega)
    have e13 : easeC c i 13 = nI n := by rw [easeC_out (by omega) (by omega)]; exact hn
    rw [f_X7_easeHolders_b2]
    rw [easeC] at ih
    unfold max0 at ih
    simp (disch := omega) only [fa_lit, nI_ad, nI_mul, nI_cl, inb_nI, nI_ltE, nI_leE, nI_eqE, nI_m1, nI_m1', m1_lt, lt_m1, m1_le, le_m1, eq_self, not_true_eq_false, not_false_eq_true, ↓reduceIte, leT, leF, ltT, ltF, eqT, eqF, decide_true, decide_false, true_and, and_true, Nat.reduceAdd, bI0_i, bI_i, bI_x, bV0_v, bV_v, bV_x, ↓bnd_e, gd_t, x_at, x_ofHolder, x_putHolder, at_x, up_x, e13]
    exact ih
theorem x_easeHolders {u n : Nat} {p q c : Nat → Int32} (hF : 401 ≤ F) (hu : 9 ≤ u) (hn6 : n ≤ 6) (hn : c 13 = nI n) : f_X7_easeHolders F u (sX (seS S (u + 1) c) p q) = some (.inl none, sX (seS S (u + 1) (easeC c n)) p q) :=
  x_easeL hu hn6 hn n 0 F (by omega) (by omega)
theorem x_passDay' {u : Nat} {p q c : Nat → Int32} (hu : 9 ≤ u) : f_X0_passDay u (sX (seS S (u + 1) c) p q) = some (.inl none, sX (seS S (u + 1) (passC c)) p q) := by
  rw [x_passDay, at_x (by omega) (by omega), up_x (by omega) (by omega)]; rfl
theorem x_dayL {u n nh : Nat} {c : Nat → Int32} (hF : 401 ≤ F) (hu : 9 ≤ u) (hA : LX A S 3) (hW : LW A) (hn : n ≤ 10) (en : c 12 = nI n) (hnh : nh ≤ 6) (enh : c 13 = nI nh) : ∀ (m i k : Nat) (p q : Nat → Int32), i + m = n → m < k →
    ∃ p' q', f_X7_dayMore_b38 F u k (lys A c i).2 (nI i) (sX (seS S (u + 1) (lys A c i).1) p q) = some (.inl (some (.int (lys A c n).2)), sX (seS S (u + 1) (passC (easeC (lys A c n).1 nh))) p' q')
  | 0, i, k + 1, p, q, hi, hk => by
    have hie : i = n := by omega
    subst hie
    have e12 : (lys A c i).1 12 = nI i := by rw [lys_out (by omega) hn]; exact en
    have e13 : (lys A c i).1 13 = nI nh := by rw [lys_out (by omega) hn]; exact enh
    refine ⟨p, q, ?_⟩
    rw [f_X7_dayMore_b38]
    simp (disch := omega) only [fa_lit, nI_ad, nI_mul, nI_cl, inb_nI, nI_ltE, nI_leE, nI_eqE, nI_m1, nI_m1', m1_lt, lt_m1, m1_le, le_m1, eq_self, not_true_eq_false, not_false_eq_true, ↓reduceIte, leT, leF, ltT, ltF, eqT, eqF, decide_true, decide_false, true_and, and_true, Nat.reduceAdd, bI0_i, bI_i, bI_x, bV0_v, bV_v, bV_x, ↓bnd_e, gd_t, x_at, at_x, up_x, e12, Nat.le_refl, x_easeHolders hF hu hnh e13, x_passDay' hu]
  | m + 1, i, k + 1, p, q, hi, hk => by
    have e12 : (lys A c i).1 12 = nI n := by rw [lys_out (by omega) (by omega)]; exact en
    obtain ⟨p1, q1, h⟩ := x_layOn (F := F) (S := S) (u := u) (l := i) (c := (lys A c i).1) (p := p) (q := q) hF hu (by omega) hA hW
    obtain ⟨p2, q2, ih⟩ := x_dayL (u := u) hF hu hA hW hn en hnh enh m (i + 1) k p1 q1 (by omega) (by omega)
    refine ⟨p2, q2, ?_⟩
    rw [f_X7_dayMore_b38]
    rw [lys] at ih
    simp (disch := omega) only [fa_lit, nI_ad, nI_mul, nI_cl, inb_nI, nI_ltE, nI_leE, nI_eqE, nI_m1, nI_m1', m1_lt, lt_m1, m1_le, le_m1, eq_self, not_true_eq_false, not_false_eq_true, ↓reduceIte, leT, leF, ltT, ltF, eqT, eqF, decide_true, decide_false, true_and, and_true, Nat.reduceAdd, bI0_i, bI_i, bI_x, bV0_v, bV_v, bV_x, ↓bnd_e, gd_t, x_at, at_x, up_x, e12, h]
    exact ih
def remV (x : Int32) (n : Nat) : Int32 := x - x / nI n * nI n
def windC (c : Nat → Int32) : Nat → Int32 :=
  let c2 := upd (upd c 10 (drawV c)) 4 (remV (topV (drawV c)) 10)
  let c3 := upd c2 10 (drawV c2)
  if c3 5 ≤ remV (topV (drawV c2)) 100 then c3 else upd c3 4 (nI 9)
def dayC (A : aL) (n nh : Nat) (c : Nat → Int32) : (Nat → Int32) × Int32 := (passC (easeC (lys A (windC c) n).1 nh), (lys A (windC c) n).2)
theorem windC_out {c : Nat → Int32} {j : Nat} (h : j ≠ 4) (h2 : j ≠ 10) : windC c j = c j := by
  unfold windC
  split
  · rw [upd_n h2, upd_n h, upd_n h2]
  · rw [upd_n h, upd_n h2, upd_n h, upd_n h2]
theorem top_rng {s : Int32} : ∃ t, t < 32768 ∧ topV s = nI t := by
  refine ⟨(topV s).toBitVec.toNat, ?_, ?_⟩
  · unfold topV
    rw [Int32.toBitVec_and, BitVec.toNat_and]
    have : (s >>> (nI 16 &&& nI 31)).toBitVec.toNat &&& (nI 32767).toBitVec.toNat ≤ (nI 32767).toBitVec.toNat := Nat.and_le_right
    have e : (nI 32767).toBitVec.toNat = 32767 := by decide
    omega
  · apply Int32.toBitVec_inj.1
    show _ = BitVec.ofNat 32 _
    rw [BitVec.ofNat_toNat, BitVec.setWidth_eq]
theorem rem_rng {s : Int32} {n : Nat} (h : 0 < n) (h2 : n < 1000) : ∃ t, t < n ∧ remV (topV s) n = nI t := by
  obtain ⟨t, h3, h4⟩ := top_rng (s := s)
  refine ⟨t % n, Nat.mod_lt _ h, ?_⟩
  unfold remV
  have h5 := Nat.div_mul_le_self t n
  rw [h4, nI_div (by omega) (by omega), nI_mul, nI_sub h5]
  congr 1
  have := Nat.mod_add_div t n
  rw [Nat.mul_comm] at this
  omega
theorem windC_rg {c : Nat → Int32} (hR : Rg c) : Rg (windC c) := by
  unfold windC
  dsimp only
  have h1 : Rg (upd (upd c 10 (drawV c)) 4 (remV (topV (drawV c)) 10)) := by
    refine (hR.up (by omega) (fun b hb => by cases hb)).up (by omega) (fun b hb => ?_)
    cases hb
    obtain ⟨t, h3, h4⟩ := rem_rng (s := drawV c) (n := 10) (by omega) (by omega)
    exact ⟨t, by omega, h4⟩
  have h2 := h1.up (i := 10) (v := drawV (upd (upd c 10 (drawV c)) 4 (remV (topV (drawV c)) 10))) (by omega) (fun b hb => by cases hb)
  split
  · exact h2
  · exact h2.up (by omega) (fun b hb => by cases hb; exact ⟨9, by omega, rfl⟩)
theorem dayC_rg {c : Nat → Int32} {n nh : Nat} (hW : LW A) (hR : Rg c) (hn : n ≤ 10) (hnh : nh ≤ 6) : Rg (dayC A n nh c).1 := passC_rg (easeC_rg (lys_rg hW (windC_rg hR) hn) hnh)
theorem calm_out {c : Nat → Int32} {n nh j : Nat} (hn : n ≤ 10) (hnh : nh ≤ 6) (h : j ≠ 3) (h2 : j < 16 ∨ 78 ≤ j) : passC (easeC (lys A c n).1 nh) j = c j := by
  unfold passC
  rw [upd_n h, easeC_out (by omega) hnh, lys_out (by omega) hn]
theorem dayC_out {c : Nat → Int32} {n nh j : Nat} (hn : n ≤ 10) (hnh : nh ≤ 6) (h : j ≠ 3) (h3 : j ≠ 4) (h4 : j ≠ 10) (h2 : j < 16 ∨ 78 ≤ j) : (dayC A n nh c).1 j = c j := by
  show passC (easeC (lys A (windC c) n).1 nh) j = c j
  rw [calm_out hn hnh h h2, windC_out h3 h4]
theorem x_dayMore {u n nh : Nat} {c p q : Nat → Int32} (hF : 401 ≤ F) (hu : 9 ≤ u) (hA : LX A S 3) (hW : LW A) (hn : n ≤ 10) (en : c 12 = nI n) (hnh : nh ≤ 6) (enh : c 13 = nI nh) :
    ∃ p' q', f_X7_dayMore F u (sX (seS S (u + 1) c) p q) = some (.inl (some (.int (dayC A n nh c).2)), sX (seS S (u + 1) (dayC A n nh c).1) p' q') := by
  obtain ⟨p', q', h⟩ := x_dayL (F := F) (S := S) (u := u) (c := windC c) hF hu hA hW hn (by rw [windC_out (by omega) (by omega)]; exact en) hnh (by rw [windC_out (by omega) (by omega)]; exact enh) n 0 F p q (by omega) (by omega)
  refine ⟨p', q', ?_⟩
  unfold dayC
  rw [← h]
  unfold f_X7_dayMore f_X7_dayMore_b34 lys
  simp (disch := omega) only [fa_lit, nI_ad, nI_mul, nI_cl, inb_nI, nI_ltE, nI_leE, nI_eqE, nI_m1, nI_m1', m1_lt, lt_m1, m1_le, le_m1, eq_self, not_true_eq_false, not_false_eq_true, ↓reduceIte, leT, leF, ltT, ltF, eqT, eqF, decide_true, decide_false, true_and, and_true, Nat.reduceAdd, bI0_i, bI_i, bI_x, bV0_v, bV_v, bV_x, ↓bnd_e, gd_t, x_draw, x_put, x_at, at_x, up_x, upd_n]
  unfold windC remV
  simp (disch := omega) only [upd_n]
  split <;> rfl
theorem m_draw {n : Nat} {w c q : Nat → Int32} {a b : Int32} (h : 0 < n) (hn : n < 1000) : f_X10_draw (nI n) (sM (seS S 64 (wO w c)) a b q) = some (.inl (some (.int (remV (topV (drawV c)) n))), sM (seS S 64 (wO w (upd c 10 (drawV c)))) a b q) := by
  unfold f_X10_draw remV topV drawV
  have h0 : n ≠ 0 := by omega
  simp (disch := omega) only [fa_lit, nI_ad, nI_mul, nI_cl, inb_nI, nI_ltE, nI_leE, nI_eqE, nI_m1, nI_m1', m1_lt, lt_m1, m1_le, le_m1, eq_self, not_true_eq_false, not_false_eq_true, ↓reduceIte, leT, leF, ltT, ltF, eqT, eqF, decide_true, decide_false, true_and, and_true, Nat.reduceAdd, bI0_i, bI_i, bI_x, bV0_v, bV_v, bV_x, ↓bnd_e, gd_t, at_m, cM_wOi, wO_at, up_m, pj_l, pj_h, pj_k, pj_0, pj_1, pj_2, pj_3, pj_5, pj_6, pj_7, pj_8, pj_9, pj_10, pj_11, pj_12, pj_13, pj_14, pj_15, pj_16, upd_s]
theorem m_easeL {n : Nat} {w q c : Nat → Int32} {a b x : Int32} (hn6 : n ≤ 6) (hn : c 13 = nI n) : ∀ (m i k : Nat), i + m = n → m < k →
    f_X10_oneDay_b70 F k x (nI i) (sM (seS S 64 (wO w (easeC c i))) a b q) = some (.inl (some (.int x)), sM (seS S 64 (wO w (passC (easeC c n)))) a b q)
  | 0, i, k + 1, hi, hk => by
    have hie : i = n := by omega
    subst hie
    have e13 : easeC c i 13 = nI i := by rw [easeC_out (by omega) hn6]; exact hn
    rw [f_X10_oneDay_b70]
    simp (disch := omega) only [fa_lit, nI_ad, nI_mul, nI_cl, inb_nI, nI_ltE, nI_leE, nI_eqE, nI_m1, nI_m1', m1_lt, lt_m1, m1_le, le_m1, eq_self, not_true_eq_false, not_false_eq_true, ↓reduceIte, leT, leF, ltT, ltF, eqT, eqF, decide_true, decide_false, true_and, and_true, Nat.reduceAdd, bI0_i, bI_i, bI_x, bV0_v, bV_v, bV_x, ↓bnd_e, gd_t, m_holders, at_m, cM_wOi, wO_at, up_m, pj_l, pj_h, pj_k, pj_0, pj_1, pj_2, pj_3, pj_5, pj_6, pj_7, pj_8, pj_9, pj_10, pj_11, pj_12, pj_13, pj_14, pj_15, pj_16, e13, Nat.le_refl]
    rfl
  | m + 1, i, k + 1, hi, hk => by
    have ih := m_easeL (w := w) (q := q) (a := a) (b := b) (x := x) hn6 hn m (i + 1) k (by omega) (by omega)
    have e13 : easeC c i 13 = nI n := by rw [easeC_out (by omega) (by omega)]; exact hn
    rw [f_X10_oneDay_b70]
    rw [easeC] at ih
    unfold max0 at ih
    simp (disch := omega) only [fa_lit, nI_ad, nI_mul, nI_cl, inb_nI, nI_ltE, nI_leE, nI_eqE, nI_m1, nI_m1', m1_lt, lt_m1, m1_le, le_m1, eq_self, not_true_eq_false, not_false_eq_true, ↓reduceIte, leT, leF, ltT, ltF, eqT, eqF, decide_true, decide_false, true_and, and_true, Nat.reduceAdd, bI0_i, bI_i, bI_x, bV0_v, bV_v, bV_x, ↓bnd_e, gd_t, m_holders, m_ofHolder, at_m, cM_wOi, wO_at, up_m, pj_l, pj_h, pj_k, pj_0, pj_1, pj_2, pj_3, pj_5, pj_6, pj_7, pj_8, pj_9, pj_10, pj_11, pj_12, pj_13, pj_14, pj_15, pj_16, e13]
    exact ih
theorem m_dayL {n nh : Nat} {w c : Nat → Int32} (hF : 401 ≤ F) (hA : LM A w) (hW : LW A) (hR : Rg c) (hn : n ≤ 10) (en : c 12 = nI n) (hnh : nh ≤ 6) (enh : c 13 = nI nh) : ∀ (m i k : Nat) (a b : Int32) (q : Nat → Int32), i + m = n → m < k →
    ∃ a' b' q', f_X10_oneDay_b46 F k (lys A c i).2 (nI i) (sM (seS S 64 (wO w (lys A c i).1)) a b q) = some (.inl (some (.int (lys A c n).2)), sM (seS S 64 (wO w (passC (easeC (lys A c n).1 nh)))) a' b' q')
  | 0, i, k + 1, a, b, q, hi, hk => by
    have hie : i = n := by omega
    subst hie
    have e12 : (lys A c i).1 12 = nI i := by rw [lys_out (by omega) hn]; exact en
    have e13 : (lys A c i).1 13 = nI nh := by rw [lys_out (by omega) hn]; exact enh
    refine ⟨a, b, q, ?_⟩
    have h := m_easeL (F := F) (S := S) (w := w) (q := q) (a := a) (b := b) (x := (lys A c i).2) hnh e13 nh 0 F (by omega) (by omega)
    rw [easeC] at h
    rw [f_X10_oneDay_b46]
    simp (disch := omega) only [fa_lit, nI_ad, nI_mul, nI_cl, inb_nI, nI_ltE, nI_leE, nI_eqE, nI_m1, nI_m1', m1_lt, lt_m1, m1_le, le_m1, eq_self, not_true_eq_false, not_false_eq_true, ↓reduceIte, leT, leF, ltT, ltF, eqT, eqF, decide_true, decide_false, true_and, and_true, Nat.reduceAdd, bI0_i, bI_i, bI_x, bV0_v, bV_v, bV_x, ↓bnd_e, gd_t, m_ledges, at_m, cM_wOi, wO_at, up_m, pj_l, pj_h, pj_k, pj_0, pj_1, pj_2, pj_3, pj_5, pj_6, pj_7, pj_8, pj_9, pj_10, pj_11, pj_12, pj_13, pj_14, pj_15, pj_16, e12, Nat.le_refl]
    exact h
  | m + 1, i, k + 1, a, b, q, hi, hk => by
    have e12 : (lys A c i).1 12 = nI n := by rw [lys_out (by omega) (by omega)]; exact en
    obtain ⟨a1, b1, q1, h⟩ := m_goesOn (F := F) (S := S) (l := i) (w := w) (c := (lys A c i).1) (a := a) (b := b) (q := q) hF (by omega) (lys_rg hW hR (by omega)) hA hW
    obtain ⟨a2, b2, q2, ih⟩ := m_dayL hF hA hW hR hn en hnh enh m (i + 1) k a1 b1 q1 (by omega) (by omega)
    refine ⟨a2, b2, q2, ?_⟩
    rw [f_X10_oneDay_b46]
    rw [lys] at ih
    simp (disch := omega) only [fa_lit, nI_ad, nI_mul, nI_cl, inb_nI, nI_ltE, nI_leE, nI_eqE, nI_m1, nI_m1', m1_lt, lt_m1, m1_le, le_m1, eq_self, not_true_eq_false, not_false_eq_true, ↓reduceIte, leT, leF, ltT, ltF, eqT, eqF, decide_true, decide_false, true_and, and_true, Nat.reduceAdd, bI0_i, bI_i, bI_x, bV0_v, bV_v, bV_x, ↓bnd_e, gd_t, m_ledges, at_m, cM_wOi, wO_at, up_m, pj_l, pj_h, pj_k, pj_0, pj_1, pj_2, pj_3, pj_5, pj_6, pj_7, pj_8, pj_9, pj_10, pj_11, pj_12, pj_13, pj_14, pj_15, pj_16, e12, h]
    exact ih
theorem m_calmDay {n nh : Nat} {w c q : Nat → Int32} {a b x : Int32} (hx : ¬ x = nI 0) (hF : 401 ≤ F) (hA : LM A w) (hW : LW A) (hR : Rg c) (hn : n ≤ 10) (en : c 12 = nI n) (hnh : nh ≤ 6) (enh : c 13 = nI nh) :
    ∃ a' b' q', f_X10_oneDay F x (sM (seS S 64 (wO w c)) a b q) = some (.inl (some (.int (lys A c n).2)), sM (seS S 64 (wO w (passC (easeC (lys A c n).1 nh)))) a' b' q') := by
  obtain ⟨a', b', q', h⟩ := m_dayL (F := F) (S := S) (w := w) (c := c) hF hA hW hR hn en hnh enh n 0 F a b q (by omega) (by omega)
  refine ⟨a', b', q', ?_⟩
  rw [← h]
  unfold f_X10_oneDay f_X10_oneDay_b42
  rw [if_pos (show ¬ x = 0 from hx)]
  rfl
theorem m_oneDay {n nh : Nat} {w c q : Nat → Int32} {a b : Int32} (hF : 401 ≤ F) (hA : LM A w) (hW : LW A) (hR : Rg c) (hn : n ≤ 10) (en : c 12 = nI n) (hnh : nh ≤ 6) (enh : c 13 = nI nh) :
    ∃ a' b' q', f_X10_oneDay F (nI 0) (sM (seS S 64 (wO w c)) a b q) = some (.inl (some (.int (dayC A n nh c).2)), sM (seS S 64 (wO w (dayC A n nh c).1)) a' b' q') := by
  obtain ⟨a', b', q', h⟩ := m_dayL (F := F) (S := S) (w := w) (c := windC c) hF hA hW (windC_rg hR) hn (by rw [windC_out (by omega) (by omega)]; exact en) hnh (by rw [windC_out (by omega) (by omega)]; exact enh) n 0 F a b q (by omega) (by omega)
  refine ⟨a', b', q', ?_⟩
  unfold dayC
  rw [← h]
  unfold f_X10_oneDay f_X10_oneDay_b42 lys
  simp (disch := omega) only [fa_lit, nI_ad, nI_mul, nI_cl, inb_nI, nI_ltE, nI_leE, nI_eqE, nI_m1, nI_m1', m1_lt, lt_m1, m1_le, le_m1, eq_self, not_true_eq_false, not_false_eq_true, ↓reduceIte, leT, leF, ltT, ltF, eqT, eqF, decide_true, decide_false, true_and, and_true, Nat.reduceAdd, bI0_i, bI_i, bI_x, bV0_v, bV_v, bV_x, ↓bnd_e, gd_t, m_draw, at_m, cM_wOi, wO_at, up_m, pj_l, pj_h, pj_k, pj_0, pj_1, pj_2, pj_3, pj_5, pj_6, pj_7, pj_8, pj_9, pj_10, pj_11, pj_12, pj_13, pj_14, pj_15, pj_16, upd_n]
  unfold windC
  simp (disch := omega) only [upd_n]
  split <;> rfl
theorem layC_az {c : Nat → Int32} {l : Nat} (hW : LW A) (hR : Rg c) (hz : Az c) (hl : l < 10) : Az (layC A c l) := by
  intro j hj e
  by_cases el : j = l
  · subst el
    obtain ⟨y, h1, h2⟩ := lays_rng hW hR hl
    obtain ⟨n, h3, h4⟩ := hR.eggs hl
    unfold layC at e ⊢
    rw [upd_s] at e
    rw [upd_n (by omega), upd_s]
    unfold layN at e
    rw [h2, h4, nI_ad, ifLt (by omega) (by omega)] at e
    unfold layA
    rw [h4]
    have e0 : n = 0 := by
      split at e
      · have := nI_inj (by omega) (by omega) e; omega
      · have := nI_inj (by omega) (by omega) e; omega
    rw [e0]; rfl
  · rw [layC_out (by omega) (by omega)] at e ⊢
    exact hz j hj e
theorem lys_az {c : Nat → Int32} (hW : LW A) (hR : Rg c) (hz : Az c) : ∀ {i : Nat}, i ≤ 10 → Az (lys A c i).1
  | 0, _ => hz
  | i + 1, hi => layC_az hW (lys_rg hW hR (by omega)) (lys_az hW hR hz (by omega)) (by omega)
theorem dayC_az {c : Nat → Int32} {n nh : Nat} (hW : LW A) (hR : Rg c) (hz : Az c) (hn : n ≤ 10) (hnh : nh ≤ 6) : Az (dayC A n nh c).1 :=
  Az_of (c := (lys A (windC c) n).1) (fun i h1 h2 => by
    show passC (easeC (lys A (windC c) n).1 nh) i = _
    unfold passC; rw [upd_n (by omega), easeC_out (by omega) hnh]) (lys_az hW (windC_rg hR) (Az_of (fun i h1 h2 => windC_out (by omega) (by omega)) hz) hn)
end D
