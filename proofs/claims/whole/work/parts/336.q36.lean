/-! harvest, loss: greed, worths; the model's plan -/
section H
variable {F D L : Nat} {w : Nat → Nat → Int32} {V S U : mS} {A : aL}
theorem x_greedI {d s : Nat} {e : Int32} {h : Nat → Int32} {K : Int32 → Int32 → Int32 → mS → Option mR} (hV : eg_HX V D L w) (hd : d < D) (hs : s < 2 ^ L) : ∀ (m i f : Nat), i + m = L → m < f →
    f_X6_greedy_b20 K F f (nI s) e (nI d) (encO (eg_gb w d s i)) (nI i) (seS V 35 h) = K (nI (eg_nx s (eg_gb w d s L))) (e + eg_gv w d (eg_gb w d s L)) (nI (d + 1)) (seS V 35 h)
  | 0, i, f + 1, hi, hf => by
    have hie : i = L := by omega
    subst hie
    have hL := hV.2.1
    have hD := hV.1
    have e5 : (seS V 35 h) 33 5 = nI i := by rw [seS_n (by omega)]; exact hV.2.2.2.1
    rw [f_X6_greedy_b20]
    unfold f_X6_greedy_b110
    cases g : eg_gb w d s i with
    | none =>
      simp (disch := omega) only [fa_lit, nI_ad, nI_mul, nI_cl, inb_nI, nI_ltE, nI_leE, nI_eqE, nI_m1, nI_m1', m1_lt, lt_m1, m1_le, le_m1, eq_self, not_true_eq_false, not_false_eq_true, ↓reduceIte, leT, leF, ltT, ltF, eqT, eqF, decide_true, decide_false, true_and, and_true, Nat.reduceAdd, bI0_i, bI_i, bI_x, bV0_v, bV_v, bV_x, ↓bnd_e, gd_t, e5, Nat.le_refl, enc_none, eg_nx, eg_gv, add_n0]
    | some l =>
      have hl := eg_gb_lt g
      have eb := eg_bit (s := s) (l := l) (by omega)
      simp (disch := omega) only [fa_lit, nI_ad, nI_mul, nI_cl, inb_nI, nI_ltE, nI_leE, nI_eqE, nI_m1, nI_m1', m1_lt, lt_m1, m1_le, le_m1, eq_self, not_true_eq_false, not_false_eq_true, ↓reduceIte, leT, leF, ltT, ltF, eqT, eqF, decide_true, decide_false, true_and, and_true, Nat.reduceAdd, bI0_i, bI_i, bI_x, bV0_v, bV_v, bV_x, ↓bnd_e, gd_t, e5, Nat.le_refl, enc_some, eg_nx, eg_gv, eb, x_worthOf hV hd hl]
  | m + 1, i, f + 1, hi, hf => by
    have hL := hV.2.1
    have hD := hV.1
    have e5 : (seS V 35 h) 33 5 = nI L := by rw [seS_n (by omega)]; exact hV.2.2.2.1
    have ih := x_greedI (e := e) (h := h) (K := K) hV hd hs m (i + 1) f (by omega) (by omega)
    have hw := x_worthOf (h := h) (l := i) hV hd (by omega)
    rw [eg_gb] at ih
    rw [f_X6_greedy_b20]
    unfold f_X6_greedy_b53 f_X6_greedy_b61 f_X6_greedy_b81
    have fin : ∀ o : Option Nat, o = eg_gb w d s i → ∀ t1 : Int32, t1 = eg_gv w d o → (if w d i ≤ t1 then f_X6_greedy_b20 K F f (nI s) e (nI d) (encO o) (nI (i + 1)) (seS V 35 h) else (if bV32 (hasV (nI s) i) = nI 0 then f_X6_greedy_b20 K F f (nI s) e (nI d) (nI i) (nI (i + 1)) (seS V 35 h) else f_X6_greedy_b20 K F f (nI s) e (nI d) (encO o) (nI (i + 1)) (seS V 35 h))) = K (nI (eg_nx s (eg_gb w d s L))) (e + eg_gv w d (eg_gb w d s L)) (nI (d + 1)) (seS V 35 h) := by
      intro o ho t1 ht
      rw [← ho, ← ht] at ih
      cases g : hasV (nI s) i with
      | true =>
        rw [g, if_pos rfl] at ih
        rw [bT, if_neg (show ¬ nI 1 = nI 0 by decide), ite_self]; exact ih
      | false =>
        rw [g, if_neg (by simp)] at ih
        rw [bF, if_pos rfl]
        by_cases g2 : t1 < w d i
        · rw [if_neg (by rw [nle_lt]; simpa using g2)]
          rw [if_pos g2] at ih
          exact ih
        · rw [if_pos (by rw [nle_lt]; exact g2)]
          rw [if_neg g2] at ih
          exact ih
    cases g : eg_gb w d s i with
    | none =>
      have hfin := fin none g.symm (nI 0) rfl
      rw [enc_none] at hfin
      by_cases g2 : w d i ≤ nI 0
      · rw [if_pos g2] at hfin
        simp (disch := omega) only [fa_lit, nI_ad, nI_mul, nI_cl, inb_nI, nI_ltE, nI_leE, nI_eqE, nI_m1, nI_m1', m1_lt, lt_m1, m1_le, le_m1, eq_self, not_true_eq_false, not_false_eq_true, ↓reduceIte, leT, leF, ltT, ltF, eqT, eqF, decide_true, decide_false, true_and, and_true, Nat.reduceAdd, bI0_i, bI_i, bI_x, bV0_v, bV_v, bV_x, ↓bnd_e, gd_t, e5, enc_none, hw, g2]
        exact hfin
      · rw [if_neg g2] at hfin
        simp (disch := omega) only [fa_lit, nI_ad, nI_mul, nI_cl, inb_nI, nI_ltE, nI_leE, nI_eqE, nI_m1, nI_m1', m1_lt, lt_m1, m1_le, le_m1, eq_self, not_true_eq_false, not_false_eq_true, ↓reduceIte, leT, leF, ltT, ltF, eqT, eqF, decide_true, decide_false, true_and, and_true, Nat.reduceAdd, bI0_i, bI_i, bI_x, bV0_v, bV_v, bV_x, ↓bnd_e, gd_t, e5, enc_none, hw, g2, x_hasBit]
        refine Eq.trans ?_ hfin
        by_cases g3 : bV32 (hasV (nI s) i) = nI 0
        · simp only [g3, not_true_eq_false, ↓reduceIte]
        · simp only [g3, not_false_eq_true, ↓reduceIte]
    | some l =>
      have hl := eg_gb_lt g
      have hwl := x_worthOf (h := h) (l := l) hV hd (by omega)
      have hfin := fin (some l) g.symm (w d l) rfl
      rw [enc_some] at hfin
      by_cases g2 : w d i ≤ w d l
      · rw [if_pos g2] at hfin
        simp (disch := omega) only [fa_lit, nI_ad, nI_mul, nI_cl, inb_nI, nI_ltE, nI_leE, nI_eqE, nI_m1, nI_m1', m1_lt, lt_m1, m1_le, le_m1, eq_self, not_true_eq_false, not_false_eq_true, ↓reduceIte, leT, leF, ltT, ltF, eqT, eqF, decide_true, decide_false, true_and, and_true, Nat.reduceAdd, bI0_i, bI_i, bI_x, bV0_v, bV_v, bV_x, ↓bnd_e, gd_t, e5, enc_some, hw, hwl, g2]
        exact hfin
      · rw [if_neg g2] at hfin
        simp (disch := omega) only [fa_lit, nI_ad, nI_mul, nI_cl, inb_nI, nI_ltE, nI_leE, nI_eqE, nI_m1, nI_m1', m1_lt, lt_m1, m1_le, le_m1, eq_self, not_true_eq_false, not_false_eq_true, ↓reduceIte, leT, leF, ltT, ltF, eqT, eqF, decide_true, decide_false, true_and, and_true, Nat.reduceAdd, bI0_i, bI_i, bI_x, bV0_v, bV_v, bV_x, ↓bnd_e, gd_t, e5, enc_some, hw, hwl, g2, x_hasBit]
        refine Eq.trans ?_ hfin
        by_cases g3 : bV32 (hasV (nI s) i) = nI 0
        · simp only [g3, not_true_eq_false, ↓reduceIte]
        · simp only [g3, not_false_eq_true, ↓reduceIte]
theorem x_greedO {h : Nat → Int32} (hF : 6000 ≤ F) (hV : eg_HX V D L w) : ∀ (m d f : Nat), d + m = D → m < f →
    f_X6_greedy_b6 F f (nI (eg_gs w L d).1) (eg_gs w L d).2 (nI d) (seS V 35 h) = some (.inl (some (.int (eg_gs w L D).2)), seS V 35 h)
  | 0, d, f + 1, hi, hf => by
    have hie : d = D := by omega
    subst hie
    have hD := hV.1
    have e4 : (seS V 35 h) 33 4 = nI d := by rw [seS_n (by omega)]; exact hV.2.2.1
    rw [f_X6_greedy_b6]
    simp (disch := omega) only [fa_lit, nI_ad, nI_mul, nI_cl, inb_nI, nI_ltE, nI_leE, nI_eqE, nI_m1, nI_m1', m1_lt, lt_m1, m1_le, le_m1, eq_self, not_true_eq_false, not_false_eq_true, ↓reduceIte, leT, leF, ltT, ltF, eqT, eqF, decide_true, decide_false, true_and, and_true, Nat.reduceAdd, bI0_i, bI_i, bI_x, bV0_v, bV_v, bV_x, ↓bnd_e, gd_t, e4, Nat.le_refl]
  | m + 1, d, f + 1, hi, hf => by
    have hD := hV.1
    have hL := hV.2.1
    have e4 : (seS V 35 h) 33 4 = nI D := by rw [seS_n (by omega)]; exact hV.2.2.1
    have ih := x_greedO (h := h) hF hV m (d + 1) f (by omega) (by omega)
    have h1 := x_greedI (F := F) (h := h) (e := (eg_gs w L d).2) (K := fun x1 x2 x3 S => f_X6_greedy_b6 F f x1 x2 x3 S) hV (show d < D by omega) (eg_gs_ok (w := w) hL (d := d)).1 L 0 F (by omega) (by omega)
    rw [eg_gb, enc_none] at h1
    rw [f_X6_greedy_b6]
    simp (disch := omega) only [fa_lit, nI_ad, nI_mul, nI_cl, inb_nI, nI_ltE, nI_leE, nI_eqE, nI_m1, nI_m1', m1_lt, lt_m1, m1_le, le_m1, eq_self, not_true_eq_false, not_false_eq_true, ↓reduceIte, leT, leF, ltT, ltF, eqT, eqF, decide_true, decide_false, true_and, and_true, Nat.reduceAdd, bI0_i, bI_i, bI_x, bV0_v, bV_v, bV_x, ↓bnd_e, gd_t, e4]
    refine Eq.trans h1 ?_
    rw [eg_gs] at ih
    exact ih
theorem x_greedy {h : Nat → Int32} (hF : 6000 ≤ F) (hV : eg_HX V D L w) : f_X6_greedy F (seS V 35 h) = some (.inl (some (.int (eg_gs w L D).2)), seS V 35 h) := by
  have hD := hV.1
  exact x_greedO (h := h) hF hV D 0 F (by omega) (by omega)
/-- the class's worths -/
def eg_wd (A : aL) (L : Nat) (c : Nat → Int32) : Nat → Nat → Int32
  | 0 => c
  | d + 1 => passC (lys A (eg_wd A L c d) L).1
theorem eg_wd_st {c : Nat → Int32} {l : Nat} (hl : l < L) (hL : L ≤ 10) : ∀ {d : Nat}, AgL l (stC A l c d) (eg_wd A L c d)
  | 0 => ⟨rfl, rfl, fun _ _ => rfl⟩
  | d + 1 => eg_al_pass (agl_hi (eg_wd_st hl hL (d := d)) hl hL)
theorem eg_wd_z {c : Nat → Int32} (hL : L ≤ 10) (hz : zb c) : ∀ {d : Nat}, zb (eg_wd A L c d)
  | 0 => hz
  | d + 1 => fun i hi => by
    show upd _ _ _ _ = _
    rw [upd_n (by omega), lys_out (by omega) hL]; exact eg_wd_z hL hz (d := d) i hi
def eg_ww (A : aL) (c : Nat → Int32) (d l : Nat) : Int32 := freshV (stC A l c d) l
theorem up34 {k : Nat} {v : Int32} {g c p q : Nat → Int32} : upS (sX (seS (seS S 34 g) 27 c) p q) 34 k v = sX (seS (seS S 34 (upd g k v)) 27 c) p q := by
  rw [up_sXn (by omega) (by omega)]
  congr 1
  funext o
  by_cases h : o = 34
  · subst h; rw [upS_s, seS_n (by omega), seS_s, seS_n (by omega), seS_s]
  · rw [upS_n h]
    by_cases h2 : o = 27
    · subst h2; rw [seS_s, seS_s]
    · rw [seS_n h2, seS_n h, seS_n h2, seS_n h]
theorem x_weighI {d : Nat} {c : Nat → Int32} {K : Int32 → mS → Option mR} (hF : 6000 ≤ F) (hd : d < D) (hD : D ≤ 10) (hL : L ≤ 10) (e5 : S 33 5 = nI L) (hA : LX A S 3) (hW : LW A) : ∀ (m i f : Nat) (g p q : Nat → Int32), i + m = L → m < f →
    (∀ d', d' < d → ∀ l, l < L → g (d' * 10 + l) = eg_ww A c d' l) → (∀ l, l < i → g (d * 10 + l) = eg_ww A c d l) →
    ∃ g' p' q', (∀ d', d' < d + 1 → ∀ l, l < L → g' (d' * 10 + l) = eg_ww A c d' l) ∧ f_X6_weigh_b46 K F f (nI d) (nI i) (sX (seS (seS S 34 g) 27 (lys A (eg_wd A L c d) i).1) p q) = K (nI (d + 1)) (sX (seS (seS S 34 g') 27 (eg_wd A L c (d + 1))) p' q')
  | 0, i, f + 1, g, p, q, hi, hf, g1, g2 => by
    have hie : i = L := by omega
    subst hie
    refine ⟨g, p, q, fun d' h1 l hl => ?_, ?_⟩
    · by_cases e : d' = d
      · subst e; exact g2 l hl
      · exact g1 d' (by omega) l hl
    · have e5' : (sX (seS (seS S 34 g) 27 (lys A (eg_wd A i c d) i).1) p q) 33 5 = nI i := by rw [sX_n (by omega) (by omega), seS_n (by omega), seS_n (by omega)]; exact e5
      have hp := x_passDay' (S := seS S 34 g) (u := 26) (p := p) (q := q) (c := (lys A (eg_wd A i c d) i).1) (by omega)
      rw [f_X6_weigh_b46]
      simp (disch := omega) only [fa_lit, nI_ad, nI_mul, nI_cl, inb_nI, nI_ltE, nI_leE, nI_eqE, nI_m1, nI_m1', m1_lt, lt_m1, m1_le, le_m1, eq_self, not_true_eq_false, not_false_eq_true, ↓reduceIte, leT, leF, ltT, ltF, eqT, eqF, decide_true, decide_false, true_and, and_true, Nat.reduceAdd, bI0_i, bI_i, bI_x, bV0_v, bV_v, bV_x, ↓bnd_e, gd_t, e5', Nat.le_refl, show f_X0_passDay 26 (sX (seS (seS S 34 g) 27 (lys A (eg_wd A i c d) i).1) p q) = _ from hp]
      rw [eg_wd]
  | m + 1, i, f + 1, g, p, q, hi, hf, g1, g2 => by
    have e5' : (sX (seS (seS S 34 g) 27 (lys A (eg_wd A L c d) i).1) p q) 33 5 = nI L := by rw [sX_n (by omega) (by omega), seS_n (by omega), seS_n (by omega)]; exact e5
    have hfr : freshV (lys A (eg_wd A L c d) i).1 i = eg_ww A c d i := (eg_al_fresh (agl_lo (eg_wd_st (A := A) (c := c) (show i < L by omega) hL (d := d)) (by omega) (Nat.le_refl i))).symm
    have hfe := x_freshEggs (u := 26) (l := i) (S := sX (seS (seS S 34 g) 27 (lys A (eg_wd A L c d) i).1) p q) (by omega)
    rw [at_x (by omega) (by omega), hfr] at hfe
    obtain ⟨p1, q1, h1⟩ := x_layOn (F := F) (A := A) (S := seS S 34 (upd g (d * 10 + i) (eg_ww A c d i))) (u := 26) (l := i) (c := (lys A (eg_wd A L c d) i).1) (p := p) (q := q) (by omega) (by omega) (by omega) (LX_se (by omega) hA) hW
    obtain ⟨g', p2, q2, hg, ih⟩ := x_weighI (K := K) hF hd hD hL e5 hA hW m (i + 1) f (upd g (d * 10 + i) (eg_ww A c d i)) p1 q1 (by omega) (by omega) (fun d' h1 l hl => by
      rw [upd_n (by omega)]; exact g1 d' h1 l hl) (fun l hl => by
      by_cases e : l = i
      · subst e; rw [upd_s]
      · rw [upd_n (by omega)]; exact g2 l (by omega))
    refine ⟨g', p2, q2, hg, ?_⟩
    rw [lys_s] at ih
    rw [f_X6_weigh_b46]
    simp (disch := omega) only [fa_lit, nI_ad, nI_mul, nI_cl, inb_nI, nI_ltE, nI_leE, nI_eqE, nI_m1, nI_m1', m1_lt, lt_m1, m1_le, le_m1, eq_self, not_true_eq_false, not_false_eq_true, ↓reduceIte, leT, leF, ltT, ltF, eqT, eqF, decide_true, decide_false, true_and, and_true, Nat.reduceAdd, bI0_i, bI_i, bI_x, bV0_v, bV_v, bV_x, ↓bnd_e, gd_t, e5', hfe, up34, show f_X7_layOn F 26 (nI i) (sX (seS (seS S 34 (upd g (d * 10 + i) (eg_ww A c d i))) 27 (lys A (eg_wd A L c d) i).1) p q) = _ from h1]
    exact ih
theorem x_weighO {c : Nat → Int32} (hF : 6000 ≤ F) (hD : D ≤ 10) (hL : L ≤ 10) (e4 : S 33 4 = nI D) (e5 : S 33 5 = nI L) (hA : LX A S 3) (hW : LW A) : ∀ (m d f : Nat) (g p q : Nat → Int32), d + m = D → m < f →
    (∀ d', d' < d → ∀ l, l < L → g (d' * 10 + l) = eg_ww A c d' l) →
    ∃ g' p' q', (∀ d', d' < D → ∀ l, l < L → g' (d' * 10 + l) = eg_ww A c d' l) ∧ f_X6_weigh_b35 F f (nI d) (sX (seS (seS S 34 g) 27 (eg_wd A L c d)) p q) = some (.inl none, sX (seS (seS S 34 g') 27 (eg_wd A L c D)) p' q')
  | 0, d, f + 1, g, p, q, hi, hf, g1 => by
    have hie : d = D := by omega
    subst hie
    have e4' : (sX (seS (seS S 34 g) 27 (eg_wd A L c d)) p q) 33 4 = nI d := by rw [sX_n (by omega) (by omega), seS_n (by omega), seS_n (by omega)]; exact e4
    refine ⟨g, p, q, g1, ?_⟩
    rw [f_X6_weigh_b35]
    simp (disch := omega) only [fa_lit, nI_ad, nI_mul, nI_cl, inb_nI, nI_ltE, nI_leE, nI_eqE, nI_m1, nI_m1', m1_lt, lt_m1, m1_le, le_m1, eq_self, not_true_eq_false, not_false_eq_true, ↓reduceIte, leT, leF, ltT, ltF, eqT, eqF, decide_true, decide_false, true_and, and_true, Nat.reduceAdd, bI0_i, bI_i, bI_x, bV0_v, bV_v, bV_x, ↓bnd_e, gd_t, e4', Nat.le_refl]
  | m + 1, d, f + 1, g, p, q, hi, hf, g1 => by
    have e4' : (sX (seS (seS S 34 g) 27 (eg_wd A L c d)) p q) 33 4 = nI D := by rw [sX_n (by omega) (by omega), seS_n (by omega), seS_n (by omega)]; exact e4
    obtain ⟨g2, p2, q2, hg2, h1⟩ := x_weighI (F := F) (A := A) (c := c) (S := S) (K := fun x3 S => f_X6_weigh_b35 F f x3 S) hF (show d < D by omega) hD hL e5 hA hW L 0 F g p q (by omega) (by omega) g1 (fun l hl => absurd hl (by omega))
    obtain ⟨g3, p3, q3, hg3, ih⟩ := x_weighO hF hD hL e4 e5 hA hW m (d + 1) f g2 p2 q2 (by omega) (by omega) hg2
    refine ⟨g3, p3, q3, hg3, ?_⟩
    rw [f_X6_weigh_b35]
    simp (disch := omega) only [fa_lit, nI_ad, nI_mul, nI_cl, inb_nI, nI_ltE, nI_leE, nI_eqE, nI_m1, nI_m1', m1_lt, lt_m1, m1_le, le_m1, eq_self, not_true_eq_false, not_false_eq_true, ↓reduceIte, leT, leF, ltT, ltF, eqT, eqF, decide_true, decide_false, true_and, and_true, Nat.reduceAdd, bI0_i, bI_i, bI_x, bV0_v, bV_v, bV_x, ↓bnd_e, gd_t, e4']
    rw [lys] at h1
    refine Eq.trans h1 ?_
    exact ih
theorem x_weigh (hF : 6000 ≤ F) (hD1 : 1 ≤ D) (hD : D ≤ 10) (hL : L ≤ 10) (en : S 25 12 = nI L) (hA : LX A S 3) (hW : LW A) (hz : zb (S 25)) (hz2 : zb (S 27)) :
    ∃ V, eg_HX V D L (eg_ww A (S 25)) ∧ f_X6_weigh F (nI D) S = some (.inl none, V) ∧ zb (V 27) ∧ ∀ o, o ≠ 8 → o ≠ 9 → o ≠ 27 → o ≠ 33 → o ≠ 34 → V o = S o := by
  obtain ⟨S0, hS0⟩ : ∃ S0, S0 = upS (upS S 33 4 (nI D)) 33 5 (nI L) := ⟨_, rfl⟩
  have e4 : S0 33 4 = nI D := by rw [hS0, upS_s, upd_n (by omega), upS_s, upd_s]
  have e5 : S0 33 5 = nI L := by rw [hS0, upS_s, upd_s]
  have eo : ∀ o, o ≠ 33 → S0 o = S o := fun o h => by rw [hS0, upS_n h, upS_n h]
  obtain ⟨g', p', q', hg, h⟩ := x_weighO (F := F) (A := A) (c := S 25) (S := S0) hF hD hL e4 e5 (LX_of (fun o h1 h2 => eo o (by omega)) hA) hW D 0 F (S0 34) (S0 8) (S0 9) (by omega) (by omega) (fun d' h1 => absurd h1 (by omega))
  have e0 : sX (seS (seS S0 34 (S0 34)) 27 (eg_wd A L (S 25) 0)) (S0 8) (S0 9) = seS S0 27 (S 25) := by
    rw [se_id, eg_wd]
    conv => lhs; rw [← seS_n (S := S0) (i := 27) (f := S 25) (show 8 ≠ 27 by omega), ← seS_n (S := S0) (i := 27) (f := S 25) (show 9 ≠ 27 by omega)]
    exact sX_id
  rw [e0] at h
  refine ⟨sX (seS (seS S0 34 g') 27 (eg_wd A L (S 25) D)) p' q', ⟨hD, hL, ?_, ?_, fun d hd l hl => ?_⟩, ?_, ?_, fun o h1 h2 h3 h4 h5 => ?_⟩
  · rw [sX_n (by omega) (by omega), seS_n (by omega), seS_n (by omega)]; exact e4
  · rw [sX_n (by omega) (by omega), seS_n (by omega), seS_n (by omega)]; exact e5
  · rw [sX_n (by omega) (by omega), seS_n (by omega), seS_s]; exact hg d hd l hl
  · have hc := x_copy (u0 := 26) (u1 := 24) (S := S0) (by rw [eo 27 (by omega)]; exact hz2) (by rw [eo 25 (by omega)]; exact hz)
    have ea : S0 (24 + 1) = S 25 := eo 25 (by omega)
    rw [ea] at hc
    have i1 : (if nI 10 < nI D then nI 10 else nI D) = nI D := by rw [ifLt (by omega) (by omega), if_neg (by omega)]
    have i2 : (if nI 10 < nI L then nI 10 else nI L) = nI L := by rw [ifLt (by omega) (by omega), if_neg (by omega)]
    have en' : (upS S 33 4 (nI D)) (24 + 1) 12 = nI L := by rw [upS_n (by omega)]; exact en
    unfold f_X6_weigh
    simp only [fa_lit, bI0_i, bI_i, bI_x, bV0_v, bV_v, bV_x, ↓bnd_e, gd_t, i1]
    rw [x_at (by omega), en', bI0_i, i2, ← hS0, hc, bV0_v]
    exact h
  · rw [sX_n (by omega) (by omega), seS_s]; exact eg_wd_z hL hz
  · rw [sX_n h1 h2, seS_n h3, seS_n h5, eo o h4]
/-- the model's plan -/
def eg_HM (U : mS) (D L : Nat) (w : Nat → Nat → Int32) : Prop := D ≤ 10 ∧ L ≤ 10 ∧ cM (U 64) 12 = nI L ∧ ∀ d, d < D → ∀ l, l < L → U 73 (10 * d + l) = w d l
theorem eg_sl10 : ∀ k, k < 11 → nI k <<< (nI 10 &&& nI 31) = nI (k * 1024) := by decide
theorem m_mostAt {k s : Nat} (hk : k ≤ 10) (hs : s < 1024) : f_X10_mostAt (nI k) (nI s) S = some (.inl (some (.int (nI (k * 1024 + s)))), S) := by
  have e := Nat.shiftLeft_add_eq_or_of_lt (b := s) (i := 10) hs k
  rw [Nat.shiftLeft_eq, show (2 : Nat) ^ 10 = 1024 from rfl] at e
  unfold f_X10_mostAt
  simp (disch := omega) only [fa_lit, eg_sl10, nI_or, ← e]
theorem m_mostBy {d s l : Nat} {h : Nat → Int32} (hU : eg_HM U D L w) (hd : d < D) (hs : s < 2 ^ L) (hl : l < L) : f_X10_mostBy (nI d) (nI s) (nI l) (seS U 74 h) = some (.inl (some (.int (w d l + h ((d + 1) * 1024 + (s ||| 2 ^ l))))), seS U 74 h) := by
  have hD := hU.1
  have hL := hU.2.1
  have h10 := pow10 hL
  have ho := eg_or_lt hs hl
  have eb := eg_bit (s := s) (l := l) (by omega)
  have e73 : (seS U 74 h) 73 (10 * d + l) = w d l := by rw [seS_n (by omega)]; exact hU.2.2.2 d hd l hl
  have e74 : ∀ k, (seS U 74 h) 74 k = h k := fun k => by rw [seS_s]
  have hm := m_mostAt (S := seS U 74 h) (k := d + 1) (s := s ||| 2 ^ l) (by omega) (by omega)
  unfold f_X10_mostBy f_X10_mostBy_b47
  simp (disch := omega) only [fa_lit, nI_ad, nI_mul, nI_cl, inb_nI, nI_ltE, nI_leE, nI_eqE, nI_m1, nI_m1', m1_lt, lt_m1, m1_le, le_m1, eq_self, not_true_eq_false, not_false_eq_true, ↓reduceIte, leT, leF, ltT, ltF, eqT, eqF, decide_true, decide_false, true_and, and_true, Nat.reduceAdd, bI0_i, bI_i, bI_x, bV0_v, bV_v, bV_x, ↓bnd_e, gd_t, eb, hm, e73, e74]
theorem m_mostBy0 {d s : Nat} {h : Nat → Int32} (hU : eg_HM U D L w) (hd : d < D) (hs : s < 2 ^ L) : f_X10_mostBy (nI d) (nI s) (-nI 1) (seS U 74 h) = some (.inl (some (.int (h ((d + 1) * 1024 + s)))), seS U 74 h) := by
  have hD := hU.1
  have h10 := pow10 hU.2.1
  have e74 : ∀ k, (seS U 74 h) 74 k = h k := fun k => by rw [seS_s]
  have hm := m_mostAt (S := seS U 74 h) (k := d + 1) (s := s) (by omega) (by omega)
  unfold f_X10_mostBy f_X10_mostBy_b47
  simp (disch := omega) only [fa_lit, nI_ad, nI_mul, nI_cl, inb_nI, nI_ltE, nI_leE, nI_eqE, nI_m1, nI_m1', m1_lt, lt_m1, m1_le, le_m1, eq_self, not_true_eq_false, not_false_eq_true, ↓reduceIte, leT, leF, ltT, ltF, eqT, eqF, decide_true, decide_false, true_and, and_true, Nat.reduceAdd, bI0_i, bI_i, bI_x, bV0_v, bV_v, bV_x, ↓bnd_e, gd_t, le0_m1, hm, e74]
def eg_GM (w : Nat → Nat → Int32) (L D : Nat) (h : Nat → Int32) (d : Nat) : Prop := ∀ d', d ≤ d' → d' ≤ D → ∀ s, s < 2 ^ L → h (d' * 1024 + s) = eg_hv w L D d' s
theorem up74 {k : Nat} {v : Int32} {h : Nat → Int32} : upS (seS U 74 h) 74 k v = seS U 74 (upd h k v) := up_se
theorem m_lmI {d s : Nat} {b : Int32} {h : Nat → Int32} {K1 : Int32 → Int32 → mS → Option mR} {K2 : Int32 → Int32 → Int32 → mS → Option mR} {x : Int32} (hU : eg_HM U D L w) (hd : d < D) (hs : s < 2 ^ L) (hG : eg_GM w L D h (d + 1)) : ∀ (m i f : Nat), i + m = L → m < f →
    f_X10_laysMost_b68 K1 K2 F f x (nI d) (nI s) (eg_hb (fun l => w d l + eg_hv w L D (d + 1) (s ||| 2 ^ l)) s b i) (nI i) (seS U 74 h) = K2 x (nI d) (nI (s + 1)) (seS U 74 (upd h (d * 1024 + s) (eg_hb (fun l => w d l + eg_hv w L D (d + 1) (s ||| 2 ^ l)) s b L)))
  | 0, i, f + 1, hi, hf => by
    have hie : i = L := by omega
    subst hie
    have hL := hU.2.1
    have hD := hU.1
    have h10 := pow10 hL
    have e12 : cM ((seS U 74 h) 64) 12 = nI i := by rw [seS_n (by omega)]; exact hU.2.2.1
    have hm := m_mostAt (S := seS U 74 h) (k := d) (s := s) (by omega) (by omega)
    rw [f_X10_laysMost_b68]
    simp (disch := omega) only [fa_lit, nI_ad, nI_mul, nI_cl, inb_nI, nI_ltE, nI_leE, nI_eqE, nI_m1, nI_m1', m1_lt, lt_m1, m1_le, le_m1, eq_self, not_true_eq_false, not_false_eq_true, ↓reduceIte, leT, leF, ltT, ltF, eqT, eqF, decide_true, decide_false, true_and, and_true, Nat.reduceAdd, bI0_i, bI_i, bI_x, bV0_v, bV_v, bV_x, ↓bnd_e, gd_t, m_ledges, e12, Nat.le_refl, hm, up74]
  | m + 1, i, f + 1, hi, hf => by
    have hL := hU.2.1
    have hD := hU.1
    have e12 : cM ((seS U 74 h) 64) 12 = nI L := by rw [seS_n (by omega)]; exact hU.2.2.1
    have ih := m_lmI (b := b) (K1 := K1) (K2 := K2) (x := x) hU hd hs hG m (i + 1) f (by omega) (by omega)
    have hm := m_mostBy (h := h) (d := d) (s := s) (l := i) hU hd hs (by omega)
    rw [hG (d + 1) (by omega) (by omega) (s ||| 2 ^ i) (eg_or_lt hs (by omega))] at hm
    rw [eg_hb] at ih
    rw [f_X10_laysMost_b68]
    unfold f_X10_laysMost_b103
    cases g : hasV (nI s) i with
    | true =>
      rw [g, if_pos rfl] at ih
      simp (disch := omega) only [fa_lit, nI_ad, nI_mul, nI_cl, inb_nI, nI_ltE, nI_leE, nI_eqE, nI_m1, nI_m1', m1_lt, lt_m1, m1_le, le_m1, eq_self, not_true_eq_false, not_false_eq_true, ↓reduceIte, leT, leF, ltT, ltF, eqT, eqF, decide_true, decide_false, true_and, and_true, Nat.reduceAdd, bI0_i, bI_i, bI_x, bV0_v, bV_v, bV_x, ↓bnd_e, gd_t, m_ledges, e12, m_has, g, bT]
      exact ih
    | false =>
      rw [g, if_neg (by simp)] at ih
      simp (disch := omega) only [fa_lit, nI_ad, nI_mul, nI_cl, inb_nI, nI_ltE, nI_leE, nI_eqE, nI_m1, nI_m1', m1_lt, lt_m1, m1_le, le_m1, eq_self, not_true_eq_false, not_false_eq_true, ↓reduceIte, leT, leF, ltT, ltF, eqT, eqF, decide_true, decide_false, true_and, and_true, Nat.reduceAdd, bI0_i, bI_i, bI_x, bV0_v, bV_v, bV_x, ↓bnd_e, gd_t, m_ledges, e12, m_has, g, bF, hm]
      exact ih
theorem m_lmT {d : Nat} {K1 : Int32 → Int32 → mS → Option mR} (hF : 6000 ≤ F) (hU : eg_HM U D L w) (hd : d < D) : ∀ (m s f : Nat) (h : Nat → Int32), s + m = 2 ^ L → m < f → eg_GM w L D h (d + 1) → (∀ s', s' < s → h (d * 1024 + s') = eg_hv w L D d s') →
    ∃ h', eg_GM w L D h' d ∧ f_X10_laysMost_b49 K1 F f (nI (2 ^ L - 1)) (nI d) (nI s) (seS U 74 h) = K1 (nI (2 ^ L - 1)) (nI d + -nI 1) (seS U 74 h')
  | 0, s, f + 1, h, hs, hf, hG, hN => by
    have hL := hU.2.1
    have h10 := pow10 hL
    have hp := pow_pos' (n := L)
    refine ⟨h, fun d' g1 g2 s' g3 => ?_, ?_⟩
    · by_cases e : d' = d
      · subst e; exact hN s' (by omega)
      · exact hG d' (by omega) g2 s' g3
    · rw [f_X10_laysMost_b49]
      simp (disch := omega) only [fa_lit, nI_ad, nI_mul, nI_cl, inb_nI, nI_ltE, nI_leE, nI_eqE, nI_m1, nI_m1', m1_lt, lt_m1, m1_le, le_m1, eq_self, not_true_eq_false, not_false_eq_true, ↓reduceIte, leT, leF, ltT, ltF, eqT, eqF, decide_true, decide_false, true_and, and_true, Nat.reduceAdd, bI0_i, bI_i, bI_x, bV0_v, bV_v, bV_x, ↓bnd_e, gd_t]
  | m + 1, s, f + 1, h, hs, hf, hG, hN => by
    have hL := hU.2.1
    have h10 := pow10 hL
    have hp := pow_pos' (n := L)
    have hm := m_mostBy0 (h := h) (d := d) (s := s) hU hd (by omega)
    rw [hG (d + 1) (by omega) (by omega) s (by omega)] at hm
    have hI := m_lmI (F := F) (b := eg_hv w L D (d + 1) s) (h := h) (K1 := K1) (K2 := fun x2 x3 x4 S => f_X10_laysMost_b49 K1 F f x2 x3 x4 S) (x := nI (2 ^ L - 1)) hU hd (show s < 2 ^ L by omega) hG L 0 F (by omega) (by omega)
    rw [eg_hb, ← eg_hv_s hd] at hI
    obtain ⟨h', hG', ih⟩ := m_lmT (K1 := K1) hF hU hd m (s + 1) f (upd h (d * 1024 + s) (eg_hv w L D d s)) (by omega) (by omega) (fun d' g1 g2 s' g3 => by
      rw [upd_n (by omega)]; exact hG d' g1 g2 s' g3) (fun s' g1 => by
      by_cases e : s' = s
      · subst e; rw [upd_s]
      · rw [upd_n (by omega)]; exact hN s' (by omega))
    refine ⟨h', hG', ?_⟩
    rw [f_X10_laysMost_b49]
    simp (disch := omega) only [fa_lit, nI_ad, nI_mul, nI_cl, inb_nI, nI_ltE, nI_leE, nI_eqE, nI_m1, nI_m1', m1_lt, lt_m1, m1_le, le_m1, eq_self, not_true_eq_false, not_false_eq_true, ↓reduceIte, leT, leF, ltT, ltF, eqT, eqF, decide_true, decide_false, true_and, and_true, Nat.reduceAdd, bI0_i, bI_i, bI_x, bV0_v, bV_v, bV_x, ↓bnd_e, gd_t, hm]
    refine Eq.trans hI ?_
    exact ih
theorem m_lmO (hF : 6000 ≤ F) (hU : eg_HM U D L w) : ∀ (d f : Nat) (h : Nat → Int32), d < D → d + 1 < f → eg_GM w L D h (d + 1) →
    ∃ h', eg_GM w L D h' 0 ∧ f_X10_laysMost_b42 F f (nI (2 ^ L - 1)) (nI d) (seS U 74 h) = some (.inl none, seS U 74 h')
  | 0, f + 2, h, hd, hf, hG => by
    have h10 := pow10 hU.2.1
    obtain ⟨h1, hG1, e1⟩ := m_lmT (F := F) (K1 := fun x1 x2 S => f_X10_laysMost_b42 F (f + 1) x1 x2 S) hF hU hd (2 ^ L) 0 F h (by omega) (by omega) hG (fun s' g => absurd g (by omega))
    refine ⟨h1, hG1, ?_⟩
    rw [f_X10_laysMost_b42]
    simp (disch := omega) only [fa_lit, nI_ad, nI_mul, nI_cl, inb_nI, nI_ltE, nI_leE, nI_eqE, nI_m1, nI_m1', m1_lt, lt_m1, m1_le, le_m1, eq_self, not_true_eq_false, not_false_eq_true, ↓reduceIte, leT, leF, ltT, ltF, eqT, eqF, decide_true, decide_false, true_and, and_true, Nat.reduceAdd, bI0_i, bI_i, bI_x, bV0_v, bV_v, bV_x, ↓bnd_e, gd_t]
    refine Eq.trans e1 ?_
    show f_X10_laysMost_b42 F (f + 1) (nI (2 ^ L - 1)) (nI 0 + -nI 1) (seS U 74 h1) = _
    rw [show nI 0 + -nI 1 = -nI 1 by decide, f_X10_laysMost_b42]
    simp (disch := omega) only [fa_lit, nI_ad, nI_mul, nI_cl, inb_nI, nI_ltE, nI_leE, nI_eqE, nI_m1, nI_m1', m1_lt, lt_m1, m1_le, le_m1, eq_self, not_true_eq_false, not_false_eq_true, ↓reduceIte, leT, leF, ltT, ltF, eqT, eqF, decide_true, decide_false, true_and, and_true, Nat.reduceAdd, bI0_i, bI_i, bI_x, bV0_v, bV_v, bV_x, ↓bnd_e, gd_t, m1_lt0]
  | d + 1, f + 1, h, hd, hf, hG => by
    have hD := hU.1
    have h10 := pow10 hU.2.1
    obtain ⟨h1, hG1, e1⟩ := m_lmT (F := F) (K1 := fun x1 x2 S => f_X10_laysMost_b42 F f x1 x2 S) hF hU hd (2 ^ L) 0 F h (by omega) (by omega) hG (fun s' g => absurd g (by omega))
    obtain ⟨h2, hG2, e2⟩ := m_lmO hF hU d f h1 (by omega) (by omega) hG1
    refine ⟨h2, hG2, ?_⟩
    rw [f_X10_laysMost_b42]
    simp (disch := omega) only [fa_lit, nI_ad, nI_mul, nI_cl, inb_nI, nI_ltE, nI_leE, nI_eqE, nI_m1, nI_m1', m1_lt, lt_m1, m1_le, le_m1, eq_self, not_true_eq_false, not_false_eq_true, ↓reduceIte, leT, leF, ltT, ltF, eqT, eqF, decide_true, decide_false, true_and, and_true, Nat.reduceAdd, bI0_i, bI_i, bI_x, bV0_v, bV_v, bV_x, ↓bnd_e, gd_t]
    refine Eq.trans e1 ?_
    show f_X10_laysMost_b42 F f (nI (2 ^ L - 1)) (nI (d + 1) + -nI 1) (seS U 74 h1) = _
    rw [subm1]; exact e2
theorem m_zeroL (hF : 6000 ≤ F) (hU : eg_HM U D L w) (hD1 : 1 ≤ D) : ∀ (m s f : Nat) (h : Nat → Int32), s + m = 2 ^ L → m < f → (∀ s', s' < s → h (D * 1024 + s') = nI 0) →
    ∃ h', eg_GM w L D h' 0 ∧ f_X10_laysMost_b16 F f (nI D) (nI (2 ^ L - 1)) (nI s) (seS U 74 h) = some (.inl none, seS U 74 h')
  | 0, s, f + 1, h, hs, hf, hN => by
    have hL := hU.2.1
    have hD := hU.1
    have h10 := pow10 hL
    have hp := pow_pos' (n := L)
    obtain ⟨h', hG, e⟩ := m_lmO (F := F) hF hU (D - 1) F h (by omega) (by omega) (fun d' g1 g2 s' g3 => by
      have : d' = D := by omega
      subst this; rw [hN s' (by omega), eg_hv_e])
    refine ⟨h', hG, ?_⟩
    rw [f_X10_laysMost_b16]
    simp (disch := omega) only [fa_lit, nI_ad, nI_mul, nI_cl, inb_nI, nI_ltE, nI_leE, nI_eqE, nI_m1, nI_m1', m1_lt, lt_m1, m1_le, le_m1, eq_self, not_true_eq_false, not_false_eq_true, ↓reduceIte, leT, leF, ltT, ltF, eqT, eqF, decide_true, decide_false, true_and, and_true, Nat.reduceAdd, bI0_i, bI_i, bI_x, bV0_v, bV_v, bV_x, ↓bnd_e, gd_t, nI_sub]
    exact e
  | m + 1, s, f + 1, h, hs, hf, hN => by
    have hL := hU.2.1
    have hD := hU.1
    have h10 := pow10 hL
    have hp := pow_pos' (n := L)
    obtain ⟨h', hG, ih⟩ := m_zeroL hF hU hD1 m (s + 1) f (upd h (D * 1024 + s) (nI 0)) (by omega) (by omega) (fun s' g => by
      by_cases e : s' = s
      · subst e; rw [upd_s]
      · rw [upd_n (by omega)]; exact hN s' (by omega))
    refine ⟨h', hG, ?_⟩
    have hm := m_mostAt (S := seS U 74 h) (k := D) (s := s) (by omega) (by omega)
    rw [f_X10_laysMost_b16]
    simp (disch := omega) only [fa_lit, nI_ad, nI_mul, nI_cl, inb_nI, nI_ltE, nI_leE, nI_eqE, nI_m1, nI_m1', m1_lt, lt_m1, m1_le, le_m1, eq_self, not_true_eq_false, not_false_eq_true, ↓reduceIte, leT, leF, ltT, ltF, eqT, eqF, decide_true, decide_false, true_and, and_true, Nat.reduceAdd, bI0_i, bI_i, bI_x, bV0_v, bV_v, bV_x, ↓bnd_e, gd_t, hm, up74]
    exact ih
end H
