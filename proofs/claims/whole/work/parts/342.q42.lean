/-! texts: the class reads conditions -/
section T
variable {B : Nat → Nat} {t : Nat} {S : mS} {p n : Nat} {c h : Nat → Int32} {F : Nat}
theorem XL_k {n1 : Nat} {h1 : Nat → Int32} {r : gR} {f : Nat → List Nat → gR} {o : Option mR} {K1 K : mS → Option mR} (g : XL S c n1 h1 r o K1)
    (hs : ∀ p1 c1, r = .inr (p1, c1) → XL S c n h (f p1 c1) (K1 (yS S p1 (-nI 1) c (n1 + c1.length) (exF h1 n1 c1))) K) : XL S c n h (gB r f) o K := by
  match r, g, hs with
  | .inl e, g, _ => exact g
  | .inr (p1, c1), g, hs =>
    have g : o = K1 (yS S p1 (-nI 1) c (n1 + c1.length) (exF h1 n1 c1)) := g
    rw [gB_r, g]; exact hs p1 c1 rfl
theorem XL_b {n1 : Nat} {h1 : Nat → Int32} {r : gR} {f : Nat → List Nat → gR} {o : Option mR} {k : Int32 → mS → Option mR} {K : mS → Option mR} (g : XL S c n1 h1 r o x1K)
    (hf : ∀ Y, k (nI 0) Y = some (.inl (some (.int (nI 0))), Y))
    (hs : ∀ p1 c1, r = .inr (p1, c1) → XL S c n h (f p1 c1) (k (nI 1) (yS S p1 (-nI 1) c (n1 + c1.length) (exF h1 n1 c1))) K) : XL S c n h (gB r f) (bI0 o k) K := by
  match r, g, hs with
  | .inl e, g, _ =>
    obtain ⟨p', n', h', e2⟩ := g
    exact ⟨p', n', h', by rw [e2, bI0_i, hf]⟩
  | .inr (p1, c1), g, hs =>
    have g : o = x1K (yS S p1 (-nI 1) c (n1 + c1.length) (exF h1 n1 c1)) := g
    rw [gB_r, g]; exact hs p1 c1 rfl
theorem XL_sh {c1 : List Nat} {r : gR} {o : Option mR} {K : mS → Option mR} (g : XL S c (n + c1.length) (exF h n c1) r o K) : XL S c n h (gB r (fun p2 c2 => .inr (p2, c1 ++ c2))) o K := by
  match r, g with
  | .inl e, g => exact g
  | .inr (p2, c2), g =>
    have g : o = K (yS S p2 (-nI 1) c (n + c1.length + c2.length) (exF (exF h n c1) (n + c1.length) c2)) := g
    show o = K (yS S p2 (-nI 1) c (n + (c1 ++ c2).length) (exF h n (c1 ++ c2)))
    rw [g, exF_app, List.length_append, Nat.add_assoc]
theorem exF_1 {c1 : List Nat} {x : Nat} : exF h n (c1 ++ [x]) = upd (exF h n c1) (n + c1.length) (nI x) := by rw [exF_app]; rfl
def XAt (B : Nat → Nat) (t : Nat) (S : mS) (c : Nat → Int32) (F m d : Nat) : Prop := ∀ a p n h, p ≤ t → n + 6 ≤ p → 5 * (t - p) < m → 2 * (6 - d) + 1 ≤ a → XL S c n h (gC B t m 0 d p) (f_rec_X3 F a 1 (nI d) (yS S p (-nI 1) c n h)) x1K
def XAn (B : Nat → Nat) (t : Nat) (S : mS) (c : Nat → Int32) (F m d : Nat) : Prop := ∀ a p n h, p ≤ t → n + 6 ≤ p → 5 * (t - p) + 4 < m → 2 * (6 - d) + 2 ≤ a → XL S c n h (gC B t m 1 d p) (f_rec_X3 F a 0 (nI d) (yS S p (-nI 1) c n h)) x1K
theorem x_cmp {G1 G2 : Int32 → mS → Option mR} {c1 : List Nat} {x : Int32} {v p1 : Nat} (hF : 6000 ≤ F) (hT : TB S B t) (hp1 : p1 ≤ t) (hn1 : n + c1.length + 6 ≤ p1) (hx : (x = nI 0 ∧ v = 2004) ∨ (x = nI 1 ∧ v = 2003)) :
    XL S c n h (gB (gSum B t p1) (fun p2 c2 => .inr (p2, c1 ++ (c2 ++ [v])))) (f_X3_readAtom_b165 G1 G2 F x (yS S p1 (-nI 1) c (n + c1.length) (exF h n c1))) x1K := by
  have ht := hT.1
  unfold f_X3_readAtom_b165
  refine XL_b (x_readSum hF hT hp1 hn1) (fun Y => ?_) (fun p2 c2 e => ?_)
  · simp (disch := omega) only [fa_lit, nI_ad, nI_mul, nI_cl, inb_nI, nI_ltE, nI_leE, nI_eqE, nI_m1, nI_m1', m1_lt, lt_m1, m1_le, le_m1, eq_self, not_true_eq_false, not_false_eq_true, ↓reduceIte, leT, leF, ltT, ltF, eqT, eqF, decide_true, decide_false, true_and, and_true, Nat.reduceAdd, and00]
  · have q := gSum_p hp1 e
    have a1 := fun v => x_addCode (S := S) (p := p2) (w := -nI 1) (c := c) (n := n + c1.length + c2.length) (h := exF (exF h n c1) (n + c1.length) c2) (v := v) (by omega)
    show _ = x1K (yS S p2 (-nI 1) c (n + (c1 ++ (c2 ++ [v])).length) (exF h n (c1 ++ (c2 ++ [v]))))
    rw [← List.append_assoc, exF_1, exF_app, List.length_append, List.length_append, List.length_singleton]
    unfold f_X3_readAtom_b191
    rcases hx with ⟨rfl, rfl⟩ | ⟨rfl, rfl⟩
    · simp (disch := omega) only [fa_lit, nI_ad, nI_mul, nI_cl, inb_nI, nI_ltE, nI_leE, nI_eqE, nI_m1, nI_m1', m1_lt, lt_m1, m1_le, le_m1, eq_self, not_true_eq_false, not_false_eq_true, ↓reduceIte, leT, leF, ltT, ltF, eqT, eqF, decide_true, decide_false, true_and, and_true, Nat.reduceAdd, bI0_i, bI_i, bI_x, bV0_v, bV_v, bV_x, ↓bnd_e, gd_t, a1, and10, ← Nat.add_assoc]; rfl
    · simp (disch := omega) only [fa_lit, nI_ad, nI_mul, nI_cl, inb_nI, nI_ltE, nI_leE, nI_eqE, nI_m1, nI_m1', m1_lt, lt_m1, m1_le, le_m1, eq_self, not_true_eq_false, not_false_eq_true, ↓reduceIte, leT, leF, ltT, ltF, eqT, eqF, decide_true, decide_false, true_and, and_true, Nat.reduceAdd, bI0_i, bI_i, bI_x, bV0_v, bV_v, bV_x, ↓bnd_e, gd_t, a1, and10, ← Nat.add_assoc]; rfl
theorem x_b98 {G1 G2 : Int32 → mS → Option mR} (hF : 6000 ≤ F) (hT : TB S B t) (hp : p ≤ t) (hn : n + 6 ≤ p) :
    XL S c n h (if tWl B t p = strN 16 then .inr (tSk B t (tWd B t p), [1008])
      else gB (gSum B t p) (fun p1 c1 =>
        if tSg B t p1 60 = true then gB (gSum B t (tSk B t (p1 + 1))) (fun p2 c2 => .inr (p2, c1 ++ (c2 ++ [2003])))
        else if tSg B t p1 62 = true then gB (gSum B t (tSk B t (p1 + 1))) (fun p2 c2 => .inr (p2, c1 ++ (c2 ++ [2004]))) else .inl p1)) (f_X3_readAtom_b98 G1 G2 F (yS S p (-nI 1) c n h)) x1K := by
  have ht := hT.1
  unfold f_X3_readAtom_b98
  by_cases g : tWl B t p = strN 16
  · have hw := x_wT (F := F) (w := -nI 1) (c := c) (n := n) (h := h) hF (by omega) hT hp g
    have a1 := x_addCode (S := S) (p := tSk B t (tWd B t p)) (w := -nI 1) (c := c) (n := n) (h := h) (v := 1008) (by omega)
    rw [if_pos g]
    show _ = x1K (yS S (tSk B t (tWd B t p)) (-nI 1) c (n + 1) (upd h n (nI 1008)))
    simp (disch := omega) only [fa_lit, nI_ad, nI_mul, nI_cl, inb_nI, nI_ltE, nI_leE, nI_eqE, nI_m1, nI_m1', m1_lt, lt_m1, m1_le, le_m1, eq_self, not_true_eq_false, not_false_eq_true, ↓reduceIte, leT, leF, ltT, ltF, eqT, eqF, decide_true, decide_false, true_and, and_true, Nat.reduceAdd, bI0_i, bI_i, bI_x, bV0_v, bV_v, bV_x, ↓bnd_e, gd_t, hw, a1, and10]; rfl
  · have hw := x_wF (F := F) (w := -nI 1) (c := c) (n := n) (h := h) hF (by omega) hT hp g
    rw [if_neg g]
    simp (disch := omega) only [fa_lit, nI_ad, nI_mul, nI_cl, inb_nI, nI_ltE, nI_leE, nI_eqE, nI_m1, nI_m1', m1_lt, lt_m1, m1_le, le_m1, eq_self, not_true_eq_false, not_false_eq_true, ↓reduceIte, leT, leF, ltT, ltF, eqT, eqF, decide_true, decide_false, true_and, and_true, Nat.reduceAdd, bI0_i, bI_i, bI_x, bV0_v, bV_v, bV_x, ↓bnd_e, gd_t, hw]
    refine XL_b (x_readSum hF hT hp hn) (fun Y => ?_) (fun p1 c1 e => ?_)
    · simp (disch := omega) only [fa_lit, nI_ad, nI_mul, nI_cl, inb_nI, nI_ltE, nI_leE, nI_eqE, nI_m1, nI_m1', m1_lt, lt_m1, m1_le, le_m1, eq_self, not_true_eq_false, not_false_eq_true, ↓reduceIte, leT, leF, ltT, ltF, eqT, eqF, decide_true, decide_false, true_and, and_true, Nat.reduceAdd, and00]
    · have q := gSum_p hp e
      by_cases k1 : tSg B t p1 60 = true
      · have hg := tSg_p k1
        have hs := x_sT (F := F) (w := -nI 1) (c := c) (n := n + c1.length) (h := exF h n c1) (s := 60) hF (by omega) hT q.2.2 k1
        have hsk := tSk_ge (B := B) (show p1 + 1 ≤ t by omega)
        rw [if_pos k1]
        simp (disch := omega) only [fa_lit, nI_ad, nI_mul, nI_cl, inb_nI, nI_ltE, nI_leE, nI_eqE, nI_m1, nI_m1', m1_lt, lt_m1, m1_le, le_m1, eq_self, not_true_eq_false, not_false_eq_true, ↓reduceIte, leT, leF, ltT, ltF, eqT, eqF, decide_true, decide_false, true_and, and_true, Nat.reduceAdd, bI0_i, bI_i, bI_x, bV0_v, bV_v, bV_x, ↓bnd_e, gd_t, hs]
        exact x_cmp hF hT (tSk_le (by omega)) (by omega) (Or.inr ⟨rfl, rfl⟩)
      · have hs := x_sF (F := F) (w := -nI 1) (c := c) (n := n + c1.length) (h := exF h n c1) (s := 60) hF (by omega) hT q.2.2 k1
        rw [if_neg k1]
        by_cases k2 : tSg B t p1 62 = true
        · have hg := tSg_p k2
          have hs2 := x_sT (F := F) (w := -nI 1) (c := c) (n := n + c1.length) (h := exF h n c1) (s := 62) hF (by omega) hT q.2.2 k2
          have hsk := tSk_ge (B := B) (show p1 + 1 ≤ t by omega)
          rw [if_pos k2]
          simp (disch := omega) only [fa_lit, nI_ad, nI_mul, nI_cl, inb_nI, nI_ltE, nI_leE, nI_eqE, nI_m1, nI_m1', m1_lt, lt_m1, m1_le, le_m1, eq_self, not_true_eq_false, not_false_eq_true, ↓reduceIte, leT, leF, ltT, ltF, eqT, eqF, decide_true, decide_false, true_and, and_true, Nat.reduceAdd, bI0_i, bI_i, bI_x, bV0_v, bV_v, bV_x, ↓bnd_e, gd_t, hs, hs2]
          exact x_cmp hF hT (tSk_le (by omega)) (by omega) (Or.inl ⟨rfl, rfl⟩)
        · have hs2 := x_sF (F := F) (w := -nI 1) (c := c) (n := n + c1.length) (h := exF h n c1) (s := 62) hF (by omega) hT q.2.2 k2
          have hr := x_refuse (S := S) (p := p1) (w := -nI 1) (c := c) (n := n + c1.length) (h := exF h n c1)
          have er : tRf (-nI 1) p1 = nI p1 := by unfold tRf; rw [if_pos rfl]
          rw [er] at hr
          rw [if_neg k2]
          refine ⟨p1, n + c1.length, exF h n c1, ?_⟩
          · simp (disch := omega) only [fa_lit, nI_ad, nI_mul, nI_cl, inb_nI, nI_ltE, nI_leE, nI_eqE, nI_m1, nI_m1', m1_lt, lt_m1, m1_le, le_m1, eq_self, not_true_eq_false, not_false_eq_true, ↓reduceIte, leT, leF, ltT, ltF, eqT, eqF, decide_true, decide_false, true_and, and_true, Nat.reduceAdd, bI0_i, bI_i, bI_x, bV0_v, bV_v, bV_x, ↓bnd_e, gd_t, hs, hs2, hr, and00]
theorem x_atC {m d : Nat} (hF : 6000 ≤ F) (hT : TB S B t) (hd : d ≤ 6) (I1 : d < 6 → XAt B t S c F m (d + 1)) (I2 : d < 6 → XAn B t S c F m (d + 1)) : XAt B t S c F (m + 1) d := by
  intro a p n h hp hn hm ha
  have ht := hT.1
  obtain ⟨a, rfl⟩ : ∃ k, a = k + 1 := ⟨a - 1, by omega⟩
  show XL S c n h (gC B t (m + 1) 0 d p) (f_X3_readAtom (fun a0 S => f_rec_X3 F a 0 a0 S) (fun a0 S => f_rec_X3 F a 1 a0 S) F (nI d) (yS S p (-nI 1) c n h)) x1K
  rw [gC_0]
  unfold f_X3_readAtom
  by_cases g1 : d < 6
  · by_cases g2 : tWl B t p = strN 15
    · have hw := x_wT (F := F) (w := -nI 1) (c := c) (n := n) (h := h) hF (by omega) hT hp g2
      have h2 := tWd_str (by omega) g2
      have h3 := tSk_ge (B := B) (tWd_le (B := B) hp)
      have h4 := tSk_le (B := B) (tWd_le (B := B) hp)
      rw [if_pos ⟨g1, g2⟩]
      simp (disch := omega) only [fa_lit, nI_ad, nI_mul, nI_cl, inb_nI, nI_ltE, nI_leE, nI_eqE, nI_m1, nI_m1', m1_lt, lt_m1, m1_le, le_m1, eq_self, not_true_eq_false, not_false_eq_true, ↓reduceIte, leT, leF, ltT, ltF, eqT, eqF, decide_true, decide_false, true_and, and_true, Nat.reduceAdd, bI0_i, bI_i, bI_x, bV0_v, bV_v, bV_x, ↓bnd_e, gd_t, hw]
      refine XL_b (I1 g1 a (tSk B t (tWd B t p)) n h h4 (by omega) (by omega) (by omega)) (fun Y => ?_) (fun p1 c1 e => ?_)
      · simp (disch := omega) only [fa_lit, nI_ad, nI_mul, nI_cl, inb_nI, nI_ltE, nI_leE, nI_eqE, nI_m1, nI_m1', m1_lt, lt_m1, m1_le, le_m1, eq_self, not_true_eq_false, not_false_eq_true, ↓reduceIte, leT, leF, ltT, ltF, eqT, eqF, decide_true, decide_false, true_and, and_true, Nat.reduceAdd, and00]
      · have q := gC_p h4 e
        have a1 := x_addCode (S := S) (p := p1) (w := -nI 1) (c := c) (n := n + c1.length) (h := exF h n c1) (v := 2000) (by omega)
        show _ = x1K (yS S p1 (-nI 1) c (n + (c1 ++ [2000]).length) (exF h n (c1 ++ [2000])))
        rw [exF_1, List.length_append, List.length_singleton]
        simp (disch := omega) only [fa_lit, nI_ad, nI_mul, nI_cl, inb_nI, nI_ltE, nI_leE, nI_eqE, nI_m1, nI_m1', m1_lt, lt_m1, m1_le, le_m1, eq_self, not_true_eq_false, not_false_eq_true, ↓reduceIte, leT, leF, ltT, ltF, eqT, eqF, decide_true, decide_false, true_and, and_true, Nat.reduceAdd, bI0_i, bI_i, bI_x, bV0_v, bV_v, bV_x, ↓bnd_e, gd_t, a1, and10, ← Nat.add_assoc]; rfl
    · have hw := x_wF (F := F) (w := -nI 1) (c := c) (n := n) (h := h) hF (by omega) hT hp g2
      rw [if_neg (fun e => g2 e.2)]
      unfold f_X3_readAtom_b42
      by_cases g3 : tSg B t p 40 = true
      · have hg := tSg_p g3
        have hs := x_sT (F := F) (w := -nI 1) (c := c) (n := n) (h := h) (s := 40) hF (by omega) hT hp g3
        have h3 := tSk_ge (B := B) (show p + 1 ≤ t by omega)
        have h4 := tSk_le (B := B) (show p + 1 ≤ t by omega)
        rw [if_pos ⟨g1, g3⟩]
        simp (disch := omega) only [fa_lit, nI_ad, nI_mul, nI_cl, inb_nI, nI_ltE, nI_leE, nI_eqE, nI_m1, nI_m1', m1_lt, lt_m1, m1_le, le_m1, eq_self, not_true_eq_false, not_false_eq_true, ↓reduceIte, leT, leF, ltT, ltF, eqT, eqF, decide_true, decide_false, true_and, and_true, Nat.reduceAdd, bI0_i, bI_i, bI_x, bV0_v, bV_v, bV_x, ↓bnd_e, gd_t, hw, hs]
        unfold f_X3_readAtom_b96 f_X3_readAtom_b92 f_X3_readAtom_b97
        refine XL_b (I2 g1 a (tSk B t (p + 1)) n h h4 (by omega) (by omega) (by omega)) (fun Y => ?_) (fun p1 c1 e => ?_)
        · simp (disch := omega) only [fa_lit, nI_ad, nI_mul, nI_cl, inb_nI, nI_ltE, nI_leE, nI_eqE, nI_m1, nI_m1', m1_lt, lt_m1, m1_le, le_m1, eq_self, not_true_eq_false, not_false_eq_true, ↓reduceIte, leT, leF, ltT, ltF, eqT, eqF, decide_true, decide_false, true_and, and_true, Nat.reduceAdd, and00]
        · have q := gC_p h4 e
          by_cases k1 : tSg B t p1 41 = true
          · have hs1 := x_sT (F := F) (w := -nI 1) (c := c) (n := n + c1.length) (h := exF h n c1) (s := 41) hF (by omega) hT q.2.1 k1
            rw [if_pos k1]
            show _ = x1K (yS S (tSk B t (p1 + 1)) (-nI 1) c (n + c1.length) (exF h n c1))
            simp (disch := omega) only [fa_lit, nI_ad, nI_mul, nI_cl, inb_nI, nI_ltE, nI_leE, nI_eqE, nI_m1, nI_m1', m1_lt, lt_m1, m1_le, le_m1, eq_self, not_true_eq_false, not_false_eq_true, ↓reduceIte, leT, leF, ltT, ltF, eqT, eqF, decide_true, decide_false, true_and, and_true, Nat.reduceAdd, bI0_i, bI_i, bI_x, bV0_v, bV_v, bV_x, ↓bnd_e, gd_t, hs1, and10]; rfl
          · have hs1 := x_sF (F := F) (w := -nI 1) (c := c) (n := n + c1.length) (h := exF h n c1) (s := 41) hF (by omega) hT q.2.1 k1
            have hr := x_refuse (S := S) (p := p1) (w := -nI 1) (c := c) (n := n + c1.length) (h := exF h n c1)
            have er : tRf (-nI 1) p1 = nI p1 := by unfold tRf; rw [if_pos rfl]
            rw [er] at hr
            rw [if_neg k1]
            refine ⟨p1, n + c1.length, exF h n c1, ?_⟩
            · simp (disch := omega) only [fa_lit, nI_ad, nI_mul, nI_cl, inb_nI, nI_ltE, nI_leE, nI_eqE, nI_m1, nI_m1', m1_lt, lt_m1, m1_le, le_m1, eq_self, not_true_eq_false, not_false_eq_true, ↓reduceIte, leT, leF, ltT, ltF, eqT, eqF, decide_true, decide_false, true_and, and_true, Nat.reduceAdd, bI0_i, bI_i, bI_x, bV0_v, bV_v, bV_x, ↓bnd_e, gd_t, hs1, hr, and00]
      · have hs := x_sF (F := F) (w := -nI 1) (c := c) (n := n) (h := h) (s := 40) hF (by omega) hT hp g3
        rw [if_neg (fun e => g3 e.2)]
        simp (disch := omega) only [fa_lit, nI_ad, nI_mul, nI_cl, inb_nI, nI_ltE, nI_leE, nI_eqE, nI_m1, nI_m1', m1_lt, lt_m1, m1_le, le_m1, eq_self, not_true_eq_false, not_false_eq_true, ↓reduceIte, leT, leF, ltT, ltF, eqT, eqF, decide_true, decide_false, true_and, and_true, Nat.reduceAdd, bI0_i, bI_i, bI_x, bV0_v, bV_v, bV_x, ↓bnd_e, gd_t, hw, hs]
        exact x_b98 hF hT hp hn
  · rw [if_neg (fun e => g1 e.1), if_neg (fun e => g1 e.1)]
    unfold f_X3_readAtom_b42
    have : d = 6 := by omega
    subst this
    simp (disch := omega) only [fa_lit, nI_ad, nI_mul, nI_cl, inb_nI, nI_ltE, nI_leE, nI_eqE, nI_m1, nI_m1', m1_lt, lt_m1, m1_le, le_m1, eq_self, not_true_eq_false, not_false_eq_true, ↓reduceIte, leT, leF, ltT, ltF, eqT, eqF, decide_true, decide_false, true_and, and_true, Nat.reduceAdd, bI0_i, bI_i, bI_x, bV0_v, bV_v, bV_x, ↓bnd_e, gd_t, Nat.le_refl]
    exact x_b98 hF hT hp hn
theorem x_andL {d a : Nat} {all : Int32} {K2 : Int32 → Int32 → mS → Option mR} {G1 : Int32 → mS → Option mR} (hF : 6000 ≤ F) (hT : TB S B t) (ha : 2 * (6 - d) + 1 ≤ a) : ∀ (m i f p n : Nat) (h : Nat → Int32), (∀ m', m' < m → XAt B t S c F m' d) → p ≤ t → n + 6 ≤ p → 5 * (t - p) + 1 < m → t - p < f → 2 * i ≤ p →
    XL S c n h (gC B t m 3 d p) (f_X3_readAny_b21 G1 (fun a0 S => f_rec_X3 F a 1 a0 S) K2 F f (nI d) all (nI i) (yS S p (-nI 1) c n h)) (fun Y => f_X3_readAny_b66 G1 (fun a0 S => f_rec_X3 F a 1 a0 S) K2 F (nI d) all Y)
  | 0, i, f, p, n, h, H, hp, hn, hm, hf, hi => absurd hm (by omega)
  | m + 1, i, f + 1, p, n, h, H, hp, hn, hm, hf, hi => by
    have ht := hT.1
    rw [gC_3, f_X3_readAny_b21]
    by_cases g : tWl B t p = strN 21
    · have hw := x_wT (F := F) (w := -nI 1) (c := c) (n := n) (h := h) hF (by omega) hT hp g
      have h2 := tWd_str (by omega) g
      have h3 := tSk_ge (B := B) (tWd_le (B := B) hp)
      have h4 := tSk_le (B := B) (tWd_le (B := B) hp)
      rw [if_pos g]
      simp (disch := omega) only [fa_lit, nI_ad, nI_mul, nI_cl, inb_nI, nI_ltE, nI_leE, nI_eqE, nI_m1, nI_m1', m1_lt, lt_m1, m1_le, le_m1, eq_self, not_true_eq_false, not_false_eq_true, ↓reduceIte, leT, leF, ltT, ltF, eqT, eqF, decide_true, decide_false, true_and, and_true, Nat.reduceAdd, bI0_i, bI_i, bI_x, bV0_v, bV_v, bV_x, ↓bnd_e, gd_t, hw]
      refine XL_b (H m (by omega) a (tSk B t (tWd B t p)) n h h4 (by omega) (by omega) ha) (fun Y => ?_) (fun p1 c1 e => ?_)
      · simp (disch := omega) only [fa_lit, nI_ad, nI_mul, nI_cl, inb_nI, nI_ltE, nI_leE, nI_eqE, nI_m1, nI_m1', m1_lt, lt_m1, m1_le, le_m1, eq_self, not_true_eq_false, not_false_eq_true, ↓reduceIte, leT, leF, ltT, ltF, eqT, eqF, decide_true, decide_false, true_and, and_true, Nat.reduceAdd, and00]
      · have q := gC_p h4 e
        have a1 := x_addCode (S := S) (p := p1) (w := -nI 1) (c := c) (n := n + c1.length) (h := exF h n c1) (v := 2001) (by omega)
        have ih := x_andL (K2 := K2) (G1 := G1) (all := all) hF hT ha m (i + 1) f p1 (n + (c1 ++ [2001]).length) (exF h n (c1 ++ [2001])) (fun m' hm' => H m' (by omega)) q.2.1 (by rw [List.length_append, List.length_singleton]; omega) (by omega) (by omega) (by omega)
        have ih2 := XL_sh ih
        have e1 : (fun (p2 : Nat) (c2 : List Nat) => (.inr (p2, (c1 ++ [2001]) ++ c2) : gR)) = (fun p2 c2 => .inr (p2, c1 ++ 2001 :: c2)) := by
          funext p2 c2; rw [List.append_assoc]; rfl
        rw [e1, exF_1, List.length_append, List.length_singleton] at ih2
        simp (disch := omega) only [fa_lit, nI_ad, nI_mul, nI_cl, inb_nI, nI_ltE, nI_leE, nI_eqE, nI_m1, nI_m1', m1_lt, lt_m1, m1_le, le_m1, eq_self, not_true_eq_false, not_false_eq_true, ↓reduceIte, leT, leF, ltT, ltF, eqT, eqF, decide_true, decide_false, true_and, and_true, Nat.reduceAdd, bI0_i, bI_i, bI_x, bV0_v, bV_v, bV_x, ↓bnd_e, gd_t, a1, Nat.add_assoc]
        exact ih2
    · have hw := x_wF (F := F) (w := -nI 1) (c := c) (n := n) (h := h) hF (by omega) hT hp g
      rw [if_neg g]
      show _ = f_X3_readAny_b66 G1 (fun a0 S => f_rec_X3 F a 1 a0 S) K2 F (nI d) all (yS S p (-nI 1) c (n + 0) h)
      simp (disch := omega) only [fa_lit, nI_ad, nI_mul, nI_cl, inb_nI, nI_ltE, nI_leE, nI_eqE, nI_m1, nI_m1', m1_lt, lt_m1, m1_le, le_m1, eq_self, not_true_eq_false, not_false_eq_true, ↓reduceIte, leT, leF, ltT, ltF, eqT, eqF, decide_true, decide_false, true_and, and_true, Nat.reduceAdd, bI0_i, bI_i, bI_x, bV0_v, bV_v, bV_x, ↓bnd_e, gd_t, hw, Nat.add_zero]
/-- one ALL, from an atom on -/
theorem x_allF {d a f all : Nat} {G1 : Int32 → mS → Option mR} (hF : 6000 ≤ F) (hT : TB S B t) (ha : 2 * (6 - d) + 1 ≤ a) (hall : all < 400) {m p n : Nat} {h : Nat → Int32} (H : ∀ m', m' < m + 1 → XAt B t S c F m' d) (hp : p ≤ t) (hn : n + 6 ≤ p) (hm : 5 * (t - p) + 1 < m) :
    XL S c n h (gC B t (m + 1) 2 d p) (f_X3_readAny_b2 G1 (fun a0 S => f_rec_X3 F a 1 a0 S) F (f + 1) (nI d) (nI all) (yS S p (-nI 1) c n h)) (fun Y => f_X3_readAny_b66 G1 (fun a0 S => f_rec_X3 F a 1 a0 S) (fun x1 x2 S => f_X3_readAny_b2 G1 (fun a0 S => f_rec_X3 F a 1 a0 S) F f x1 x2 S) F (nI d) (nI all) Y) := by
  have ht := hT.1
  rw [gC_2, f_X3_readAny_b2]
  simp (disch := omega) only [fa_lit, nI_ad, nI_mul, nI_cl, inb_nI, nI_ltE, nI_leE, nI_eqE, nI_m1, nI_m1', m1_lt, lt_m1, m1_le, le_m1, eq_self, not_true_eq_false, not_false_eq_true, ↓reduceIte, leT, leF, ltT, ltF, eqT, eqF, decide_true, decide_false, true_and, and_true, Nat.reduceAdd, bI0_i, bI_i, bI_x, bV0_v, bV_v, bV_x, ↓bnd_e, gd_t]
  refine XL_b (H m (by omega) a p n h hp hn (by omega) ha) (fun Y => ?_) (fun p1 c1 e => ?_)
  · simp (disch := omega) only [fa_lit, nI_ad, nI_mul, nI_cl, inb_nI, nI_ltE, nI_leE, nI_eqE, nI_m1, nI_m1', m1_lt, lt_m1, m1_le, le_m1, eq_self, not_true_eq_false, not_false_eq_true, ↓reduceIte, leT, leF, ltT, ltF, eqT, eqF, decide_true, decide_false, true_and, and_true, Nat.reduceAdd, and00]
  · have q := gC_p hp e
    have q2 := q.2.2 (by omega)
    have ih := x_andL (all := nI all) (K2 := fun x1 x2 S => f_X3_readAny_b2 G1 (fun a0 S => f_rec_X3 F a 1 a0 S) F f x1 x2 S) (G1 := G1) hF hT ha m 0 F p1 (n + c1.length) (exF h n c1) (fun m' hm' => H m' (by omega)) q.2.1 (by omega) (by omega) (by omega) (by omega)
    simp (disch := omega) only [fa_lit, nI_ad, nI_mul, nI_cl, inb_nI, nI_ltE, nI_leE, nI_eqE, nI_m1, nI_m1', m1_lt, lt_m1, m1_le, le_m1, eq_self, not_true_eq_false, not_false_eq_true, ↓reduceIte, leT, leF, ltT, ltF, eqT, eqF, decide_true, decide_false, true_and, and_true, Nat.reduceAdd, bI0_i, bI_i, bI_x, bV0_v, bV_v, bV_x, ↓bnd_e, gd_t]
    exact XL_sh ih
theorem x_orL {d a : Nat} {G1 : Int32 → mS → Option mR} (hF : 6000 ≤ F) (hT : TB S B t) (ha : 2 * (6 - d) + 1 ≤ a) : ∀ (m all f p n : Nat) (h : Nat → Int32), (∀ m', m' < m → XAt B t S c F m' d) → p ≤ t → n + 6 ≤ p → 5 * (t - p) + 3 < m → t - p < f → 2 * all ≤ p →
    XL S c n h (gC B t m 4 d p) (f_X3_readAny_b80 G1 (fun a0 S => f_rec_X3 F a 1 a0 S) (fun x1 x2 S => f_X3_readAny_b2 G1 (fun a0 S => f_rec_X3 F a 1 a0 S) F f x1 x2 S) F (nI d) (nI all) (yS S p (-nI 1) c n h)) x1K
  | 0, all, f, p, n, h, H, hp, hn, hm, hf, hi => absurd hm (by omega)
  | m + 1, all, f, p, n, h, H, hp, hn, hm, hf, hi => by
    have ht := hT.1
    rw [gC_4]
    unfold f_X3_readAny_b80
    by_cases g : tWl B t p = strN 22
    · have hw := x_wT (F := F) (w := -nI 1) (c := c) (n := n) (h := h) hF (by omega) hT hp g
      have h2 := tWd_str (by omega) g
      have h3 := tSk_ge (B := B) (tWd_le (B := B) hp)
      have h4 := tSk_le (B := B) (tWd_le (B := B) hp)
      obtain ⟨f, rfl⟩ : ∃ k, f = k + 1 := ⟨f - 1, by omega⟩
      obtain ⟨m, rfl⟩ : ∃ k, m = k + 1 := ⟨m - 1, by omega⟩
      rw [if_pos g]
      simp (disch := omega) only [fa_lit, nI_ad, nI_mul, nI_cl, inb_nI, nI_ltE, nI_leE, nI_eqE, nI_m1, nI_m1', m1_lt, lt_m1, m1_le, le_m1, eq_self, not_true_eq_false, not_false_eq_true, ↓reduceIte, leT, leF, ltT, ltF, eqT, eqF, decide_true, decide_false, true_and, and_true, Nat.reduceAdd, bI0_i, bI_i, bI_x, bV0_v, bV_v, bV_x, ↓bnd_e, gd_t, hw]
      refine XL_k (x_allF (f := f) (all := all + 1) (G1 := G1) hF hT ha (by omega) (fun m' hm' => H m' (by omega)) h4 (by omega) (by omega)) (fun p1 c1 e => ?_)
      have q := gC_p h4 e
      have q2 := q.2.2 (by omega)
      have a1 := x_addCode (S := S) (p := p1) (w := -nI 1) (c := c) (n := n + c1.length) (h := exF h n c1) (v := 2002) (by omega)
      have ih := x_orL (G1 := G1) hF hT ha (m + 1) (all + 1) f p1 (n + (c1 ++ [2002]).length) (exF h n (c1 ++ [2002])) (fun m' hm' => H m' (by omega)) q.2.1 (by rw [List.length_append, List.length_singleton]; omega) (by omega) (by omega) (by omega)
      have ih2 := XL_sh ih
      have e1 : (fun (p2 : Nat) (c2 : List Nat) => (.inr (p2, (c1 ++ [2002]) ++ c2) : gR)) = (fun p2 c2 => .inr (p2, c1 ++ 2002 :: c2)) := by
        funext p2 c2; rw [List.append_assoc]; rfl
      rw [e1, exF_1, List.length_append, List.length_singleton] at ih2
      unfold f_X3_readAny_b66
      simp (disch := omega) only [fa_lit, nI_ad, nI_mul, nI_cl, inb_nI, nI_ltE, nI_leE, nI_eqE, nI_m1, nI_m1', m1_lt, lt_m1, m1_le, le_m1, eq_self, not_true_eq_false, not_false_eq_true, ↓reduceIte, leT, leF, ltT, ltF, eqT, eqF, decide_true, decide_false, true_and, and_true, Nat.reduceAdd, bI0_i, bI_i, bI_x, bV0_v, bV_v, bV_x, ↓bnd_e, gd_t, a1, Nat.add_assoc]
      exact ih2
    · have hw := x_wF (F := F) (w := -nI 1) (c := c) (n := n) (h := h) hF (by omega) hT hp g
      rw [if_neg g]
      show _ = x1K (yS S p (-nI 1) c (n + 0) h)
      simp (disch := omega) only [fa_lit, nI_ad, nI_mul, nI_cl, inb_nI, nI_ltE, nI_leE, nI_eqE, nI_m1, nI_m1', m1_lt, lt_m1, m1_le, le_m1, eq_self, not_true_eq_false, not_false_eq_true, ↓reduceIte, leT, leF, ltT, ltF, eqT, eqF, decide_true, decide_false, true_and, and_true, Nat.reduceAdd, bI0_i, bI_i, bI_x, bV0_v, bV_v, bV_x, ↓bnd_e, gd_t, hw, and10, Nat.add_zero]
      rfl
theorem x_anC {m d : Nat} (hF : 6000 ≤ F) (hT : TB S B t) (H : ∀ m', m' < m + 1 → XAt B t S c F m' d) : XAn B t S c F (m + 1) d := by
  intro a p n h hp hn hm ha
  have ht := hT.1
  obtain ⟨a, rfl⟩ : ∃ k, a = k + 1 := ⟨a - 1, by omega⟩
  obtain ⟨m, rfl⟩ : ∃ k, m = k + 1 := ⟨m - 1, by omega⟩
  obtain ⟨G, hG⟩ : ∃ G, F = G + 1 := ⟨F - 1, by omega⟩
  show XL S c n h (gC B t (m + 1 + 1) 1 d p) (f_X3_readAny_b2 (fun a0 S => f_rec_X3 F a 0 a0 S) (fun a0 S => f_rec_X3 F a 1 a0 S) F F (nI d) (nI 0) (yS S p (-nI 1) c n h)) x1K
  rw [gC_1]
  have hA := x_allF (f := G) (all := 0) (G1 := fun a0 S => f_rec_X3 F a 0 a0 S) (h := h) hF hT (by omega : 2 * (6 - d) + 1 ≤ a) (by omega) (fun m' hm' => H m' (by omega)) hp hn (m := m) (by omega)
  rw [← hG] at hA
  refine XL_k hA (fun p1 c1 e => ?_)
  have q := gC_p hp e
  have q2 := q.2.2 (by omega)
  have ih := x_orL (G1 := fun a0 S => f_rec_X3 F a 0 a0 S) hF hT (by omega : 2 * (6 - d) + 1 ≤ a) (m + 1) 0 G p1 (n + c1.length) (exF h n c1) (fun m' hm' => H m' (by omega)) q.2.1 (by omega) (by omega) (by omega) (by omega)
  unfold f_X3_readAny_b66
  simp (disch := omega) only [fa_lit, nI_ad, nI_mul, nI_cl, inb_nI, nI_ltE, nI_leE, nI_eqE, nI_m1, nI_m1', m1_lt, lt_m1, m1_le, le_m1, eq_self, not_true_eq_false, not_false_eq_true, ↓reduceIte, leT, leF, ltT, ltF, eqT, eqF, decide_true, decide_false, true_and, and_true, Nat.reduceAdd, bI0_i, bI_i, bI_x, bV0_v, bV_v, bV_x, ↓bnd_e, gd_t, Nat.le_refl]
  exact XL_sh ih
theorem x_cond (hF : 6000 ≤ F) (hT : TB S B t) : ∀ m, (∀ d, d ≤ 6 → XAt B t S c F m d) ∧ ∀ d, d ≤ 6 → XAn B t S c F m d := by
  intro m
  induction m using Nat.strongRecOn with
  | ind m ih =>
    cases m with
    | zero => exact ⟨fun d _ a p n h _ _ hm _ => absurd hm (by omega), fun d _ a p n h _ _ hm _ => absurd hm (by omega)⟩
    | succ m =>
      have hA : ∀ d, d ≤ 6 → XAt B t S c F (m + 1) d := fun d hd => x_atC hF hT hd (fun g => (ih m (by omega)).1 (d + 1) (by omega)) (fun g => (ih m (by omega)).2 (d + 1) (by omega))
      exact ⟨hA, fun d hd => x_anC hF hT (fun m' hm' => (ih m' (by omega)).1 d hd)⟩
end T
