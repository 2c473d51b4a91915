/-! texts: the class reads THE ISLE -/
section T
variable {B : Nat → Nat} {t : Nat} {S : mS} {p n : Nat} {w : Int32} {c h : Nat → Int32} {F : Nat}
theorem x_rope (hF : 6000 ≤ F) (hT : TB S B t) (hp : p ≤ t) : IX S n h c (iRo B t c p) (f_X1_readRope F (yS S p (-nI 1) c n h)) := by
  have ht := hT.1
  have h1 := x_nu (F := F) (c := c) (n := n) (h := h) (lo := 1) (hi := 40) hF (by omega) (by omega) hT hp
  unfold f_X1_readRope iRo
  cases g1 : iNu B t 1 40 p with
  | inl e =>
    rw [g1] at h1
    obtain ⟨p1, hp1, h1⟩ := h1
    have he : e < 2147483648 := by rw [iNu_e g1]; omega
    by_cases g : tWl B t p1 = strN 6
    · have hw := x_wT (F := F) (w := nI e) (c := c) (n := n) (h := h) hF (by omega) hT hp1 g
      have w4 := tSk_le (B := B) (tWd_le (B := B) hp1)
      have hN := x_takeNumber (F := F) (lo := 1) (hi := 999) (w := nI e) (c := c) (n := n) (h := h) hF (by omega) (by omega) hT w4
      rw [tRf_w he] at hN
      cases gv : tN B t 1 999 (tSk B t (tWd B t p1)) with
      | none =>
        rw [gv] at hN
        refine ⟨tSk B t (tWd B t p1), ?_⟩
        simp (disch := omega) only [fa_lit, nI_ad, nI_mul, nI_cl, inb_nI, nI_ltE, nI_leE, nI_eqE, nI_m1, nI_m1', m1_lt, lt_m1, m1_le, le_m1, eq_self, not_true_eq_false, not_false_eq_true, ↓reduceIte, leT, leF, ltT, ltF, eqT, eqF, decide_true, decide_false, true_and, and_true, Nat.reduceAdd, bI0_i, bI_i, bI_x, bV0_v, bV_v, bV_x, ↓bnd_e, gd_t, h1, hw, hN, x_right_w he, and00]
      | some v =>
        rw [gv] at hN
        refine ⟨tSk B t (tE B t (tSk B t (tWd B t p1))), ?_⟩
        simp (disch := omega) only [fa_lit, nI_ad, nI_mul, nI_cl, inb_nI, nI_ltE, nI_leE, nI_eqE, nI_m1, nI_m1', m1_lt, lt_m1, m1_le, le_m1, eq_self, not_true_eq_false, not_false_eq_true, ↓reduceIte, leT, leF, ltT, ltF, eqT, eqF, decide_true, decide_false, true_and, and_true, Nat.reduceAdd, bI0_i, bI_i, bI_x, bV0_v, bV_v, bV_x, ↓bnd_e, gd_t, h1, hw, hN, x_right_w he, and00]
    · have hw := x_wF (F := F) (w := nI e) (c := c) (n := n) (h := h) hF (by omega) hT hp1 g
      have hr := x_refuse (S := S) (p := p1) (w := nI e) (c := c) (n := n) (h := h)
      rw [tRf_w he] at hr
      refine ⟨p1, ?_⟩
      simp (disch := omega) only [fa_lit, nI_ad, nI_mul, nI_cl, inb_nI, nI_ltE, nI_leE, nI_eqE, nI_m1, nI_m1', m1_lt, lt_m1, m1_le, le_m1, eq_self, not_true_eq_false, not_false_eq_true, ↓reduceIte, leT, leF, ltT, ltF, eqT, eqF, decide_true, decide_false, true_and, and_true, Nat.reduceAdd, bI0_i, bI_i, bI_x, bV0_v, bV_v, bV_x, ↓bnd_e, gd_t, h1, hw, hr, and00]
  | inr x =>
    obtain ⟨p1, f⟩ := x
    rw [g1] at h1
    have q1 := iNu_p hp g1
    show IX S n h c (iB (iNb B t 6 1 999 p1) _) _
    unfold iNb
    by_cases g : tWl B t p1 = strN 6
    · have hw := x_wT (F := F) (w := -nI 1) (c := c) (n := n) (h := h) hF (by omega) hT q1.2.1 g
      have w4 := tSk_le (B := B) (tWd_le (B := B) q1.2.1)
      have hN := x_nu (F := F) (c := c) (n := n) (h := h) (lo := 1) (hi := 999) hF (by omega) (by omega) hT w4
      rw [if_pos g]
      cases g2 : iNu B t 1 999 (tSk B t (tWd B t p1)) with
      | inl e =>
        rw [g2] at hN
        obtain ⟨p2, hp2, h2⟩ := hN
        have he : e < 2147483648 := by rw [iNu_e g2]; omega
        refine ⟨p2, ?_⟩
        simp (disch := omega) only [fa_lit, nI_ad, nI_mul, nI_cl, inb_nI, nI_ltE, nI_leE, nI_eqE, nI_m1, nI_m1', m1_lt, lt_m1, m1_le, le_m1, eq_self, not_true_eq_false, not_false_eq_true, ↓reduceIte, leT, leF, ltT, ltF, eqT, eqF, decide_true, decide_false, true_and, and_true, Nat.reduceAdd, bI0_i, bI_i, bI_x, bV0_v, bV_v, bV_x, ↓bnd_e, gd_t, h1, hw, h2, x_right_w he, and00]
      | inr x =>
        obtain ⟨p2, r⟩ := x
        rw [g2] at hN
        show _ = (some (.inl (some (.int (nI 1))), yS S p2 (-nI 1) (upd (upd (upd c 0 (nI f)) 2 (nI r)) 1 (nI 0)) n h) : Option mR)
        simp (disch := omega) only [fa_lit, nI_ad, nI_mul, nI_cl, inb_nI, nI_ltE, nI_leE, nI_eqE, nI_m1, nI_m1', m1_lt, lt_m1, m1_le, le_m1, eq_self, not_true_eq_false, not_false_eq_true, ↓reduceIte, leT, leF, ltT, ltF, eqT, eqF, decide_true, decide_false, true_and, and_true, Nat.reduceAdd, bI0_i, bI_i, bI_x, bV0_v, bV_v, bV_x, ↓bnd_e, gd_t, h1, hw, hN, x_right, x_put, y_27, y_u27, and10]
    · have hw := x_wF (F := F) (w := -nI 1) (c := c) (n := n) (h := h) hF (by omega) hT q1.2.1 g
      have hr := x_refuse (S := S) (p := p1) (w := -nI 1) (c := c) (n := n) (h := h)
      have er : tRf (-nI 1) p1 = nI p1 := by unfold tRf; rw [if_pos rfl]
      rw [er] at hr
      rw [if_neg g]
      refine ⟨p1, ?_⟩
      simp (disch := omega) only [fa_lit, nI_ad, nI_mul, nI_cl, inb_nI, nI_ltE, nI_leE, nI_eqE, nI_m1, nI_m1', m1_lt, lt_m1, m1_le, le_m1, eq_self, not_true_eq_false, not_false_eq_true, ↓reduceIte, leT, leF, ltT, ltF, eqT, eqF, decide_true, decide_false, true_and, and_true, Nat.reduceAdd, bI0_i, bI_i, bI_x, bV0_v, bV_v, bV_x, ↓bnd_e, gd_t, h1, hw, hr, and00]
theorem x_holder {a : Nat} (hF : 6000 ≤ F) (hT : TB S B t) (hp : p ≤ t) (ha : a < 6) (ea : c 13 = nI a) : IX S n h c (iHo B t c p) (f_X1_readHolder F (yS S p (-nI 1) c n h)) := by
  have ca : (c 13).toNatClampNeg = a := by rw [ea, nI_cl (by omega)]
  have h1 := x_nu (F := F) (c := c) (n := n) (h := h) (lo := 1) (hi := 9) hF (by omega) (by omega) hT hp
  unfold f_X1_readHolder iHo
  cases g1 : iNu B t 1 9 p with
  | inl e =>
    rw [g1] at h1
    obtain ⟨p1, hp1, h1⟩ := h1
    refine ⟨p1, ?_⟩
    simp (disch := omega) only [fa_lit, nI_ad, nI_mul, nI_cl, inb_nI, nI_ltE, nI_leE, nI_eqE, nI_m1, nI_m1', m1_lt, lt_m1, m1_le, le_m1, eq_self, not_true_eq_false, not_false_eq_true, ↓reduceIte, leT, leF, ltT, ltF, eqT, eqF, decide_true, decide_false, true_and, and_true, Nat.reduceAdd, bI0_i, bI_i, bI_x, bV0_v, bV_v, bV_x, ↓bnd_e, gd_t, h1, and00]
  | inr x =>
    obtain ⟨p1, f⟩ := x
    rw [g1] at h1
    have q1 := iNu_p hp g1
    show _ = (some (.inl (some (.int (nI 1))), yS S p1 (-nI 1) (upd (upd (upd c (66 + (c 13).toNatClampNeg * 2 + 0) (nI f)) (66 + (c 13).toNatClampNeg * 2 + 1) (nI 0)) 13 (nI ((c 13).toNatClampNeg + 1))) n h) : Option mR)
    rw [ca]
    simp (disch := omega) only [fa_lit, nI_ad, nI_mul, nI_cl, inb_nI, nI_ltE, nI_leE, nI_eqE, nI_m1, nI_m1', m1_lt, lt_m1, m1_le, le_m1, eq_self, not_true_eq_false, not_false_eq_true, ↓reduceIte, leT, leF, ltT, ltF, eqT, eqF, decide_true, decide_false, true_and, and_true, Nat.reduceAdd, bI0_i, bI_i, bI_x, bV0_v, bV_v, bV_x, ↓bnd_e, gd_t, h1, x_at, x_putHolder, x_add, y_27, y_u27, ea, upd_n, and10]
theorem x_climber {a : Nat} (hF : 6000 ≤ F) (hT : TB S B t) (hp : p ≤ t) (ha : a < 4) (ea : c 14 = nI a) : IX S n h c (iKl B t c p) (f_X1_readClimber F (yS S p (-nI 1) c n h)) := by
  have ca : (c 14).toNatClampNeg = a := by rw [ea, nI_cl (by omega)]
  have h1 := x_nu (F := F) (c := c) (n := n) (h := h) (lo := 1) (hi := 20) hF (by omega) (by omega) hT hp
  unfold f_X1_readClimber iKl
  cases g1 : iNu B t 1 20 p with
  | inl e =>
    rw [g1] at h1
    obtain ⟨p1, hp1, h1⟩ := h1
    refine ⟨p1, ?_⟩
    simp (disch := omega) only [fa_lit, nI_ad, nI_mul, nI_cl, inb_nI, nI_ltE, nI_leE, nI_eqE, nI_m1, nI_m1', m1_lt, lt_m1, m1_le, le_m1, eq_self, not_true_eq_false, not_false_eq_true, ↓reduceIte, leT, leF, ltT, ltF, eqT, eqF, decide_true, decide_false, true_and, and_true, Nat.reduceAdd, bI0_i, bI_i, bI_x, bV0_v, bV_v, bV_x, ↓bnd_e, gd_t, h1, and00]
  | inr x =>
    obtain ⟨p1, f⟩ := x
    rw [g1] at h1
    have q1 := iNu_p hp g1
    show _ = (some (.inl (some (.int (nI 1))), yS S p1 (-nI 1) (upd (upd (upd c (78 + (c 14).toNatClampNeg * 2 + 0) (nI f)) (78 + (c 14).toNatClampNeg * 2 + 1) (nI 0)) 14 (nI ((c 14).toNatClampNeg + 1))) n h) : Option mR)
    rw [ca]
    simp (disch := omega) only [fa_lit, nI_ad, nI_mul, nI_cl, inb_nI, nI_ltE, nI_leE, nI_eqE, nI_m1, nI_m1', m1_lt, lt_m1, m1_le, le_m1, eq_self, not_true_eq_false, not_false_eq_true, ↓reduceIte, leT, leF, ltT, ltF, eqT, eqF, decide_true, decide_false, true_and, and_true, Nat.reduceAdd, bI0_i, bI_i, bI_x, bV0_v, bV_v, bV_x, ↓bnd_e, gd_t, h1, x_at, x_putClimber, x_add, y_27, y_u27, ea, upd_n, and10]
theorem x_chance {k : Nat} (hF : 6000 ≤ F) (hk : k < 446) (hT : TB S B t) (hp : p ≤ t) : IX S n h c (iCh B t k c p) (f_X1_readChance F (nI k) (yS S p (-nI 1) c n h)) := by
  have h1 := x_nu (F := F) (c := c) (n := n) (h := h) (lo := 0) (hi := 100) hF (by omega) (by omega) hT hp
  unfold f_X1_readChance iCh
  cases g1 : iNu B t 0 100 p with
  | inl e =>
    rw [g1] at h1
    obtain ⟨p1, hp1, h1⟩ := h1
    refine ⟨p1, ?_⟩
    simp (disch := omega) only [fa_lit, nI_ad, nI_mul, nI_cl, inb_nI, nI_ltE, nI_leE, nI_eqE, nI_m1, nI_m1', m1_lt, lt_m1, m1_le, le_m1, eq_self, not_true_eq_false, not_false_eq_true, ↓reduceIte, leT, leF, ltT, ltF, eqT, eqF, decide_true, decide_false, true_and, and_true, Nat.reduceAdd, bI0_i, bI_i, bI_x, bV0_v, bV_v, bV_x, ↓bnd_e, gd_t, h1, and00]
  | inr x =>
    obtain ⟨p1, f⟩ := x
    rw [g1] at h1
    have q1 := iNu_p hp g1
    show _ = (some (.inl (some (.int (nI 1))), yS S p1 (-nI 1) (upd c k (nI f)) n h) : Option mR)
    simp (disch := omega) only [fa_lit, nI_ad, nI_mul, nI_cl, inb_nI, nI_ltE, nI_leE, nI_eqE, nI_m1, nI_m1', m1_lt, lt_m1, m1_le, le_m1, eq_self, not_true_eq_false, not_false_eq_true, ↓reduceIte, leT, leF, ltT, ltF, eqT, eqF, decide_true, decide_false, true_and, and_true, Nat.reduceAdd, bI0_i, bI_i, bI_x, bV0_v, bV_v, bV_x, ↓bnd_e, gd_t, h1, x_put, y_27, y_u27, and10]
theorem IX_b {r : Nat ⊕ (Nat × (Nat → Int32))} {o : Option mR} (g : IX S n h c r o) : IX S n h c r (bI0 o (fun r S => some (.inl (some (.int (r &&& 1))), S))) := by
  match r, g with
  | .inl e, g =>
    obtain ⟨p', e2⟩ := g
    exact ⟨p', by rw [e2, bI0_i]; rfl⟩
  | .inr (p', c'), g =>
    have g : o = some (.inl (some (.int (nI 1))), yS S p' (-nI 1) c' n h) := g
    show _ = (some (.inl (some (.int (nI 1))), yS S p' (-nI 1) c' n h) : Option mR)
    rw [g, bI0_i]; rfl
theorem x_b109 (hF : 6000 ≤ F) (hT : TB S B t) (hp : p ≤ t) : IX S n h c (if tWl B t p = strN 9 then iCh B t 5 c (tSk B t (tWd B t p)) else if tWl B t p = strN 10 then iCh B t 6 c (tSk B t (tWd B t p)) else .inl p) (f_X1_readLine_b109 F (yS S p (-nI 1) c n h)) := by
  have w4 := tSk_le (B := B) (tWd_le (B := B) hp)
  unfold f_X1_readLine_b109
  by_cases g9 : tWl B t p = strN 9
  · have h9 := x_wT (F := F) (w := -nI 1) (c := c) (n := n) (h := h) hF (by omega) hT hp g9
    rw [if_pos g9, h9, bIz1]
    exact IX_b (x_chance hF (by omega) hT w4)
  · have h9 := x_wF (F := F) (w := -nI 1) (c := c) (n := n) (h := h) hF (by omega) hT hp g9
    rw [if_neg g9, h9, bIz0]
    by_cases g10 : tWl B t p = strN 10
    · have h10 := x_wT (F := F) (w := -nI 1) (c := c) (n := n) (h := h) hF (by omega) hT hp g10
      rw [if_pos g10, h10, bIz1]
      exact IX_b (x_chance hF (by omega) hT w4)
    · have h10 := x_wF (F := F) (w := -nI 1) (c := c) (n := n) (h := h) hF (by omega) hT hp g10
      have hr := x_refuse (S := S) (p := p) (w := -nI 1) (c := c) (n := n) (h := h)
      have er : tRf (-nI 1) p = nI p := by unfold tRf; rw [if_pos rfl]
      rw [er] at hr
      rw [if_neg g10, h10, bIz0]
      exact ⟨p, by rw [hr, bI0_i]; rfl⟩
theorem sw_other {p a b : Nat} (ha : a < 23) (hb : b < 23) (h : tWl B t p = strN a) (hn : ¬ a = b) : ¬ tWl B t p = strN b := by
  intro e
  have := sw_ne ha hb
  rw [← h, decide_eq_true e] at this
  exact hn (of_decide_eq_true this.symm)
theorem x_b79 {a : Nat} (hF : 6000 ≤ F) (hT : TB S B t) (hp : p ≤ t) (ha : a ≤ 4) (ea : c 14 = nI a) : IX S n h c (if tWl B t p = strN 8 then (if (c 14).toNatClampNeg = 4 then .inl p else iKl B t c (tSk B t (tWd B t p))) else if tWl B t p = strN 9 then iCh B t 5 c (tSk B t (tWd B t p)) else if tWl B t p = strN 10 then iCh B t 6 c (tSk B t (tWd B t p)) else .inl p) (f_X1_readLine_b79 F (yS S p (-nI 1) c n h)) := by
  have w4 := tSk_le (B := B) (tWd_le (B := B) hp)
  have ca : (c 14).toNatClampNeg = a := by rw [ea, nI_cl (by omega)]
  have hb := x_b109 (F := F) (c := c) (n := n) (h := h) hF hT hp
  have hat : f_X0_at 26 ((14 : Int32)) (yS S p (-nI 1) c n h) = some (.inl (some (.int (nI a))), yS S p (-nI 1) c n h) := by
    have := x_at (u := 26) (k := 14) (S := yS S p (-nI 1) c n h) (by omega)
    rw [show (yS S p (-nI 1) c n h) (26 + 1) 14 = nI a from ea] at this; exact this
  unfold f_X1_readLine_b79
  rw [hat, bI0_i, ca]
  by_cases g4 : a = 4
  · rw [if_pos (show (4 : Int32) ≤ nI a by rw [g4]; decide)]
    by_cases g8 : tWl B t p = strN 8
    · rw [if_pos g8, if_pos g4]
      rw [if_neg (sw_other (by omega) (by omega) g8 (by omega)), if_neg (sw_other (by omega) (by omega) g8 (by omega))] at hb
      exact hb
    · rw [if_neg g8]; exact hb
  · have : ¬ (4 : Int32) ≤ nI a := by
      show ¬ nI 4 ≤ nI a
      rw [nI_leE (by omega) (by omega)]; omega
    rw [if_neg this]
    by_cases g8 : tWl B t p = strN 8
    · have h8 := x_wT (F := F) (w := -nI 1) (c := c) (n := n) (h := h) hF (by omega) hT hp g8
      rw [if_pos g8, if_neg g4, h8, bIz1]
      exact IX_b (x_climber hF hT w4 (by omega) ea)
    · have h8 := x_wF (F := F) (w := -nI 1) (c := c) (n := n) (h := h) hF (by omega) hT hp g8
      rw [if_neg g8, h8, bIz0]; exact hb
theorem x_b31 {a b : Nat} (hF : 6000 ≤ F) (hT : TB S B t) (hp : p ≤ t) (ha : a ≤ 4) (ea : c 14 = nI a) (hb6 : b ≤ 6) (eb : c 13 = nI b) : IX S n h c (if tWl B t p = strN 5 then iRo B t c (tSk B t (tWd B t p)) else if tWl B t p = strN 7 then (if (c 13).toNatClampNeg = 6 then .inl p else iHo B t c (tSk B t (tWd B t p))) else if tWl B t p = strN 8 then (if (c 14).toNatClampNeg = 4 then .inl p else iKl B t c (tSk B t (tWd B t p))) else if tWl B t p = strN 9 then iCh B t 5 c (tSk B t (tWd B t p)) else if tWl B t p = strN 10 then iCh B t 6 c (tSk B t (tWd B t p)) else .inl p) (f_X1_readLine_b31 F (yS S p (-nI 1) c n h)) := by
  have w4 := tSk_le (B := B) (tWd_le (B := B) hp)
  have cb : (c 13).toNatClampNeg = b := by rw [eb, nI_cl (by omega)]
  have hb := x_b79 (F := F) (c := c) (n := n) (h := h) hF hT hp ha ea
  have hat : f_X0_at 26 ((13 : Int32)) (yS S p (-nI 1) c n h) = some (.inl (some (.int (nI b))), yS S p (-nI 1) c n h) := by
    have := x_at (u := 26) (k := 13) (S := yS S p (-nI 1) c n h) (by omega)
    rw [show (yS S p (-nI 1) c n h) (26 + 1) 13 = nI b from eb] at this; exact this
  unfold f_X1_readLine_b31
  rw [cb]
  by_cases g5 : tWl B t p = strN 5
  · have h5 := x_wT (F := F) (w := -nI 1) (c := c) (n := n) (h := h) hF (by omega) hT hp g5
    rw [if_pos g5, h5, bIz1]
    exact IX_b (x_rope hF hT w4)
  · have h5 := x_wF (F := F) (w := -nI 1) (c := c) (n := n) (h := h) hF (by omega) hT hp g5
    rw [if_neg g5, h5, bIz0, hat, bI0_i]
    by_cases g6 : b = 6
    · rw [if_pos (show (6 : Int32) ≤ nI b by rw [g6]; decide)]
      by_cases g7 : tWl B t p = strN 7
      · rw [if_pos g7, if_pos g6]
        rw [if_neg (sw_other (by omega) (by omega) g7 (by omega)), if_neg (sw_other (by omega) (by omega) g7 (by omega)), if_neg (sw_other (by omega) (by omega) g7 (by omega))] at hb
        exact hb
      · rw [if_neg g7]; exact hb
    · have : ¬ (6 : Int32) ≤ nI b := by
        show ¬ nI 6 ≤ nI b
        rw [nI_leE (by omega) (by omega)]; omega
      rw [if_neg this]
      by_cases g7 : tWl B t p = strN 7
      · have h7 := x_wT (F := F) (w := -nI 1) (c := c) (n := n) (h := h) hF (by omega) hT hp g7
        rw [if_pos g7, if_neg g6, h7, bIz1]
        exact IX_b (x_holder hF hT w4 (by omega) eb)
      · have h7 := x_wF (F := F) (w := -nI 1) (c := c) (n := n) (h := h) hF (by omega) hT hp g7
        rw [if_neg g7, h7, bIz0]; exact hb
theorem x_isleLine (hF : 6000 ≤ F) (hT : TB S B t) (hp : p ≤ t) (hR : Rg c) : IX S n h c (iLn B t c p) (f_X1_readLine F (yS S p (-nI 1) c n h)) := by
  obtain ⟨l, hl, el⟩ := hR.n12
  obtain ⟨b, hb6, eb⟩ := hR.n13
  obtain ⟨a, ha, ea⟩ := hR.n14
  have w4 := tSk_le (B := B) (tWd_le (B := B) hp)
  have cl : (c 12).toNatClampNeg = l := by rw [el, nI_cl (by omega)]
  have hb := x_b31 (F := F) (c := c) (n := n) (h := h) hF hT hp ha ea hb6 eb
  have hat : f_X0_at 26 ((12 : Int32)) (yS S p (-nI 1) c n h) = some (.inl (some (.int (nI l))), yS S p (-nI 1) c n h) := by
    have := x_at (u := 26) (k := 12) (S := yS S p (-nI 1) c n h) (by omega)
    rw [show (yS S p (-nI 1) c n h) (26 + 1) 12 = nI l from el] at this; exact this
  unfold f_X1_readLine iLn
  rw [hat, bI0_i, cl]
  by_cases g10 : l = 10
  · rw [if_pos (show (10 : Int32) ≤ nI l by rw [g10]; decide)]
    by_cases g0 : tWl B t p = strN 0
    · rw [if_pos g0, if_pos g10]
      rw [if_neg (sw_other (by omega) (by omega) g0 (by omega)), if_neg (sw_other (by omega) (by omega) g0 (by omega)), if_neg (sw_other (by omega) (by omega) g0 (by omega)), if_neg (sw_other (by omega) (by omega) g0 (by omega)), if_neg (sw_other (by omega) (by omega) g0 (by omega))] at hb
      exact hb
    · rw [if_neg g0]; exact hb
  · have : ¬ (10 : Int32) ≤ nI l := by
      show ¬ nI 10 ≤ nI l
      rw [nI_leE (by omega) (by omega)]; omega
    rw [if_neg this]
    by_cases g0 : tWl B t p = strN 0
    · have h0 := x_wT (F := F) (w := -nI 1) (c := c) (n := n) (h := h) hF (by omega) hT hp g0
      rw [if_pos g0, if_neg g10, h0, bIz1]
      exact IX_b (x_ledge hF hT w4 (by omega) el)
    · have h0 := x_wF (F := F) (w := -nI 1) (c := c) (n := n) (h := h) hF (by omega) hT hp g0
      rw [if_neg g0, h0, bIz0]; exact hb
end T
def iLs (B : Nat → Nat) (t : Nat) : Nat → (Nat → Int32) → Nat → Nat ⊕ (Nat → Int32)
  | 0, _, p => .inl p
  | m + 1, c, p => match iLn B t c p with
    | .inl e => .inl e
    | .inr (p1, c1) => if p1 = t then .inr c1 else if tSg B t p1 59 = true then iLs B t m c1 (tSk B t (p1 + 1)) else .inl p1
def iAll (B : Nat → Nat) (t : Nat) (c : Nat → Int32) : Nat ⊕ (Nat → Int32) := if tSk B t 0 = t then .inr c else iLs B t 14 c (tSk B t 0)
section T
variable {B : Nat → Nat} {t : Nat} {S : mS} {n : Nat} {h : Nat → Int32} {F : Nat}
theorem iLs_p : ∀ {m p : Nat} {c c' : Nat → Int32}, p ≤ t → Rg c → Az c → iLs B t m c p = .inr c' → Rg c' ∧ Az c' ∧ c' 11 = c 11
  | 0, _, _, _, _, _, _, h => by cases h
  | m + 1, p, c, c', hp, hR, hz, h => by
    rw [iLs] at h
    split at h
    · cases h
    · rename_i p1 c1 hl
      have q := iLn_p hp hR hz hl
      split at h
      · cases h; exact q.2.2
      · split at h
        · rename_i g
          have hg := tSg_p g
          have ih := iLs_p (tSk_le (by omega)) q.2.2.1 q.2.2.2.1 h
          exact ⟨ih.1, ih.2.1, by rw [ih.2.2, q.2.2.2.2]⟩
        · cases h
theorem iAll_p {c c' : Nat → Int32} (hR : Rg c) (hz : Az c) (h : iAll B t c = .inr c') : Rg c' ∧ Az c' ∧ c' 11 = c 11 := by
  unfold iAll at h
  split at h
  · cases h; exact ⟨hR, hz, rfl⟩
  · exact iLs_p (tSk_le (Nat.zero_le t)) hR hz h
theorem x_isleLines (hF : 6000 ≤ F) (hT : TB S B t) : ∀ (m p : Nat) (c : Nat → Int32) (i f : Nat), p ≤ t → i + m = 14 → m < f → Rg c → Az c →
    (match iLs B t m c p with
    | .inr c' => ∃ p', f_X4_readLines_30_b21 F f (nI 14) (nI i) (yS S p (-nI 1) c n h) = some (.inl (some (.int (nI 1))), yS S p' (-nI 1) c' n h)
    | .inl e => ∃ p' c', zb c' ∧ f_X4_readLines_30_b21 F f (nI 14) (nI i) (yS S p (-nI 1) c n h) = some (.inl (some (.int (nI 0))), yS S p' (nI e) c' n h))
  | 0, p, c, i, f + 1, hp, hi, hf, hR, hz => by
    have ei : i = 14 := by omega
    have hr := x_refuse (S := S) (p := p) (w := -nI 1) (c := c) (n := n) (h := h)
    have er : tRf (-nI 1) p = nI p := by unfold tRf; rw [if_pos rfl]
    rw [er] at hr
    rw [iLs, f_X4_readLines_30_b21, ei]
    refine ⟨p, c, hR.2, ?_⟩
    simp (disch := omega) only [fa_lit, nI_ad, nI_mul, nI_cl, inb_nI, nI_ltE, nI_leE, nI_eqE, nI_m1, nI_m1', m1_lt, lt_m1, m1_le, le_m1, eq_self, not_true_eq_false, not_false_eq_true, ↓reduceIte, leT, leF, ltT, ltF, eqT, eqF, decide_true, decide_false, true_and, and_true, Nat.reduceAdd, bI0_i, bI_i, bI_x, bV0_v, bV_v, bV_x, ↓bnd_e, gd_t, Nat.le_refl, hr, and00]
  | m + 1, p, c, i, f + 1, hp, hi, hf, hR, hz => by
    have hl := x_isleLine (F := F) (n := n) (h := h) hF hT hp hR
    rw [iLs, f_X4_readLines_30_b21]
    cases gl : iLn B t c p with
    | inl e =>
      rw [gl] at hl
      obtain ⟨p', e2⟩ := hl
      refine ⟨p', c, hR.2, ?_⟩
      simp (disch := omega) only [fa_lit, nI_ad, nI_mul, nI_cl, inb_nI, nI_ltE, nI_leE, nI_eqE, nI_m1, nI_m1', m1_lt, lt_m1, m1_le, le_m1, eq_self, not_true_eq_false, not_false_eq_true, ↓reduceIte, leT, leF, ltT, ltF, eqT, eqF, decide_true, decide_false, true_and, and_true, Nat.reduceAdd, bI0_i, bI_i, bI_x, bV0_v, bV_v, bV_x, ↓bnd_e, gd_t, e2, and00]
    | inr x =>
      obtain ⟨p1, c1⟩ := x
      rw [gl] at hl
      have hl : f_X1_readLine F (yS S p (-nI 1) c n h) = some (.inl (some (.int (nI 1))), yS S p1 (-nI 1) c1 n h) := hl
      have q := iLn_p hp hR hz gl
      have hE := x_atEnd (w := -nI 1) (c := c1) (n := n) (h := h) hT q.2.1
      dsimp only
      by_cases g1 : p1 = t
      · rw [if_pos g1]
        rw [decide_eq_true g1] at hE
        refine ⟨p1, ?_⟩
        simp (disch := omega) only [fa_lit, nI_ad, nI_mul, nI_cl, inb_nI, nI_ltE, nI_leE, nI_eqE, nI_m1, nI_m1', m1_lt, lt_m1, m1_le, le_m1, eq_self, not_true_eq_false, not_false_eq_true, ↓reduceIte, leT, leF, ltT, ltF, eqT, eqF, decide_true, decide_false, true_and, and_true, Nat.reduceAdd, bI0_i, bI_i, bI_x, bV0_v, bV_v, bV_x, ↓bnd_e, gd_t, hl, hE, bT, and10]
      · rw [if_neg g1]
        rw [decide_eq_false g1] at hE
        by_cases g2 : tSg B t p1 59 = true
        · have hg := tSg_p g2
          have hs := x_sT (F := F) (w := -nI 1) (c := c1) (n := n) (h := h) (s := 59) hF (by omega) hT q.2.1 g2
          have ih := x_isleLines hF hT m (tSk B t (p1 + 1)) c1 (i + 1) f (tSk_le (by omega)) (by omega) (by omega) q.2.2.1 q.2.2.2.1
          rw [if_pos g2]
          have e2 : (if (nI 14) ≤ (nI i) then bI0 (f_X8_refuse (yS S p (-nI 1) c n h)) (fun r5 S4 => some (.inl (some (.int (r5 &&& nI 1))), S4)) else bI0 (f_X1_readLine F (yS S p (-nI 1) c n h)) (fun r7 S6 => (if ¬ r7 = nI 0 then bI0 (f_X8_isAtEnd S6) (fun r9 S8 => (if r9 = nI 0 then bI0 (f_X8_takesSign F (nI 59) S8) (fun r11 S10 => (if ¬ r11 = nI 0 then f_X4_readLines_30_b21 F f (nI 14) (nI i + nI 1) S10 else bI0 (f_X8_refuse S10) (fun r13 S12 => some (.inl (some (.int (r13 &&& nI 1))), S12)))) else some (.inl (some (.int (nI 1 &&& nI 1))), S8))) else some (.inl (some (.int (nI 0 &&& nI 1))), S6)))) = f_X4_readLines_30_b21 F f (nI 14) (nI (i + 1)) (yS S (tSk B t (p1 + 1)) (-nI 1) c1 n h) := by
            simp (disch := omega) only [fa_lit, nI_ad, nI_mul, nI_cl, inb_nI, nI_ltE, nI_leE, nI_eqE, nI_m1, nI_m1', m1_lt, lt_m1, m1_le, le_m1, eq_self, not_true_eq_false, not_false_eq_true, ↓reduceIte, leT, leF, ltT, ltF, eqT, eqF, decide_true, decide_false, true_and, and_true, Nat.reduceAdd, bI0_i, bI_i, bI_x, bV0_v, bV_v, bV_x, ↓bnd_e, gd_t, hl, hE, bF, hs]
          cases gs : iLs B t m c1 (tSk B t (p1 + 1)) with
          | inl e =>
            rw [gs] at ih
            obtain ⟨p2, c2, z2, e3⟩ := ih
            exact ⟨p2, c2, z2, e2.trans e3⟩
          | inr c2 =>
            rw [gs] at ih
            obtain ⟨p2, e3⟩ := ih
            exact ⟨p2, e2.trans e3⟩
        · have hs := x_sF (F := F) (w := -nI 1) (c := c1) (n := n) (h := h) (s := 59) hF (by omega) hT q.2.1 g2
          have hr := x_refuse (S := S) (p := p1) (w := -nI 1) (c := c1) (n := n) (h := h)
          have er : tRf (-nI 1) p1 = nI p1 := by unfold tRf; rw [if_pos rfl]
          rw [er] at hr
          rw [if_neg g2]
          refine ⟨p1, c1, q.2.2.1.2, ?_⟩
          simp (disch := omega) only [fa_lit, nI_ad, nI_mul, nI_cl, inb_nI, nI_ltE, nI_leE, nI_eqE, nI_m1, nI_m1', m1_lt, lt_m1, m1_le, le_m1, eq_self, not_true_eq_false, not_false_eq_true, ↓reduceIte, leT, leF, ltT, ltF, eqT, eqF, decide_true, decide_false, true_and, and_true, Nat.reduceAdd, bI0_i, bI_i, bI_x, bV0_v, bV_v, bV_x, ↓bnd_e, gd_t, hl, hE, bF, hs, hr, and00]
theorem x_isleAll (hF : 6000 ≤ F) (hT : TB S B t) (hR : Rg (S 27)) (hz : Az (S 27)) : (match iAll B t (S 27) with
    | .inr c' => ∃ p' n', f_X4_readLines_30 F (nI 14) S = some (.inl (some (.int (nI 1))), yS S p' (-nI 1) c' n' (S 14)) ∧ nI n' = S 10 7
    | .inl e => ∃ p' n' c', zb c' ∧ f_X4_readLines_30 F (nI 14) S = some (.inl (some (.int (nI 0))), yS S p' (nI e) c' n' (S 14)) ∧ nI n' = S 10 7) := by
  have ht := hT.1
  generalize hn : (S 10 7).toBitVec.toNat = n0
  have hn7 : nI n0 = S 10 7 := by
    rw [← hn]
    apply Int32.toBitVec_inj.1
    show BitVec.ofNat 32 _ = _
    rw [BitVec.ofNat_toNat, BitVec.setWidth_eq]
  have hb : f_X8_begin F S = some (.inl none, yS S (tSk B t 0) (-nI 1) (S 27) n0 (S 14)) := by
    have h0 := x_moveL (F := F) (w := -nI 1) (c := S 27) (n := n0) (h := S 14) hT (t - 0) 0 F rfl (by omega) (by omega)
    unfold f_X8_begin f_X8_moveTo
    rw [bnd_e, bnd_e, show upS (upS S 1 3 (-1 : Int32)) 1 2 (0 : Int32) = yS S 0 (-nI 1) (S 27) n0 (S 14) from by rw [← hn]; exact y_begin2, h0, bV0_v]
  have hp := tSk_le (B := B) (Nat.zero_le t)
  have hE := x_atEnd (w := -nI 1) (c := S 27) (n := n0) (h := S 14) hT hp
  unfold f_X4_readLines_30 iAll
  rw [hb, bV0_v]
  by_cases g : tSk B t 0 = t
  · rw [if_pos g]
    rw [decide_eq_true g] at hE
    refine ⟨tSk B t 0, n0, ?_, hn7⟩
    rw [hE, bT, bIz1]; rfl
  · rw [if_neg g]
    rw [decide_eq_false g] at hE
    have hl := x_isleLines (F := F) (n := n0) (h := S 14) hF hT 14 (tSk B t 0) (S 27) 0 F hp rfl (by omega) hR hz
    rw [hE, bF, bIz0]
    cases gs : iLs B t 14 (S 27) (tSk B t 0) with
    | inl e =>
      rw [gs] at hl
      obtain ⟨p2, c2, z2, e3⟩ := hl
      exact ⟨p2, n0, c2, z2, e3, hn7⟩
    | inr c2 =>
      rw [gs] at hl
      obtain ⟨p2, e3⟩ := hl
      exact ⟨p2, n0, e3, hn7⟩
end T
