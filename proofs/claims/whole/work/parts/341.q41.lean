/-! texts: the class reads THE LAW's conditions -/
section T
variable {B : Nat → Nat} {t : Nat} {S : mS} {p n : Nat} {w : Int32} {c h : Nat → Int32} {F : Nat}
theorem x_wT {k : Nat} (hF : 6000 ≤ F) (hk : k < 23) (hT : TB S B t) (hp : p ≤ t) (e : tWl B t p = strN k) : f_X8_takesWord F k (yS S p w c n h) = some (.inl (some (.int (nI 1))), yS S (tSk B t (tWd B t p)) w c n h) := by
  have := x_takesWord (F := F) (w := w) (c := c) (n := n) (h := h) hF hk hT hp
  rw [decide_eq_true e, if_pos e, bT] at this; exact this
theorem x_wF {k : Nat} (hF : 6000 ≤ F) (hk : k < 23) (hT : TB S B t) (hp : p ≤ t) (e : ¬ tWl B t p = strN k) : f_X8_takesWord F k (yS S p w c n h) = some (.inl (some (.int (nI 0))), yS S p w c n h) := by
  have := x_takesWord (F := F) (w := w) (c := c) (n := n) (h := h) hF hk hT hp
  rw [decide_eq_false e, if_neg e, bF] at this; exact this
theorem x_sT {s : Nat} (hF : 6000 ≤ F) (hs : s < 256) (hT : TB S B t) (hp : p ≤ t) (e : tSg B t p s = true) : f_X8_takesSign F (nI s) (yS S p w c n h) = some (.inl (some (.int (nI 1))), yS S (tSk B t (p + 1)) w c n h) := by
  have := x_takesSign (F := F) (w := w) (c := c) (n := n) (h := h) hF hs hT hp
  rw [e, if_pos rfl, bT] at this; exact this
theorem x_sF {s : Nat} (hF : 6000 ≤ F) (hs : s < 256) (hT : TB S B t) (hp : p ≤ t) (e : ¬ tSg B t p s = true) : f_X8_takesSign F (nI s) (yS S p w c n h) = some (.inl (some (.int (nI 0))), yS S p w c n h) := by
  have := x_takesSign (F := F) (w := w) (c := c) (n := n) (h := h) hF hs hT hp
  rw [if_neg e, (Bool.not_eq_true _).mp e, bF] at this; exact this
theorem x_addCode {v : Nat} (hn : n < 400) : f_X2_addCode (nI v) (yS S p w c n h) = some (.inl none, yS S p w c (n + 1) (upd h n (nI v))) := by
  unfold f_X2_addCode f_X2_addCode_b37
  simp (disch := omega) only [fa_lit, nI_ad, nI_mul, nI_cl, inb_nI, nI_ltE, nI_leE, nI_eqE, nI_m1, nI_m1', m1_lt, lt_m1, m1_le, le_m1, eq_self, not_true_eq_false, not_false_eq_true, ↓reduceIte, leT, leF, ltT, ltF, eqT, eqF, decide_true, decide_false, true_and, and_true, Nat.reduceAdd, bI0_i, bI_i, bI_x, bV0_v, bV_v, bV_x, ↓bnd_e, gd_t, y_107, y_u14, y_u107]
theorem x_b37d {K : Int32 → mS → Option mR} {f i v j : Nat} {Y : mS} (hv : v < 2147483648) : f_X3_readSum_b37 K F (f + 1) (nI i) (nI v) (nI j) Y = f_X3_readSum_b74 K F (nI i) (nI v) Y := by
  rw [f_X3_readSum_b37]
  have e : ¬ nI v = -nI 1 := by rw [nI_m1 hv]; exact fun h => h
  have e1 : (-1 : Int32) = -nI 1 := rfl
  rw [e1, if_pos e, ite_self]
theorem x_names {K : Int32 → mS → Option mR} {i : Nat} (hF : 6000 ≤ F) (hT : TB S B t) (hp : p ≤ t) : ∀ (m j f : Nat), j + m = 8 → m + 1 < f →
    f_X3_readSum_b37 K F f (nI i) (-nI 1) (nI j) (yS S p w c n h) = (match eg_fd (fun i => decide (tWl B t p = strN (gNi i))) m j with
      | some a => f_X3_readSum_b74 K F (nI i) (nI (1000 + a)) (yS S (tSk B t (tWd B t p)) w c n h)
      | none => f_X3_readSum_b74 K F (nI i) (-nI 1) (yS S p w c n h))
  | 0, j, f + 1, hj, hf => by
    have : j = 8 := by omega
    subst this
    rw [f_X3_readSum_b37, eg_fd]
    simp (disch := omega) only [fa_lit, nI_ad, nI_mul, nI_cl, inb_nI, nI_ltE, nI_leE, nI_eqE, nI_m1, nI_m1', m1_lt, lt_m1, m1_le, le_m1, eq_self, not_true_eq_false, not_false_eq_true, ↓reduceIte, leT, leF, ltT, ltF, eqT, eqF, decide_true, decide_false, true_and, and_true, Nat.reduceAdd, bI0_i, bI_i, bI_x, bV0_v, bV_v, bV_x, ↓bnd_e, gd_t, Nat.le_refl]
  | m + 1, j, f + 2, hj, hf => by
    have ih := x_names (K := K) (i := i) hF hT hp m (j + 1) (f + 1) (by omega) (by omega)
    have hdn := fun (Y : mS) => x_b37d (F := F) (K := K) (f := f) (i := i) (v := 1000 + j) (j := j + 1) (Y := Y) (by omega)
    have hk := gNi_lt (i := j) (by omega)
    rw [f_X3_readSum_b37, eg_fd]
    unfold f_X3_readSum_b68
    by_cases g : tWl B t p = strN (gNi j)
    · have hw := x_wT (F := F) (w := w) (c := c) (n := n) (h := h) hF hk hT hp g
      rw [decide_eq_true g, if_pos rfl]
      have hj8 : j < 8 := by omega
      match j, hj8 with
      | 0, _ => simp (disch := omega) only [fa_lit, nI_ad, nI_mul, nI_cl, inb_nI, nI_ltE, nI_leE, nI_eqE, nI_m1, nI_m1', m1_lt, lt_m1, m1_le, le_m1, eq_self, not_true_eq_false, not_false_eq_true, ↓reduceIte, leT, leF, ltT, ltF, eqT, eqF, decide_true, decide_false, true_and, and_true, Nat.reduceAdd, bI0_i, bI_i, bI_x, bV0_v, bV_v, bV_x, ↓bnd_e, gd_t, show f_X8_takesWord F 17 (yS S p w c n h) = _ from hw]; exact hdn _
      | 1, _ => simp (disch := omega) only [fa_lit, nI_ad, nI_mul, nI_cl, inb_nI, nI_ltE, nI_leE, nI_eqE, nI_m1, nI_m1', m1_lt, lt_m1, m1_le, le_m1, eq_self, not_true_eq_false, not_false_eq_true, ↓reduceIte, leT, leF, ltT, ltF, eqT, eqF, decide_true, decide_false, true_and, and_true, Nat.reduceAdd, bI0_i, bI_i, bI_x, bV0_v, bV_v, bV_x, ↓bnd_e, gd_t, show f_X8_takesWord F 1 (yS S p w c n h) = _ from hw]; exact hdn _
      | 2, _ => simp (disch := omega) only [fa_lit, nI_ad, nI_mul, nI_cl, inb_nI, nI_ltE, nI_leE, nI_eqE, nI_m1, nI_m1', m1_lt, lt_m1, m1_le, le_m1, eq_self, not_true_eq_false, not_false_eq_true, ↓reduceIte, leT, leF, ltT, ltF, eqT, eqF, decide_true, decide_false, true_and, and_true, Nat.reduceAdd, bI0_i, bI_i, bI_x, bV0_v, bV_v, bV_x, ↓bnd_e, gd_t, show f_X8_takesWord F 2 (yS S p w c n h) = _ from hw]; exact hdn _
      | 3, _ => simp (disch := omega) only [fa_lit, nI_ad, nI_mul, nI_cl, inb_nI, nI_ltE, nI_leE, nI_eqE, nI_m1, nI_m1', m1_lt, lt_m1, m1_le, le_m1, eq_self, not_true_eq_false, not_false_eq_true, ↓reduceIte, leT, leF, ltT, ltF, eqT, eqF, decide_true, decide_false, true_and, and_true, Nat.reduceAdd, bI0_i, bI_i, bI_x, bV0_v, bV_v, bV_x, ↓bnd_e, gd_t, show f_X8_takesWord F 3 (yS S p w c n h) = _ from hw]; exact hdn _
      | 4, _ => simp (disch := omega) only [fa_lit, nI_ad, nI_mul, nI_cl, inb_nI, nI_ltE, nI_leE, nI_eqE, nI_m1, nI_m1', m1_lt, lt_m1, m1_le, le_m1, eq_self, not_true_eq_false, not_false_eq_true, ↓reduceIte, leT, leF, ltT, ltF, eqT, eqF, decide_true, decide_false, true_and, and_true, Nat.reduceAdd, bI0_i, bI_i, bI_x, bV0_v, bV_v, bV_x, ↓bnd_e, gd_t, show f_X8_takesWord F 4 (yS S p w c n h) = _ from hw]; exact hdn _
      | 5, _ => simp (disch := omega) only [fa_lit, nI_ad, nI_mul, nI_cl, inb_nI, nI_ltE, nI_leE, nI_eqE, nI_m1, nI_m1', m1_lt, lt_m1, m1_le, le_m1, eq_self, not_true_eq_false, not_false_eq_true, ↓reduceIte, leT, leF, ltT, ltF, eqT, eqF, decide_true, decide_false, true_and, and_true, Nat.reduceAdd, bI0_i, bI_i, bI_x, bV0_v, bV_v, bV_x, ↓bnd_e, gd_t, show f_X8_takesWord F 18 (yS S p w c n h) = _ from hw]; exact hdn _
      | 6, _ => simp (disch := omega) only [fa_lit, nI_ad, nI_mul, nI_cl, inb_nI, nI_ltE, nI_leE, nI_eqE, nI_m1, nI_m1', m1_lt, lt_m1, m1_le, le_m1, eq_self, not_true_eq_false, not_false_eq_true, ↓reduceIte, leT, leF, ltT, ltF, eqT, eqF, decide_true, decide_false, true_and, and_true, Nat.reduceAdd, bI0_i, bI_i, bI_x, bV0_v, bV_v, bV_x, ↓bnd_e, gd_t, show f_X8_takesWord F 19 (yS S p w c n h) = _ from hw]; exact hdn _
      | 7, _ => simp (disch := omega) only [fa_lit, nI_ad, nI_mul, nI_cl, inb_nI, nI_ltE, nI_leE, nI_eqE, nI_m1, nI_m1', m1_lt, lt_m1, m1_le, le_m1, eq_self, not_true_eq_false, not_false_eq_true, ↓reduceIte, leT, leF, ltT, ltF, eqT, eqF, decide_true, decide_false, true_and, and_true, Nat.reduceAdd, bI0_i, bI_i, bI_x, bV0_v, bV_v, bV_x, ↓bnd_e, gd_t, show f_X8_takesWord F 20 (yS S p w c n h) = _ from hw]; exact hdn _
    · have hw := x_wF (F := F) (w := w) (c := c) (n := n) (h := h) hF hk hT hp g
      rw [decide_eq_false g]
      have hj8 : j < 8 := by omega
      match j, hj8 with
      | 0, _ => simp (disch := omega) only [fa_lit, nI_ad, nI_mul, nI_cl, inb_nI, nI_ltE, nI_leE, nI_eqE, nI_m1, nI_m1', m1_lt, lt_m1, m1_le, le_m1, eq_self, not_true_eq_false, not_false_eq_true, ↓reduceIte, leT, leF, ltT, ltF, eqT, eqF, decide_true, decide_false, true_and, and_true, Nat.reduceAdd, bI0_i, bI_i, bI_x, bV0_v, bV_v, bV_x, ↓bnd_e, gd_t, show f_X8_takesWord F 17 (yS S p w c n h) = _ from hw, Bool.false_eq_true]; exact ih
      | 1, _ => simp (disch := omega) only [fa_lit, nI_ad, nI_mul, nI_cl, inb_nI, nI_ltE, nI_leE, nI_eqE, nI_m1, nI_m1', m1_lt, lt_m1, m1_le, le_m1, eq_self, not_true_eq_false, not_false_eq_true, ↓reduceIte, leT, leF, ltT, ltF, eqT, eqF, decide_true, decide_false, true_and, and_true, Nat.reduceAdd, bI0_i, bI_i, bI_x, bV0_v, bV_v, bV_x, ↓bnd_e, gd_t, show f_X8_takesWord F 1 (yS S p w c n h) = _ from hw, Bool.false_eq_true]; exact ih
      | 2, _ => simp (disch := omega) only [fa_lit, nI_ad, nI_mul, nI_cl, inb_nI, nI_ltE, nI_leE, nI_eqE, nI_m1, nI_m1', m1_lt, lt_m1, m1_le, le_m1, eq_self, not_true_eq_false, not_false_eq_true, ↓reduceIte, leT, leF, ltT, ltF, eqT, eqF, decide_true, decide_false, true_and, and_true, Nat.reduceAdd, bI0_i, bI_i, bI_x, bV0_v, bV_v, bV_x, ↓bnd_e, gd_t, show f_X8_takesWord F 2 (yS S p w c n h) = _ from hw, Bool.false_eq_true]; exact ih
      | 3, _ => simp (disch := omega) only [fa_lit, nI_ad, nI_mul, nI_cl, inb_nI, nI_ltE, nI_leE, nI_eqE, nI_m1, nI_m1', m1_lt, lt_m1, m1_le, le_m1, eq_self, not_true_eq_false, not_false_eq_true, ↓reduceIte, leT, leF, ltT, ltF, eqT, eqF, decide_true, decide_false, true_and, and_true, Nat.reduceAdd, bI0_i, bI_i, bI_x, bV0_v, bV_v, bV_x, ↓bnd_e, gd_t, show f_X8_takesWord F 3 (yS S p w c n h) = _ from hw, Bool.false_eq_true]; exact ih
      | 4, _ => simp (disch := omega) only [fa_lit, nI_ad, nI_mul, nI_cl, inb_nI, nI_ltE, nI_leE, nI_eqE, nI_m1, nI_m1', m1_lt, lt_m1, m1_le, le_m1, eq_self, not_true_eq_false, not_false_eq_true, ↓reduceIte, leT, leF, ltT, ltF, eqT, eqF, decide_true, decide_false, true_and, and_true, Nat.reduceAdd, bI0_i, bI_i, bI_x, bV0_v, bV_v, bV_x, ↓bnd_e, gd_t, show f_X8_takesWord F 4 (yS S p w c n h) = _ from hw, Bool.false_eq_true]; exact ih
      | 5, _ => simp (disch := omega) only [fa_lit, nI_ad, nI_mul, nI_cl, inb_nI, nI_ltE, nI_leE, nI_eqE, nI_m1, nI_m1', m1_lt, lt_m1, m1_le, le_m1, eq_self, not_true_eq_false, not_false_eq_true, ↓reduceIte, leT, leF, ltT, ltF, eqT, eqF, decide_true, decide_false, true_and, and_true, Nat.reduceAdd, bI0_i, bI_i, bI_x, bV0_v, bV_v, bV_x, ↓bnd_e, gd_t, show f_X8_takesWord F 18 (yS S p w c n h) = _ from hw, Bool.false_eq_true]; exact ih
      | 6, _ => simp (disch := omega) only [fa_lit, nI_ad, nI_mul, nI_cl, inb_nI, nI_ltE, nI_leE, nI_eqE, nI_m1, nI_m1', m1_lt, lt_m1, m1_le, le_m1, eq_self, not_true_eq_false, not_false_eq_true, ↓reduceIte, leT, leF, ltT, ltF, eqT, eqF, decide_true, decide_false, true_and, and_true, Nat.reduceAdd, bI0_i, bI_i, bI_x, bV0_v, bV_v, bV_x, ↓bnd_e, gd_t, show f_X8_takesWord F 19 (yS S p w c n h) = _ from hw, Bool.false_eq_true]; exact ih
      | 7, _ => simp (disch := omega) only [fa_lit, nI_ad, nI_mul, nI_cl, inb_nI, nI_ltE, nI_leE, nI_eqE, nI_m1, nI_m1', m1_lt, lt_m1, m1_le, le_m1, eq_self, not_true_eq_false, not_false_eq_true, ↓reduceIte, leT, leF, ltT, ltF, eqT, eqF, decide_true, decide_false, true_and, and_true, Nat.reduceAdd, bI0_i, bI_i, bI_x, bV0_v, bV_v, bV_x, ↓bnd_e, gd_t, show f_X8_takesWord F 20 (yS S p w c n h) = _ from hw, Bool.false_eq_true]; exact ih
theorem tWl_dig {p : Nat} (hp : p < t) (hd : tDig (B p) = true) : tWl B t p = [] := by
  have h : 48 ≤ B p ∧ B p ≤ 57 := of_decide_eq_true hd
  exact tWl_n hp (decide_eq_false (by omega))
theorem sw_nil {k : Nat} (hk : k < 23) : ¬ ([] : List Nat) = strN k := by
  intro e
  have := (sw_len hk).1
  rw [← e] at this
  simp at this
theorem gNm_nil : gNm [] = none := by
  cases g : gNm [] with
  | none => rfl
  | some i => exact absurd (gNm_p g).2 (sw_nil (gNi_lt (gNm_p g).1))
/-- a part -/
theorem x_part {f i : Nat} (hF : 6000 ≤ F) (hi : i < 400) (hT : TB S B t) (hp : p ≤ t) : f_X3_readSum_b2 F (f + 1) (nI i) (yS S p (-nI 1) c n h) = (match gPart B t p with
    | .inr (p1, cs) => f_X3_readSum_b74 (fun x1 S => f_X3_readSum_b2 F f x1 S) F (nI i) (nI (cs.getD 0 0)) (yS S p1 (-nI 1) c n h)
    | .inl e => some (.inl (some (.int (nI 0))), yS S p (nI e) c n h)) := by
  have hd := x_isAtDigit (w := -nI 1) (c := c) (n := n) (h := h) hT hp
  have hN := fun (w : Int32) => x_names (F := F) (K := fun x1 S => f_X3_readSum_b2 F f x1 S) (i := i) (w := w) (c := c) (n := n) (h := h) hF hT hp 8 0 F (by omega) (by omega)
  have hfail : ∀ w : Int32, w = -nI 1 ∨ w = nI p → f_X3_readSum_b74 (fun x1 S => f_X3_readSum_b2 F f x1 S) F (nI i) (-nI 1) (yS S p w c n h) = some (.inl (some (.int (nI 0))), yS S p (nI p) c n h) := by
    intro w hw
    have hr := x_refuse (S := S) (p := p) (w := w) (c := c) (n := n) (h := h)
    have et : tRf w p = nI p := by
      unfold tRf
      rcases hw with e | e
      · rw [if_pos e]
      · rw [e]; exact ite_self _
    unfold f_X3_readSum_b74
    simp (disch := omega) only [fa_lit, nI_ad, nI_mul, nI_cl, inb_nI, nI_ltE, nI_leE, nI_eqE, nI_m1, nI_m1', m1_lt, lt_m1, m1_le, le_m1, eq_self, not_true_eq_false, not_false_eq_true, ↓reduceIte, leT, leF, ltT, ltF, eqT, eqF, decide_true, decide_false, true_and, and_true, Nat.reduceAdd, bI0_i, bI_i, bI_x, bV0_v, bV_v, bV_x, ↓bnd_e, gd_t, hr, et, and00]
  rw [f_X3_readSum_b2]
  unfold f_X3_readSum_b34 gPart
  by_cases g : p < t ∧ tDig (B p) = true
  · rw [decide_eq_true g.1, g.2] at hd
    have hwl := tWl_dig g.1 g.2
    have hn := x_takeNumber (F := F) (lo := 0) (hi := 999) (w := -nI 1) (c := c) (n := n) (h := h) hF (by omega) (by omega) hT hp
    rw [if_pos g]
    cases gv : tN B t 0 999 p with
    | none =>
      rw [gv] at hn
      have h8 := hN (tRf (-nI 1) p)
      have e8 : eg_fd (fun i => decide (tWl B t p = strN (gNi i))) 8 0 = none := by rw [hwl]; exact gNm_nil
      rw [e8] at h8
      simp (disch := omega) only [fa_lit, nI_ad, nI_mul, nI_cl, inb_nI, nI_ltE, nI_leE, nI_eqE, nI_m1, nI_m1', m1_lt, lt_m1, m1_le, le_m1, eq_self, not_true_eq_false, not_false_eq_true, ↓reduceIte, leT, leF, ltT, ltF, eqT, eqF, decide_true, decide_false, true_and, and_true, Nat.reduceAdd, bI0_i, bI_i, bI_x, bV0_v, bV_v, bV_x, ↓bnd_e, gd_t, hd, Bool.and_self, bT, hn]
      refine Eq.trans h8 ?_
      exact hfail _ (Or.inr (by unfold tRf; rw [if_pos rfl]))
    | some v =>
      rw [gv] at hn
      have hv := tN_p gv
      obtain ⟨G, rfl⟩ : ∃ G, F = G + 1 := ⟨F - 1, by omega⟩
      simp (disch := omega) only [fa_lit, nI_ad, nI_mul, nI_cl, inb_nI, nI_ltE, nI_leE, nI_eqE, nI_m1, nI_m1', m1_lt, lt_m1, m1_le, le_m1, eq_self, not_true_eq_false, not_false_eq_true, ↓reduceIte, leT, leF, ltT, ltF, eqT, eqF, decide_true, decide_false, true_and, and_true, Nat.reduceAdd, bI0_i, bI_i, bI_x, bV0_v, bV_v, bV_x, ↓bnd_e, gd_t, hd, Bool.and_self, bT, hn]
      exact x_b37d (by omega)
  · have hdf : (decide (p < t) && tDig (B p)) = false := by
      cases g2 : tDig (B p) with
      | true => rw [decide_eq_false (fun e => g ⟨e, g2⟩)]; rfl
      | false => exact Bool.and_false _
    rw [hdf] at hd
    rw [if_neg g]
    have h8 := hN (-nI 1)
    have e8 : eg_fd (fun i => decide (tWl B t p = strN (gNi i))) 8 0 = gNm (tWl B t p) := rfl
    rw [e8] at h8
    simp (disch := omega) only [fa_lit, nI_ad, nI_mul, nI_cl, inb_nI, nI_ltE, nI_leE, nI_eqE, nI_m1, nI_m1', m1_lt, lt_m1, m1_le, le_m1, eq_self, not_true_eq_false, not_false_eq_true, ↓reduceIte, leT, leF, ltT, ltF, eqT, eqF, decide_true, decide_false, true_and, and_true, Nat.reduceAdd, bI0_i, bI_i, bI_x, bV0_v, bV_v, bV_x, ↓bnd_e, gd_t, hd, bF]
    refine Eq.trans h8 ?_
    cases gn : gNm (tWl B t p) with
    | none => exact hfail _ (Or.inl rfl)
    | some a => rfl
theorem gB_r {p : Nat} {cs : List Nat} {f : Nat → List Nat → gR} : gB (.inr (p, cs)) f = f p cs := rfl
theorem gB_l {e : Nat} {f : Nat → List Nat → gR} : gB (.inl e) f = .inl e := rfl
def XL (S : mS) (c : Nat → Int32) (n : Nat) (h : Nat → Int32) (r : gR) (o : Option mR) (K : mS → Option mR) : Prop := match r with
  | .inr (p', cs) => o = K (yS S p' (-nI 1) c (n + cs.length) (exF h n cs))
  | .inl e => ∃ p' n' h', o = some (.inl (some (.int (nI 0))), yS S p' (nI e) c n' h')
def x1K (Y : mS) : Option mR := some (.inl (some (.int (nI 1))), Y)
theorem gPart_1 {p p' : Nat} {cs : List Nat} (hp : p ≤ t) (h : gPart B t p = .inr (p', cs)) : ∃ v, cs = [v] := by
  have := (gPart_p hp h).1
  match cs, this with
  | [v], _ => exact ⟨v, rfl⟩
theorem x_sumL (hF : 6000 ≤ F) (hT : TB S B t) : ∀ (m i f p n : Nat) (h : Nat → Int32), p ≤ t → n + 6 ≤ p → 2 * i ≤ p → t - p < m → t - p < f →
    XL S c n h (gSL B t m p) (f_X3_readSum_b109 (fun x1 S => f_X3_readSum_b2 F f x1 S) F (nI i) (yS S p (-nI 1) c n h)) x1K
  | 0, i, f, p, n, h, hp, hn, hi, hm, hf => absurd hm (by omega)
  | m + 1, i, f, p, n, h, hp, hn, hi, hm, hf => by
    have ht := hT.1
    rw [gSL]
    unfold f_X3_readSum_b109
    by_cases g : tSg B t p 43 = true
    · have hg := tSg_p g
      have hs := x_sT (F := F) (w := -nI 1) (c := c) (n := n) (h := h) hF (by omega) hT hp g
      have hsk := tSk_ge (B := B) (show p + 1 ≤ t by omega)
      have hsk2 := tSk_le (B := B) (show p + 1 ≤ t by omega)
      obtain ⟨f, rfl⟩ : ∃ k, f = k + 1 := ⟨f - 1, by omega⟩
      have hP := x_part (F := F) (f := f) (i := i + 1) (p := tSk B t (p + 1)) (c := c) (n := n) (h := h) hF (by omega) hT hsk2
      rw [if_pos g]
      simp (disch := omega) only [fa_lit, nI_ad, nI_mul, nI_cl, inb_nI, nI_ltE, nI_leE, nI_eqE, nI_m1, nI_m1', m1_lt, lt_m1, m1_le, le_m1, eq_self, not_true_eq_false, not_false_eq_true, ↓reduceIte, leT, leF, ltT, ltF, eqT, eqF, decide_true, decide_false, true_and, and_true, Nat.reduceAdd, bI0_i, bI_i, bI_x, bV0_v, bV_v, bV_x, ↓bnd_e, gd_t, hs]
      cases gp : gPart B t (tSk B t (p + 1)) with
      | inl e =>
        rw [gp] at hP
        exact ⟨_, _, _, hP⟩
      | inr x =>
        obtain ⟨p1, cs⟩ := x
        obtain ⟨v, rfl⟩ := gPart_1 hsk2 gp
        have q := gPart_p hsk2 gp
        rw [gp] at hP
        have ih := x_sumL hF hT m (i + 1) f p1 (n + 2) (upd (upd h n (nI v)) (n + 1) (nI 2005)) q.2.2 (by omega) (by omega) (by omega) (by omega)
        have hP2 : f_X3_readSum_b74 (fun x1 S => f_X3_readSum_b2 F f x1 S) F (nI (i + 1)) (nI v) (yS S p1 (-nI 1) c n h) = f_X3_readSum_b109 (fun x1 S => f_X3_readSum_b2 F f x1 S) F (nI (i + 1)) (yS S p1 (-nI 1) c (n + 2) (upd (upd h n (nI v)) (n + 1) (nI 2005))) := by
          have hv : v < 2147483648 := by
            have := gPart_ty (T := []) gp (by simp)
            have h2 : (tyStep v []).bind (tyL []) = some [false] := this
            cases e : tyStep v [] with
            | none => rw [e] at h2; cases h2
            | some T => have := ty_lt e; omega
          have a1 := x_addCode (S := S) (p := p1) (w := -nI 1) (c := c) (n := n) (h := h) (v := v) (by omega)
          have a2 := x_addCode (S := S) (p := p1) (w := -nI 1) (c := c) (n := n + 1) (h := upd h n (nI v)) (v := 2005) (by omega)
          unfold f_X3_readSum_b74
          simp (disch := omega) only [fa_lit, nI_ad, nI_mul, nI_cl, inb_nI, nI_ltE, nI_leE, nI_eqE, nI_m1, nI_m1', m1_lt, lt_m1, m1_le, le_m1, eq_self, not_true_eq_false, not_false_eq_true, ↓reduceIte, leT, leF, ltT, ltF, eqT, eqF, decide_true, decide_false, true_and, and_true, Nat.reduceAdd, bI0_i, bI_i, bI_x, bV0_v, bV_v, bV_x, ↓bnd_e, gd_t, a1, a2]
        have hP3 := hP.trans hP2
        cases gs : gSL B t m p1 with
        | inl e =>
          rw [gs] at ih
          obtain ⟨p', n', h', e2⟩ := ih
          rw [gB_r, gs, gB_l]
          exact ⟨p', n', h', hP3.trans e2⟩
        | inr y =>
          obtain ⟨p2, c2⟩ := y
          rw [gs] at ih
          rw [gB_r, gs, gB_r]
          refine (hP3.trans ih).trans ?_
          show x1K (yS S p2 (-nI 1) c (n + 2 + c2.length) (exF (upd (upd h n (nI v)) (n + 1) (nI 2005)) (n + 2) c2)) = x1K (yS S p2 (-nI 1) c (n + (c2.length + 1 + 1)) (exF h n (v :: 2005 :: c2)))
          rw [show n + (c2.length + 1 + 1) = n + 2 + c2.length by omega]
          rfl
    · have hs := x_sF (F := F) (w := -nI 1) (c := c) (n := n) (h := h) hF (by omega) hT hp g
      rw [if_neg g]
      show _ = x1K (yS S p (-nI 1) c (n + 0) h)
      simp (disch := omega) only [fa_lit, nI_ad, nI_mul, nI_cl, inb_nI, nI_ltE, nI_leE, nI_eqE, nI_m1, nI_m1', m1_lt, lt_m1, m1_le, le_m1, eq_self, not_true_eq_false, not_false_eq_true, ↓reduceIte, leT, leF, ltT, ltF, eqT, eqF, decide_true, decide_false, true_and, and_true, Nat.reduceAdd, bI0_i, bI_i, bI_x, bV0_v, bV_v, bV_x, ↓bnd_e, gd_t, hs, and10, Nat.add_zero]
      rfl
theorem x_readSum (hF : 6000 ≤ F) (hT : TB S B t) (hp : p ≤ t) (hn : n + 6 ≤ p) : XL S c n h (gSum B t p) (f_X3_readSum F (yS S p (-nI 1) c n h)) x1K := by
  have ht := hT.1
  obtain ⟨G, rfl⟩ : ∃ G, F = G + 1 := ⟨F - 1, by omega⟩
  have hP := x_part (F := G + 1) (f := G) (i := 0) (p := p) (c := c) (n := n) (h := h) hF (by omega) hT hp
  unfold gSum
  show XL S c n h _ (f_X3_readSum_b2 (G + 1) (G + 1) (nI 0) (yS S p (-nI 1) c n h)) x1K
  cases gp : gPart B t p with
  | inl e =>
    rw [gp] at hP
    exact ⟨_, _, _, hP⟩
  | inr x =>
    obtain ⟨p1, cs⟩ := x
    obtain ⟨v, rfl⟩ := gPart_1 hp gp
    have q := gPart_p hp gp
    rw [gp] at hP
    have ih := x_sumL (c := c) hF hT 401 0 G p1 (n + 1) (upd h n (nI v)) q.2.2 (by omega) (by omega) (by omega) (by omega)
    have hP2 : f_X3_readSum_b74 (fun x1 S => f_X3_readSum_b2 (G + 1) G x1 S) (G + 1) (nI 0) (nI v) (yS S p1 (-nI 1) c n h) = f_X3_readSum_b109 (fun x1 S => f_X3_readSum_b2 (G + 1) G x1 S) (G + 1) (nI 0) (yS S p1 (-nI 1) c (n + 1) (upd h n (nI v))) := by
      have hv : v < 2147483648 := by
        have := gPart_ty (T := []) gp (by simp)
        have h2 : (tyStep v []).bind (tyL []) = some [false] := this
        cases e : tyStep v [] with
        | none => rw [e] at h2; cases h2
        | some T => have := ty_lt e; omega
      have a1 := x_addCode (S := S) (p := p1) (w := -nI 1) (c := c) (n := n) (h := h) (v := v) (by omega)
      unfold f_X3_readSum_b74
      simp (disch := omega) only [fa_lit, nI_ad, nI_mul, nI_cl, inb_nI, nI_ltE, nI_leE, nI_eqE, nI_m1, nI_m1', m1_lt, lt_m1, m1_le, le_m1, eq_self, not_true_eq_false, not_false_eq_true, ↓reduceIte, leT, leF, ltT, ltF, eqT, eqF, decide_true, decide_false, true_and, and_true, Nat.reduceAdd, bI0_i, bI_i, bI_x, bV0_v, bV_v, bV_x, ↓bnd_e, gd_t, a1, Nat.le_refl]
    have hP3 := hP.trans hP2
    cases gs : gSL B t 401 p1 with
    | inl e =>
      rw [gs] at ih
      obtain ⟨p', n', h', e2⟩ := ih
      rw [gB_r, gs, gB_l]
      exact ⟨p', n', h', hP3.trans e2⟩
    | inr y =>
      obtain ⟨p2, c2⟩ := y
      rw [gs] at ih
      rw [gB_r, gs, gB_r]
      refine (hP3.trans ih).trans ?_
      show x1K (yS S p2 (-nI 1) c (n + 1 + c2.length) (exF (upd h n (nI v)) (n + 1) c2)) = x1K (yS S p2 (-nI 1) c (n + (c2.length + 1)) (exF h n (v :: c2)))
      rw [show n + (c2.length + 1) = n + 1 + c2.length by omega]
      rfl
end T
