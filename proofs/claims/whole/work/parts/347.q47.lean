/-! texts: THE ISLE's lines; the class reads them -/
abbrev iR : Type := Nat ⊕ (Nat × Nat)
def iB (r : iR) (f : Nat → Nat → Nat ⊕ (Nat × (Nat → Int32))) : Nat ⊕ (Nat × (Nat → Int32)) := match r with
  | .inl e => .inl e
  | .inr (p, v) => f p v
def iNu (B : Nat → Nat) (t lo hi p : Nat) : iR := match tN B t lo hi p with
  | some v => .inr (tSk B t (tE B t p), v)
  | none => .inl p
def iNb (B : Nat → Nat) (t k lo hi p : Nat) : iR := if tWl B t p = strN k then iNu B t lo hi (tSk B t (tWd B t p)) else .inl p
def iCl (c : Nat → Int32) (l f r e a b : Nat) : Nat → Int32 :=
  upd (upd (upd (upd (upd (upd c (16 + l * 5 + 0) (nI f)) (16 + l * 5 + 1) (nI r)) (16 + l * 5 + 2) (nI e)) (16 + l * 5 + 3) (if e = 0 then nI 0 else nI a)) (16 + l * 5 + 4) (nI b)) 12 (nI (l + 1))
def iCn (c : Nat → Int32) : Nat := (c 12).toNatClampNeg
def iLe (B : Nat → Nat) (t : Nat) (c : Nat → Int32) (p : Nat) : Nat ⊕ (Nat × (Nat → Int32)) :=
  iB (iNu B t 1 40 p) (fun p1 f => iB (iNb B t 1 0 30 p1) (fun p2 r => iB (iNb B t 2 0 20 p2) (fun p3 e => iB (iNb B t 3 0 99 p3) (fun p4 a => iB (iNb B t 4 0 9 p4) (fun p5 b => .inr (p5, iCl c (c 12).toNatClampNeg f r e a b))))))
def iRo (B : Nat → Nat) (t : Nat) (c : Nat → Int32) (p : Nat) : Nat ⊕ (Nat × (Nat → Int32)) :=
  iB (iNu B t 1 40 p) (fun p1 f => iB (iNb B t 6 1 999 p1) (fun p2 r => .inr (p2, upd (upd (upd c 0 (nI f)) 2 (nI r)) 1 (nI 0))))
def iHo (B : Nat → Nat) (t : Nat) (c : Nat → Int32) (p : Nat) : Nat ⊕ (Nat × (Nat → Int32)) :=
  iB (iNu B t 1 9 p) (fun p1 v => .inr (p1, upd (upd (upd c (66 + (c 13).toNatClampNeg * 2 + 0) (nI v)) (66 + (c 13).toNatClampNeg * 2 + 1) (nI 0)) 13 (nI ((c 13).toNatClampNeg + 1))))
def iKl (B : Nat → Nat) (t : Nat) (c : Nat → Int32) (p : Nat) : Nat ⊕ (Nat × (Nat → Int32)) :=
  iB (iNu B t 1 20 p) (fun p1 v => .inr (p1, upd (upd (upd c (78 + (c 14).toNatClampNeg * 2 + 0) (nI v)) (78 + (c 14).toNatClampNeg * 2 + 1) (nI 0)) 14 (nI ((c 14).toNatClampNeg + 1))))
def iCh (B : Nat → Nat) (t k : Nat) (c : Nat → Int32) (p : Nat) : Nat ⊕ (Nat × (Nat → Int32)) :=
  iB (iNu B t 0 100 p) (fun p1 v => .inr (p1, upd c k (nI v)))
def iLn (B : Nat → Nat) (t : Nat) (c : Nat → Int32) (p : Nat) : Nat ⊕ (Nat × (Nat → Int32)) :=
  if tWl B t p = strN 0 then (if (c 12).toNatClampNeg = 10 then .inl p else iLe B t c (tSk B t (tWd B t p)))
  else if tWl B t p = strN 5 then iRo B t c (tSk B t (tWd B t p))
  else if tWl B t p = strN 7 then (if (c 13).toNatClampNeg = 6 then .inl p else iHo B t c (tSk B t (tWd B t p)))
  else if tWl B t p = strN 8 then (if (c 14).toNatClampNeg = 4 then .inl p else iKl B t c (tSk B t (tWd B t p)))
  else if tWl B t p = strN 9 then iCh B t 5 c (tSk B t (tWd B t p))
  else if tWl B t p = strN 10 then iCh B t 6 c (tSk B t (tWd B t p))
  else .inl p
theorem iB_inr {r : iR} {f : Nat → Nat → Nat ⊕ (Nat × (Nat → Int32))} {x : Nat × (Nat → Int32)} (h : iB r f = .inr x) : ∃ p1 v, r = .inr (p1, v) ∧ f p1 v = .inr x := by
  match r, h with
  | .inl _, h => cases h
  | .inr (p1, v), h => exact ⟨p1, v, rfl, h⟩
section T
variable {B : Nat → Nat} {t : Nat}
theorem iNu_p {lo hi p p' v : Nat} (hp : p ≤ t) (h : iNu B t lo hi p = .inr (p', v)) : p < p' ∧ p' ≤ t ∧ lo ≤ v ∧ v ≤ hi := by
  unfold iNu at h
  split at h
  · rename_i u hu
    cases h
    have h1 := tN_p hu
    have h2 := tE_p (B := B) hp
    have h3 := tSk_ge (B := B) h2.2.1
    exact ⟨by omega, tSk_le h2.2.1, h1.2.1, h1.2.2⟩
  · cases h
theorem iNb_p {k lo hi p p' v : Nat} (hp : p ≤ t) (h : iNb B t k lo hi p = .inr (p', v)) : p < p' ∧ p' ≤ t ∧ lo ≤ v ∧ v ≤ hi := by
  unfold iNb at h
  split at h
  · have h2 := tWd_le (B := B) hp
    have h3 := tSk_ge (B := B) h2
    have h4 := tWd_ge (B := B) (t := t) (p := p)
    have := iNu_p (tSk_le h2) h
    exact ⟨by omega, this.2⟩
  · cases h
theorem iLn_p {c c' : Nat → Int32} {p p' : Nat} (hp : p ≤ t) (hR : Rg c) (hz : Az c) (h : iLn B t c p = .inr (p', c')) : p ≤ p' ∧ p' ≤ t ∧ Rg c' ∧ Az c' ∧ c' 11 = c 11 := by
  have w2 := tWd_le (B := B) hp
  have w3 := tSk_ge (B := B) w2
  have w4 := tSk_le (B := B) w2
  have w5 := tWd_ge (B := B) (t := t) (p := p)
  obtain ⟨n, hn, en⟩ := hR.n12
  obtain ⟨nh, hnh, enh⟩ := hR.n13
  obtain ⟨nk, hnk, enk⟩ := hR.n14
  have cn : (c 12).toNatClampNeg = n := by rw [en, nI_cl (by omega)]
  have cnh : (c 13).toNatClampNeg = nh := by rw [enh, nI_cl (by omega)]
  have cnk : (c 14).toNatClampNeg = nk := by rw [enk, nI_cl (by omega)]
  have one : ∀ {d : Nat → Int32} {i v b : Nat}, Rg d → i < 446 → lim i = some b → v ≤ b → Rg (upd d i (nI v)) := fun hd h1 h2 h3 => hd.up h1 (fun b' hb => by rw [h2] at hb; cases hb; exact ⟨_, h3, rfl⟩)
  have oneN : ∀ {d : Nat → Int32} {i v : Nat}, Rg d → i < 446 → lim i = none → Rg (upd d i (nI v)) := fun hd h1 h2 => hd.up h1 (fun b' hb => by rw [h2] at hb; cases hb)
  unfold iLn at h
  split at h
  · split at h
    · cases h
    · rename_i g10
      rw [cn] at g10
      unfold iLe at h
      obtain ⟨p1, f, e1, h⟩ := iB_inr h
      obtain ⟨p2, r, e2, h⟩ := iB_inr h
      obtain ⟨p3, e, e3, h⟩ := iB_inr h
      obtain ⟨p4, a, e4, h⟩ := iB_inr h
      obtain ⟨p5, b, e5, h⟩ := iB_inr h
      cases h
      have q1 := iNu_p w4 e1
      have q2 := iNb_p q1.2.1 e2
      have q3 := iNb_p q2.2.1 e3
      have q4 := iNb_p q3.2.1 e4
      have q5 := iNb_p q4.2.1 e5
      rw [cn]
      unfold iCl
      refine ⟨by omega, q5.2.1, ?_, ?_, ?_⟩
      · refine one (b := 10) (one (b := 9) ?_ (by omega) (lim_ledge n (by omega) 4 (by omega)) (by omega)) (by omega) rfl (by omega)
        have h3 : Rg (upd (upd (upd c (16 + n * 5 + 0) (nI f)) (16 + n * 5 + 1) (nI r)) (16 + n * 5 + 2) (nI e)) := one (b := 20) (one (b := 30) (one (b := 40) hR (by omega) (lim_ledge n (by omega) 0 (by omega)) (by omega)) (by omega) (lim_ledge n (by omega) 1 (by omega)) (by omega)) (by omega) (lim_ledge n (by omega) 2 (by omega)) (by omega)
        split
        · exact one (b := 99) h3 (by omega) (lim_ledge n (by omega) 3 (by omega)) (by omega)
        · exact one (b := 99) h3 (by omega) (lim_ledge n (by omega) 3 (by omega)) (by omega)
      · intro l hl h0
        rw [upd_n (by omega), upd_n (by omega)] at h0
        rw [upd_n (by omega), upd_n (by omega)]
        by_cases el : l = n
        · subst el
          rw [upd_n (by omega), upd_s] at h0
          have := nI_inj (by omega) (by omega) h0
          rw [upd_s, if_pos this]
        · rw [upd_n (by omega), upd_n (by omega), upd_n (by omega), upd_n (by omega)] at h0 ⊢
          exact hz l hl h0
      · rw [upd_n (by omega), upd_n (by omega), upd_n (by omega), upd_n (by omega), upd_n (by omega), upd_n (by omega)]
  · split at h
    · unfold iRo at h
      obtain ⟨p1, f, e1, h⟩ := iB_inr h
      obtain ⟨p2, r, e2, h⟩ := iB_inr h
      cases h
      have q1 := iNu_p w4 e1
      have q2 := iNb_p q1.2.1 e2
      refine ⟨by omega, q2.2.1, one (b := 999) (one (b := 999) (one (b := 40) hR (by omega) rfl (by omega)) (by omega) rfl (by omega)) (by omega) rfl (by omega), Az_up (by omega) (Az_up (by omega) (Az_up (by omega) hz)), ?_⟩
      rw [upd_n (by omega), upd_n (by omega), upd_n (by omega)]
    · split at h
      · split at h
        · cases h
        · rename_i g10
          rw [cnh] at g10
          unfold iHo at h
          obtain ⟨p1, v, e1, h⟩ := iB_inr h
          cases h
          have q1 := iNu_p w4 e1
          rw [cnh]
          refine ⟨by omega, q1.2.1, one (b := 6) (one (b := 9) (one (b := 9) hR (by omega) (lim_holder nh (by omega) 0 (by omega)) (by omega)) (by omega) (lim_holder nh (by omega) 1 (by omega)) (by omega)) (by omega) rfl (by omega), Az_up (by omega) (Az_up (by omega) (Az_up (by omega) hz)), ?_⟩
          rw [upd_n (by omega), upd_n (by omega), upd_n (by omega)]
      · split at h
        · split at h
          · cases h
          · rename_i g10
            rw [cnk] at g10
            unfold iKl at h
            obtain ⟨p1, v, e1, h⟩ := iB_inr h
            cases h
            have q1 := iNu_p w4 e1
            rw [cnk]
            refine ⟨by omega, q1.2.1, one (b := 4) (oneN (one (b := 20) hR (by omega) (lim_weight nk (by omega)) (by omega)) (by omega) (lim_has nk (by omega))) (by omega) rfl (by omega), Az_up (by omega) (Az_up (by omega) (Az_up (by omega) hz)), ?_⟩
            rw [upd_n (by omega), upd_n (by omega), upd_n (by omega)]
        · split at h
          · unfold iCh at h
            obtain ⟨p1, v, e1, h⟩ := iB_inr h
            cases h
            have q1 := iNu_p w4 e1
            exact ⟨by omega, q1.2.1, one (b := 100) hR (by omega) rfl (by omega), Az_up (by omega) hz, upd_n (by omega)⟩
          · split at h
            · unfold iCh at h
              obtain ⟨p1, v, e1, h⟩ := iB_inr h
              cases h
              have q1 := iNu_p w4 e1
              exact ⟨by omega, q1.2.1, one (b := 100) hR (by omega) rfl (by omega), Az_up (by omega) hz, upd_n (by omega)⟩
            · cases h
variable {S : mS} {p n : Nat} {w : Int32} {c h : Nat → Int32} {F : Nat}
theorem x_nu {lo hi : Nat} (hF : 6000 ≤ F) (hlo : lo ≤ 1000) (hhi : hi ≤ 1000) (hT : TB S B t) (hp : p ≤ t) : (match iNu B t lo hi p with
    | .inr (p', v) => f_X8_takeNumber F (nI lo) (nI hi) (yS S p (-nI 1) c n h) = some (.inl (some (.int (nI v))), yS S p' (-nI 1) c n h)
    | .inl e => ∃ p', p' ≤ t ∧ f_X8_takeNumber F (nI lo) (nI hi) (yS S p (-nI 1) c n h) = some (.inl (some (.int (-nI 1))), yS S p' (nI e) c n h)) := by
  have hN := x_takeNumber (F := F) (lo := lo) (hi := hi) (w := -nI 1) (c := c) (n := n) (h := h) hF hlo hhi hT hp
  unfold iNu
  cases gv : tN B t lo hi p with
  | none =>
    rw [gv] at hN
    have er : tRf (-nI 1) p = nI p := by unfold tRf; rw [if_pos rfl]
    rw [er] at hN
    exact ⟨p, hp, hN⟩
  | some v => rw [gv] at hN; exact hN
theorem x_nb {k hi : Nat} (hF : 6000 ≤ F) (hk : k < 23) (hhi : hi ≤ 1000) (hT : TB S B t) (hp : p ≤ t) : (match iNb B t k 0 hi p with
    | .inr (p', v) => f_X1_numberBehind F k (nI hi) (yS S p (-nI 1) c n h) = some (.inl (some (.int (nI v))), yS S p' (-nI 1) c n h)
    | .inl e => ∃ p', p' ≤ t ∧ f_X1_numberBehind F k (nI hi) (yS S p (-nI 1) c n h) = some (.inl (some (.int (-nI 1))), yS S p' (nI e) c n h)) := by
  unfold f_X1_numberBehind iNb
  by_cases g : tWl B t p = strN k
  · have hw := x_wT (F := F) (w := -nI 1) (c := c) (n := n) (h := h) hF hk hT hp g
    have w4 := tSk_le (B := B) (tWd_le (B := B) hp)
    have hN := x_nu (F := F) (c := c) (n := n) (h := h) (lo := 0) (hi := hi) hF (by omega) hhi hT w4
    rw [if_pos g]
    cases gn : iNu B t 0 hi (tSk B t (tWd B t p)) with
    | inl e =>
      rw [gn] at hN
      obtain ⟨p', h1, h2⟩ := hN
      refine ⟨p', h1, ?_⟩
      simp (disch := omega) only [fa_lit, nI_ad, nI_mul, nI_cl, inb_nI, nI_ltE, nI_leE, nI_eqE, nI_m1, nI_m1', m1_lt, lt_m1, m1_le, le_m1, eq_self, not_true_eq_false, not_false_eq_true, ↓reduceIte, leT, leF, ltT, ltF, eqT, eqF, decide_true, decide_false, true_and, and_true, Nat.reduceAdd, bI0_i, bI_i, bI_x, bV0_v, bV_v, bV_x, ↓bnd_e, gd_t, hw, h2]
    | inr x =>
      obtain ⟨p', v⟩ := x
      rw [gn] at hN
      dsimp only at hN ⊢
      simp (disch := omega) only [fa_lit, nI_ad, nI_mul, nI_cl, inb_nI, nI_ltE, nI_leE, nI_eqE, nI_m1, nI_m1', m1_lt, lt_m1, m1_le, le_m1, eq_self, not_true_eq_false, not_false_eq_true, ↓reduceIte, leT, leF, ltT, ltF, eqT, eqF, decide_true, decide_false, true_and, and_true, Nat.reduceAdd, bI0_i, bI_i, bI_x, bV0_v, bV_v, bV_x, ↓bnd_e, gd_t, hw, hN]
  · have hw := x_wF (F := F) (w := -nI 1) (c := c) (n := n) (h := h) hF hk hT hp g
    have hr := x_refuse (S := S) (p := p) (w := -nI 1) (c := c) (n := n) (h := h)
    have er : tRf (-nI 1) p = nI p := by unfold tRf; rw [if_pos rfl]
    rw [er] at hr
    rw [if_neg g]
    refine ⟨p, hp, ?_⟩
    simp (disch := omega) only [fa_lit, nI_ad, nI_mul, nI_cl, inb_nI, nI_ltE, nI_leE, nI_eqE, nI_m1, nI_m1', m1_lt, lt_m1, m1_le, le_m1, eq_self, not_true_eq_false, not_false_eq_true, ↓reduceIte, leT, leF, ltT, ltF, eqT, eqF, decide_true, decide_false, true_and, and_true, Nat.reduceAdd, bI0_i, bI_i, bI_x, bV0_v, bV_v, bV_x, ↓bnd_e, gd_t, hw, hr]
theorem tRf_w {e p : Nat} (he : e < 2147483648) : tRf (nI e) p = nI e := by unfold tRf; rw [if_neg (by rw [nI_m1 he]; exact fun h => h)]
theorem x_nb_w {k hi e : Nat} (hF : 6000 ≤ F) (hk : k < 23) (hhi : hi ≤ 1000) (he : e < 2147483648) (hT : TB S B t) (hp : p ≤ t) : ∃ r p', p' ≤ t ∧ f_X1_numberBehind F k (nI hi) (yS S p (nI e) c n h) = some (.inl (some (.int r)), yS S p' (nI e) c n h) := by
  unfold f_X1_numberBehind
  by_cases g : tWl B t p = strN k
  · have hw := x_wT (F := F) (w := nI e) (c := c) (n := n) (h := h) hF hk hT hp g
    have w4 := tSk_le (B := B) (tWd_le (B := B) hp)
    have hN := x_takeNumber (F := F) (lo := 0) (hi := hi) (w := nI e) (c := c) (n := n) (h := h) hF (by omega) hhi hT w4
    rw [tRf_w he] at hN
    cases gv : tN B t 0 hi (tSk B t (tWd B t p)) with
    | none =>
      rw [gv] at hN
      refine ⟨-nI 1, tSk B t (tWd B t p), w4, ?_⟩
      simp (disch := omega) only [fa_lit, nI_ad, nI_mul, nI_cl, inb_nI, nI_ltE, nI_leE, nI_eqE, nI_m1, nI_m1', m1_lt, lt_m1, m1_le, le_m1, eq_self, not_true_eq_false, not_false_eq_true, ↓reduceIte, leT, leF, ltT, ltF, eqT, eqF, decide_true, decide_false, true_and, and_true, Nat.reduceAdd, bI0_i, bI_i, bI_x, bV0_v, bV_v, bV_x, ↓bnd_e, gd_t, hw, hN]
    | some v =>
      rw [gv] at hN
      refine ⟨nI v, tSk B t (tE B t (tSk B t (tWd B t p))), tSk_le (tE_p w4).2.1, ?_⟩
      simp (disch := omega) only [fa_lit, nI_ad, nI_mul, nI_cl, inb_nI, nI_ltE, nI_leE, nI_eqE, nI_m1, nI_m1', m1_lt, lt_m1, m1_le, le_m1, eq_self, not_true_eq_false, not_false_eq_true, ↓reduceIte, leT, leF, ltT, ltF, eqT, eqF, decide_true, decide_false, true_and, and_true, Nat.reduceAdd, bI0_i, bI_i, bI_x, bV0_v, bV_v, bV_x, ↓bnd_e, gd_t, hw, hN]
  · have hw := x_wF (F := F) (w := nI e) (c := c) (n := n) (h := h) hF hk hT hp g
    have hr := x_refuse (S := S) (p := p) (w := nI e) (c := c) (n := n) (h := h)
    rw [tRf_w he] at hr
    refine ⟨-nI 1, p, hp, ?_⟩
    simp (disch := omega) only [fa_lit, nI_ad, nI_mul, nI_cl, inb_nI, nI_ltE, nI_leE, nI_eqE, nI_m1, nI_m1', m1_lt, lt_m1, m1_le, le_m1, eq_self, not_true_eq_false, not_false_eq_true, ↓reduceIte, leT, leF, ltT, ltF, eqT, eqF, decide_true, decide_false, true_and, and_true, Nat.reduceAdd, bI0_i, bI_i, bI_x, bV0_v, bV_v, bV_x, ↓bnd_e, gd_t, hw, hr]
theorem x_right : f_X8_isRight (yS S p (-nI 1) c n h) = some (.inl (some (.int (nI 1))), yS S p (-nI 1) c n h) := by
  unfold f_X8_isRight f_X8_isRight_b13
  simp (disch := omega) only [fa_lit, nI_ad, nI_mul, nI_cl, inb_nI, nI_ltE, nI_leE, nI_eqE, nI_m1, nI_m1', m1_lt, lt_m1, m1_le, le_m1, eq_self, not_true_eq_false, not_false_eq_true, ↓reduceIte, leT, leF, ltT, ltF, eqT, eqF, decide_true, decide_false, true_and, and_true, Nat.reduceAdd, bI0_i, bI_i, bI_x, bV0_v, bV_v, bV_x, ↓bnd_e, gd_t, y_13, and10]
theorem x_right_w {e : Nat} (he : e < 2147483648) : f_X8_isRight (yS S p (nI e) c n h) = some (.inl (some (.int (nI 0))), yS S p (nI e) c n h) := by
  unfold f_X8_isRight f_X8_isRight_b13
  simp (disch := omega) only [fa_lit, nI_ad, nI_mul, nI_cl, inb_nI, nI_ltE, nI_leE, nI_eqE, nI_m1, nI_m1', m1_lt, lt_m1, m1_le, le_m1, eq_self, not_true_eq_false, not_false_eq_true, ↓reduceIte, leT, leF, ltT, ltF, eqT, eqF, decide_true, decide_false, true_and, and_true, Nat.reduceAdd, bI0_i, bI_i, bI_x, bV0_v, bV_v, bV_x, ↓bnd_e, gd_t, y_13, and00]
def IX (S : mS) (n : Nat) (h : Nat → Int32) (c : Nat → Int32) (r : Nat ⊕ (Nat × (Nat → Int32))) (o : Option mR) : Prop := match r with
  | .inr (p', c') => o = some (.inl (some (.int (nI 1))), yS S p' (-nI 1) c' n h)
  | .inl e => ∃ p', o = some (.inl (some (.int (nI 0))), yS S p' (nI e) c n h)
theorem iNu_e {lo hi p e : Nat} (h : iNu B t lo hi p = .inl e) : e = p := by
  unfold iNu at h
  split at h
  · cases h
  · cases h; rfl
theorem iNb_e {k lo hi p e : Nat} (hp : p ≤ t) (h : iNb B t k lo hi p = .inl e) : e ≤ t := by
  unfold iNb at h
  split at h
  · rw [iNu_e h]; exact tSk_le (tWd_le hp)
  · cases h; exact hp
theorem x_ledge {a : Nat} (hF : 6000 ≤ F) (hT : TB S B t) (hp : p ≤ t) (ha : a < 10) (ea : c 12 = nI a) : IX S n h c (iLe B t c p) (f_X1_readLedge F (yS S p (-nI 1) c n h)) := by
  have ht := hT.1
  have ca : (c 12).toNatClampNeg = a := by rw [ea, nI_cl (by omega)]
  have h1 := x_nu (F := F) (c := c) (n := n) (h := h) (lo := 1) (hi := 40) hF (by omega) (by omega) hT hp
  have W := fun k hi e p hk hhi he hp => x_nb_w (F := F) (S := S) (c := c) (n := n) (h := h) (k := k) (hi := hi) (e := e) (p := p) (B := B) (t := t) hF hk hhi he hT hp
  unfold f_X1_readLedge iLe
  cases g1 : iNu B t 1 40 p with
  | inl e =>
    rw [g1] at h1
    obtain ⟨p1, hp1, h1⟩ := h1
    have he : e < 2147483648 := by rw [iNu_e g1]; omega
    obtain ⟨r2, p2, hp2, h2⟩ := W 1 30 e p1 (by omega) (by omega) he hp1
    obtain ⟨r3, p3, hp3, h3⟩ := W 2 20 e p2 (by omega) (by omega) he hp2
    obtain ⟨r4, p4, hp4, h4⟩ := W 3 99 e p3 (by omega) (by omega) he hp3
    obtain ⟨r5, p5, hp5, h5⟩ := W 4 9 e p4 (by omega) (by omega) he hp4
    refine ⟨p5, ?_⟩
    simp (disch := omega) only [fa_lit, nI_ad, nI_mul, nI_cl, inb_nI, nI_ltE, nI_leE, nI_eqE, nI_m1, nI_m1', m1_lt, lt_m1, m1_le, le_m1, eq_self, not_true_eq_false, not_false_eq_true, ↓reduceIte, leT, leF, ltT, ltF, eqT, eqF, decide_true, decide_false, true_and, and_true, Nat.reduceAdd, bI0_i, bI_i, bI_x, bV0_v, bV_v, bV_x, ↓bnd_e, gd_t, h1, h2, h3, h4, h5, x_right_w he, and00]
  | inr x =>
    obtain ⟨p1, f⟩ := x
    rw [g1] at h1
    have q1 := iNu_p hp g1
    have h2 := x_nb (F := F) (c := c) (n := n) (h := h) (k := 1) (hi := 30) hF (by omega) (by omega) hT q1.2.1
    show IX S n h c (iB (iNb B t 1 0 30 p1) _) _
    cases g2 : iNb B t 1 0 30 p1 with
    | inl e =>
      rw [g2] at h2
      obtain ⟨p2, hp2, h2⟩ := h2
      have he : e < 2147483648 := by have := iNb_e q1.2.1 g2; omega
      obtain ⟨r3, p3, hp3, h3⟩ := W 2 20 e p2 (by omega) (by omega) he hp2
      obtain ⟨r4, p4, hp4, h4⟩ := W 3 99 e p3 (by omega) (by omega) he hp3
      obtain ⟨r5, p5, hp5, h5⟩ := W 4 9 e p4 (by omega) (by omega) he hp4
      refine ⟨p5, ?_⟩
      simp (disch := omega) only [fa_lit, nI_ad, nI_mul, nI_cl, inb_nI, nI_ltE, nI_leE, nI_eqE, nI_m1, nI_m1', m1_lt, lt_m1, m1_le, le_m1, eq_self, not_true_eq_false, not_false_eq_true, ↓reduceIte, leT, leF, ltT, ltF, eqT, eqF, decide_true, decide_false, true_and, and_true, Nat.reduceAdd, bI0_i, bI_i, bI_x, bV0_v, bV_v, bV_x, ↓bnd_e, gd_t, h1, h2, h3, h4, h5, x_right_w he, and00]
    | inr x =>
      obtain ⟨p2, r⟩ := x
      rw [g2] at h2
      have q2 := iNb_p q1.2.1 g2
      have h3 := x_nb (F := F) (c := c) (n := n) (h := h) (k := 2) (hi := 20) hF (by omega) (by omega) hT q2.2.1
      show IX S n h c (iB (iNb B t 2 0 20 p2) _) _
      cases g3 : iNb B t 2 0 20 p2 with
      | inl e =>
        rw [g3] at h3
        obtain ⟨p3, hp3, h3⟩ := h3
        have he : e < 2147483648 := by have := iNb_e q2.2.1 g3; omega
        obtain ⟨r4, p4, hp4, h4⟩ := W 3 99 e p3 (by omega) (by omega) he hp3
        obtain ⟨r5, p5, hp5, h5⟩ := W 4 9 e p4 (by omega) (by omega) he hp4
        refine ⟨p5, ?_⟩
        simp (disch := omega) only [fa_lit, nI_ad, nI_mul, nI_cl, inb_nI, nI_ltE, nI_leE, nI_eqE, nI_m1, nI_m1', m1_lt, lt_m1, m1_le, le_m1, eq_self, not_true_eq_false, not_false_eq_true, ↓reduceIte, leT, leF, ltT, ltF, eqT, eqF, decide_true, decide_false, true_and, and_true, Nat.reduceAdd, bI0_i, bI_i, bI_x, bV0_v, bV_v, bV_x, ↓bnd_e, gd_t, h1, h2, h3, h4, h5, x_right_w he, and00]
      | inr x =>
        obtain ⟨p3, e⟩ := x
        rw [g3] at h3
        have q3 := iNb_p q2.2.1 g3
        have h4 := x_nb (F := F) (c := c) (n := n) (h := h) (k := 3) (hi := 99) hF (by omega) (by omega) hT q3.2.1
        show IX S n h c (iB (iNb B t 3 0 99 p3) _) _
        cases g4 : iNb B t 3 0 99 p3 with
        | inl e =>
          rw [g4] at h4
          obtain ⟨p4, hp4, h4⟩ := h4
          have he : e < 2147483648 := by have := iNb_e q3.2.1 g4; omega
          obtain ⟨r5, p5, hp5, h5⟩ := W 4 9 e p4 (by omega) (by omega) he hp4
          refine ⟨p5, ?_⟩
          simp (disch := omega) only [fa_lit, nI_ad, nI_mul, nI_cl, inb_nI, nI_ltE, nI_leE, nI_eqE, nI_m1, nI_m1', m1_lt, lt_m1, m1_le, le_m1, eq_self, not_true_eq_false, not_false_eq_true, ↓reduceIte, leT, leF, ltT, ltF, eqT, eqF, decide_true, decide_false, true_and, and_true, Nat.reduceAdd, bI0_i, bI_i, bI_x, bV0_v, bV_v, bV_x, ↓bnd_e, gd_t, h1, h2, h3, h4, h5, x_right_w he, and00]
        | inr x =>
          obtain ⟨p4, ag⟩ := x
          rw [g4] at h4
          have q4 := iNb_p q3.2.1 g4
          have h5 := x_nb (F := F) (c := c) (n := n) (h := h) (k := 4) (hi := 9) hF (by omega) (by omega) hT q4.2.1
          show IX S n h c (iB (iNb B t 4 0 9 p4) _) _
          cases g5 : iNb B t 4 0 9 p4 with
          | inl e =>
            rw [g5] at h5
            obtain ⟨p5, hp5, h5⟩ := h5
            have he : e < 2147483648 := by have := iNb_e q4.2.1 g5; omega
            refine ⟨p5, ?_⟩
            simp (disch := omega) only [fa_lit, nI_ad, nI_mul, nI_cl, inb_nI, nI_ltE, nI_leE, nI_eqE, nI_m1, nI_m1', m1_lt, lt_m1, m1_le, le_m1, eq_self, not_true_eq_false, not_false_eq_true, ↓reduceIte, leT, leF, ltT, ltF, eqT, eqF, decide_true, decide_false, true_and, and_true, Nat.reduceAdd, bI0_i, bI_i, bI_x, bV0_v, bV_v, bV_x, ↓bnd_e, gd_t, h1, h2, h3, h4, h5, x_right_w he, and00]
          | inr x =>
            obtain ⟨p5, bi⟩ := x
            rw [g5] at h5
            show _ = (some (.inl (some (.int (nI 1))), yS S p5 (-nI 1) (iCl c (c 12).toNatClampNeg f r e ag bi) n h) : Option mR)
            rw [ca]
            unfold f_X1_readLedge_b122 iCl
            by_cases e0 : e = 0
            · rw [if_pos e0]
              simp (disch := omega) only [fa_lit, nI_ad, nI_mul, nI_cl, inb_nI, nI_ltE, nI_leE, nI_eqE, nI_m1, nI_m1', m1_lt, lt_m1, m1_le, le_m1, eq_self, not_true_eq_false, not_false_eq_true, ↓reduceIte, leT, leF, ltT, ltF, eqT, eqF, decide_true, decide_false, true_and, and_true, Nat.reduceAdd, bI0_i, bI_i, bI_x, bV0_v, bV_v, bV_x, ↓bnd_e, gd_t, h1, h2, h3, h4, h5, x_right, x_at, x_putLedge, x_add, y_27, y_u27, ea, upd_n, e0, and10]
            · rw [if_neg e0]
              simp (disch := omega) only [fa_lit, nI_ad, nI_mul, nI_cl, inb_nI, nI_ltE, nI_leE, nI_eqE, nI_m1, nI_m1', m1_lt, lt_m1, m1_le, le_m1, eq_self, not_true_eq_false, not_false_eq_true, ↓reduceIte, leT, leF, ltT, ltF, eqT, eqF, decide_true, decide_false, true_and, and_true, Nat.reduceAdd, bI0_i, bI_i, bI_x, bV0_v, bV_v, bV_x, ↓bnd_e, gd_t, h1, h2, h3, h4, h5, x_right, x_at, x_putLedge, x_add, y_27, y_u27, ea, upd_n, e0, and10]
end T
