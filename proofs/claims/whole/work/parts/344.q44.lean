/-! texts: THE LAW's lines; the class reads them -/
abbrev gLn : Type := Nat × Nat × List Nat
def gKd (l : List Nat) : Option Nat := if l = strN 11 then some 0 else if l = strN 12 then some 1 else if l = strN 13 then some 2 else none
def gLine (B : Nat → Nat) (t p : Nat) : Nat ⊕ (Nat × gLn) := match gKd (tWl B t p) with
  | none => .inl p
  | some k => match tN B t 0 20 (tSk B t (tWd B t p)) with
    | none => .inl (tSk B t (tWd B t p))
    | some v =>
      if tWl B t (tSk B t (tE B t (tSk B t (tWd B t p)))) = strN 14 then (match gC B t 2100 1 0 (tSk B t (tWd B t (tSk B t (tE B t (tSk B t (tWd B t p)))))) with
        | .inl e => .inl e
        | .inr (p3, cs) => .inr (p3, k, v, cs))
      else .inr (tSk B t (tE B t (tSk B t (tWd B t p))), k, v, [])
def gLs (B : Nat → Nat) (t : Nat) : Nat → Nat → Nat ⊕ List gLn
  | 0, p => .inl p
  | m + 1, p => match gLine B t p with
    | .inl e => .inl e
    | .inr (p1, l) => if p1 = t then .inr [l] else if tSg B t p1 59 = true then (match gLs B t m (tSk B t (p1 + 1)) with
      | .inl e => .inl e
      | .inr ls => .inr (l :: ls)) else .inl p1
def gCs : List gLn → List Nat
  | [] => []
  | l :: ls => l.2.2 ++ gCs ls
def gAt (dn : List gLn) (j : Nat) : gLn := dn.getD j (0, 0, [])
def gEn (dn : List gLn) (j : Nat) : Nat := (gCs (dn.take (j + 1))).length
def gOk (l : gLn) : Prop := l.1 ≤ 2 ∧ l.2.1 ≤ 20 ∧ (l.2.2 = [] ∨ tyL l.2.2 [] = some [true])
theorem gCs_app : ∀ {a b : List gLn}, gCs (a ++ b) = gCs a ++ gCs b
  | [], b => rfl
  | l :: a, b => by
    show l.2.2 ++ gCs (a ++ b) = (l.2.2 ++ gCs a) ++ gCs b
    rw [gCs_app, List.append_assoc]
theorem gCs_1 {dn : List gLn} {l : gLn} : gCs (dn ++ [l]) = gCs dn ++ l.2.2 := by
  rw [gCs_app]; show gCs dn ++ (l.2.2 ++ []) = _; rw [List.append_nil]
theorem gAt_lo : ∀ {dn : List gLn} {l : List gLn} {j : Nat}, j < dn.length → gAt (dn ++ l) j = gAt dn j
  | [], _, _, h => absurd h (by simp)
  | a :: dn, l, 0, _ => rfl
  | a :: dn, l, j + 1, h => by
    show gAt (dn ++ l) j = gAt dn j
    exact gAt_lo (by simpa using h)
theorem gAt_hi : ∀ {dn : List gLn} {l : gLn}, gAt (dn ++ [l]) dn.length = l
  | [], _ => rfl
  | a :: dn, l => by
    show gAt (dn ++ [l]) dn.length = l
    exact gAt_hi
theorem gEn_lo {dn l : List gLn} {j : Nat} (h : j < dn.length) : gEn (dn ++ l) j = gEn dn j := by
  unfold gEn; rw [List.take_append_of_le_length (by omega)]
theorem gEn_hi {dn : List gLn} {l : gLn} : gEn (dn ++ [l]) dn.length = (gCs (dn ++ [l])).length := by
  unfold gEn; rw [List.take_of_length_le (by rw [List.length_append, List.length_singleton]; omega)]
theorem gKd_p {l : List Nat} {k : Nat} (h : gKd l = some k) : k ≤ 2 ∧ l = strN (11 + k) := by
  unfold gKd at h
  split at h
  · rename_i g; cases h; exact ⟨by omega, g⟩
  · split at h
    · rename_i g; cases h; exact ⟨by omega, g⟩
    · split at h
      · rename_i g; cases h; exact ⟨by omega, g⟩
      · cases h
section T
variable {B : Nat → Nat} {t : Nat}
theorem gLine_p {p p' : Nat} {l : gLn} (hp : p ≤ t) (h : gLine B t p = .inr (p', l)) : gOk l ∧ p + l.2.2.length ≤ p' ∧ p' ≤ t := by
  unfold gLine at h
  split at h
  · cases h
  · rename_i k hk
    obtain ⟨hk2, hks⟩ := gKd_p hk
    have w1 := tWd_str (by omega) hks
    have w2 := tWd_le (B := B) hp
    have w3 := tSk_ge (B := B) w2
    have w4 := tSk_le (B := B) w2
    generalize tSk B t (tWd B t p) = p1 at *
    split at h
    · cases h
    · rename_i v hv
      have v1 := tN_p hv
      have v2 := tE_p (B := B) w4
      have v3 := tSk_ge (B := B) v2.2.1
      have v4 := tSk_le (B := B) v2.2.1
      generalize tSk B t (tE B t p1) = p2 at *
      split at h
      · rename_i g
        have w5 := tWd_le (B := B) v4
        have w6 := tSk_ge (B := B) w5
        have w7 := tSk_le (B := B) w5
        have w8 := tWd_str (by omega) g
        split at h
        · cases h
        · rename_i p3 cs hc
          cases h
          have q := gC_p w7 hc
          have ty := (gC_ty (T := []) (by omega) hc).2.1 rfl (by simp)
          exact ⟨⟨hk2, v1.2.2, Or.inr ty⟩, by show p + cs.length ≤ p'; omega, q.2.1⟩
      · cases h
        exact ⟨⟨hk2, v1.2.2, Or.inl rfl⟩, by show p + 0 ≤ p'; omega, v4⟩
theorem gLs_p : ∀ {m p : Nat} {ls : List gLn}, p ≤ t → gLs B t m p = .inr ls → (∀ l ∈ ls, gOk l) ∧ ls.length ≤ m ∧ p + (gCs ls).length ≤ t
  | 0, _, _, _, h => by cases h
  | m + 1, p, ls, hp, h => by
    rw [gLs] at h
    split at h
    · cases h
    · rename_i p1 l hl
      have q := gLine_p hp hl
      split at h
      · cases h
        refine ⟨fun x hx => ?_, by simp, ?_⟩
        · rw [List.mem_singleton] at hx; rw [hx]; exact q.1
        · show p + (l.2.2 ++ []).length ≤ t; rw [List.append_nil]; omega
      · split at h
        · rename_i g
          have hg := tSg_p g
          have w3 := tSk_ge (B := B) (show p1 + 1 ≤ t by omega)
          split at h
          · cases h
          · rename_i ls' hls
            cases h
            have ih := gLs_p (tSk_le (by omega)) hls
            refine ⟨fun x hx => ?_, by rw [List.length_cons]; omega, ?_⟩
            · rcases List.mem_cons.1 hx with e | e
              · rw [e]; exact q.1
              · exact ih.1 x e
            · show p + (l.2.2 ++ gCs ls').length ≤ t; rw [List.length_append]; omega
        · cases h
variable {S : mS} {p n : Nat} {w : Int32} {c h : Nat → Int32} {F : Nat}
theorem y_uo {o k : Nat} {v : Int32} (h1 : o ≠ 1) (h2 : o ≠ 27) (h3 : o ≠ 10) (h4 : o ≠ 14) : upS (yS S p w c n h) o k v = yS (upS S o k v) p w c n h := by
  funext x
  by_cases e : x = o
  · subst e; rw [upS_s, y_o h1 h2 h3 h4, y_o h1 h2 h3 h4, upS_s]
  · rw [upS_n e]
    by_cases e1 : x = 1
    · subst e1; rw [y_1, y_1, upS_n e]
    · by_cases e2 : x = 27
      · subst e2; rfl
      · by_cases e3 : x = 10
        · subst e3; rw [y_10, y_10, upS_n e]
        · by_cases e4 : x = 14
          · subst e4; rfl
          · rw [y_o e1 e2 e3 e4, y_o e1 e2 e3 e4, upS_n e]
theorem y_u106 {v : Int32} : upS (yS S p w c n h) 10 6 v = yS (upS S 10 6 v) p w c n h := by
  funext x
  by_cases e : x = 10
  · subst e; rw [upS_s, y_10, y_10, upS_s, upd_comm (by omega)]
  · rw [upS_n e]
    by_cases e1 : x = 1
    · subst e1; rw [y_1, y_1, upS_n e]
    · by_cases e2 : x = 27
      · subst e2; rfl
      · by_cases e4 : x = 14
        · subst e4; rfl
        · rw [y_o e1 e2 e e4, y_o e1 e2 e e4, upS_n e]
def lnS (S : mS) (L k v n : Nat) : mS := upS (upS (upS (upS S 11 L (nI k)) 12 L (nI v)) 13 L (nI n)) 10 6 (nI (L + 1))
theorem lnS_o {L k v n o : Nat} (h1 : o ≠ 10) (h2 : o ≠ 11) (h3 : o ≠ 12) (h4 : o ≠ 13) : lnS S L k v n o = S o := by
  unfold lnS; rw [upS_n h1, upS_n h4, upS_n h3, upS_n h2]
theorem TB_of {S S' : mS} (h1 : S' 1 = S 1) (h2 : S' 2 = S 2) (hT : TB S B t) : TB S' B t := ⟨hT.1, by rw [h1]; exact hT.2.1, fun i hi => by rw [h2]; exact hT.2.2 i hi⟩
theorem x_addLine {L k v : Nat} (hL : L < 12) (e6 : S 10 6 = nI L) : f_X2_addLine (nI k) (nI v) (yS S p w c n h) = some (.inl none, yS (lnS S L k v n) p w c n h) := by
  unfold f_X2_addLine f_X2_addLine_b59 lnS
  have a1 : (upS S 11 L (nI k)) 10 6 = nI L := by rw [upS_n (by omega)]; exact e6
  have a2 : (upS (upS S 11 L (nI k)) 12 L (nI v)) 10 6 = nI L := by rw [upS_n (by omega)]; exact a1
  have a3 : (upS (upS (upS S 11 L (nI k)) 12 L (nI v)) 13 L (nI n)) 10 6 = nI L := by rw [upS_n (by omega)]; exact a2
  simp (disch := omega) only [fa_lit, nI_ad, nI_mul, nI_cl, inb_nI, nI_ltE, nI_leE, nI_eqE, nI_m1, nI_m1', m1_lt, lt_m1, m1_le, le_m1, eq_self, not_true_eq_false, not_false_eq_true, ↓reduceIte, leT, leF, ltT, ltF, eqT, eqF, decide_true, decide_false, true_and, and_true, Nat.reduceAdd, bI0_i, bI_i, bI_x, bV0_v, bV_v, bV_x, ↓bnd_e, gd_t, y_106, e6, y_uo, a1, a2, y_107, a3, y_u106]
def PX (S : mS) (dn : List gLn) : Prop := S 10 6 = nI dn.length ∧ ∀ j, j < dn.length → S 11 j = nI (gAt dn j).1 ∧ S 12 j = nI (gAt dn j).2.1 ∧ S 13 j = nI (gEn dn j)
def PC (h : Nat → Int32) (dn : List gLn) : Prop := ∀ j, j < (gCs dn).length → h j = nI ((gCs dn).getD j 0)
theorem PX_1 {dn : List gLn} {l : gLn} (hP : PX S dn) : PX (lnS S dn.length l.1 l.2.1 (gCs (dn ++ [l])).length) (dn ++ [l]) := by
  refine ⟨?_, fun j hj => ?_⟩
  · unfold lnS; rw [upS_s, upd_s, List.length_append, List.length_singleton]
  · rw [List.length_append, List.length_singleton] at hj
    unfold lnS
    by_cases e : j = dn.length
    · subst e
      rw [gAt_hi, gEn_hi]
      refine ⟨?_, ?_, ?_⟩
      · rw [upS_n (by omega), upS_n (by omega), upS_n (by omega), upS_s, upd_s]
      · rw [upS_n (by omega), upS_n (by omega), upS_s, upd_s]
      · rw [upS_n (by omega), upS_s, upd_s]
    · rw [gAt_lo (by omega), gEn_lo (by omega)]
      obtain ⟨q1, q2, q3⟩ := hP.2 j (by omega)
      refine ⟨?_, ?_, ?_⟩
      · rw [upS_n (by omega), upS_n (by omega), upS_n (by omega), upS_s, upd_n e]; exact q1
      · rw [upS_n (by omega), upS_n (by omega), upS_s, upd_n e, upS_n (by omega)]; exact q2
      · rw [upS_n (by omega), upS_s, upd_n e, upS_n (by omega), upS_n (by omega)]; exact q3
theorem eg_getD_lo : ∀ {a b : List Nat} {j : Nat}, j < a.length → (a ++ b).getD j 0 = a.getD j 0
  | [], _, _, h => absurd h (by simp)
  | _ :: a, b, 0, _ => rfl
  | _ :: a, b, j + 1, h => by
    show (a ++ b).getD j 0 = a.getD j 0
    exact eg_getD_lo (by simpa using h)
theorem eg_getD_hi : ∀ {a b : List Nat} {j : Nat}, (a ++ b).getD (a.length + j) 0 = b.getD j 0
  | [], b, j => by rw [List.nil_append, List.length_nil, Nat.zero_add]
  | _ :: a, b, j => by
    rw [List.length_cons, show a.length + 1 + j = (a.length + j) + 1 by omega]
    show (a ++ b).getD (a.length + j) 0 = b.getD j 0
    exact eg_getD_hi
theorem PC_1 {dn : List gLn} {l : gLn} (hP : PC h dn) : PC (exF h (gCs dn).length l.2.2) (dn ++ [l]) := by
  intro j hj
  rw [gCs_1] at hj ⊢
  rw [List.length_append] at hj
  by_cases g : j < (gCs dn).length
  · rw [exF_lo g, eg_getD_lo g]; exact hP j g
  · obtain ⟨i, rfl⟩ : ∃ i, j = (gCs dn).length + i := ⟨j - (gCs dn).length, by omega⟩
    rw [exF_at (by omega), eg_getD_hi]
theorem x_kind (hF : 6000 ≤ F) (hT : TB S B t) (hp : p ≤ t) : f_X3_takeKind F (yS S p w c n h) = (match gKd (tWl B t p) with
    | some k => some (.inl (some (.int (nI k))), yS S (tSk B t (tWd B t p)) w c n h)
    | none => some (.inl (some (.int (-nI 1))), yS S p w c n h)) := by
  unfold f_X3_takeKind f_X3_takeKind_b45 gKd
  by_cases g1 : tWl B t p = strN 11
  · have h1 := x_wT (F := F) (w := w) (c := c) (n := n) (h := h) hF (by omega) hT hp g1
    rw [if_pos g1]
    simp (disch := omega) only [fa_lit, nI_ad, nI_mul, nI_cl, inb_nI, nI_ltE, nI_leE, nI_eqE, nI_m1, nI_m1', m1_lt, lt_m1, m1_le, le_m1, eq_self, not_true_eq_false, not_false_eq_true, ↓reduceIte, leT, leF, ltT, ltF, eqT, eqF, decide_true, decide_false, true_and, and_true, Nat.reduceAdd, bI0_i, bI_i, bI_x, bV0_v, bV_v, bV_x, ↓bnd_e, gd_t, h1]
  · have h1 := x_wF (F := F) (w := w) (c := c) (n := n) (h := h) hF (by omega) hT hp g1
    rw [if_neg g1]
    by_cases g2 : tWl B t p = strN 12
    · have h2 := x_wT (F := F) (w := w) (c := c) (n := n) (h := h) hF (by omega) hT hp g2
      rw [if_pos g2]
      simp (disch := omega) only [fa_lit, nI_ad, nI_mul, nI_cl, inb_nI, nI_ltE, nI_leE, nI_eqE, nI_m1, nI_m1', m1_lt, lt_m1, m1_le, le_m1, eq_self, not_true_eq_false, not_false_eq_true, ↓reduceIte, leT, leF, ltT, ltF, eqT, eqF, decide_true, decide_false, true_and, and_true, Nat.reduceAdd, bI0_i, bI_i, bI_x, bV0_v, bV_v, bV_x, ↓bnd_e, gd_t, h1, h2]
    · have h2 := x_wF (F := F) (w := w) (c := c) (n := n) (h := h) hF (by omega) hT hp g2
      rw [if_neg g2]
      by_cases g3 : tWl B t p = strN 13
      · have h3 := x_wT (F := F) (w := w) (c := c) (n := n) (h := h) hF (by omega) hT hp g3
        rw [if_pos g3]
        simp (disch := omega) only [fa_lit, nI_ad, nI_mul, nI_cl, inb_nI, nI_ltE, nI_leE, nI_eqE, nI_m1, nI_m1', m1_lt, lt_m1, m1_le, le_m1, eq_self, not_true_eq_false, not_false_eq_true, ↓reduceIte, leT, leF, ltT, ltF, eqT, eqF, decide_true, decide_false, true_and, and_true, Nat.reduceAdd, bI0_i, bI_i, bI_x, bV0_v, bV_v, bV_x, ↓bnd_e, gd_t, h1, h2, h3]
      · have h3 := x_wF (F := F) (w := w) (c := c) (n := n) (h := h) hF (by omega) hT hp g3
        rw [if_neg g3]
        simp (disch := omega) only [fa_lit, nI_ad, nI_mul, nI_cl, inb_nI, nI_ltE, nI_leE, nI_eqE, nI_m1, nI_m1', m1_lt, lt_m1, m1_le, le_m1, eq_self, not_true_eq_false, not_false_eq_true, ↓reduceIte, leT, leF, ltT, ltF, eqT, eqF, decide_true, decide_false, true_and, and_true, Nat.reduceAdd, bI0_i, bI_i, bI_x, bV0_v, bV_v, bV_x, ↓bnd_e, gd_t, h1, h2, h3]
theorem x_lawLine {L : Nat} (hF : 6000 ≤ F) (hT : TB S B t) (hp : p ≤ t) (hn : n ≤ p) (hL : L < 12) (e6 : S 10 6 = nI L) : (match gLine B t p with
    | .inr (p', l) => f_X3_readLine F (yS S p (-nI 1) c n h) = x1K (yS (lnS S L l.1 l.2.1 (n + l.2.2.length)) p' (-nI 1) c (n + l.2.2.length) (exF h n l.2.2))
    | .inl e => ∃ p' n' h', f_X3_readLine F (yS S p (-nI 1) c n h) = some (.inl (some (.int (nI 0))), yS S p' (nI e) c n' h')) := by
  have ht := hT.1
  have hk := x_kind (F := F) (w := -nI 1) (c := c) (n := n) (h := h) hF hT hp
  unfold f_X3_readLine f_X3_readLine_b58 gLine
  cases gk : gKd (tWl B t p) with
  | none =>
    rw [gk] at hk
    have hr := x_refuse (S := S) (p := p) (w := -nI 1) (c := c) (n := n) (h := h)
    have er : tRf (-nI 1) p = nI p := by unfold tRf; rw [if_pos rfl]
    rw [er] at hr
    refine ⟨p, n, h, ?_⟩
    simp (disch := omega) only [fa_lit, nI_ad, nI_mul, nI_cl, inb_nI, nI_ltE, nI_leE, nI_eqE, nI_m1, nI_m1', m1_lt, lt_m1, m1_le, le_m1, eq_self, not_true_eq_false, not_false_eq_true, ↓reduceIte, leT, leF, ltT, ltF, eqT, eqF, decide_true, decide_false, true_and, and_true, Nat.reduceAdd, bI0_i, bI_i, bI_x, bV0_v, bV_v, bV_x, ↓bnd_e, gd_t, hk, hr, and00]
  | some k =>
    obtain ⟨hk2, hks⟩ := gKd_p gk
    have w1 := tWd_str (by omega) hks
    have w2 := tWd_le (B := B) hp
    have w3 := tSk_ge (B := B) w2
    have w4 := tSk_le (B := B) w2
    have wl3 : 3 ≤ (strN (11 + k)).length := by
      match k, hk2 with
      | 0, _ => decide
      | 1, _ => decide
      | 2, _ => decide
    have wd3 : p + 3 ≤ tWd B t p := by unfold tWd; rw [hks]; omega
    rw [gk] at hk
    dsimp only
    generalize tSk B t (tWd B t p) = p1 at *
    have hN := x_takeNumber (F := F) (lo := 0) (hi := 20) (w := -nI 1) (c := c) (n := n) (h := h) hF (by omega) (by omega) hT w4
    cases gv : tN B t 0 20 p1 with
    | none =>
      rw [gv] at hN
      have er : tRf (-nI 1) p1 = nI p1 := by unfold tRf; rw [if_pos rfl]
      rw [er] at hN
      refine ⟨p1, n, h, ?_⟩
      simp (disch := omega) only [fa_lit, nI_ad, nI_mul, nI_cl, inb_nI, nI_ltE, nI_leE, nI_eqE, nI_m1, nI_m1', m1_lt, lt_m1, m1_le, le_m1, eq_self, not_true_eq_false, not_false_eq_true, ↓reduceIte, leT, leF, ltT, ltF, eqT, eqF, decide_true, decide_false, true_and, and_true, Nat.reduceAdd, bI0_i, bI_i, bI_x, bV0_v, bV_v, bV_x, ↓bnd_e, gd_t, hk, hN, and00]
    | some v =>
      have v1 := tN_p gv
      have v2 := tE_p (B := B) w4
      have v3 := tSk_ge (B := B) v2.2.1
      have v4 := tSk_le (B := B) v2.2.1
      rw [gv] at hN
      dsimp only
      generalize tSk B t (tE B t p1) = p2 at *
      by_cases g : tWl B t p2 = strN 14
      · have h3 := x_wT (F := F) (w := -nI 1) (c := c) (n := n) (h := h) hF (by omega) hT v4 g
        have w5 := tWd_le (B := B) v4
        have w6 := tSk_ge (B := B) w5
        have w7 := tSk_le (B := B) w5
        have w8 := tWd_str (by omega) g
        have hC := (x_cond (F := F) (c := c) hF hT 2100).2 0 (by omega) 40 (tSk B t (tWd B t p2)) n h w7 (by omega) (by omega) (by omega)
        rw [if_pos g]
        cases gc : gC B t 2100 1 0 (tSk B t (tWd B t p2)) with
        | inl e =>
          rw [gc] at hC
          obtain ⟨p', n', h', e2⟩ := hC
          refine ⟨p', n', h', ?_⟩
          simp (disch := omega) only [fa_lit, nI_ad, nI_mul, nI_cl, inb_nI, nI_ltE, nI_leE, nI_eqE, nI_m1, nI_m1', m1_lt, lt_m1, m1_le, le_m1, eq_self, not_true_eq_false, not_false_eq_true, ↓reduceIte, leT, leF, ltT, ltF, eqT, eqF, decide_true, decide_false, true_and, and_true, Nat.reduceAdd, bI0_i, bI_i, bI_x, bV0_v, bV_v, bV_x, ↓bnd_e, gd_t, hk, hN, h3, show f_X3_readAny_r F (nI 0) (yS S (tSk B t (tWd B t p2)) (-nI 1) c n h) = _ from e2, and00]
        | inr x =>
          obtain ⟨p3, cs⟩ := x
          rw [gc] at hC
          have hC : f_X3_readAny_r F (nI 0) (yS S (tSk B t (tWd B t p2)) (-nI 1) c n h) = some (.inl (some (.int (nI 1))), yS S p3 (-nI 1) c (n + cs.length) (exF h n cs)) := hC
          have ha := x_addLine (S := S) (p := p3) (w := -nI 1) (c := c) (n := n + cs.length) (h := exF h n cs) (k := k) (v := v) hL e6
          simp (disch := omega) only [fa_lit, nI_ad, nI_mul, nI_cl, inb_nI, nI_ltE, nI_leE, nI_eqE, nI_m1, nI_m1', m1_lt, lt_m1, m1_le, le_m1, eq_self, not_true_eq_false, not_false_eq_true, ↓reduceIte, leT, leF, ltT, ltF, eqT, eqF, decide_true, decide_false, true_and, and_true, Nat.reduceAdd, bI0_i, bI_i, bI_x, bV0_v, bV_v, bV_x, ↓bnd_e, gd_t, hk, hN, h3, hC, ha, and10]
          rfl
      · have h3 := x_wF (F := F) (w := -nI 1) (c := c) (n := n) (h := h) hF (by omega) hT v4 g
        have ha := x_addLine (S := S) (p := p2) (w := -nI 1) (c := c) (n := n) (h := h) (k := k) (v := v) hL e6
        rw [if_neg g]
        simp (disch := omega) only [fa_lit, nI_ad, nI_mul, nI_cl, inb_nI, nI_ltE, nI_leE, nI_eqE, nI_m1, nI_m1', m1_lt, lt_m1, m1_le, le_m1, eq_self, not_true_eq_false, not_false_eq_true, ↓reduceIte, leT, leF, ltT, ltF, eqT, eqF, decide_true, decide_false, true_and, and_true, Nat.reduceAdd, bI0_i, bI_i, bI_x, bV0_v, bV_v, bV_x, ↓bnd_e, gd_t, hk, hN, h3, ha, and10]
        rfl
theorem x_atEnd (hT : TB S B t) (hp : p ≤ t) : f_X8_isAtEnd (yS S p w c n h) = some (.inl (some (.int (bV32 (decide (p = t))))), yS S p w c n h) := by
  have ht := hT.1
  unfold f_X8_isAtEnd f_X8_isAtEnd_b16
  by_cases g : p = t
  · subst g
    simp (disch := omega) only [fa_lit, nI_ad, nI_mul, nI_cl, inb_nI, nI_ltE, nI_leE, nI_eqE, nI_m1, nI_m1', m1_lt, lt_m1, m1_le, le_m1, eq_self, not_true_eq_false, not_false_eq_true, ↓reduceIte, leT, leF, ltT, ltF, eqT, eqF, decide_true, decide_false, true_and, and_true, Nat.reduceAdd, bI0_i, bI_i, bI_x, bV0_v, bV_v, bV_x, ↓bnd_e, gd_t, y_11, y_12, hT.2.1, Nat.lt_irrefl, and10, bT]
  · simp (disch := omega) only [fa_lit, nI_ad, nI_mul, nI_cl, inb_nI, nI_ltE, nI_leE, nI_eqE, nI_m1, nI_m1', m1_lt, lt_m1, m1_le, le_m1, eq_self, not_true_eq_false, not_false_eq_true, ↓reduceIte, leT, leF, ltT, ltF, eqT, eqF, decide_true, decide_false, true_and, and_true, Nat.reduceAdd, bI0_i, bI_i, bI_x, bV0_v, bV_v, bV_x, ↓bnd_e, gd_t, y_11, y_12, hT.2.1, and00, bF, g]
def FD (S S' : mS) : Prop := ∀ o, o ≠ 10 → o ≠ 11 → o ≠ 12 → o ≠ 13 → S' o = S o
theorem x_lawLines (hF : 6000 ≤ F) : ∀ (m p : Nat) (S : mS) (dn : List gLn) (h : Nat → Int32) (f : Nat), TB S B t → p ≤ t → (gCs dn).length ≤ p → dn.length + m = 12 → m < f → PX S dn → PC h dn →
    (match gLs B t m p with
    | .inr ls => ∃ S' p' h', FD S S' ∧ PX S' (dn ++ ls) ∧ PC h' (dn ++ ls) ∧ f_X4_readLines_31_b21 F f (nI 12) (nI dn.length) (yS S p (-nI 1) c (gCs dn).length h) = x1K (yS S' p' (-nI 1) c (gCs (dn ++ ls)).length h')
    | .inl e => ∃ S' p' n' h', FD S S' ∧ f_X4_readLines_31_b21 F f (nI 12) (nI dn.length) (yS S p (-nI 1) c (gCs dn).length h) = some (.inl (some (.int (nI 0))), yS S' p' (nI e) c n' h'))
  | 0, p, S, dn, h, f + 1, hT, hp, hn, hd, hf, hP, hC => by
    have ed : dn.length = 12 := by omega
    have hr := x_refuse (S := S) (p := p) (w := -nI 1) (c := c) (n := (gCs dn).length) (h := h)
    have er : tRf (-nI 1) p = nI p := by unfold tRf; rw [if_pos rfl]
    rw [er] at hr
    rw [gLs, f_X4_readLines_31_b21, ed]
    refine ⟨S, p, (gCs dn).length, h, fun _ _ _ _ _ => rfl, ?_⟩
    simp (disch := omega) only [fa_lit, nI_ad, nI_mul, nI_cl, inb_nI, nI_ltE, nI_leE, nI_eqE, nI_m1, nI_m1', m1_lt, lt_m1, m1_le, le_m1, eq_self, not_true_eq_false, not_false_eq_true, ↓reduceIte, leT, leF, ltT, ltF, eqT, eqF, decide_true, decide_false, true_and, and_true, Nat.reduceAdd, bI0_i, bI_i, bI_x, bV0_v, bV_v, bV_x, ↓bnd_e, gd_t, Nat.le_refl, hr, and00]
  | m + 1, p, S, dn, h, f + 1, hT, hp, hn, hd, hf, hP, hC => by
    have hl := x_lawLine (F := F) (c := c) (h := h) hF hT hp hn (show dn.length < 12 by omega) hP.1
    rw [gLs, f_X4_readLines_31_b21]
    cases gl : gLine B t p with
    | inl e =>
      rw [gl] at hl
      obtain ⟨p', n', h', e2⟩ := hl
      refine ⟨S, p', n', h', fun _ _ _ _ _ => rfl, ?_⟩
      simp (disch := omega) only [fa_lit, nI_ad, nI_mul, nI_cl, inb_nI, nI_ltE, nI_leE, nI_eqE, nI_m1, nI_m1', m1_lt, lt_m1, m1_le, le_m1, eq_self, not_true_eq_false, not_false_eq_true, ↓reduceIte, leT, leF, ltT, ltF, eqT, eqF, decide_true, decide_false, true_and, and_true, Nat.reduceAdd, bI0_i, bI_i, bI_x, bV0_v, bV_v, bV_x, ↓bnd_e, gd_t, e2, and00]
    | inr x =>
      obtain ⟨p1, l⟩ := x
      rw [gl] at hl
      have q := gLine_p hp gl
      have eL : (gCs dn).length + l.2.2.length = (gCs (dn ++ [l])).length := by rw [gCs_1, List.length_append]
      dsimp only at hl
      rw [eL] at hl
      have hl : f_X3_readLine F (yS S p (-nI 1) c (gCs dn).length h) = some (.inl (some (.int (nI 1))), yS (lnS S dn.length l.1 l.2.1 (gCs (dn ++ [l])).length) p1 (-nI 1) c (gCs (dn ++ [l])).length (exF h (gCs dn).length l.2.2)) := hl
      have hP' := PX_1 (l := l) hP
      have hC' := PC_1 (l := l) hC
      have hfd : FD S (lnS S dn.length l.1 l.2.1 (gCs (dn ++ [l])).length) := fun o h1 h2 h3 h4 => lnS_o h1 h2 h3 h4
      generalize lnS S dn.length l.1 l.2.1 (gCs (dn ++ [l])).length = S1 at *
      generalize exF h (gCs dn).length l.2.2 = h1 at *
      have hT1 : TB S1 B t := TB_of (hfd 1 (by omega) (by omega) (by omega) (by omega)) (hfd 2 (by omega) (by omega) (by omega) (by omega)) hT
      have hE := x_atEnd (w := -nI 1) (c := c) (n := (gCs (dn ++ [l])).length) (h := h1) hT1 q.2.2
      dsimp only
      by_cases g1 : p1 = t
      · rw [if_pos g1]
        rw [decide_eq_true g1] at hE
        refine ⟨S1, p1, h1, hfd, hP', hC', ?_⟩
        simp (disch := omega) only [fa_lit, nI_ad, nI_mul, nI_cl, inb_nI, nI_ltE, nI_leE, nI_eqE, nI_m1, nI_m1', m1_lt, lt_m1, m1_le, le_m1, eq_self, not_true_eq_false, not_false_eq_true, ↓reduceIte, leT, leF, ltT, ltF, eqT, eqF, decide_true, decide_false, true_and, and_true, Nat.reduceAdd, bI0_i, bI_i, bI_x, bV0_v, bV_v, bV_x, ↓bnd_e, gd_t, hl, hE, bT, and10]
        rfl
      · rw [if_neg g1]
        rw [decide_eq_false g1] at hE
        by_cases g2 : tSg B t p1 59 = true
        · have hg := tSg_p g2
          have hs := x_sT (F := F) (w := -nI 1) (c := c) (n := (gCs (dn ++ [l])).length) (h := h1) (s := 59) hF (by omega) hT1 q.2.2 g2
          have w3 := tSk_ge (B := B) (show p1 + 1 ≤ t by omega)
          have el : (dn ++ [l]).length = dn.length + 1 := by rw [List.length_append, List.length_singleton]
          have ih := x_lawLines hF m (tSk B t (p1 + 1)) S1 (dn ++ [l]) h1 f hT1 (tSk_le (by omega)) (by omega) (by omega) (by omega) hP' hC'
          rw [if_pos g2]
          have e2 : (if (nI 12) ≤ (nI dn.length) then bI0 (f_X8_refuse (yS S p (-nI 1) c (gCs dn).length h)) (fun r5 S4 => some (.inl (some (.int (r5 &&& nI 1))), S4)) else bI0 (f_X3_readLine F (yS S p (-nI 1) c (gCs dn).length h)) (fun r7 S6 => (if ¬ r7 = nI 0 then bI0 (f_X8_isAtEnd S6) (fun r9 S8 => (if r9 = nI 0 then bI0 (f_X8_takesSign F (nI 59) S8) (fun r11 S10 => (if ¬ r11 = nI 0 then f_X4_readLines_31_b21 F f (nI 12) (nI dn.length + nI 1) S10 else bI0 (f_X8_refuse S10) (fun r13 S12 => some (.inl (some (.int (r13 &&& nI 1))), S12)))) else some (.inl (some (.int (nI 1 &&& nI 1))), S8))) else some (.inl (some (.int (nI 0 &&& nI 1))), S6)))) = f_X4_readLines_31_b21 F f (nI 12) (nI (dn ++ [l]).length) (yS S1 (tSk B t (p1 + 1)) (-nI 1) c (gCs (dn ++ [l])).length h1) := by
            rw [el]
            simp (disch := omega) only [fa_lit, nI_ad, nI_mul, nI_cl, inb_nI, nI_ltE, nI_leE, nI_eqE, nI_m1, nI_m1', m1_lt, lt_m1, m1_le, le_m1, eq_self, not_true_eq_false, not_false_eq_true, ↓reduceIte, leT, leF, ltT, ltF, eqT, eqF, decide_true, decide_false, true_and, and_true, Nat.reduceAdd, bI0_i, bI_i, bI_x, bV0_v, bV_v, bV_x, ↓bnd_e, gd_t, hl, hE, bF, hs]
          cases gs : gLs B t m (tSk B t (p1 + 1)) with
          | inl e =>
            rw [gs] at ih
            obtain ⟨S2, p2, n2, h2, f2, e3⟩ := ih
            exact ⟨S2, p2, n2, h2, fun o q1 q2 q3 q4 => by rw [f2 o q1 q2 q3 q4, hfd o q1 q2 q3 q4], e2.trans e3⟩
          | inr ls =>
            rw [gs] at ih
            obtain ⟨S2, p2, h2, f2, P2, C2, e3⟩ := ih
            have ea : dn ++ [l] ++ ls = dn ++ l :: ls := by rw [List.append_assoc]; rfl
            rw [ea] at P2 C2 e3
            exact ⟨S2, p2, h2, fun o q1 q2 q3 q4 => by rw [f2 o q1 q2 q3 q4, hfd o q1 q2 q3 q4], P2, C2, e2.trans e3⟩
        · have hs := x_sF (F := F) (w := -nI 1) (c := c) (n := (gCs (dn ++ [l])).length) (h := h1) (s := 59) hF (by omega) hT1 q.2.2 g2
          have hr := x_refuse (S := S1) (p := p1) (w := -nI 1) (c := c) (n := (gCs (dn ++ [l])).length) (h := h1)
          have er : tRf (-nI 1) p1 = nI p1 := by unfold tRf; rw [if_pos rfl]
          rw [er] at hr
          rw [if_neg g2]
          refine ⟨S1, p1, (gCs (dn ++ [l])).length, h1, hfd, ?_⟩
          simp (disch := omega) only [fa_lit, nI_ad, nI_mul, nI_cl, inb_nI, nI_ltE, nI_leE, nI_eqE, nI_m1, nI_m1', m1_lt, lt_m1, m1_le, le_m1, eq_self, not_true_eq_false, not_false_eq_true, ↓reduceIte, leT, leF, ltT, ltF, eqT, eqF, decide_true, decide_false, true_and, and_true, Nat.reduceAdd, bI0_i, bI_i, bI_x, bV0_v, bV_v, bV_x, ↓bnd_e, gd_t, hl, hE, bF, hs, hr, and00]
end T
