/-! texts: the tape -/
def tLet (x : Nat) : Bool := decide (97 ≤ x ∧ x ≤ 122)
def tDig (x : Nat) : Bool := decide (48 ≤ x ∧ x ≤ 57)
def tSkF (B : Nat → Nat) : Nat → Nat → Nat
  | 0, p => p
  | m + 1, p => if B p = 32 then tSkF B m (p + 1) else p
def tWlF (B : Nat → Nat) : Nat → Nat → List Nat
  | 0, _ => []
  | m + 1, p => if tLet (B p) = true then B p :: tWlF B m (p + 1) else []
def tDgF (B : Nat → Nat) (p0 : Nat) : Nat → Nat → Nat → Nat × Nat
  | 0, p, v => (p, v)
  | m + 1, p, v => if tDig (B p) = true then tDgF B p0 m (p + 1) (if p - p0 < 3 then v * 10 + B p - 48 else v) else (p, v)
def tSk (B : Nat → Nat) (t p : Nat) : Nat := tSkF B (t - p) p
def tWl (B : Nat → Nat) (t p : Nat) : List Nat := tWlF B (t - p) p
def tWd (B : Nat → Nat) (t p : Nat) : Nat := p + (tWl B t p).length
def tDg (B : Nat → Nat) (t p0 p v : Nat) : Nat × Nat := tDgF B p0 (t - p) p v
section T
variable {B : Nat → Nat} {t : Nat}
theorem tSk_e : tSk B t t = t := by unfold tSk; rw [Nat.sub_self, tSkF]
theorem tSk_s {p : Nat} (h : p < t) (hb : B p = 32) : tSk B t p = tSk B t (p + 1) := by
  unfold tSk; rw [show t - p = (t - (p + 1)) + 1 by omega, tSkF, if_pos hb]
theorem tSk_n {p : Nat} (h : p < t) (hb : ¬ B p = 32) : tSk B t p = p := by
  unfold tSk; rw [show t - p = (t - (p + 1)) + 1 by omega, tSkF, if_neg hb]
theorem tSk_p : ∀ (m p : Nat), t - p = m → p ≤ t → p ≤ tSk B t p ∧ tSk B t p ≤ t ∧ (tSk B t p < t → ¬ B (tSk B t p) = 32)
  | 0, p, hm, hp => by
    have : p = t := by omega
    subst this; rw [tSk_e]; omega
  | m + 1, p, hm, hp => by
    by_cases g : B p = 32
    · rw [tSk_s (by omega) g]
      have := tSk_p m (p + 1) (by omega) (by omega)
      exact ⟨by omega, this.2.1, this.2.2⟩
    · rw [tSk_n (by omega) g]; exact ⟨by omega, by omega, fun _ => g⟩
theorem tSk_ge {p : Nat} (hp : p ≤ t) : p ≤ tSk B t p := (tSk_p (t - p) p rfl hp).1
theorem tSk_le {p : Nat} (hp : p ≤ t) : tSk B t p ≤ t := (tSk_p (t - p) p rfl hp).2.1
theorem tSk_id {p : Nat} (hp : p ≤ t) : tSk B t (tSk B t p) = tSk B t p := by
  have h := tSk_p (B := B) (t - p) p rfl hp
  rcases Nat.lt_or_ge (tSk B t p) t with g | g
  · exact tSk_n g (h.2.2 g)
  · have : tSk B t p = t := by omega
    rw [this, tSk_e]
theorem tWl_e : tWl B t t = [] := by unfold tWl; rw [Nat.sub_self, tWlF]
theorem tWl_s {p : Nat} (h : p < t) (hb : tLet (B p) = true) : tWl B t p = B p :: tWl B t (p + 1) := by
  unfold tWl; rw [show t - p = (t - (p + 1)) + 1 by omega, tWlF, if_pos hb]
theorem tWl_n {p : Nat} (h : p < t) (hb : tLet (B p) = false) : tWl B t p = [] := by
  unfold tWl; rw [show t - p = (t - (p + 1)) + 1 by omega, tWlF, hb, if_neg (by simp)]
theorem tWl_p : ∀ (m p : Nat), t - p = m → p ≤ t → p + (tWl B t p).length ≤ t ∧ ∀ i, i < (tWl B t p).length → (tWl B t p).getD i 0 = B (p + i) ∧ tLet (B (p + i)) = true
  | 0, p, hm, hp => by
    have : p = t := by omega
    subst this; rw [tWl_e]; exact ⟨by simp, fun i hi => absurd hi (by simp)⟩
  | m + 1, p, hm, hp => by
    cases g : tLet (B p) with
    | false => rw [tWl_n (by omega) g]; exact ⟨by simpa using hp, fun i hi => absurd hi (by simp)⟩
    | true =>
      rw [tWl_s (by omega) g]
      have ih := tWl_p m (p + 1) (by omega) (by omega)
      rw [List.length_cons]
      refine ⟨by omega, fun i hi => ?_⟩
      cases i with
      | zero => exact ⟨rfl, g⟩
      | succ i =>
        have := ih.2 i (by omega)
        rw [show p + (i + 1) = p + 1 + i by omega]
        exact this
theorem tWd_le {p : Nat} (hp : p ≤ t) : tWd B t p ≤ t := (tWl_p (t - p) p rfl hp).1
theorem tWd_ge {p : Nat} : p ≤ tWd B t p := by unfold tWd; omega
theorem tDg_e {p0 v : Nat} : tDg B t p0 t v = (t, v) := by unfold tDg; rw [Nat.sub_self, tDgF]
theorem tDg_s {p0 p v : Nat} (h : p < t) (hb : tDig (B p) = true) : tDg B t p0 p v = tDg B t p0 (p + 1) (if p - p0 < 3 then v * 10 + B p - 48 else v) := by
  unfold tDg; rw [show t - p = (t - (p + 1)) + 1 by omega, tDgF, if_pos hb]
theorem tDg_n {p0 p v : Nat} (h : p < t) (hb : tDig (B p) = false) : tDg B t p0 p v = (p, v) := by
  unfold tDg; rw [show t - p = (t - (p + 1)) + 1 by omega, tDgF, hb, if_neg (by simp)]
def tVb (k : Nat) : Nat := if k = 0 then 0 else if k = 1 then 9 else if k = 2 then 99 else 999
theorem tVb_le {k : Nat} : tVb k ≤ 999 := by
  unfold tVb
  by_cases k0 : k = 0
  · rw [if_pos k0]; omega
  · rw [if_neg k0]
    by_cases k1 : k = 1
    · rw [if_pos k1]; omega
    · rw [if_neg k1]
      by_cases k2 : k = 2
      · rw [if_pos k2]; omega
      · rw [if_neg k2]; omega
theorem tDg_p {p0 : Nat} : ∀ (m p v : Nat), t - p = m → p ≤ t → p0 ≤ p → v ≤ tVb (p - p0) → p ≤ (tDg B t p0 p v).1 ∧ (tDg B t p0 p v).1 ≤ t ∧ (tDg B t p0 p v).2 ≤ 999
  | 0, p, v, hm, hp, h0, hv => by
    have : p = t := by omega
    subst this; rw [tDg_e]
    exact ⟨Nat.le_refl _, Nat.le_refl _, Nat.le_trans hv tVb_le⟩
  | m + 1, p, v, hm, hp, h0, hv => by
    cases g : tDig (B p) with
    | false =>
      rw [tDg_n (by omega) g]
      exact ⟨Nat.le_refl _, hp, Nat.le_trans hv tVb_le⟩
    | true =>
      rw [tDg_s (by omega) g]
      have hb : 48 ≤ B p ∧ B p ≤ 57 := of_decide_eq_true g
      have ih := tDg_p (p0 := p0) m (p + 1) (if p - p0 < 3 then v * 10 + B p - 48 else v) (by omega) (by omega) (by omega) (by
        unfold tVb at hv ⊢
        by_cases k0 : p - p0 = 0
        · rw [if_pos k0] at hv
          rw [if_pos (by omega), if_neg (by omega), if_pos (by omega)]; omega
        · rw [if_neg k0] at hv
          by_cases k1 : p - p0 = 1
          · rw [if_pos k1] at hv
            rw [if_pos (by omega), if_neg (by omega), if_neg (by omega), if_pos (by omega)]; omega
          · rw [if_neg k1] at hv
            by_cases k2 : p - p0 = 2
            · rw [if_pos k2] at hv
              rw [if_pos (by omega), if_neg (by omega), if_neg (by omega), if_neg (by omega)]; omega
            · rw [if_neg k2] at hv
              rw [if_neg (by omega), if_neg (by omega), if_neg (by omega), if_neg (by omega)]; exact hv)
      exact ⟨by omega, ih.2.1, ih.2.2⟩
def tE (B : Nat → Nat) (t p : Nat) : Nat := (tDg B t p p 0).1
def tV (B : Nat → Nat) (t p : Nat) : Nat := (tDg B t p p 0).2
theorem tE_p {p : Nat} (hp : p ≤ t) : p ≤ tE B t p ∧ tE B t p ≤ t ∧ tV B t p ≤ 999 := tDg_p (t - p) p 0 rfl hp (Nat.le_refl _) (Nat.zero_le _)
def tN (B : Nat → Nat) (t lo hi p : Nat) : Option Nat := if 1 ≤ tE B t p - p ∧ tE B t p - p ≤ 3 ∧ lo ≤ tV B t p ∧ tV B t p ≤ hi then some (tV B t p) else none
theorem tN_p {lo hi p v : Nat} (h : tN B t lo hi p = some v) : p < tE B t p ∧ lo ≤ v ∧ v ≤ hi := by
  unfold tN at h
  split at h
  · cases h; omega
  · cases h
def tSg (B : Nat → Nat) (t p s : Nat) : Bool := decide (p < t ∧ B p = s)
/-- words -/
def strN (k : Nat) : List Nat := (mStr.getD k []).map Int32.toNatClampNeg
theorem sw_t : (List.range 23).all (fun k => decide (mStr.getD k [] = (strN k).map nI)) = true := by decide +kernel
theorem sw_e {k : Nat} (h : k < 23) : mStr.getD k [] = (strN k).map nI := of_decide_eq_true (List.all_eq_true.1 sw_t k (List.mem_range.2 h))
theorem sw_d : (List.range 23).all (fun a => (List.range 23).all (fun b => decide (decide (strN a = strN b) = decide (a = b)))) = true := by decide +kernel
theorem sw_ne {a b : Nat} (ha : a < 23) (hb : b < 23) : decide (strN a = strN b) = decide (a = b) := of_decide_eq_true (List.all_eq_true.1 (List.all_eq_true.1 sw_d a (List.mem_range.2 ha)) b (List.mem_range.2 hb))
theorem sw_l : (List.range 23).all (fun a => decide (2 ≤ (strN a).length ∧ (strN a).length ≤ 7 ∧ ∀ x ∈ strN a, 97 ≤ x ∧ x ≤ 122)) = true := by decide +kernel
theorem sw_len {a : Nat} (ha : a < 23) : 2 ≤ (strN a).length ∧ (strN a).length ≤ 7 ∧ ∀ x ∈ strN a, 97 ≤ x ∧ x ≤ 122 := of_decide_eq_true (List.all_eq_true.1 sw_l a (List.mem_range.2 ha))
theorem sw_n {k : Nat} : Int32.ofNat (mStr.getD k []).length = nI (strN k).length := by unfold strN; rw [List.length_map]; rfl
theorem eg_getD_map : ∀ (l : List Nat) (i : Nat), i < l.length → (l.map nI).getD i 0 = nI (l.getD i 0)
  | [], _, h => absurd h (by simp)
  | _ :: _, 0, _ => rfl
  | _ :: l, i + 1, h => eg_getD_map l i (by simpa using h)
theorem eg_ext_getD : ∀ (l m : List Nat), l.length = m.length → (∀ i, i < l.length → l.getD i 0 = m.getD i 0) → l = m
  | [], [], _, _ => rfl
  | [], _ :: _, h, _ => absurd h (by simp)
  | _ :: _, [], h, _ => absurd h (by simp)
  | a :: l, b :: m, h, hh => by
    have h0 : a = b := hh 0 (by simp)
    rw [h0, eg_ext_getD l m (by simpa using h) (fun i hi => hh (i + 1) (by simpa using hi))]
theorem sw_g {k i : Nat} (hk : k < 23) (hi : i < (strN k).length) : (mStr.getD k []).getD i 0 = nI ((strN k).getD i 0) := by rw [sw_e hk, eg_getD_map _ _ hi]
theorem sw_b {k i : Nat} (hk : k < 23) (hi : i < (strN k).length) : (strN k).getD i 0 < 128 := by
  have h := (sw_len hk).2.2 ((strN k)[i]) (List.getElem_mem hi)
  rw [List.getD_eq_getElem?_getD, List.getElem?_eq_getElem hi, Option.getD_some]; omega
/-- the class's state while it reads -/
def yS (S : mS) (p : Nat) (w : Int32) (c : Nat → Int32) (n : Nat) (h : Nat → Int32) : mS := fun o =>
  if o = 1 then upd (upd (S 1) 2 (nI p)) 3 w else if o = 27 then c else if o = 10 then upd (S 10) 7 (nI n) else if o = 14 then h else S o
variable {S : mS} {p n : Nat} {w : Int32} {c h : Nat → Int32} {F : Nat}
theorem y_1 : yS S p w c n h 1 = upd (upd (S 1) 2 (nI p)) 3 w := rfl
theorem y_10 : yS S p w c n h 10 = upd (S 10) 7 (nI n) := rfl
theorem y_11 : yS S p w c n h 1 1 = S 1 1 := by rw [y_1, upd_n (by omega), upd_n (by omega)]
theorem y_12 : yS S p w c n h 1 2 = nI p := by rw [y_1, upd_n (by omega), upd_s]
theorem y_13 : yS S p w c n h 1 3 = w := by rw [y_1, upd_s]
theorem y_2 : yS S p w c n h 2 = S 2 := rfl
theorem y_27 : yS S p w c n h 27 = c := rfl
theorem y_14 : yS S p w c n h 14 = h := rfl
theorem y_106 : yS S p w c n h 10 6 = S 10 6 := by rw [y_10, upd_n (by omega)]
theorem y_107 : yS S p w c n h 10 7 = nI n := by rw [y_10, upd_s]
theorem y_o {o : Nat} (h1 : o ≠ 1) (h2 : o ≠ 27) (h3 : o ≠ 10) (h4 : o ≠ 14) : yS S p w c n h o = S o := by unfold yS; rw [if_neg h1, if_neg h2, if_neg h3, if_neg h4]
theorem y_u12 {v : Nat} : upS (yS S p w c n h) 1 2 (nI v) = yS S v w c n h := by
  funext o
  by_cases e : o = 1
  · subst e; rw [upS_s, y_1, y_1, upd_comm (k := 3) (l := 2) (by omega), upd_upd]
  · rw [upS_n e]; unfold yS; rw [if_neg e, if_neg e]
theorem y_u13 {v : Int32} : upS (yS S p w c n h) 1 3 v = yS S p v c n h := by
  funext o
  by_cases e : o = 1
  · subst e; rw [upS_s, y_1, y_1, upd_upd]
  · rw [upS_n e]; unfold yS; rw [if_neg e, if_neg e]
theorem y_u107 {v : Nat} : upS (yS S p w c n h) 10 7 (nI v) = yS S p w c v h := by
  funext o
  by_cases e : o = 10
  · subst e; rw [upS_s, y_10, y_10, upd_upd]
  · rw [upS_n e]; unfold yS; rw [if_neg e, if_neg e]
theorem y_u14 {k : Nat} {v : Int32} : upS (yS S p w c n h) 14 k v = yS S p w c n (upd h k v) := by
  funext o
  by_cases e : o = 14
  · subst e; rw [upS_s]; rfl
  · rw [upS_n e]; unfold yS
    by_cases e1 : o = 1
    · rw [if_pos e1, if_pos e1]
    · rw [if_neg e1, if_neg e1, if_neg e, if_neg e]
theorem y_u27 {k : Nat} {v : Int32} : upS (yS S p w c n h) 27 k v = yS S p w (upd c k v) n h := by
  funext o
  by_cases e : o = 27
  · subst e; rw [upS_s]; rfl
  · rw [upS_n e]; unfold yS; rw [if_neg e, if_neg e]
def TB (S : mS) (B : Nat → Nat) (t : Nat) : Prop := t ≤ 400 ∧ S 1 1 = nI t ∧ ∀ i, i < t → S 2 i = nI (B i) ∧ B i < 256
theorem e400 : Int32.ofNat 400 = nI 400 := rfl
theorem x_byteAt {i : Nat} (hT : TB S B t) (hi : i < 2147483648) : f_X8_byteAt (nI i) (yS S p w c n h) = some (.inl (some (.int (if i < t then nI (B i) else -nI 1))), yS S p w c n h) := by
  obtain ⟨h1, h2, h3⟩ := hT
  unfold f_X8_byteAt f_X8_byteAt_b30 f_X8_byteAt_b31
  by_cases g : i < t
  · have h4 := (h3 i g).1
    simp (disch := omega) only [fa_lit, nI_ad, nI_mul, nI_cl, inb_nI, nI_ltE, nI_leE, nI_eqE, nI_m1, nI_m1', m1_lt, lt_m1, m1_le, le_m1, eq_self, not_true_eq_false, not_false_eq_true, ↓reduceIte, leT, leF, ltT, ltF, eqT, eqF, decide_true, decide_false, true_and, and_true, Nat.reduceAdd, bI0_i, bI_i, bI_x, bV0_v, bV_v, bV_x, ↓bnd_e, gd_t, e400, y_11, h2, y_2, h4, g]
  · simp (disch := omega) only [fa_lit, nI_ad, nI_mul, nI_cl, inb_nI, nI_ltE, nI_leE, nI_eqE, nI_m1, nI_m1', m1_lt, lt_m1, m1_le, le_m1, eq_self, not_true_eq_false, not_false_eq_true, ↓reduceIte, leT, leF, ltT, ltF, eqT, eqF, decide_true, decide_false, true_and, and_true, Nat.reduceAdd, bI0_i, bI_i, bI_x, bV0_v, bV_v, bV_x, ↓bnd_e, gd_t, e400, y_11, h2, g]
theorem x_isLetter {x : Nat} {Y : mS} (hx : x < 256) : f_X8_isLetter (nI x) Y = some (.inl (some (.int (bV32 (tLet x)))), Y) := by
  unfold f_X8_isLetter f_X8_isLetter_b16 f_X8_isLetter_b17 tLet
  by_cases g : x < 97
  · rw [decide_eq_false (by omega)]
    simp (disch := omega) only [fa_lit, nI_ad, nI_mul, nI_cl, inb_nI, nI_ltE, nI_leE, nI_eqE, nI_m1, nI_m1', m1_lt, lt_m1, m1_le, le_m1, eq_self, not_true_eq_false, not_false_eq_true, ↓reduceIte, leT, leF, ltT, ltF, eqT, eqF, decide_true, decide_false, true_and, and_true, Nat.reduceAdd, bI0_i, bI_i, bI_x, bV0_v, bV_v, bV_x, ↓bnd_e, gd_t, and00, bF]
  · by_cases g2 : 122 < x
    · rw [decide_eq_false (by omega)]
      simp (disch := omega) only [fa_lit, nI_ad, nI_mul, nI_cl, inb_nI, nI_ltE, nI_leE, nI_eqE, nI_m1, nI_m1', m1_lt, lt_m1, m1_le, le_m1, eq_self, not_true_eq_false, not_false_eq_true, ↓reduceIte, leT, leF, ltT, ltF, eqT, eqF, decide_true, decide_false, true_and, and_true, Nat.reduceAdd, bI0_i, bI_i, bI_x, bV0_v, bV_v, bV_x, ↓bnd_e, gd_t, and00, bF]
    · rw [decide_eq_true (by omega)]
      simp (disch := omega) only [fa_lit, nI_ad, nI_mul, nI_cl, inb_nI, nI_ltE, nI_leE, nI_eqE, nI_m1, nI_m1', m1_lt, lt_m1, m1_le, le_m1, eq_self, not_true_eq_false, not_false_eq_true, ↓reduceIte, leT, leF, ltT, ltF, eqT, eqF, decide_true, decide_false, true_and, and_true, Nat.reduceAdd, bI0_i, bI_i, bI_x, bV0_v, bV_v, bV_x, ↓bnd_e, gd_t, and10, bT]
theorem x_isDigit {x : Nat} {Y : mS} (hx : x < 256) : f_X8_isDigit (nI x) Y = some (.inl (some (.int (bV32 (tDig x)))), Y) := by
  unfold f_X8_isDigit f_X8_isDigit_b16 f_X8_isDigit_b17 tDig
  by_cases g : x < 48
  · rw [decide_eq_false (by omega)]
    simp (disch := omega) only [fa_lit, nI_ad, nI_mul, nI_cl, inb_nI, nI_ltE, nI_leE, nI_eqE, nI_m1, nI_m1', m1_lt, lt_m1, m1_le, le_m1, eq_self, not_true_eq_false, not_false_eq_true, ↓reduceIte, leT, leF, ltT, ltF, eqT, eqF, decide_true, decide_false, true_and, and_true, Nat.reduceAdd, bI0_i, bI_i, bI_x, bV0_v, bV_v, bV_x, ↓bnd_e, gd_t, and00, bF]
  · by_cases g2 : 57 < x
    · rw [decide_eq_false (by omega)]
      simp (disch := omega) only [fa_lit, nI_ad, nI_mul, nI_cl, inb_nI, nI_ltE, nI_leE, nI_eqE, nI_m1, nI_m1', m1_lt, lt_m1, m1_le, le_m1, eq_self, not_true_eq_false, not_false_eq_true, ↓reduceIte, leT, leF, ltT, ltF, eqT, eqF, decide_true, decide_false, true_and, and_true, Nat.reduceAdd, bI0_i, bI_i, bI_x, bV0_v, bV_v, bV_x, ↓bnd_e, gd_t, and00, bF]
    · rw [decide_eq_true (by omega)]
      simp (disch := omega) only [fa_lit, nI_ad, nI_mul, nI_cl, inb_nI, nI_ltE, nI_leE, nI_eqE, nI_m1, nI_m1', m1_lt, lt_m1, m1_le, le_m1, eq_self, not_true_eq_false, not_false_eq_true, ↓reduceIte, leT, leF, ltT, ltF, eqT, eqF, decide_true, decide_false, true_and, and_true, Nat.reduceAdd, bI0_i, bI_i, bI_x, bV0_v, bV_v, bV_x, ↓bnd_e, gd_t, and10, bT]
theorem x_isDigit_m {Y : mS} : f_X8_isDigit (-nI 1) Y = some (.inl (some (.int (nI 0))), Y) := by
  unfold f_X8_isDigit f_X8_isDigit_b16 f_X8_isDigit_b17
  simp (disch := omega) only [fa_lit, nI_ad, nI_mul, nI_cl, inb_nI, nI_ltE, nI_leE, nI_eqE, nI_m1, nI_m1', m1_lt, lt_m1, m1_le, le_m1, eq_self, not_true_eq_false, not_false_eq_true, ↓reduceIte, leT, leF, ltT, ltF, eqT, eqF, decide_true, decide_false, true_and, and_true, Nat.reduceAdd, bI0_i, bI_i, bI_x, bV0_v, bV_v, bV_x, ↓bnd_e, gd_t, and00]
theorem x_moveL (hT : TB S B t) : ∀ (m q f : Nat), t - q = m → q ≤ t → m < f → f_X8_moveTo_b5 F f (yS S q w c n h) = some (.inl none, yS S (tSk B t q) w c n h)
  | 0, q, f + 1, hm, hq, hf => by
    have : q = t := by omega
    subst this
    obtain ⟨h1, h2, h3⟩ := hT
    rw [f_X8_moveTo_b5, tSk_e]
    unfold f_X8_moveTo_b62
    simp (disch := omega) only [fa_lit, nI_ad, nI_mul, nI_cl, inb_nI, nI_ltE, nI_leE, nI_eqE, nI_m1, nI_m1', m1_lt, lt_m1, m1_le, le_m1, eq_self, not_true_eq_false, not_false_eq_true, ↓reduceIte, leT, leF, ltT, ltF, eqT, eqF, decide_true, decide_false, true_and, and_true, Nat.reduceAdd, bI0_i, bI_i, bI_x, bV0_v, bV_v, bV_x, ↓bnd_e, gd_t, y_11, y_12, h2, Nat.le_refl]
  | m + 1, q, f + 1, hm, hq, hf => by
    have ih := x_moveL hT m (q + 1) f (by omega) (by omega) (by omega)
    obtain ⟨h1, h2, h3⟩ := hT
    obtain ⟨h4, h5⟩ := h3 q (by omega)
    rw [f_X8_moveTo_b5]
    unfold f_X8_moveTo_b62
    by_cases g : B q = 32
    · rw [tSk_s (by omega) g]
      simp (disch := omega) only [fa_lit, nI_ad, nI_mul, nI_cl, inb_nI, nI_ltE, nI_leE, nI_eqE, nI_m1, nI_m1', m1_lt, lt_m1, m1_le, le_m1, eq_self, not_true_eq_false, not_false_eq_true, ↓reduceIte, leT, leF, ltT, ltF, eqT, eqF, decide_true, decide_false, true_and, and_true, Nat.reduceAdd, bI0_i, bI_i, bI_x, bV0_v, bV_v, bV_x, ↓bnd_e, gd_t, e400, y_11, y_12, y_2, h2, h4, g, y_u12]
      exact ih
    · rw [tSk_n (by omega) g]
      simp (disch := omega) only [fa_lit, nI_ad, nI_mul, nI_cl, inb_nI, nI_ltE, nI_leE, nI_eqE, nI_m1, nI_m1', m1_lt, lt_m1, m1_le, le_m1, eq_self, not_true_eq_false, not_false_eq_true, ↓reduceIte, leT, leF, ltT, ltF, eqT, eqF, decide_true, decide_false, true_and, and_true, Nat.reduceAdd, bI0_i, bI_i, bI_x, bV0_v, bV_v, bV_x, ↓bnd_e, gd_t, e400, y_11, y_12, y_2, h2, h4, g]
theorem x_moveTo {q : Nat} (hF : 6000 ≤ F) (hT : TB S B t) (hq : q ≤ t) : f_X8_moveTo F (nI q) (yS S p w c n h) = some (.inl none, yS S (tSk B t q) w c n h) := by
  have ht := hT.1
  unfold f_X8_moveTo
  rw [bnd_e, y_u12]
  exact x_moveL hT (t - q) q F rfl hq (by omega)
def tRf (w : Int32) (p : Nat) : Int32 := if w = -nI 1 then nI p else w
theorem x_refuse : f_X8_refuse (yS S p w c n h) = some (.inl (some (.int (nI 0))), yS S p (tRf w p) c n h) := by
  unfold f_X8_refuse f_X8_refuse_b16 tRf
  by_cases g : w = -nI 1
  · simp (disch := omega) only [fa_lit, nI_ad, nI_mul, nI_cl, inb_nI, nI_ltE, nI_leE, nI_eqE, nI_m1, nI_m1', m1_lt, lt_m1, m1_le, le_m1, eq_self, not_true_eq_false, not_false_eq_true, ↓reduceIte, leT, leF, ltT, ltF, eqT, eqF, decide_true, decide_false, true_and, and_true, Nat.reduceAdd, bI0_i, bI_i, bI_x, bV0_v, bV_v, bV_x, ↓bnd_e, gd_t, y_13, y_12, g, y_u13, and00]
  · simp (disch := omega) only [fa_lit, nI_ad, nI_mul, nI_cl, inb_nI, nI_ltE, nI_leE, nI_eqE, nI_m1, nI_m1', m1_lt, lt_m1, m1_le, le_m1, eq_self, not_true_eq_false, not_false_eq_true, ↓reduceIte, leT, leF, ltT, ltF, eqT, eqF, decide_true, decide_false, true_and, and_true, Nat.reduceAdd, bI0_i, bI_i, bI_x, bV0_v, bV_v, bV_x, ↓bnd_e, gd_t, y_13, g, and00]
theorem x_wcmp {k : Nat} (hF : 6000 ≤ F) (hk : k < 23) (hT : TB S B t) (hp : p ≤ t) (hl : (tWl B t p).length = (strN k).length) : ∀ (m i f : Nat), i + m = (strN k).length → m < f → (∀ j, j < i → B (p + j) = (strN k).getD j 0) →
    f_X8_takesWord_b47 F k f (nI (tWd B t p)) (nI i) (yS S p w c n h) = some (.inl (some (.int (bV32 (decide (tWl B t p = strN k))))), yS S (if tWl B t p = strN k then tSk B t (tWd B t p) else p) w c n h)
  | 0, i, f + 1, hi, hf, hj => by
    have hsl := sw_len hk
    have ht := hT.1
    have hw := tWl_p (B := B) (t - p) p rfl hp
    have e : tWl B t p = strN k := eg_ext_getD _ _ hl (fun j hjl => by rw [(hw.2 j hjl).1]; exact hj j (by omega))
    have hm := x_moveTo (F := F) (p := p) (w := w) (c := c) (n := n) (h := h) (q := tWd B t p) hF hT (tWd_le hp)
    rw [f_X8_takesWord_b47, sw_n, decide_eq_true e, if_pos e]
    simp (disch := omega) only [fa_lit, nI_ad, nI_mul, nI_cl, inb_nI, nI_ltE, nI_leE, nI_eqE, nI_m1, nI_m1', m1_lt, lt_m1, m1_le, le_m1, eq_self, not_true_eq_false, not_false_eq_true, ↓reduceIte, leT, leF, ltT, ltF, eqT, eqF, decide_true, decide_false, true_and, and_true, Nat.reduceAdd, bI0_i, bI_i, bI_x, bV0_v, bV_v, bV_x, ↓bnd_e, gd_t, hm, and10, bT]
  | m + 1, i, f + 1, hi, hf, hj => by
    have hsl := sw_len hk
    have ht := hT.1
    have hw := tWl_p (B := B) (t - p) p rfl hp
    have hb := x_byteAt (p := p) (w := w) (c := c) (n := n) (h := h) (i := p + i) hT (by omega)
    rw [if_pos (by omega)] at hb
    have hs : (mStr.getD k []).getD i (nI 0) = nI ((strN k).getD i 0) := sw_g (i := i) hk (by omega)
    have hsb := sw_b (i := i) hk (by omega)
    have hB := (hT.2.2 (p + i) (by omega)).2
    have eln : (mStr.getD k []).length = (strN k).length := by unfold strN; rw [List.length_map]
    rw [f_X8_takesWord_b47, sw_n]
    by_cases g : B (p + i) = (strN k).getD i 0
    · have ih := x_wcmp hF hk hT hp hl m (i + 1) f (by omega) (by omega) (fun j hj2 => by
        by_cases e : j = i
        · subst e; exact g
        · exact hj j (by omega))
      simp (disch := omega) only [fa_lit, nI_ad, nI_mul, nI_cl, inb_nI, nI_ltE, nI_leE, nI_eqE, nI_m1, nI_m1', m1_lt, lt_m1, m1_le, le_m1, eq_self, not_true_eq_false, not_false_eq_true, ↓reduceIte, leT, leF, ltT, ltF, eqT, eqF, decide_true, decide_false, true_and, and_true, Nat.reduceAdd, bI0_i, bI_i, bI_x, bV0_v, bV_v, bV_x, ↓bnd_e, gd_t, y_12, hb, eln, hs, g]
      exact ih
    · have e : ¬ tWl B t p = strN k := fun e => g (by rw [← (hw.2 i (by omega)).1, e])
      rw [decide_eq_false e, if_neg e]
      simp (disch := omega) only [fa_lit, nI_ad, nI_mul, nI_cl, inb_nI, nI_ltE, nI_leE, nI_eqE, nI_m1, nI_m1', m1_lt, lt_m1, m1_le, le_m1, eq_self, not_true_eq_false, not_false_eq_true, ↓reduceIte, leT, leF, ltT, ltF, eqT, eqF, decide_true, decide_false, true_and, and_true, Nat.reduceAdd, bI0_i, bI_i, bI_x, bV0_v, bV_v, bV_x, ↓bnd_e, gd_t, y_12, hb, eln, hs, g, and00, bF]
theorem x_wscan {k : Nat} (hF : 6000 ≤ F) (hT : TB S B t) : ∀ (m q f : Nat), t - q = m → q ≤ t → m < f → f_X8_takesWord_b5 F k f (nI q) (yS S p w c n h) = f_X8_takesWord_b30 F k (nI (tWd B t q)) (yS S p w c n h)
  | 0, q, f + 1, hm, hq, hf => by
    have : q = t := by omega
    subst this
    have h1 := hT.1
    rw [f_X8_takesWord_b5]
    simp (disch := omega) only [fa_lit, nI_ad, nI_mul, nI_cl, inb_nI, nI_ltE, nI_leE, nI_eqE, nI_m1, nI_m1', m1_lt, lt_m1, m1_le, le_m1, eq_self, not_true_eq_false, not_false_eq_true, ↓reduceIte, leT, leF, ltT, ltF, eqT, eqF, decide_true, decide_false, true_and, and_true, Nat.reduceAdd, bI0_i, bI_i, bI_x, bV0_v, bV_v, bV_x, ↓bnd_e, gd_t, y_11, hT.2.1, Nat.le_refl]
    unfold tWd; rw [tWl_e]; rfl
  | m + 1, q, f + 1, hm, hq, hf => by
    have ih := x_wscan (k := k) hF hT m (q + 1) f (by omega) (by omega) (by omega)
    have h1 := hT.1
    obtain ⟨h4, h5⟩ := hT.2.2 q (by omega)
    have hb := x_byteAt (p := p) (w := w) (c := c) (n := n) (h := h) (i := q) hT (by omega)
    rw [if_pos (by omega)] at hb
    rw [f_X8_takesWord_b5]
    cases g : tLet (B q) with
    | false =>
      simp (disch := omega) only [fa_lit, nI_ad, nI_mul, nI_cl, inb_nI, nI_ltE, nI_leE, nI_eqE, nI_m1, nI_m1', m1_lt, lt_m1, m1_le, le_m1, eq_self, not_true_eq_false, not_false_eq_true, ↓reduceIte, leT, leF, ltT, ltF, eqT, eqF, decide_true, decide_false, true_and, and_true, Nat.reduceAdd, bI0_i, bI_i, bI_x, bV0_v, bV_v, bV_x, ↓bnd_e, gd_t, y_11, hT.2.1, hb, x_isLetter h5, g, bF]
      unfold tWd; rw [tWl_n (by omega) g]; rfl
    | true =>
      simp (disch := omega) only [fa_lit, nI_ad, nI_mul, nI_cl, inb_nI, nI_ltE, nI_leE, nI_eqE, nI_m1, nI_m1', m1_lt, lt_m1, m1_le, le_m1, eq_self, not_true_eq_false, not_false_eq_true, ↓reduceIte, leT, leF, ltT, ltF, eqT, eqF, decide_true, decide_false, true_and, and_true, Nat.reduceAdd, bI0_i, bI_i, bI_x, bV0_v, bV_v, bV_x, ↓bnd_e, gd_t, y_11, hT.2.1, hb, x_isLetter h5, g, bT]
      rw [ih]
      unfold tWd; rw [tWl_s (by omega) g, List.length_cons]
      congr 2; omega
theorem x_takesWord {k : Nat} (hF : 6000 ≤ F) (hk : k < 23) (hT : TB S B t) (hp : p ≤ t) : f_X8_takesWord F k (yS S p w c n h) = some (.inl (some (.int (bV32 (decide (tWl B t p = strN k))))), yS S (if tWl B t p = strN k then tSk B t (tWd B t p) else p) w c n h) := by
  have hsl := sw_len hk
  have ht := hT.1
  have hwd := tWd_le (B := B) hp
  unfold f_X8_takesWord
  rw [bnd_e, y_12, x_wscan hF hT (t - p) p F rfl hp (by omega)]
  unfold f_X8_takesWord_b30
  have e : nI (tWd B t p) - nI p = nI (tWl B t p).length := by
    rw [nI_sub tWd_ge]; unfold tWd; rw [Nat.add_sub_cancel_left]
  have hwl : (tWl B t p).length ≤ 400 := by unfold tWd at hwd; omega
  rw [y_12, e, sw_n]
  by_cases g : (tWl B t p).length = (strN k).length
  · rw [if_pos (by rw [g])]
    exact x_wcmp hF hk hT hp g (strN k).length 0 F (by omega) (by omega) (fun j hj => absurd hj (by omega))
  · have e2 : ¬ tWl B t p = strN k := fun e => g (by rw [e])
    rw [if_neg (by rw [nI_eqE (by omega) (by omega)]; exact g), decide_eq_false e2, if_neg e2]
    rfl
theorem x_takesSign {s : Nat} (hF : 6000 ≤ F) (hs : s < 256) (hT : TB S B t) (hp : p ≤ t) : f_X8_takesSign F (nI s) (yS S p w c n h) = some (.inl (some (.int (bV32 (tSg B t p s)))), yS S (if tSg B t p s = true then tSk B t (p + 1) else p) w c n h) := by
  have ht := hT.1
  have hb := x_byteAt (p := p) (w := w) (c := c) (n := n) (h := h) (i := p) hT (by omega)
  unfold f_X8_takesSign tSg
  by_cases g : p < t
  · rw [if_pos g] at hb
    have h5 := (hT.2.2 p g).2
    by_cases g2 : B p = s
    · have hm := x_moveTo (F := F) (p := p) (w := w) (c := c) (n := n) (h := h) (q := p + 1) hF hT (by omega)
      simp (disch := omega) only [fa_lit, nI_ad, nI_mul, nI_cl, inb_nI, nI_ltE, nI_leE, nI_eqE, nI_m1, nI_m1', m1_lt, lt_m1, m1_le, le_m1, eq_self, not_true_eq_false, not_false_eq_true, ↓reduceIte, leT, leF, ltT, ltF, eqT, eqF, decide_true, decide_false, true_and, and_true, Nat.reduceAdd, bI0_i, bI_i, bI_x, bV0_v, bV_v, bV_x, ↓bnd_e, gd_t, y_12, hb, g, g2, hm, and10, bT]
    · simp (disch := omega) only [fa_lit, nI_ad, nI_mul, nI_cl, inb_nI, nI_ltE, nI_leE, nI_eqE, nI_m1, nI_m1', m1_lt, lt_m1, m1_le, le_m1, eq_self, not_true_eq_false, not_false_eq_true, ↓reduceIte, leT, leF, ltT, ltF, eqT, eqF, decide_true, decide_false, true_and, and_true, Nat.reduceAdd, bI0_i, bI_i, bI_x, bV0_v, bV_v, bV_x, ↓bnd_e, gd_t, y_12, hb, g, g2, and00, bF, and_false, Bool.false_eq_true]
  · rw [if_neg g] at hb
    simp (disch := omega) only [fa_lit, nI_ad, nI_mul, nI_cl, inb_nI, nI_ltE, nI_leE, nI_eqE, nI_m1, nI_m1', m1_lt, lt_m1, m1_le, le_m1, eq_self, not_true_eq_false, not_false_eq_true, ↓reduceIte, leT, leF, ltT, ltF, eqT, eqF, decide_true, decide_false, true_and, and_true, Nat.reduceAdd, bI0_i, bI_i, bI_x, bV0_v, bV_v, bV_x, ↓bnd_e, gd_t, y_12, hb, g, and00, bF, false_and, Bool.false_eq_true]
theorem x_isAtDigit (hT : TB S B t) (hp : p ≤ t) : f_X8_isAtDigit (yS S p w c n h) = some (.inl (some (.int (bV32 (decide (p < t) && tDig (B p))))), yS S p w c n h) := by
  have ht := hT.1
  have hb := x_byteAt (p := p) (w := w) (c := c) (n := n) (h := h) (i := p) hT (by omega)
  unfold f_X8_isAtDigit
  by_cases g : p < t
  · rw [if_pos g] at hb
    have h5 := (hT.2.2 p g).2
    cases g2 : tDig (B p) with
    | true => simp (disch := omega) only [fa_lit, nI_ad, nI_mul, nI_cl, inb_nI, nI_ltE, nI_leE, nI_eqE, nI_m1, nI_m1', m1_lt, lt_m1, m1_le, le_m1, eq_self, not_true_eq_false, not_false_eq_true, ↓reduceIte, leT, leF, ltT, ltF, eqT, eqF, decide_true, decide_false, true_and, and_true, Nat.reduceAdd, bI0_i, bI_i, bI_x, bV0_v, bV_v, bV_x, ↓bnd_e, gd_t, y_12, hb, x_isDigit h5, g, g2, bT, and10, Bool.and_self]
    | false => simp (disch := omega) only [fa_lit, nI_ad, nI_mul, nI_cl, inb_nI, nI_ltE, nI_leE, nI_eqE, nI_m1, nI_m1', m1_lt, lt_m1, m1_le, le_m1, eq_self, not_true_eq_false, not_false_eq_true, ↓reduceIte, leT, leF, ltT, ltF, eqT, eqF, decide_true, decide_false, true_and, and_true, Nat.reduceAdd, bI0_i, bI_i, bI_x, bV0_v, bV_v, bV_x, ↓bnd_e, gd_t, y_12, hb, x_isDigit h5, g, g2, bF, and00, Bool.and_false]
  · rw [if_neg g] at hb
    simp (disch := omega) only [fa_lit, nI_ad, nI_mul, nI_cl, inb_nI, nI_ltE, nI_leE, nI_eqE, nI_m1, nI_m1', m1_lt, lt_m1, m1_le, le_m1, eq_self, not_true_eq_false, not_false_eq_true, ↓reduceIte, leT, leF, ltT, ltF, eqT, eqF, decide_true, decide_false, true_and, and_true, Nat.reduceAdd, bI0_i, bI_i, bI_x, bV0_v, bV_v, bV_x, ↓bnd_e, gd_t, y_12, hb, x_isDigit_m, g, bF, and00, Bool.false_and]
theorem x_numL {lo hi : Nat} (hF : 6000 ≤ F) (hT : TB S B t) : ∀ (m q v f : Nat), t - q = m → p ≤ q → q ≤ t → m < f →
    f_X8_takeNumber_b8 F f (nI lo) (nI hi) (nI q) (nI v) (yS S p w c n h) = f_X8_takeNumber_b59 F (nI lo) (nI hi) (nI (tDg B t p q v).1) (nI (tDg B t p q v).2) (yS S p w c n h)
  | 0, q, v, f + 1, hm, hq0, hq, hf => by
    have : q = t := by omega
    subst this
    have h1 := hT.1
    rw [f_X8_takeNumber_b8, tDg_e]
    simp (disch := omega) only [fa_lit, nI_ad, nI_mul, nI_cl, inb_nI, nI_ltE, nI_leE, nI_eqE, nI_m1, nI_m1', m1_lt, lt_m1, m1_le, le_m1, eq_self, not_true_eq_false, not_false_eq_true, ↓reduceIte, leT, leF, ltT, ltF, eqT, eqF, decide_true, decide_false, true_and, and_true, Nat.reduceAdd, bI0_i, bI_i, bI_x, bV0_v, bV_v, bV_x, ↓bnd_e, gd_t, y_11, hT.2.1, Nat.le_refl]
  | m + 1, q, v, f + 1, hm, hq0, hq, hf => by
    have h1 := hT.1
    obtain ⟨h4, h5⟩ := hT.2.2 q (by omega)
    have hb := x_byteAt (p := p) (w := w) (c := c) (n := n) (h := h) (i := q) hT (by omega)
    rw [if_pos (by omega)] at hb
    have es : nI q - nI p = nI (q - p) := nI_sub hq0
    rw [f_X8_takeNumber_b8]
    unfold f_X8_takeNumber_b53
    cases g : tDig (B q) with
    | false =>
      rw [tDg_n (by omega) g]
      simp (disch := omega) only [fa_lit, nI_ad, nI_mul, nI_cl, inb_nI, nI_ltE, nI_leE, nI_eqE, nI_m1, nI_m1', m1_lt, lt_m1, m1_le, le_m1, eq_self, not_true_eq_false, not_false_eq_true, ↓reduceIte, leT, leF, ltT, ltF, eqT, eqF, decide_true, decide_false, true_and, and_true, Nat.reduceAdd, bI0_i, bI_i, bI_x, bV0_v, bV_v, bV_x, ↓bnd_e, gd_t, y_11, hT.2.1, hb, x_isDigit h5, g, bF]
    | true =>
      have hd : 48 ≤ B q ∧ B q ≤ 57 := of_decide_eq_true g
      rw [tDg_s (by omega) g]
      by_cases g3 : q - p < 3
      · rw [if_pos g3]
        have ev : nI (v * 10 + B q) - nI 48 = nI (v * 10 + B q - 48) := nI_sub (by omega)
        simp (disch := omega) only [fa_lit, nI_ad, nI_mul, nI_cl, inb_nI, nI_ltE, nI_leE, nI_eqE, nI_m1, nI_m1', m1_lt, lt_m1, m1_le, le_m1, eq_self, not_true_eq_false, not_false_eq_true, ↓reduceIte, leT, leF, ltT, ltF, eqT, eqF, decide_true, decide_false, true_and, and_true, Nat.reduceAdd, bI0_i, bI_i, bI_x, bV0_v, bV_v, bV_x, ↓bnd_e, gd_t, y_11, y_12, hT.2.1, hb, x_isDigit h5, g, bT, es, ev]
        exact x_numL hF hT m (q + 1) (v * 10 + B q - 48) f (by omega) (by omega) (by omega) (by omega)
      · rw [if_neg g3]
        simp (disch := omega) only [fa_lit, nI_ad, nI_mul, nI_cl, inb_nI, nI_ltE, nI_leE, nI_eqE, nI_m1, nI_m1', m1_lt, lt_m1, m1_le, le_m1, eq_self, not_true_eq_false, not_false_eq_true, ↓reduceIte, leT, leF, ltT, ltF, eqT, eqF, decide_true, decide_false, true_and, and_true, Nat.reduceAdd, bI0_i, bI_i, bI_x, bV0_v, bV_v, bV_x, ↓bnd_e, gd_t, y_11, y_12, hT.2.1, hb, x_isDigit h5, g, bT, es]
        exact x_numL hF hT m (q + 1) v f (by omega) (by omega) (by omega) (by omega)
theorem x_takeNumber {lo hi : Nat} (hF : 6000 ≤ F) (hlo : lo ≤ 1000) (hhi : hi ≤ 1000) (hT : TB S B t) (hp : p ≤ t) : f_X8_takeNumber F (nI lo) (nI hi) (yS S p w c n h) =
    (match tN B t lo hi p with
    | some v => some (.inl (some (.int (nI v))), yS S (tSk B t (tE B t p)) w c n h)
    | none => some (.inl (some (.int (-nI 1))), yS S p (tRf w p) c n h)) := by
  have ht := hT.1
  obtain ⟨h1, h2, h3⟩ := tE_p (B := B) hp
  have e0 := x_numL (F := F) (lo := lo) (hi := hi) (p := p) (w := w) (c := c) (n := n) (h := h) hF hT (t - p) p 0 F rfl (Nat.le_refl _) hp (by omega)
  have es : nI (tE B t p) - nI p = nI (tE B t p - p) := nI_sub h1
  unfold f_X8_takeNumber
  rw [bnd_e, y_12]
  refine Eq.trans e0 ?_
  show f_X8_takeNumber_b59 F (nI lo) (nI hi) (nI (tE B t p)) (nI (tV B t p)) (yS S p w c n h) = _
  unfold f_X8_takeNumber_b59 f_X8_takeNumber_b91
  have hm := x_moveTo (F := F) (p := p) (w := w) (c := c) (n := n) (h := h) (q := tE B t p) hF hT h2
  have hr := x_refuse (S := S) (p := p) (w := w) (c := c) (n := n) (h := h)
  by_cases k1 : 1 ≤ tE B t p - p
  · by_cases k2 : tE B t p - p ≤ 3
    · by_cases k3 : lo ≤ tV B t p
      · by_cases k4 : tV B t p ≤ hi
        · rw [show tN B t lo hi p = some (tV B t p) from if_pos ⟨k1, k2, k3, k4⟩]
          simp (disch := omega) only [fa_lit, nI_ad, nI_mul, nI_cl, inb_nI, nI_ltE, nI_leE, nI_eqE, nI_m1, nI_m1', m1_lt, lt_m1, m1_le, le_m1, eq_self, not_true_eq_false, not_false_eq_true, ↓reduceIte, leT, leF, ltT, ltF, eqT, eqF, decide_true, decide_false, true_and, and_true, Nat.reduceAdd, bI0_i, bI_i, bI_x, bV0_v, bV_v, bV_x, ↓bnd_e, gd_t, y_12, es, hm]
        · rw [show tN B t lo hi p = none from if_neg (by omega)]
          simp (disch := omega) only [fa_lit, nI_ad, nI_mul, nI_cl, inb_nI, nI_ltE, nI_leE, nI_eqE, nI_m1, nI_m1', m1_lt, lt_m1, m1_le, le_m1, eq_self, not_true_eq_false, not_false_eq_true, ↓reduceIte, leT, leF, ltT, ltF, eqT, eqF, decide_true, decide_false, true_and, and_true, Nat.reduceAdd, bI0_i, bI_i, bI_x, bV0_v, bV_v, bV_x, ↓bnd_e, gd_t, y_12, es, hr]
      · rw [show tN B t lo hi p = none from if_neg (by omega)]
        simp (disch := omega) only [fa_lit, nI_ad, nI_mul, nI_cl, inb_nI, nI_ltE, nI_leE, nI_eqE, nI_m1, nI_m1', m1_lt, lt_m1, m1_le, le_m1, eq_self, not_true_eq_false, not_false_eq_true, ↓reduceIte, leT, leF, ltT, ltF, eqT, eqF, decide_true, decide_false, true_and, and_true, Nat.reduceAdd, bI0_i, bI_i, bI_x, bV0_v, bV_v, bV_x, ↓bnd_e, gd_t, y_12, es, hr]
    · rw [show tN B t lo hi p = none from if_neg (by omega)]
      simp (disch := omega) only [fa_lit, nI_ad, nI_mul, nI_cl, inb_nI, nI_ltE, nI_leE, nI_eqE, nI_m1, nI_m1', m1_lt, lt_m1, m1_le, le_m1, eq_self, not_true_eq_false, not_false_eq_true, ↓reduceIte, leT, leF, ltT, ltF, eqT, eqF, decide_true, decide_false, true_and, and_true, Nat.reduceAdd, bI0_i, bI_i, bI_x, bV0_v, bV_v, bV_x, ↓bnd_e, gd_t, y_12, es, hr]
  · rw [show tN B t lo hi p = none from if_neg (by omega)]
    simp (disch := omega) only [fa_lit, nI_ad, nI_mul, nI_cl, inb_nI, nI_ltE, nI_leE, nI_eqE, nI_m1, nI_m1', m1_lt, lt_m1, m1_le, le_m1, eq_self, not_true_eq_false, not_false_eq_true, ↓reduceIte, leT, leF, ltT, ltF, eqT, eqF, decide_true, decide_false, true_and, and_true, Nat.reduceAdd, bI0_i, bI_i, bI_x, bV0_v, bV_v, bV_x, ↓bnd_e, gd_t, y_12, es, hr]
end T
