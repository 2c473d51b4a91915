/-! THE LAW in itself: lines with kinds, numbers, ends, and codes -/
abbrev aL : Type := Option (Nat × (Nat → Nat) × (Nat → Nat) × (Nat → Nat) × (Nat → Nat))
def tyStep (x : Nat) (T : List Bool) : Option (List Bool) :=
  if x < 1008 then (if T.length < 20 then some (false :: T) else none)
  else if x = 1008 then (if T.length < 20 then some (true :: T) else none)
  else if x = 2000 then (match T with
    | true :: r => some (true :: r)
    | _ => none)
  else if x = 2001 ∨ x = 2002 then (match T with
    | true :: true :: r => some (true :: r)
    | _ => none)
  else if x = 2003 ∨ x = 2004 then (match T with
    | false :: false :: r => some (true :: r)
    | _ => none)
  else if x = 2005 then (match T with
    | false :: false :: r => some (false :: r)
    | _ => none)
  else none
def joinV (x : Nat) (a b : Int32) : Int32 :=
  if x = 2001 then a &&& b else if x = 2002 then a ||| b
  else if x = 2003 then (if a < b then nI 1 else nI 0) else if x = 2004 then (if b < a then nI 1 else nI 0) else a + b
def evStep (p : Nat → Int32) (x : Nat) (V : List Int32) : List Int32 :=
  if x < 1000 then nI x :: V else if x < 2000 then p (x - 1000) :: V
  else if x = 2000 then (match V with
    | a :: r => (nI 1 - a) :: r
    | [] => [])
  else (match V with
    | b :: a :: r => joinV x a b :: r
    | _ => [])
def tyRun (cd : Nat → Nat) : Nat → Nat → List Bool → Option (List Bool)
  | _, 0, T => some T
  | s, m + 1, T => (tyStep (cd s) T).bind (tyRun cd (s + 1) m)
def evRun (cd : Nat → Nat) (p : Nat → Int32) : Nat → Nat → List Int32 → List Int32
  | _, 0, V => V
  | s, m + 1, V => evRun cd p (s + 1) m (evStep p (cd s) V)
def VT : List Bool → List Int32 → Prop
  | [], [] => True
  | b :: T, v :: V => (b = true → v = nI 0 ∨ v = nI 1) ∧ VT T V
  | _, _ => False
def Arr (q : Nat → Int32) : List Int32 → Prop
  | [] => True
  | a :: r => q r.length = a ∧ Arr q r
theorem Arr.keep {q : Nat → Int32} {k : Nat} {v : Int32} : ∀ {V : List Int32}, Arr q V → V.length ≤ k → Arr (upd q k v) V
  | [], _, _ => trivial
  | a :: r, h, hk => by
    rw [List.length_cons] at hk
    exact ⟨by rw [upd_n (by omega)]; exact h.1, h.2.keep (by omega)⟩
theorem Arr.push {q : Nat → Int32} {v : Int32} {V : List Int32} (h : Arr q V) : Arr (upd q V.length v) (v :: V) :=
  ⟨upd_s, h.keep (Nat.le_refl _)⟩
theorem VT.len : ∀ {T : List Bool} {V : List Int32}, VT T V → V.length = T.length
  | [], [], _ => rfl
  | [], _ :: _, h => h.elim
  | _ :: _, [], h => h.elim
  | b :: T, v :: V, h => by rw [List.length_cons, List.length_cons, h.2.len]
theorem ty_lt {x : Nat} {T T' : List Bool} (h : tyStep x T = some T') : x < 2006 := by
  unfold tyStep at h
  rcases Nat.lt_or_ge x 2006 with q | q
  · exact q
  · simp (disch := omega) only [ifalse] at h
    cases h
theorem b01 {a : Int32} (h : a = nI 0 ∨ a = nI 1) : nI 1 - a = nI 0 ∨ nI 1 - a = nI 1 := by
  rcases h with h | h <;> subst h <;> decide
theorem b01a {a b : Int32} (h : a = nI 0 ∨ a = nI 1) (h2 : b = nI 0 ∨ b = nI 1) : a &&& b = nI 0 ∨ a &&& b = nI 1 := by
  rcases h with h | h <;> rcases h2 with h2 | h2 <;> subst h <;> subst h2 <;> decide
theorem b01o {a b : Int32} (h : a = nI 0 ∨ a = nI 1) (h2 : b = nI 0 ∨ b = nI 1) : a ||| b = nI 0 ∨ a ||| b = nI 1 := by
  rcases h with h | h <;> rcases h2 with h2 | h2 <;> subst h <;> subst h2 <;> decide
/-- the six ways of a step -/
theorem ty_cases {x : Nat} {T T' : List Bool} (h : tyStep x T = some T') :
    (x < 1000 ∧ T.length < 20 ∧ T' = false :: T) ∨ (1000 ≤ x ∧ x < 1008 ∧ T.length < 20 ∧ T' = false :: T) ∨ (x = 1008 ∧ T.length < 20 ∧ T' = true :: T)
    ∨ (x = 2000 ∧ ∃ r, T = true :: r ∧ T' = true :: r) ∨ ((x = 2001 ∨ x = 2002) ∧ ∃ r, T = true :: true :: r ∧ T' = true :: r)
    ∨ ((x = 2003 ∨ x = 2004) ∧ ∃ r, T = false :: false :: r ∧ T' = true :: r) ∨ (x = 2005 ∧ ∃ r, T = false :: false :: r ∧ T' = false :: r) := by
  unfold tyStep at h
  by_cases h1 : x < 1008
  · rw [if_pos h1] at h
    by_cases h2 : T.length < 20
    · rw [if_pos h2] at h; cases h
      rcases Nat.lt_or_ge x 1000 with q | q
      · exact Or.inl ⟨q, h2, rfl⟩
      · exact Or.inr (Or.inl ⟨q, h1, h2, rfl⟩)
    · rw [if_neg h2] at h; cases h
  · rw [if_neg h1] at h
    by_cases h2 : x = 1008
    · rw [if_pos h2] at h
      by_cases h3 : T.length < 20
      · rw [if_pos h3] at h; cases h
        exact Or.inr (Or.inr (Or.inl ⟨h2, h3, rfl⟩))
      · rw [if_neg h3] at h; cases h
    · rw [if_neg h2] at h
      by_cases h3 : x = 2000
      · rw [if_pos h3] at h
        split at h
        · cases h; exact Or.inr (Or.inr (Or.inr (Or.inl ⟨h3, _, rfl, rfl⟩)))
        · cases h
      · rw [if_neg h3] at h
        by_cases h4 : x = 2001 ∨ x = 2002
        · rw [if_pos h4] at h
          split at h
          · cases h; exact Or.inr (Or.inr (Or.inr (Or.inr (Or.inl ⟨h4, _, rfl, rfl⟩))))
          · cases h
        · rw [if_neg h4] at h
          by_cases h5 : x = 2003 ∨ x = 2004
          · rw [if_pos h5] at h
            split at h
            · cases h; exact Or.inr (Or.inr (Or.inr (Or.inr (Or.inr (Or.inl ⟨h5, _, rfl, rfl⟩)))))
            · cases h
          · rw [if_neg h5] at h
            by_cases h6 : x = 2005
            · rw [if_pos h6] at h
              split at h
              · cases h; exact Or.inr (Or.inr (Or.inr (Or.inr (Or.inr (Or.inr ⟨h6, _, rfl, rfl⟩)))))
              · cases h
            · rw [if_neg h6] at h; cases h
theorem VT_cons {b : Bool} {T : List Bool} {V : List Int32} (h : VT (b :: T) V) : ∃ v W, V = v :: W ∧ (b = true → v = nI 0 ∨ v = nI 1) ∧ VT T W := by
  cases V with
  | nil => exact h.elim
  | cons v W => exact ⟨v, W, rfl, h.1, h.2⟩
theorem ev_VT {p : Nat → Int32} {x : Nat} {T T' : List Bool} {V : List Int32} (hp : p 8 = nI 0 ∨ p 8 = nI 1) (h : tyStep x T = some T') (hV : VT T V) : VT T' (evStep p x V) := by
  rcases ty_cases h with ⟨h1, -, rfl⟩ | ⟨h1, h2, -, rfl⟩ | ⟨rfl, -, rfl⟩ | ⟨rfl, r, rfl, rfl⟩ | ⟨h1, r, rfl, rfl⟩ | ⟨h1, r, rfl, rfl⟩ | ⟨rfl, r, rfl, rfl⟩
  · unfold evStep; rw [if_pos h1]; exact ⟨(fun q => by cases q), hV⟩
  · unfold evStep; rw [if_neg (by omega), if_pos (by omega)]; exact ⟨(fun q => by cases q), hV⟩
  · unfold evStep; rw [if_neg (by omega), if_pos (by omega)]; exact ⟨(fun _ => hp), hV⟩
  · obtain ⟨v, W, rfl, h2, h3⟩ := VT_cons hV
    unfold evStep; rw [if_neg (by omega), if_neg (by omega), if_pos rfl]
    exact ⟨fun _ => b01 (h2 rfl), h3⟩
  · obtain ⟨v, W, rfl, h2, h3⟩ := VT_cons hV
    obtain ⟨v2, W, rfl, h4, h5⟩ := VT_cons h3
    unfold evStep; rw [if_neg (by omega), if_neg (by omega), if_neg (by omega)]
    refine ⟨fun _ => ?_, h5⟩
    unfold joinV
    rcases h1 with rfl | rfl
    · rw [if_pos rfl]; exact b01a (h4 rfl) (h2 rfl)
    · rw [if_neg (by omega), if_pos rfl]; exact b01o (h4 rfl) (h2 rfl)
  · obtain ⟨v, W, rfl, h2, h3⟩ := VT_cons hV
    obtain ⟨v2, W, rfl, h4, h5⟩ := VT_cons h3
    unfold evStep; rw [if_neg (by omega), if_neg (by omega), if_neg (by omega)]
    refine ⟨fun _ => ?_, h5⟩
    unfold joinV
    rw [if_neg (by omega), if_neg (by omega)]
    rcases h1 with rfl | rfl
    · rw [if_pos rfl]; split
      · exact Or.inr rfl
      · exact Or.inl rfl
    · rw [if_neg (by omega), if_pos rfl]; split
      · exact Or.inr rfl
      · exact Or.inl rfl
  · obtain ⟨v, W, rfl, h2, h3⟩ := VT_cons hV
    obtain ⟨v2, W, rfl, h4, h5⟩ := VT_cons h3
    unfold evStep; rw [if_neg (by omega), if_neg (by omega), if_neg (by omega)]
    exact ⟨(fun q => by cases q), h5⟩
theorem sub1 {k : Nat} : nI (k + 1) - nI 1 = nI k := by rw [nI_sub (by omega)]; rfl
theorem sub2 {k : Nat} : nI (k + 1 + 1) - nI 2 = nI k := by rw [nI_sub (by omega)]; congr 1
theorem subm1 {k : Nat} : nI (k + 1) + -nI 1 = nI k := by
  have e : nI (k + 1) = nI k + nI 1 := (nI_ad k 1).symm
  rw [e, Int32.add_assoc, Int32.add_right_neg, Int32.add_zero]
theorem x_joined {x : Nat} {a b : Int32} {S : mS} (h1 : 2001 ≤ x) (h2 : x < 2006) : f_X2_joined (nI x) a b S = some (.inl (some (.int (joinV x a b))), S) := by
  unfold f_X2_joined f_X2_joined_b50 f_X2_joined_b61 joinV
  simp (disch := omega) only [fa_lit, nI_ad, nI_mul, nI_cl, inb_nI, nI_ltE, nI_leE, nI_eqE, nI_m1, nI_m1', m1_lt, lt_m1, m1_le, le_m1, eq_self, not_true_eq_false, not_false_eq_true, ↓reduceIte, leT, leF, ltT, ltF, eqT, eqF, decide_true, decide_false, true_and, and_true, Nat.reduceAdd, nle_lt]
  by_cases e1 : x = 2001
  · rw [if_pos e1, if_pos e1]
  · rw [if_neg e1, if_neg e1]
    by_cases e2 : x = 2002
    · rw [if_pos e2, if_pos e2]
    · rw [if_neg e2, if_neg e2]
      by_cases e3 : x = 2003
      · rw [if_pos e3, if_pos e3]
        by_cases q : a < b
        · rw [if_neg (by simpa using q), if_pos q]
        · rw [if_pos q, if_neg q]
      · rw [if_neg e3, if_neg e3]
        by_cases e4 : x = 2004
        · rw [if_pos e4, if_pos e4]
          by_cases q : b < a
          · rw [if_neg (by simpa using q), if_pos q]
          · rw [if_pos q, if_neg q]
        · rw [if_neg e4, if_neg e4]
theorem x_partAt {x : Nat} {S : mS} (h2 : x < 9) : f_X2_partAt (nI x) S = some (.inl (some (.int (S 8 x))), S) := by
  unfold f_X2_partAt f_X2_partAt_b20
  simp (disch := omega) only [fa_lit, nI_ad, nI_mul, nI_cl, inb_nI, nI_ltE, nI_leE, nI_eqE, nI_m1, nI_m1', m1_lt, lt_m1, m1_le, le_m1, eq_self, not_true_eq_false, not_false_eq_true, ↓reduceIte, leT, leF, ltT, ltF, eqT, eqF, decide_true, decide_false, true_and, and_true, Nat.reduceAdd, bI0_i, bI_i, bI_x, bV0_v, bV_v, bV_x, ↓bnd_e, gd_t]
theorem x_step {F k e i x : Nat} {S : mS} {p q : Nat → Int32} {T T' : List Bool} {V : List Int32} (hi : i < e) (he : e ≤ 400) (hx : S 7 i = nI x) (ht : tyStep x T = some T') (hV : VT T V) (hT : T.length ≤ 20) (hq : Arr q V) :
    ∃ q', Arr q' (evStep p x V) ∧ f_X2_holds_b9 F (k + 1) (nI e) (nI V.length) (nI i) (sX S p q) = f_X2_holds_b9 F k (nI e) (nI (evStep p x V).length) (nI (i + 1)) (sX S p q') := by
  have hl := hV.len
  have hx2 := ty_lt ht
  have e7 : (sX S p q) 7 i = nI x := by rw [sX_n (by omega) (by omega)]; exact hx
  rw [f_X2_holds_b9]
  unfold f_X2_holds_b81 f_X2_holds_b115 f_X2_holds_b74 f_X2_holds_b160
  simp (disch := omega) only [fa_lit, nI_ad, nI_mul, nI_cl, inb_nI, nI_ltE, nI_leE, nI_eqE, nI_m1, nI_m1', m1_lt, lt_m1, m1_le, le_m1, eq_self, not_true_eq_false, not_false_eq_true, ↓reduceIte, leT, leF, ltT, ltF, eqT, eqF, decide_true, decide_false, true_and, and_true, Nat.reduceAdd, bI0_i, bI_i, bI_x, bV0_v, bV_v, bV_x, ↓bnd_e, gd_t, e7]
  rcases ty_cases ht with ⟨h1, h3, rfl⟩ | ⟨h1, h2, h3, rfl⟩ | ⟨rfl, h3, rfl⟩ | ⟨rfl, r, rfl, rfl⟩ | ⟨h1, r, rfl, rfl⟩ | ⟨h1, r, rfl, rfl⟩ | ⟨h1, r, rfl, rfl⟩
  · have hev : evStep p x V = nI x :: V := by unfold evStep; rw [if_pos h1]
    rw [hev]
    refine ⟨upd q V.length (nI x), hq.push, ?_⟩
    simp (disch := omega) only [fa_lit, nI_ad, nI_mul, nI_cl, inb_nI, nI_ltE, nI_leE, nI_eqE, nI_m1, nI_m1', m1_lt, lt_m1, m1_le, le_m1, eq_self, not_true_eq_false, not_false_eq_true, ↓reduceIte, leT, leF, ltT, ltF, eqT, eqF, decide_true, decide_false, true_and, and_true, Nat.reduceAdd, bI0_i, bI_i, bI_x, bV0_v, bV_v, bV_x, ↓bnd_e, gd_t, up_sX9, List.length_cons]
  · have hev : evStep p x V = p (x - 1000) :: V := by unfold evStep; rw [if_neg (by omega), if_pos (by omega)]
    rw [hev]
    refine ⟨upd q V.length (p (x - 1000)), hq.push, ?_⟩
    simp (disch := omega) only [fa_lit, nI_ad, nI_mul, nI_cl, inb_nI, nI_ltE, nI_leE, nI_eqE, nI_m1, nI_m1', m1_lt, lt_m1, m1_le, le_m1, eq_self, not_true_eq_false, not_false_eq_true, ↓reduceIte, leT, leF, ltT, ltF, eqT, eqF, decide_true, decide_false, true_and, and_true, Nat.reduceAdd, bI0_i, bI_i, bI_x, bV0_v, bV_v, bV_x, ↓bnd_e, gd_t, up_sX9, List.length_cons, nI_sub, x_partAt, sX_8]
  · have hev : evStep p 1008 V = p (1008 - 1000) :: V := by unfold evStep; rw [if_neg (by omega), if_pos (by omega)]
    rw [hev]
    refine ⟨upd q V.length (p (1008 - 1000)), hq.push, ?_⟩
    simp (disch := omega) only [fa_lit, nI_ad, nI_mul, nI_cl, inb_nI, nI_ltE, nI_leE, nI_eqE, nI_m1, nI_m1', m1_lt, lt_m1, m1_le, le_m1, eq_self, not_true_eq_false, not_false_eq_true, ↓reduceIte, leT, leF, ltT, ltF, eqT, eqF, decide_true, decide_false, true_and, and_true, Nat.reduceAdd, bI0_i, bI_i, bI_x, bV0_v, bV_v, bV_x, ↓bnd_e, gd_t, up_sX9, List.length_cons, nI_sub, x_partAt, sX_8]
  · obtain ⟨v, W, rfl, h2, h3⟩ := VT_cons hV
    rw [List.length_cons] at hl
    rw [List.length_cons] at hl hT
    have hev : evStep p 2000 (v :: W) = (nI 1 - v) :: W := by unfold evStep; rw [if_neg (by omega), if_neg (by omega), if_pos rfl]
    rw [hev]
    refine ⟨upd q W.length (nI 1 - v), ⟨upd_s, hq.2.keep (Nat.le_refl _)⟩, ?_⟩
    simp (disch := omega) only [fa_lit, nI_ad, nI_mul, nI_cl, inb_nI, nI_ltE, nI_leE, nI_eqE, nI_m1, nI_m1', m1_lt, lt_m1, m1_le, le_m1, eq_self, not_true_eq_false, not_false_eq_true, ↓reduceIte, leT, leF, ltT, ltF, eqT, eqF, decide_true, decide_false, true_and, and_true, Nat.reduceAdd, bI0_i, bI_i, bI_x, bV0_v, bV_v, bV_x, ↓bnd_e, gd_t, up_sX9, List.length_cons, sub1, sX_9, hq.1]
  all_goals
    obtain ⟨b, W, rfl, h2, h3⟩ := VT_cons hV
    obtain ⟨a, W, rfl, h4, h5⟩ := VT_cons h3
    rw [List.length_cons, List.length_cons] at hl
    rw [List.length_cons, List.length_cons] at hl hT
    have hev : evStep p x (b :: a :: W) = joinV x a b :: W := by unfold evStep; rw [if_neg (by omega), if_neg (by omega), if_neg (by omega)]
    rw [hev]
    refine ⟨upd q W.length (joinV x a b), ⟨upd_s, hq.2.2.keep (Nat.le_refl _)⟩, ?_⟩
    have hq1 := hq.1
    rw [List.length_cons] at hq1
    simp (disch := omega) only [fa_lit, nI_ad, nI_mul, nI_cl, inb_nI, nI_ltE, nI_leE, nI_eqE, nI_m1, nI_m1', m1_lt, lt_m1, m1_le, le_m1, eq_self, not_true_eq_false, not_false_eq_true, ↓reduceIte, leT, leF, ltT, ltF, eqT, eqF, decide_true, decide_false, true_and, and_true, Nat.reduceAdd, bI0_i, bI_i, bI_x, bV0_v, bV_v, bV_x, ↓bnd_e, gd_t, up_sX9, List.length_cons, sub1, sub2, subm1, sX_9, hq1, hq.2.1, x_joined]
theorem tyRun_snoc {cd : Nat → Nat} : ∀ {m s : Nat} {T : List Bool}, tyRun cd s (m + 1) T = (tyRun cd s m T).bind (tyStep (cd (s + m)))
  | 0, s, T => by
    show (tyStep (cd s) T).bind (tyRun cd (s + 1) 0) = (some T).bind (tyStep (cd (s + 0)))
    rw [Option.bind_some, Nat.add_zero]
    cases tyStep (cd s) T <;> rfl
  | m + 1, s, T => by
    show (tyStep (cd s) T).bind (tyRun cd (s + 1) (m + 1)) = ((tyStep (cd s) T).bind (tyRun cd (s + 1) m)).bind (tyStep (cd (s + (m + 1))))
    cases tyStep (cd s) T with
    | none => rfl
    | some T' =>
      show tyRun cd (s + 1) (m + 1) T' = (tyRun cd (s + 1) m T').bind (tyStep (cd (s + (m + 1))))
      rw [tyRun_snoc, show s + 1 + m = s + (m + 1) by omega]
theorem ty_len {x : Nat} {T T' : List Bool} (h : tyStep x T = some T') (hT : T.length ≤ 20) : T'.length ≤ 20 := by
  rcases ty_cases h with ⟨h1, h3, rfl⟩ | ⟨h1, h2, h3, rfl⟩ | ⟨rfl, h3, rfl⟩ | ⟨rfl, r, rfl, rfl⟩ | ⟨h1, r, rfl, rfl⟩ | ⟨h1, r, rfl, rfl⟩ | ⟨rfl, r, rfl, rfl⟩ <;> simp only [List.length_cons] at * <;> omega
/-- a line's answer from what is left open -/
def hvV (V : List Int32) : Bool := match V with
  | [] => true
  | a :: _ => decide (a = nI 1)
def holdsV (cd : Nat → Nat) (p : Nat → Int32) (s e : Nat) : Bool := hvV (evRun cd p s (e - s) [])
theorem x_loop {F e : Nat} {S : mS} {p : Nat → Int32} {cd : Nat → Nat} (he : e ≤ 400) (hp : p 8 = nI 0 ∨ p 8 = nI 1) (hc : ∀ i, i < e → S 7 i = nI (cd i)) :
    ∀ (m i k : Nat) (q : Nat → Int32) (T T' : List Bool) (V : List Int32), i + m = e → m < k → tyRun cd i m T = some T' → (T' = [] ∨ T' = [true]) → VT T V → T.length ≤ 20 → Arr q V →
    ∃ q', f_X2_holds_b9 F k (nI e) (nI V.length) (nI i) (sX S p q) = some (.inl (some (.int (bV32 (hvV (evRun cd p i m V))))), sX S p q')
  | 0, i, k + 1, q, T, T', V, hi, hk, ht, hT', hV, hT, hq => by
    cases ht
    refine ⟨q, ?_⟩
    rw [f_X2_holds_b9]
    unfold f_X2_holds_b166 f_X2_holds_b185 f_X2_holds_b180 f_X2_holds_b185
    have hie : i = e := by omega
    subst hie
    simp (disch := omega) only [fa_lit, nI_ad, nI_mul, nI_cl, inb_nI, nI_ltE, nI_leE, nI_eqE, nI_m1, nI_m1', m1_lt, lt_m1, m1_le, le_m1, eq_self, not_true_eq_false, not_false_eq_true, ↓reduceIte, leT, leF, ltT, ltF, eqT, eqF, decide_true, decide_false, true_and, and_true, Nat.reduceAdd, bI0_i, bI_i, bI_x, bV0_v, bV_v, bV_x, ↓bnd_e, gd_t, Nat.le_refl]
    rcases hT' with rfl | rfl
    · cases V with
      | nil => rfl
      | cons => exact hV.elim
    · obtain ⟨v, W, rfl, h2, h3⟩ := VT_cons hV
      cases W with
      | cons => exact h3.elim
      | nil =>
        have e9 : sX S p q 9 0 = v := hq.1
        simp (disch := omega) only [fa_lit, nI_ad, nI_mul, nI_cl, inb_nI, nI_ltE, nI_leE, nI_eqE, nI_m1, nI_m1', m1_lt, lt_m1, m1_le, le_m1, eq_self, not_true_eq_false, not_false_eq_true, ↓reduceIte, leT, leF, ltT, ltF, eqT, eqF, decide_true, decide_false, true_and, and_true, Nat.reduceAdd, bI0_i, bI_i, bI_x, bV0_v, bV_v, bV_x, ↓bnd_e, gd_t, List.length_cons, List.length_nil, e9, evRun, hvV]
        by_cases h : v = nI 1
        · subst h; rfl
        · rw [decide_eq_false h]; simp only [h, not_false_eq_true, if_true]; rfl
  | m + 1, i, k + 1, q, T, T', V, hi, hk, ht, hT', hV, hT, hq => by
    rw [tyRun] at ht
    cases hs : tyStep (cd i) T with
    | none => rw [hs] at ht; cases ht
    | some T1 =>
      rw [hs, Option.bind_some] at ht
      obtain ⟨q1, h1, h2⟩ := x_step (F := F) (k := k) (p := p) (by omega : i < e) he (hc i (by omega)) hs hV hT hq
      rw [h2]
      exact x_loop he hp hc m (i + 1) k q1 T1 T' _ (by omega) (by omega) ht hT' (ev_VT hp hs hV) (ty_len hs hT) h1
theorem x_holds {F s e : Nat} {S : mS} {p q : Nat → Int32} {cd : Nat → Nat} {T : List Bool} (hF : 401 ≤ F) (hs : s ≤ e) (he : e ≤ 400) (hp : p 8 = nI 0 ∨ p 8 = nI 1) (hc : ∀ i, i < e → S 7 i = nI (cd i)) (ht : tyRun cd s (e - s) [] = some T) (hT : T = [] ∨ T = [true]) :
    ∃ q', f_X2_holds F (nI s) (nI e) (sX S p q) = some (.inl (some (.int (bV32 (holdsV cd p s e)))), sX S p q') := by
  unfold f_X2_holds
  obtain ⟨q', h⟩ := x_loop (F := F) he hp hc (e - s) s F q [] T [] (by omega) (by omega) ht hT trivial (by simp) trivial
  refine ⟨q', ?_⟩
  rw [bnd_e]
  have e0 : (if (0 : Int32) < nI s then nI s else 0) = nI s := by
    simp (disch := omega) only [fa_lit, nI_ad, nI_mul, nI_cl, inb_nI, nI_ltE, nI_leE, nI_eqE, nI_m1, nI_m1', m1_lt, lt_m1, m1_le, le_m1, eq_self, not_true_eq_false, not_false_eq_true, ↓reduceIte, leT, leF, ltT, ltF, eqT, eqF, decide_true, decide_false, true_and, and_true, Nat.reduceAdd]
    split
    · rfl
    · congr 1; omega
  rw [e0]
  exact h
