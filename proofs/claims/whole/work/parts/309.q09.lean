/-! what class and model have in common between two calls -/
def lim (i : Nat) : Option Nat :=
  if i = 0 then some 40 else if i = 1 then some 999 else if i = 2 then some 999 else if i = 3 then some 9999 else if i = 4 then some 9 else if i = 5 then some 100 else if i = 6 then some 100
  else if i = 11 then some 12 else if i = 12 then some 10 else if i = 13 then some 6 else if i = 14 then some 4 else if i = 15 then some 60
  else if 16 ≤ i ∧ i < 66 then (if (i - 16) % 5 = 0 then some 40 else if (i - 16) % 5 = 1 then some 30 else if (i - 16) % 5 = 2 then some 20 else if (i - 16) % 5 = 3 then some 99 else some 9)
  else if 66 ≤ i ∧ i < 78 then some 9 else if 78 ≤ i ∧ i < 86 ∧ (i - 78) % 2 = 0 then some 20 else none
def Rg (c : Nat → Int32) : Prop := (∀ i b, lim i = some b → ∃ n, n ≤ b ∧ c i = nI n) ∧ ∀ i, 446 ≤ i → c i = 0
theorem Rg.up {c : Nat → Int32} {i : Nat} {v : Int32} (h : Rg c) (hi : i < 446) (hv : ∀ b, lim i = some b → ∃ n, n ≤ b ∧ v = nI n) : Rg (upd c i v) := by
  refine ⟨fun j b hj => ?_, fun j hj => ?_⟩
  · by_cases e : j = i
    · subst e; rw [upd_s]; exact hv b hj
    · rw [upd_n e]; exact h.1 j b hj
  · rw [upd_n (by omega)]; exact h.2 j hj
theorem lim_ledge : ∀ l, l < 10 → ∀ w, w < 5 → lim (16 + l * 5 + w) = some (if w = 0 then 40 else if w = 1 then 30 else if w = 2 then 20 else if w = 3 then 99 else 9) := by decide
theorem lim_holder : ∀ l, l < 6 → ∀ w, w < 2 → lim (66 + l * 2 + w) = some 9 := by decide
theorem lim_weight : ∀ l, l < 4 → lim (78 + l * 2 + 0) = some 20 := by decide
theorem lim_has : ∀ l, l < 4 → lim (78 + l * 2 + 1) = none := by decide
theorem lim_log {i : Nat} (h : 86 ≤ i) : lim i = none := by
  unfold lim
  simp (disch := omega) only [eqF, ↓reduceIte]
  rw [if_neg (by omega), if_neg (by omega), if_neg (by omega)]
theorem Rg.n12 {c : Nat → Int32} (h : Rg c) : ∃ n, n ≤ 10 ∧ c 12 = nI n := h.1 12 10 rfl
theorem Rg.n13 {c : Nat → Int32} (h : Rg c) : ∃ n, n ≤ 6 ∧ c 13 = nI n := h.1 13 6 rfl
theorem Rg.n14 {c : Nat → Int32} (h : Rg c) : ∃ n, n ≤ 4 ∧ c 14 = nI n := h.1 14 4 rfl
theorem Rg.n15 {c : Nat → Int32} (h : Rg c) : ∃ n, n ≤ 60 ∧ c 15 = nI n := h.1 15 60 rfl
theorem Rg.fathom {c : Nat → Int32} (h : Rg c) {l : Nat} (hl : l < 10) : ∃ n, n ≤ 40 ∧ c (16 + l * 5 + 0) = nI n := h.1 _ 40 (lim_ledge l hl 0 (by omega))
theorem Rg.roof {c : Nat → Int32} (h : Rg c) {l : Nat} (hl : l < 10) : ∃ n, n ≤ 30 ∧ c (16 + l * 5 + 1) = nI n := h.1 _ 30 (lim_ledge l hl 1 (by omega))
theorem Rg.eggs {c : Nat → Int32} (h : Rg c) {l : Nat} (hl : l < 10) : ∃ n, n ≤ 20 ∧ c (16 + l * 5 + 2) = nI n := h.1 _ 20 (lim_ledge l hl 2 (by omega))
theorem Rg.age {c : Nat → Int32} (h : Rg c) {l : Nat} (hl : l < 10) : ∃ n, n ≤ 99 ∧ c (16 + l * 5 + 3) = nI n := h.1 _ 99 (lim_ledge l hl 3 (by omega))
theorem Rg.birds {c : Nat → Int32} (h : Rg c) {l : Nat} (hl : l < 10) : ∃ n, n ≤ 9 ∧ c (16 + l * 5 + 4) = nI n := h.1 _ 9 (lim_ledge l hl 4 (by omega))
theorem Rg.hold {c : Nat → Int32} (h : Rg c) {l w : Nat} (hl : l < 6) (hw : w < 2) : ∃ n, n ≤ 9 ∧ c (66 + l * 2 + w) = nI n := h.1 _ 9 (lim_holder l hl w hw)
theorem Rg.weight {c : Nat → Int32} (h : Rg c) {l : Nat} (hl : l < 4) : ∃ n, n ≤ 20 ∧ c (78 + l * 2 + 0) = nI n := h.1 _ 20 (lim_weight l hl)
def zb (c : Nat → Int32) : Prop := ∀ i, 446 ≤ i → c i = 0
/-- one law in the class's lines at b and in a world -/
def LR (S : mS) (b : Nat) (w : Nat → Int32) : Prop := ∃ A, LW A ∧ LX A S b ∧ LM A w
def PastR (S : mS) : Prop := ∃ nx sz, nx < 12 ∧ sz ≤ 12 ∧ S 36 1 = nI nx ∧ S 36 2 = nI sz ∧ S 63 7 = nI sz ∧ (∀ i, i < 12 → zb (S (39 + 2 * i))) ∧
  ∀ j, j < sz → Rg (S (39 + 2 * ((nx + 12 - sz + j) % 12))) ∧ cM (fun i => S 68 (447 * j + i)) = S (39 + 2 * ((nx + 12 - sz + j) % 12)) ∧ S 68 (447 * j + 4) = S 64 4
def TapeR (S : mS) : Prop := ∃ t, t ≤ 400 ∧ S 1 1 = nI t ∧ S 63 9 = nI t ∧ ∀ i, i < t → ∃ x, x < 256 ∧ S 2 i = nI x ∧ S 69 i = (nI x).toInt8.toInt32
/-- where no egg is, there is no age -/
def Az (c : Nat → Int32) : Prop := ∀ l, l < 10 → c (16 + l * 5 + 2) = nI 0 → c (16 + l * 5 + 3) = nI 0
def AzI (S : mS) : Prop := Az (S 25) ∧ Az (S 29) ∧ ∀ i, i < 12 → Az (S (39 + 2 * i))
theorem Az_of {c c' : Nat → Int32} (h : ∀ i, 16 ≤ i → i < 66 → c' i = c i) (hz : Az c) : Az c' := fun l hl e => by
  rw [h _ (by omega) (by omega)] at e ⊢; exact hz l hl e
theorem Az_up {c : Nat → Int32} {k : Nat} {v : Int32} (hk : k < 16 ∨ 66 ≤ k) (hz : Az c) : Az (upd c k v) := Az_of (fun i h1 h2 => upd_n (by omega)) hz
theorem AzI_of {S T : mS} (h25 : T 25 = S 25) (h29 : T 29 = S 29) (hp : ∀ i, i < 12 → T (39 + 2 * i) = S (39 + 2 * i)) (h : AzI S) : AzI T :=
  ⟨by rw [h25]; exact h.1, by rw [h29]; exact h.2.1, fun i hi => by rw [hp i hi]; exact h.2.2 i hi⟩
def Inv (S : mS) : Prop := Rg (S 25) ∧ cM (S 64) = S 25 ∧ LR S 3 (S 64) ∧ zb (S 27) ∧ zb (S 29) ∧
  (S 0 13 = S 63 6 ∧ (S 0 13 = nI 0 ∨ S 0 13 = nI 1 ∧ Rg (S 29) ∧ cM (S 65) = S 29 ∧ LR S 17 (S 65))) ∧ PastR S ∧ TapeR S ∧ S 1 3 = S 63 14 ∧ AzI S
/-- objects whose cells a call that only looks leaves as they are -/
def keepO (o : Nat) : Prop := o < 75 ∧ o ≠ 8 ∧ o ≠ 9 ∧ o ≠ 27 ∧ o ≠ 33 ∧ o ≠ 34 ∧ o ≠ 35 ∧ o ≠ 62 ∧ o ≠ 63 ∧ o ≠ 66 ∧ o ≠ 67 ∧ o ≠ 70 ∧ o ≠ 71 ∧ o ≠ 72 ∧ o ≠ 73 ∧ o ≠ 74
def SameI (S S2 : mS) : Prop := (∀ o, keepO o → S2 o = S o) ∧ (∀ k, k = 6 ∨ k = 7 ∨ k = 9 ∨ k = 14 → S2 63 k = S 63 k) ∧ zb (S2 27)
theorem LR_of {S S2 : mS} {b : Nat} {w : Nat → Int32} (h : ∀ o, b ≤ o → o ≤ b + 4 → S2 o = S o) (hR : LR S b w) : LR S2 b w := by
  obtain ⟨A, h1, h2, h3⟩ := hR
  exact ⟨A, h1, LX_of h h2, h3⟩
theorem Inv_same {S S2 : mS} (hI : Inv S) (hs : SameI S S2) : Inv S2 := by
  obtain ⟨h1, h2, h3, h4, h5, h6, h7, h8, h9⟩ := hI
  obtain ⟨k1, k2, k3⟩ := hs
  have e (o : Nat) (h : keepO o) := k1 o h
  have e25 := k1 25 (by unfold keepO; omega)
  have e64 := k1 64 (by unfold keepO; omega)
  have e65 := k1 65 (by unfold keepO; omega)
  have e68 := k1 68 (by unfold keepO; omega)
  have e69 := k1 69 (by unfold keepO; omega)
  have e29 := k1 29 (by unfold keepO; omega)
  have e0 := k1 0 (by unfold keepO; omega)
  have e1 := k1 1 (by unfold keepO; omega)
  have e2 := k1 2 (by unfold keepO; omega)
  have e36 := k1 36 (by unfold keepO; omega)
  refine ⟨by rw [e25]; exact h1, by rw [e25, e64]; exact h2, ?_, k3, by rw [e29]; exact h5, ?_, ?_, ?_, ?_⟩
  · rw [e64]; exact LR_of (fun o a b => k1 o (by unfold keepO; omega)) h3
  · rw [e0, k2 6 (by omega), e29, e65]
    refine ⟨h6.1, ?_⟩
    rcases h6.2 with q | ⟨q1, q2, q3, q4⟩
    · exact Or.inl q
    · exact Or.inr ⟨q1, q2, q3, LR_of (fun o a b => k1 o (by unfold keepO; omega)) q4⟩
  · obtain ⟨nx, sz, a1, a2, a3, a4, a5, a6, a7⟩ := h7
    refine ⟨nx, sz, a1, a2, by rw [e36]; exact a3, by rw [e36]; exact a4, by rw [k2 7 (by omega)]; exact a5, fun i hi => ?_, fun j hj => ?_⟩
    · rw [k1 (39 + 2 * i) (by unfold keepO; omega)]; exact a6 i hi
    · rw [e68, e64, k1 (39 + 2 * ((nx + 12 - sz + j) % 12)) (by unfold keepO; omega)]; exact a7 j hj
  · obtain ⟨t, a1, a2, a3, a4⟩ := h8
    refine ⟨t, a1, by rw [e1]; exact a2, by rw [k2 9 (by omega)]; exact a3, fun i hi => ?_⟩
    rw [e2, e69]; exact a4 i hi
  · exact ⟨by rw [e1, k2 14 (by omega)]; exact h9.1, AzI_of e25 e29 (fun i hi => k1 (39 + 2 * i) (by unfold keepO; omega)) h9.2⟩
/-- what the two answer -/
def Res (r1 : Option Value ⊕ Nat) (b t : Int32) (cs : List Nat) : Prop := match r1 with
  | .inl (some (.int v)) => b = v ∧ t = nI 0
  | .inr e => ∃ j, cs[j]? = some e ∧ j < 8 ∧ t = nI (j + 1)
  | _ => False
def Ag (fX fM : mS → Option mR) (cs : List Nat) (S : mS) : Prop := ∃ r1 S1, fX S = some (r1, S1) ∧ ∀ T, (∀ o, o < 75 → T o = S1 o) → ∃ b T2, fM T = some (.inl (some (.int b)), T2) ∧ Inv T2 ∧ Res r1 b (T2 63 0) cs
theorem ag_ro {S : mS} {fX fM : mS → Option mR} {cs : List Nat} (hI : Inv S)
    (h : ∀ n nh nk A, n ≤ 10 → S 25 12 = nI n → nh ≤ 6 → S 25 13 = nI nh → nk ≤ 4 → S 25 14 = nI nk → LX A S 3 → LW A → Rg (S 25) →
      ∃ r1, (∃ p q, fX S = some (r1, sX S p q)) ∧ ∀ U, cM (U 64) = S 25 → LM A (U 64) → ∃ b t a b' q, (∀ T, U = upS T 63 0 (nI 0) → fM T = some (.inl (some (.int b)), sM (upS U 63 0 t) a b' q)) ∧ Res r1 b t cs) : Ag fX fM cs S := by
  have hI0 := hI
  obtain ⟨h1, h2, ⟨A, a1, a2, a3⟩, h4, -⟩ := hI
  obtain ⟨n, hn, en⟩ := h1.n12
  obtain ⟨nh, hnh, enh⟩ := h1.n13
  obtain ⟨nk, hnk, enk⟩ := h1.n14
  obtain ⟨r1, ⟨p, q, hX⟩, hM⟩ := h n nh nk A hn en hnh enh hnk enk a2 a1 h1
  refine ⟨r1, _, hX, fun T hT => ?_⟩
  have eU : (upS T 63 0 (nI 0)) 64 = S 64 := by rw [upS_n (by omega), hT 64 (by omega), sX_n (by omega) (by omega)]
  obtain ⟨b, t, a, b', q', hf, hr⟩ := hM (upS T 63 0 (nI 0)) (by rw [eU]; exact h2) (by rw [eU]; exact a3)
  refine ⟨b, _, hf T rfl, ?_, ?_⟩
  · refine Inv_same hI0 ⟨fun o ho => ?_, fun k hk => ?_, ?_⟩
    · unfold keepO at ho
      rw [sM_n (by omega) (by omega), upS_n (by omega), upS_n (by omega), hT o (by omega), sX_n (by omega) (by omega)]
    · rw [sM_63, upd_n (by omega), upd_n (by omega), upS_s, upd_n (by omega), upS_s, upd_n (by omega), hT 63 (by omega), sX_n (by omega) (by omega)]
    · rw [sM_n (by omega) (by omega), upS_n (by omega), upS_n (by omega), hT 27 (by omega), sX_n (by omega) (by omega)]; exact h4
  · have e : (sM (upS (upS T 63 0 (nI 0)) 63 0 t) a b' q') 63 0 = t := by
      rw [sM_63, upd_n (by omega), upd_n (by omega), upS_s, upd_s]
    rw [e]; exact hr
/-- is it a ledge? -/
theorem lt_nI {x : Int32} {n : Nat} (hn : n < 2147483648) (h : ¬ x < nI 0) (h2 : x < nI n) : ∃ l, l < n ∧ x = nI l := by
  obtain ⟨l, hl, rfl⟩ := nI_ofx h
  rw [nI_ltE hl hn] at h2
  exact ⟨l, h2, rfl⟩
theorem bad_idx {x : Int32} {n : Nat} (hn : n < 2147483648) (h : ¬ ∃ l, l < n ∧ x = nI l) : x < nI 0 ∨ ¬ x < nI n := by
  by_cases g : x < nI 0
  · exact Or.inl g
  · exact Or.inr (fun g2 => h (lt_nI hn g g2))
theorem le_sub1 {x : Int32} {n : Nat} (hn : n < 2147483648) : (x ≤ nI n - nI 1) = (x < nI n) := by
  apply propext
  rw [Int32.le_iff_toInt_le, Int32.lt_iff_toInt_lt, nI_toInt hn]
  have e : (nI n - nI 1).toInt = (n : Int) - 1 := by
    cases n with
    | zero => decide
    | succ m => rw [sub1, nI_toInt (by omega)]; omega
  rw [e]; omega
section N
variable {S : mS} {x : Int32} {n : Nat}
theorem x_needLedge {l : Nat} (hn : n ≤ 10) (e : S 25 12 = nI n) (hl : l < n) : f_X9_needLedge (nI l) S = some (.inl none, S) := by
  unfold f_X9_needLedge
  simp (disch := omega) only [fa_lit, nI_ad, nI_mul, nI_cl, inb_nI, nI_ltE, nI_leE, nI_eqE, nI_m1, nI_m1', m1_lt, lt_m1, m1_le, le_m1, eq_self, not_true_eq_false, not_false_eq_true, ↓reduceIte, leT, leF, ltT, ltF, eqT, eqF, decide_true, decide_false, true_and, and_true, Nat.reduceAdd, bI0_i, bI_i, bI_x, bV0_v, bV_v, bV_x, ↓bnd_e, gd_t, x_at, e]
theorem x_needLedge_x (hn : n ≤ 10) (e : S 25 12 = nI n) (h : ¬ ∃ l, l < n ∧ x = nI l) : f_X9_needLedge x S = some (.inr 3, S) := by
  unfold f_X9_needLedge f_X9_needLedge_b17
  rcases bad_idx (by omega) h with g | g <;> simp (disch := omega) only [fa_lit, nI_ad, nI_mul, nI_cl, inb_nI, nI_ltE, nI_leE, nI_eqE, nI_m1, nI_m1', m1_lt, lt_m1, m1_le, le_m1, eq_self, not_true_eq_false, not_false_eq_true, ↓reduceIte, leT, leF, ltT, ltF, eqT, eqF, decide_true, decide_false, true_and, and_true, Nat.reduceAdd, bI0_i, bI_i, bI_x, bV0_v, bV_v, bV_x, ↓bnd_e, gd_t, x_at, e, g, ite_self]
theorem x_needHolder {l : Nat} (hn : n ≤ 6) (e : S 25 13 = nI n) (hl : l < n) : f_X9_needHolder (nI l) S = some (.inl none, S) := by
  unfold f_X9_needHolder
  simp (disch := omega) only [fa_lit, nI_ad, nI_mul, nI_cl, inb_nI, nI_ltE, nI_leE, nI_eqE, nI_m1, nI_m1', m1_lt, lt_m1, m1_le, le_m1, eq_self, not_true_eq_false, not_false_eq_true, ↓reduceIte, leT, leF, ltT, ltF, eqT, eqF, decide_true, decide_false, true_and, and_true, Nat.reduceAdd, bI0_i, bI_i, bI_x, bV0_v, bV_v, bV_x, ↓bnd_e, gd_t, x_at, e]
theorem x_needHolder_x (hn : n ≤ 6) (e : S 25 13 = nI n) (h : ¬ ∃ l, l < n ∧ x = nI l) : f_X9_needHolder x S = some (.inr 3, S) := by
  unfold f_X9_needHolder f_X9_needHolder_b17
  rcases bad_idx (by omega) h with g | g <;> simp (disch := omega) only [fa_lit, nI_ad, nI_mul, nI_cl, inb_nI, nI_ltE, nI_leE, nI_eqE, nI_m1, nI_m1', m1_lt, lt_m1, m1_le, le_m1, eq_self, not_true_eq_false, not_false_eq_true, ↓reduceIte, leT, leF, ltT, ltF, eqT, eqF, decide_true, decide_false, true_and, and_true, Nat.reduceAdd, bI0_i, bI_i, bI_x, bV0_v, bV_v, bV_x, ↓bnd_e, gd_t, x_at, e, g, ite_self]
theorem x_needClimber {l : Nat} (hn : n ≤ 4) (e : S 25 14 = nI n) (hl : l < n) : f_X9_needClimber (nI l) S = some (.inl none, S) := by
  unfold f_X9_needClimber
  simp (disch := omega) only [fa_lit, nI_ad, nI_mul, nI_cl, inb_nI, nI_ltE, nI_leE, nI_eqE, nI_m1, nI_m1', m1_lt, lt_m1, m1_le, le_m1, eq_self, not_true_eq_false, not_false_eq_true, ↓reduceIte, leT, leF, ltT, ltF, eqT, eqF, decide_true, decide_false, true_and, and_true, Nat.reduceAdd, bI0_i, bI_i, bI_x, bV0_v, bV_v, bV_x, ↓bnd_e, gd_t, x_at, e]
theorem x_needClimber_x (hn : n ≤ 4) (e : S 25 14 = nI n) (h : ¬ ∃ l, l < n ∧ x = nI l) : f_X9_needClimber x S = some (.inr 3, S) := by
  unfold f_X9_needClimber f_X9_needClimber_b17
  rcases bad_idx (by omega) h with g | g <;> simp (disch := omega) only [fa_lit, nI_ad, nI_mul, nI_cl, inb_nI, nI_ltE, nI_leE, nI_eqE, nI_m1, nI_m1', m1_lt, lt_m1, m1_le, le_m1, eq_self, not_true_eq_false, not_false_eq_true, ↓reduceIte, leT, leF, ltT, ltF, eqT, eqF, decide_true, decide_false, true_and, and_true, Nat.reduceAdd, bI0_i, bI_i, bI_x, bV0_v, bV_v, bV_x, ↓bnd_e, gd_t, x_at, e, g, ite_self]
theorem x_need {a b : Int32} (h : a ≤ x ∧ x ≤ b) : f_X9_needWithin x a b S = some (.inl none, S) := by
  unfold f_X9_needWithin
  rw [nle_lt] at h
  rw [if_neg h.1, if_pos h.2]
theorem x_need_x {a b : Int32} (h : ¬ (a ≤ x ∧ x ≤ b)) : f_X9_needWithin x a b S = some (.inr 1, S) := by
  unfold f_X9_needWithin f_X9_needWithin_b10
  by_cases g : x < a
  · rw [if_pos g]
  · rw [if_neg g, if_neg (fun q => h ⟨by rw [nle_lt]; exact g, q⟩)]
theorem withinN {a b : Nat} (hb : b < 2147483648) (h : nI a ≤ x ∧ x ≤ nI b) (ha : a < 2147483648) : ∃ m, a ≤ m ∧ m ≤ b ∧ x = nI m := by
  have h0 : ¬ x < nI 0 := by
    have := h.1
    rw [Int32.le_iff_toInt_le, nI_toInt ha] at this
    rw [Int32.lt_iff_toInt_lt, nI_toInt (by omega)]; omega
  obtain ⟨m, hm, rfl⟩ := nI_ofx h0
  rw [nI_leE ha hm, nI_leE hm hb] at h
  exact ⟨m, h.1, h.2, rfl⟩
theorem m_noLedge {l : Nat} (hn : n ≤ 10) (e : cM (S 64) 12 = nI n) (hl : l < n) : f_X10_noLedge (nI l) S = some (.inl (some (.int (nI 0))), S) := by
  unfold f_X10_noLedge f_X10_noLedge_b19
  simp (disch := omega) only [fa_lit, nI_ad, nI_mul, nI_cl, inb_nI, nI_ltE, nI_leE, nI_eqE, nI_m1, nI_m1', m1_lt, lt_m1, m1_le, le_m1, eq_self, not_true_eq_false, not_false_eq_true, ↓reduceIte, leT, leF, ltT, ltF, eqT, eqF, decide_true, decide_false, true_and, and_true, Nat.reduceAdd, bI0_i, bI_i, bI_x, bV0_v, bV_v, bV_x, ↓bnd_e, gd_t, m_ledges, m_in, e, le_sub1, bT, and00]
theorem m_noLedge_x (hn : n ≤ 10) (e : cM (S 64) 12 = nI n) (h : ¬ ∃ l, l < n ∧ x = nI l) : f_X10_noLedge x S = some (.inl (some (.int (nI 1))), S) := by
  have g : decide (nI 0 ≤ x ∧ x ≤ nI n - nI 1) = false := by
    apply decide_eq_false
    rw [le_sub1 (by omega), nle_lt]
    exact fun g => h (lt_nI (by omega) g.1 g.2)
  unfold f_X10_noLedge f_X10_noLedge_b19
  simp (disch := omega) only [fa_lit, nI_ad, nI_mul, nI_cl, inb_nI, nI_ltE, nI_leE, nI_eqE, nI_m1, nI_m1', m1_lt, lt_m1, m1_le, le_m1, eq_self, not_true_eq_false, not_false_eq_true, ↓reduceIte, leT, leF, ltT, ltF, eqT, eqF, decide_true, decide_false, true_and, and_true, Nat.reduceAdd, bI0_i, bI_i, bI_x, bV0_v, bV_v, bV_x, ↓bnd_e, gd_t, m_ledges, m_in, e, g, bF, and10]
theorem m_noHolder {l : Nat} (hn : n ≤ 6) (e : cM (S 64) 13 = nI n) (hl : l < n) : f_X10_noHolder (nI l) S = some (.inl (some (.int (nI 0))), S) := by
  unfold f_X10_noHolder f_X10_noHolder_b19
  simp (disch := omega) only [fa_lit, nI_ad, nI_mul, nI_cl, inb_nI, nI_ltE, nI_leE, nI_eqE, nI_m1, nI_m1', m1_lt, lt_m1, m1_le, le_m1, eq_self, not_true_eq_false, not_false_eq_true, ↓reduceIte, leT, leF, ltT, ltF, eqT, eqF, decide_true, decide_false, true_and, and_true, Nat.reduceAdd, bI0_i, bI_i, bI_x, bV0_v, bV_v, bV_x, ↓bnd_e, gd_t, m_holders, m_in, e, le_sub1, bT, and00]
theorem m_noHolder_x (hn : n ≤ 6) (e : cM (S 64) 13 = nI n) (h : ¬ ∃ l, l < n ∧ x = nI l) : f_X10_noHolder x S = some (.inl (some (.int (nI 1))), S) := by
  have g : decide (nI 0 ≤ x ∧ x ≤ nI n - nI 1) = false := by
    apply decide_eq_false
    rw [le_sub1 (by omega), nle_lt]
    exact fun g => h (lt_nI (by omega) g.1 g.2)
  unfold f_X10_noHolder f_X10_noHolder_b19
  simp (disch := omega) only [fa_lit, nI_ad, nI_mul, nI_cl, inb_nI, nI_ltE, nI_leE, nI_eqE, nI_m1, nI_m1', m1_lt, lt_m1, m1_le, le_m1, eq_self, not_true_eq_false, not_false_eq_true, ↓reduceIte, leT, leF, ltT, ltF, eqT, eqF, decide_true, decide_false, true_and, and_true, Nat.reduceAdd, bI0_i, bI_i, bI_x, bV0_v, bV_v, bV_x, ↓bnd_e, gd_t, m_holders, m_in, e, g, bF, and10]
theorem m_noClimber {l : Nat} (hn : n ≤ 4) (e : cM (S 64) 14 = nI n) (hl : l < n) : f_X10_noClimber (nI l) S = some (.inl (some (.int (nI 0))), S) := by
  unfold f_X10_noClimber f_X10_noClimber_b19
  simp (disch := omega) only [fa_lit, nI_ad, nI_mul, nI_cl, inb_nI, nI_ltE, nI_leE, nI_eqE, nI_m1, nI_m1', m1_lt, lt_m1, m1_le, le_m1, eq_self, not_true_eq_false, not_false_eq_true, ↓reduceIte, leT, leF, ltT, ltF, eqT, eqF, decide_true, decide_false, true_and, and_true, Nat.reduceAdd, bI0_i, bI_i, bI_x, bV0_v, bV_v, bV_x, ↓bnd_e, gd_t, m_climbers, m_in, e, le_sub1, bT, and00]
theorem m_noClimber_x (hn : n ≤ 4) (e : cM (S 64) 14 = nI n) (h : ¬ ∃ l, l < n ∧ x = nI l) : f_X10_noClimber x S = some (.inl (some (.int (nI 1))), S) := by
  have g : decide (nI 0 ≤ x ∧ x ≤ nI n - nI 1) = false := by
    apply decide_eq_false
    rw [le_sub1 (by omega), nle_lt]
    exact fun g => h (lt_nI (by omega) g.1 g.2)
  unfold f_X10_noClimber f_X10_noClimber_b19
  simp (disch := omega) only [fa_lit, nI_ad, nI_mul, nI_cl, inb_nI, nI_ltE, nI_leE, nI_eqE, nI_m1, nI_m1', m1_lt, lt_m1, m1_le, le_m1, eq_self, not_true_eq_false, not_false_eq_true, ↓reduceIte, leT, leF, ltT, ltF, eqT, eqF, decide_true, decide_false, true_and, and_true, Nat.reduceAdd, bI0_i, bI_i, bI_x, bV0_v, bV_v, bV_x, ↓bnd_e, gd_t, m_climbers, m_in, e, g, bF, and10]
theorem m_throw {t : Int32} : f_X10_throwsIf (nI 1) t S = some (.inl (some (.int (nI 1))), upS S 63 0 t) := by
  unfold f_X10_throwsIf f_X10_throwsIf_b9
  simp (disch := omega) only [fa_lit, nI_ad, nI_mul, nI_cl, inb_nI, nI_ltE, nI_leE, nI_eqE, nI_m1, nI_m1', m1_lt, lt_m1, m1_le, le_m1, eq_self, not_true_eq_false, not_false_eq_true, ↓reduceIte, leT, leF, ltT, ltF, eqT, eqF, decide_true, decide_false, true_and, and_true, Nat.reduceAdd, bI0_i, bI_i, bI_x, bV0_v, bV_v, bV_x, ↓bnd_e, gd_t, and10]
theorem m_throw0 {t : Int32} : f_X10_throwsIf (nI 0) t S = some (.inl (some (.int (nI 0))), S) := by
  unfold f_X10_throwsIf f_X10_throwsIf_b9
  simp (disch := omega) only [fa_lit, nI_ad, nI_mul, nI_cl, inb_nI, nI_ltE, nI_leE, nI_eqE, nI_m1, nI_m1', m1_lt, lt_m1, m1_le, le_m1, eq_self, not_true_eq_false, not_false_eq_true, ↓reduceIte, leT, leF, ltT, ltF, eqT, eqF, decide_true, decide_false, true_and, and_true, Nat.reduceAdd, bI0_i, bI_i, bI_x, bV0_v, bV_v, bV_x, ↓bnd_e, gd_t, and00]
theorem m_noWind : f_X10_noWind x S = some (.inl (some (.int (bV32 (!decide (nI 0 ≤ x ∧ x ≤ nI 9))))), S) := by
  unfold f_X10_noWind f_X10_noWind_b15
  cases g : decide (nI 0 ≤ x ∧ x ≤ nI 9) <;> simp (disch := omega) only [fa_lit, nI_ad, nI_mul, nI_cl, inb_nI, nI_ltE, nI_leE, nI_eqE, nI_m1, nI_m1', m1_lt, lt_m1, m1_le, le_m1, eq_self, not_true_eq_false, not_false_eq_true, ↓reduceIte, leT, leF, ltT, ltF, eqT, eqF, decide_true, decide_false, true_and, and_true, Nat.reduceAdd, bI0_i, bI_i, bI_x, bV0_v, bV_v, bV_x, ↓bnd_e, gd_t, m_in, g, bF, bT, and10, and00] <;> rfl
theorem m_noBoth {k l nk : Nat} (hn : n ≤ 10) (e : cM (S 64) 12 = nI n) (hl : l < n) (hk4 : nk ≤ 4) (e2 : cM (S 64) 14 = nI nk) (hk : k < nk) : f_X10_noBoth (nI k) (nI l) S = some (.inl (some (.int (nI 0))), S) := by
  unfold f_X10_noBoth f_X10_noBoth_b21
  simp (disch := omega) only [fa_lit, nI_ad, nI_mul, nI_cl, inb_nI, nI_ltE, nI_leE, nI_eqE, nI_m1, nI_m1', m1_lt, lt_m1, m1_le, le_m1, eq_self, not_true_eq_false, not_false_eq_true, ↓reduceIte, leT, leF, ltT, ltF, eqT, eqF, decide_true, decide_false, true_and, and_true, Nat.reduceAdd, bI0_i, bI_i, bI_x, bV0_v, bV_v, bV_x, ↓bnd_e, gd_t, m_noClimber hk4 e2 hk, m_noLedge hn e hl, and00]
theorem m_noBoth_k {y : Int32} {nk : Nat} (hk4 : nk ≤ 4) (e2 : cM (S 64) 14 = nI nk) (h : ¬ ∃ l, l < nk ∧ x = nI l) : f_X10_noBoth x y S = some (.inl (some (.int (nI 1))), S) := by
  unfold f_X10_noBoth f_X10_noBoth_b16 f_X10_noBoth_b21
  simp (disch := omega) only [fa_lit, nI_ad, nI_mul, nI_cl, inb_nI, nI_ltE, nI_leE, nI_eqE, nI_m1, nI_m1', m1_lt, lt_m1, m1_le, le_m1, eq_self, not_true_eq_false, not_false_eq_true, ↓reduceIte, leT, leF, ltT, ltF, eqT, eqF, decide_true, decide_false, true_and, and_true, Nat.reduceAdd, bI0_i, bI_i, bI_x, bV0_v, bV_v, bV_x, ↓bnd_e, gd_t, m_noClimber_x hk4 e2 h, and10]
theorem m_noBoth_l {k nk : Nat} (hk4 : nk ≤ 4) (e2 : cM (S 64) 14 = nI nk) (hk : k < nk) (hn : n ≤ 10) (e : cM (S 64) 12 = nI n) (h : ¬ ∃ l, l < n ∧ x = nI l) : f_X10_noBoth (nI k) x S = some (.inl (some (.int (nI 1))), S) := by
  unfold f_X10_noBoth f_X10_noBoth_b16 f_X10_noBoth_b21
  simp (disch := omega) only [fa_lit, nI_ad, nI_mul, nI_cl, inb_nI, nI_ltE, nI_leE, nI_eqE, nI_m1, nI_m1', m1_lt, lt_m1, m1_le, le_m1, eq_self, not_true_eq_false, not_false_eq_true, ↓reduceIte, leT, leF, ltT, ltF, eqT, eqF, decide_true, decide_false, true_and, and_true, Nat.reduceAdd, bI0_i, bI_i, bI_x, bV0_v, bV_v, bV_x, ↓bnd_e, gd_t, m_noClimber hk4 e2 hk, m_noLedge_x hn e h, and10]
end N
