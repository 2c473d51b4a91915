/-- the cells of a cliff in the model's world -/
def cM (w : Nat → Int32) : Nat → Int32 := fun i => if i < 446 then w (pm i) else 0
theorem cM_lo {w : Nat → Int32} {i : Nat} (h : i < 446) : cM w i = w (pm i) := if_pos h
theorem cM_up {w : Nat → Int32} {i : Nat} (v : Int32) (h : i < 446) : cM (upd w (pm i) v) = upd (cM w) i v := by
  funext j
  by_cases e : j = i
  · subst e; rw [cM_lo h, upd_s, upd_s]
  · rw [upd_n e]
    unfold cM
    split
    · rw [upd_n (fun q => e (pm_inj q))]
    · rfl
theorem cM_up' {w : Nat → Int32} {k : Nat} (i : Nat) (v : Int32) (h : i < 446) (e : k = pm i) : cM (upd w k v) = upd (cM w) i v := by
  subst e; exact cM_up v h
theorem cM_hi {w : Nat → Int32} {k : Nat} (v : Int32) (h1 : 17 ≤ k) (h2 : k < 447) : cM (upd w k v) = upd (cM w) (k - 1) v :=
  cM_up' (k - 1) v (by omega) (by rw [pm_hi (by omega)]; omega)
theorem cM_out {w : Nat → Int32} {k : Nat} (v : Int32) (hk : k = 4 ∨ 447 ≤ k) : cM (upd w k v) = cM w := by
  funext j
  unfold cM
  split
  · rename_i hj; rw [upd_n (pm_ne hj hk)]
  · rfl
theorem wH {w : Nat → Int32} {i : Nat} (h1 : 17 ≤ i) (h2 : i < 447) : w i = cM w (i - 1) := by
  rw [cM_lo (by omega), pm_hi (by omega)]; congr 1; omega
theorem wHi (w : Nat → Int32) (k : Nat) {i : Nat} (h1 : 17 ≤ i) (h2 : i < 447) (e : k + 1 = i) : w i = cM w k := by
  subst e; rw [cM_lo (by omega), pm_hi (by omega)]
theorem w0 (w : Nat → Int32) : w 0 = cM w 12 := rfl
theorem w1 (w : Nat → Int32) : w 1 = cM w 13 := rfl
theorem w2 (w : Nat → Int32) : w 2 = cM w 14 := rfl
theorem w3 (w : Nat → Int32) : w 3 = cM w 11 := rfl
theorem w5 (w : Nat → Int32) : w 5 = cM w 3 := rfl
theorem w6 (w : Nat → Int32) : w 6 = cM w 4 := rfl
theorem w7 (w : Nat → Int32) : w 7 = cM w 0 := rfl
theorem w8 (w : Nat → Int32) : w 8 = cM w 1 := rfl
theorem w9 (w : Nat → Int32) : w 9 = cM w 2 := rfl
theorem w10 (w : Nat → Int32) : w 10 = cM w 8 := rfl
theorem w11 (w : Nat → Int32) : w 11 = cM w 9 := rfl
theorem w12 (w : Nat → Int32) : w 12 = cM w 7 := rfl
theorem w13 (w : Nat → Int32) : w 13 = cM w 5 := rfl
theorem w14 (w : Nat → Int32) : w 14 = cM w 6 := rfl
theorem w15 (w : Nat → Int32) : w 15 = cM w 15 := rfl
theorem w16 (w : Nat → Int32) : w 16 = cM w 10 := rfl
/-- what the class's sums write on the way; what the model's do -/
def sX (S : mS) (p q : Nat → Int32) : mS := fun o => if o = 8 then p else if o = 9 then q else S o
def sM (S : mS) (a b : Int32) (q : Nat → Int32) : mS := fun o => if o = 71 then q else if o = 63 then upd (upd (S 63) 18 a) 19 b else S o
theorem sX_n {S : mS} {p q : Nat → Int32} {o : Nat} (h : o ≠ 8) (h2 : o ≠ 9) : sX S p q o = S o := by
  unfold sX; rw [if_neg h, if_neg h2]
theorem sX_8 {S : mS} {p q : Nat → Int32} : sX S p q 8 = p := Eq.trans rfl rfl
theorem sX_9 {S : mS} {p q : Nat → Int32} : sX S p q 9 = q := Eq.trans rfl rfl
theorem sX_sX {S : mS} {p q p' q' : Nat → Int32} : sX (sX S p q) p' q' = sX S p' q' := by
  funext o; unfold sX; split
  · rfl
  · split <;> rfl
theorem sX_id {S : mS} : sX S (S 8) (S 9) = S := by
  funext o; unfold sX; split
  · rename_i h; rw [h]
  · split
    · rename_i h; rw [h]
    · rfl
theorem up_sX8 {S : mS} {p q : Nat → Int32} {k : Nat} {v : Int32} : upS (sX S p q) 8 k v = sX S (upd p k v) q := by
  funext o
  by_cases h8 : o = 8
  · subst h8; rw [upS_s, sX_8, sX_8]
  · rw [upS_n h8]; unfold sX; rw [if_neg h8, if_neg h8]
theorem up_sX9 {S : mS} {p q : Nat → Int32} {k : Nat} {v : Int32} : upS (sX S p q) 9 k v = sX S p (upd q k v) := by
  funext o
  by_cases h9 : o = 9
  · subst h9; rw [upS_s, sX_9, sX_9]
  · rw [upS_n h9]; unfold sX; split
    · rfl
    · rfl
theorem sM_n {S : mS} {a b : Int32} {q : Nat → Int32} {o : Nat} (h : o ≠ 71) (h2 : o ≠ 63) : sM S a b q o = S o := by
  unfold sM; rw [if_neg h, if_neg h2]
theorem sM_63 {S : mS} {a b : Int32} {q : Nat → Int32} : sM S a b q 63 = upd (upd (S 63) 18 a) 19 b := Eq.trans rfl rfl
theorem sM_71 {S : mS} {a b : Int32} {q : Nat → Int32} : sM S a b q 71 = q := Eq.trans rfl rfl
theorem upd_upd {f : Nat → Int32} {k : Nat} {x y : Int32} : upd (upd f k x) k y = upd f k y := by
  funext j; unfold upd; split <;> rfl
theorem upd_comm {f : Nat → Int32} {k l : Nat} {x y : Int32} (h : k ≠ l) : upd (upd f k x) l y = upd (upd f l y) k x := by
  funext j; unfold upd; split
  · rename_i e; subst e; rw [if_neg (fun e => h e.symm)]
  · rfl
theorem upd_id {f : Nat → Int32} {k : Nat} {v : Int32} (h : f k = v) : upd f k v = f := by
  funext j; unfold upd; split
  · rename_i e; subst e; exact h.symm
  · rfl
theorem sM_sM {S : mS} {a b a' b' : Int32} {q q' : Nat → Int32} : sM (sM S a b q) a' b' q' = sM S a' b' q' := by
  funext o; unfold sM; split
  · rfl
  · split
    · rw [if_neg (by omega), if_pos rfl, upd_comm (by omega : (19 : Nat) ≠ 18), upd_upd, upd_upd]
    · rfl
theorem up_sM71 {S : mS} {a b : Int32} {q : Nat → Int32} {k : Nat} {v : Int32} : upS (sM S a b q) 71 k v = sM S a b (upd q k v) := by
  funext o
  by_cases h : o = 71
  · subst h; rw [upS_s, sM_71, sM_71]
  · rw [upS_n h]; unfold sM; rw [if_neg h, if_neg h]
/-- THE LAW as the class has it; the model's part of the world for it -/
def lawX (S : mS) : mS := fun o => if 3 ≤ o ∧ o ≤ 7 then S o else fun _ => 0
def lawM (w : Nat → Int32) : Nat → Int32 := fun i => if i = 0 then w 4 else w (446 + i)
theorem lawX_sX {S : mS} {p q : Nat → Int32} : lawX (sX S p q) = lawX S := by
  funext o; unfold lawX; split
  · rename_i h; rw [sX_n (by omega) (by omega)]
  · rfl
theorem lawX_se {S : mS} {i : Nat} {f : Nat → Int32} (h : i < 3 ∨ 7 < i) : lawX (seS S i f) = lawX S := by
  funext o; unfold lawX; split
  · rename_i h; rw [seS_n (by omega)]
  · rfl
theorem lawX_up {S : mS} {i k : Nat} {v : Int32} (h : i < 3 ∨ 7 < i) : lawX (upS S i k v) = lawX S := lawX_se h
theorem lawM_up {w : Nat → Int32} {k : Nat} {v : Int32} (h : k ≠ 4) (h2 : k < 447) : lawM (upd w k v) = lawM w := by
  funext o; unfold lawM; split
  · rw [upd_n (fun e => h e.symm)]
  · rw [upd_n (by omega)]
/-- small methods of the class -/
theorem x_ofLedge {u l w : Nat} {S : mS} (h : 16 + l * 5 + w < 446) : f_X0_ofLedge u (nI l) (nI w) S = some (.inl (some (.int (S (u + 1) (16 + l * 5 + w)))), S) := by
  unfold f_X0_ofLedge
  simp (disch := omega) only [fa_lit, nI_ad, nI_mul, nI_cl, inb_nI, nI_ltE, nI_leE, nI_eqE, nI_m1, nI_m1', m1_lt, lt_m1, m1_le, le_m1, eq_self, not_true_eq_false, not_false_eq_true, ↓reduceIte, leT, leF, ltT, ltF, eqT, eqF, decide_true, decide_false, true_and, and_true, Nat.reduceAdd, x_at, bI0_i, bI_i, bI_x, bV0_v, bV_v, bV_x, ↓bnd_e, gd_t]
theorem x_ofHolder {u l w : Nat} {S : mS} (h : 66 + l * 2 + w < 446) : f_X0_ofHolder u (nI l) (nI w) S = some (.inl (some (.int (S (u + 1) (66 + l * 2 + w)))), S) := by
  unfold f_X0_ofHolder
  simp (disch := omega) only [fa_lit, nI_ad, nI_mul, nI_cl, inb_nI, nI_ltE, nI_leE, nI_eqE, nI_m1, nI_m1', m1_lt, lt_m1, m1_le, le_m1, eq_self, not_true_eq_false, not_false_eq_true, ↓reduceIte, leT, leF, ltT, ltF, eqT, eqF, decide_true, decide_false, true_and, and_true, Nat.reduceAdd, x_at, bI0_i, bI_i, bI_x, bV0_v, bV_v, bV_x, ↓bnd_e, gd_t]
theorem x_ofClimber {u l w : Nat} {S : mS} (h : 78 + l * 2 + w < 446) : f_X0_ofClimber u (nI l) (nI w) S = some (.inl (some (.int (S (u + 1) (78 + l * 2 + w)))), S) := by
  unfold f_X0_ofClimber
  simp (disch := omega) only [fa_lit, nI_ad, nI_mul, nI_cl, inb_nI, nI_ltE, nI_leE, nI_eqE, nI_m1, nI_m1', m1_lt, lt_m1, m1_le, le_m1, eq_self, not_true_eq_false, not_false_eq_true, ↓reduceIte, leT, leF, ltT, ltF, eqT, eqF, decide_true, decide_false, true_and, and_true, Nat.reduceAdd, x_at, bI0_i, bI_i, bI_x, bV0_v, bV_v, bV_x, ↓bnd_e, gd_t]
theorem x_ofRow {l w : Nat} {S : mS} (h : 86 + l * 6 + w < 446) : f_X0_ofRow (nI l) (nI w) S = some (.inl (some (.int (S 25 (86 + l * 6 + w)))), S) := by
  unfold f_X0_ofRow
  simp (disch := omega) only [fa_lit, nI_ad, nI_mul, nI_cl, inb_nI, nI_ltE, nI_leE, nI_eqE, nI_m1, nI_m1', m1_lt, lt_m1, m1_le, le_m1, eq_self, not_true_eq_false, not_false_eq_true, ↓reduceIte, leT, leF, ltT, ltF, eqT, eqF, decide_true, decide_false, true_and, and_true, Nat.reduceAdd, x_at, bI0_i, bI_i, bI_x, bV0_v, bV_v, bV_x, ↓bnd_e, gd_t]
theorem x_put {u k : Nat} {v : Int32} {S : mS} (h : k < 446) : f_X0_put u (nI k) v S = some (.inl none, upS S (u + 1) k v) := by
  unfold f_X0_put f_X0_put_b18
  simp (disch := omega) only [fa_lit, nI_ad, nI_mul, nI_cl, inb_nI, nI_ltE, nI_leE, nI_eqE, nI_m1, nI_m1', m1_lt, lt_m1, m1_le, le_m1, eq_self, not_true_eq_false, not_false_eq_true, ↓reduceIte, leT, leF, ltT, ltF, eqT, eqF, decide_true, decide_false, true_and, and_true, Nat.reduceAdd, x_at, bI0_i, bI_i, bI_x, bV0_v, bV_v, bV_x, ↓bnd_e, gd_t]
theorem x_putLedge {u l w : Nat} {v : Int32} {S : mS} (h : 16 + l * 5 + w < 446) : f_X0_putLedge u (nI l) (nI w) v S = some (.inl none, upS S (u + 1) (16 + l * 5 + w) v) := by
  unfold f_X0_putLedge
  simp (disch := omega) only [fa_lit, nI_ad, nI_mul, nI_cl, inb_nI, nI_ltE, nI_leE, nI_eqE, nI_m1, nI_m1', m1_lt, lt_m1, m1_le, le_m1, eq_self, not_true_eq_false, not_false_eq_true, ↓reduceIte, leT, leF, ltT, ltF, eqT, eqF, decide_true, decide_false, true_and, and_true, Nat.reduceAdd, x_put, bI0_i, bI_i, bI_x, bV0_v, bV_v, bV_x, ↓bnd_e, gd_t]
theorem x_putHolder {u l w : Nat} {v : Int32} {S : mS} (h : 66 + l * 2 + w < 446) : f_X0_putHolder u (nI l) (nI w) v S = some (.inl none, upS S (u + 1) (66 + l * 2 + w) v) := by
  unfold f_X0_putHolder
  simp (disch := omega) only [fa_lit, nI_ad, nI_mul, nI_cl, inb_nI, nI_ltE, nI_leE, nI_eqE, nI_m1, nI_m1', m1_lt, lt_m1, m1_le, le_m1, eq_self, not_true_eq_false, not_false_eq_true, ↓reduceIte, leT, leF, ltT, ltF, eqT, eqF, decide_true, decide_false, true_and, and_true, Nat.reduceAdd, x_put, bI0_i, bI_i, bI_x, bV0_v, bV_v, bV_x, ↓bnd_e, gd_t]
theorem x_putClimber {u l w : Nat} {v : Int32} {S : mS} (h : 78 + l * 2 + w < 446) : f_X0_putClimber u (nI l) (nI w) v S = some (.inl none, upS S (u + 1) (78 + l * 2 + w) v) := by
  unfold f_X0_putClimber
  simp (disch := omega) only [fa_lit, nI_ad, nI_mul, nI_cl, inb_nI, nI_ltE, nI_leE, nI_eqE, nI_m1, nI_m1', m1_lt, lt_m1, m1_le, le_m1, eq_self, not_true_eq_false, not_false_eq_true, ↓reduceIte, leT, leF, ltT, ltF, eqT, eqF, decide_true, decide_false, true_and, and_true, Nat.reduceAdd, x_put, bI0_i, bI_i, bI_x, bV0_v, bV_v, bV_x, ↓bnd_e, gd_t]
theorem x_putNewestRow {u w : Nat} {v : Int32} {S : mS} (h : 86 + w < 446) : f_X0_putNewestRow u (nI w) v S = some (.inl none, upS S (u + 1) (86 + w) v) := by
  unfold f_X0_putNewestRow
  simp (disch := omega) only [fa_lit, nI_ad, nI_mul, nI_cl, inb_nI, nI_ltE, nI_leE, nI_eqE, nI_m1, nI_m1', m1_lt, lt_m1, m1_le, le_m1, eq_self, not_true_eq_false, not_false_eq_true, ↓reduceIte, leT, leF, ltT, ltF, eqT, eqF, decide_true, decide_false, true_and, and_true, Nat.reduceAdd, x_put, bI0_i, bI_i, bI_x, bV0_v, bV_v, bV_x, ↓bnd_e, gd_t]
theorem x_add {u k : Nat} {v : Int32} {S : mS} (h : k < 446) : f_X0_add u (nI k) v S = some (.inl none, upS S (u + 1) k (S (u + 1) k + v)) := by
  unfold f_X0_add
  simp (disch := omega) only [fa_lit, nI_ad, nI_mul, nI_cl, inb_nI, nI_ltE, nI_leE, nI_eqE, nI_m1, nI_m1', m1_lt, lt_m1, m1_le, le_m1, eq_self, not_true_eq_false, not_false_eq_true, ↓reduceIte, leT, leF, ltT, ltF, eqT, eqF, decide_true, decide_false, true_and, and_true, Nat.reduceAdd, x_at, x_put, bI0_i, bI_i, bI_x, bV0_v, bV_v, bV_x, ↓bnd_e, gd_t]
theorem x_passDay {u : Nat} {S : mS} : f_X0_passDay u S = some (.inl none, upS S (u + 1) 3 (if S (u + 1) 3 + nI 1 < nI 9999 then S (u + 1) 3 + nI 1 else nI 9999)) := by
  unfold f_X0_passDay
  simp (disch := omega) only [fa_lit, nI_ad, nI_mul, nI_cl, inb_nI, nI_ltE, nI_leE, nI_eqE, nI_m1, nI_m1', m1_lt, lt_m1, m1_le, le_m1, eq_self, not_true_eq_false, not_false_eq_true, ↓reduceIte, leT, leF, ltT, ltF, eqT, eqF, decide_true, decide_false, true_and, and_true, Nat.reduceAdd, bI0_i, bI_i, bI_x, bV0_v, bV_v, bV_x, ↓bnd_e, gd_t]
def drawV (c : Nat → Int32) : Int32 := nI 1103515245 * c 10 + nI 12345
def topV (s : Int32) : Int32 := (s >>> (nI 16 &&& nI 31)) &&& nI 32767
theorem x_draw {u : Nat} {S : mS} : f_X0_draw u S = some (.inl (some (.int (topV (drawV (S (u + 1)))))), upS S (u + 1) 10 (drawV (S (u + 1)))) := by
  unfold f_X0_draw topV drawV
  simp (disch := omega) only [fa_lit, nI_ad, nI_mul, nI_cl, inb_nI, nI_ltE, nI_leE, nI_eqE, nI_m1, nI_m1', m1_lt, lt_m1, m1_le, le_m1, eq_self, not_true_eq_false, not_false_eq_true, ↓reduceIte, leT, leF, ltT, ltF, eqT, eqF, decide_true, decide_false, true_and, and_true, Nat.reduceAdd, bI0_i, bI_i, bI_x, bV0_v, bV_v, bV_x, ↓bnd_e, gd_t, upS_s, upd_s]
/-- is a ledge fresh, as a number -/
def freshV (c : Nat → Int32) (l : Nat) : Int32 := if nI 3 < c (16 + l * 5 + 3) then nI 0 else c (16 + l * 5 + 2)
theorem x_freshEggs {u l : Nat} {S : mS} (h : l < 10) : f_X0_freshEggs u (nI l) S = some (.inl (some (.int (freshV (S (u + 1)) l))), S) := by
  unfold f_X0_freshEggs f_X0_freshEggs_b20 freshV
  simp (disch := omega) only [fa_lit, nI_ad, nI_mul, nI_cl, inb_nI, nI_ltE, nI_leE, nI_eqE, nI_m1, nI_m1', m1_lt, lt_m1, m1_le, le_m1, eq_self, not_true_eq_false, not_false_eq_true, ↓reduceIte, leT, leF, ltT, ltF, eqT, eqF, decide_true, decide_false, true_and, and_true, Nat.reduceAdd, bI0_i, bI_i, bI_x, bV0_v, bV_v, bV_x, ↓bnd_e, gd_t, x_ofLedge]
  split <;> rfl
def isF (c : Nat → Int32) (l : Nat) : Bool := decide (nI 0 < freshV c l)
def bV32 (b : Bool) : Int32 := if b then nI 1 else nI 0
theorem bT : bV32 true = nI 1 := rfl
theorem bF : bV32 false = nI 0 := rfl
theorem b_e0 {b : Bool} : (bV32 b = nI 0) = (b = false) := by cases b <;> decide
theorem b_e1 {b : Bool} : (bV32 b = nI 1) = (b = true) := by cases b <;> decide
theorem and10 : nI 1 &&& nI 1 = nI 1 := by decide
theorem and00 : nI 0 &&& nI 1 = nI 0 := by decide
theorem nle_lt {a b : Int32} : (a ≤ b) = ¬ (b < a) := by
  apply propext; rw [Int32.le_iff_toInt_le, Int32.lt_iff_toInt_lt]; omega
theorem x_isFresh {u l : Nat} {S : mS} (h : l < 10) : f_X0_isFresh u (nI l) S = some (.inl (some (.int (bV32 (isF (S (u + 1)) l)))), S) := by
  unfold f_X0_isFresh f_X0_isFresh_b13 isF
  simp (disch := omega) only [fa_lit, nI_ad, nI_mul, nI_cl, inb_nI, nI_ltE, nI_leE, nI_eqE, nI_m1, nI_m1', m1_lt, lt_m1, m1_le, le_m1, eq_self, not_true_eq_false, not_false_eq_true, ↓reduceIte, leT, leF, ltT, ltF, eqT, eqF, decide_true, decide_false, true_and, and_true, Nat.reduceAdd, bI0_i, bI_i, bI_x, bV0_v, bV_v, bV_x, ↓bnd_e, gd_t, x_freshEggs, nle_lt, and10, and00]
  by_cases q : nI 0 < freshV (S (u + 1)) l
  · rw [if_neg (by simpa using q), decide_eq_true q]; rfl
  · rw [if_pos (by simpa using q), decide_eq_false q]; rfl
/-- small methods of the model -/
theorem m_at {l w : Nat} {S : mS} : f_X10_at (nI l) (nI w) S = some (.inl (some (.int (nI (17 + 5 * l + w)))), S) := by
  unfold f_X10_at
  simp (disch := omega) only [fa_lit, nI_ad, nI_mul, nI_cl, inb_nI, nI_ltE, nI_leE, nI_eqE, nI_m1, nI_m1', m1_lt, lt_m1, m1_le, le_m1, eq_self, not_true_eq_false, not_false_eq_true, ↓reduceIte, leT, leF, ltT, ltF, eqT, eqF, decide_true, decide_false, true_and, and_true, Nat.reduceAdd]
theorem m_of {l w : Nat} {S : mS} (h : 16 + l * 5 + w < 446) : f_X10_of (nI l) (nI w) S = some (.inl (some (.int (cM (S 64) (16 + l * 5 + w)))), S) := by
  unfold f_X10_of
  simp (disch := omega) only [fa_lit, nI_ad, nI_mul, nI_cl, inb_nI, nI_ltE, nI_leE, nI_eqE, nI_m1, nI_m1', m1_lt, lt_m1, m1_le, le_m1, eq_self, not_true_eq_false, not_false_eq_true, ↓reduceIte, leT, leF, ltT, ltF, eqT, eqF, decide_true, decide_false, true_and, and_true, Nat.reduceAdd, m_at, bI0_i, bI_i, bI_x, bV0_v, bV_v, bV_x, ↓bnd_e, gd_t]
  rw [wHi (S 64) (16 + l * 5 + w) (by omega) (by omega) (by omega)]
theorem m_ofHolder {l w : Nat} {S : mS} (h : 66 + l * 2 + w < 446) : f_X10_ofHolder (nI l) (nI w) S = some (.inl (some (.int (cM (S 64) (66 + l * 2 + w)))), S) := by
  unfold f_X10_ofHolder
  simp (disch := omega) only [fa_lit, nI_ad, nI_mul, nI_cl, inb_nI, nI_ltE, nI_leE, nI_eqE, nI_m1, nI_m1', m1_lt, lt_m1, m1_le, le_m1, eq_self, not_true_eq_false, not_false_eq_true, ↓reduceIte, leT, leF, ltT, ltF, eqT, eqF, decide_true, decide_false, true_and, and_true, Nat.reduceAdd, m_at, bI0_i, bI_i, bI_x, bV0_v, bV_v, bV_x, ↓bnd_e, gd_t]
  rw [wHi (S 64) (66 + l * 2 + w) (by omega) (by omega) (by omega)]
theorem m_ofClimber {l w : Nat} {S : mS} (h : 78 + l * 2 + w < 446) : f_X10_ofClimber (nI l) (nI w) S = some (.inl (some (.int (cM (S 64) (78 + l * 2 + w)))), S) := by
  unfold f_X10_ofClimber
  simp (disch := omega) only [fa_lit, nI_ad, nI_mul, nI_cl, inb_nI, nI_ltE, nI_leE, nI_eqE, nI_m1, nI_m1', m1_lt, lt_m1, m1_le, le_m1, eq_self, not_true_eq_false, not_false_eq_true, ↓reduceIte, leT, leF, ltT, ltF, eqT, eqF, decide_true, decide_false, true_and, and_true, Nat.reduceAdd, m_at, bI0_i, bI_i, bI_x, bV0_v, bV_v, bV_x, ↓bnd_e, gd_t]
  rw [wHi (S 64) (78 + l * 2 + w) (by omega) (by omega) (by omega)]
theorem m_ofLog {l w : Nat} {S : mS} (h : 86 + l * 6 + w < 446) : f_X10_ofLog (nI l) (nI w) S = some (.inl (some (.int (cM (S 64) (86 + l * 6 + w)))), S) := by
  unfold f_X10_ofLog
  simp (disch := omega) only [fa_lit, nI_ad, nI_mul, nI_cl, inb_nI, nI_ltE, nI_leE, nI_eqE, nI_m1, nI_m1', m1_lt, lt_m1, m1_le, le_m1, eq_self, not_true_eq_false, not_false_eq_true, ↓reduceIte, leT, leF, ltT, ltF, eqT, eqF, decide_true, decide_false, true_and, and_true, Nat.reduceAdd, m_at, bI0_i, bI_i, bI_x, bV0_v, bV_v, bV_x, ↓bnd_e, gd_t]
  rw [wHi (S 64) (86 + l * 6 + w) (by omega) (by omega) (by omega)]
theorem m_ledges {S : mS} : f_X10_ledges S = some (.inl (some (.int (cM (S 64) 12))), S) := by
  unfold f_X10_ledges
  simp (disch := omega) only [fa_lit, nI_ad, nI_mul, nI_cl, inb_nI, nI_ltE, nI_leE, nI_eqE, nI_m1, nI_m1', m1_lt, lt_m1, m1_le, le_m1, eq_self, not_true_eq_false, not_false_eq_true, ↓reduceIte, leT, leF, ltT, ltF, eqT, eqF, decide_true, decide_false, true_and, and_true, Nat.reduceAdd, m_at, bI0_i, bI_i, bI_x, bV0_v, bV_v, bV_x, ↓bnd_e, gd_t]
  rfl
theorem m_holders {S : mS} : f_X10_holders S = some (.inl (some (.int (cM (S 64) 13))), S) := by
  unfold f_X10_holders
  simp (disch := omega) only [fa_lit, nI_ad, nI_mul, nI_cl, inb_nI, nI_ltE, nI_leE, nI_eqE, nI_m1, nI_m1', m1_lt, lt_m1, m1_le, le_m1, eq_self, not_true_eq_false, not_false_eq_true, ↓reduceIte, leT, leF, ltT, ltF, eqT, eqF, decide_true, decide_false, true_and, and_true, Nat.reduceAdd, m_at, bI0_i, bI_i, bI_x, bV0_v, bV_v, bV_x, ↓bnd_e, gd_t]
  rfl
theorem m_climbers {S : mS} : f_X10_climbers S = some (.inl (some (.int (cM (S 64) 14))), S) := by
  unfold f_X10_climbers
  simp (disch := omega) only [fa_lit, nI_ad, nI_mul, nI_cl, inb_nI, nI_ltE, nI_leE, nI_eqE, nI_m1, nI_m1', m1_lt, lt_m1, m1_le, le_m1, eq_self, not_true_eq_false, not_false_eq_true, ↓reduceIte, leT, leF, ltT, ltF, eqT, eqF, decide_true, decide_false, true_and, and_true, Nat.reduceAdd, m_at, bI0_i, bI_i, bI_x, bV0_v, bV_v, bV_x, ↓bnd_e, gd_t]
  rfl
theorem m_in {x a b : Int32} {S : mS} : f_X10_in x a b S = some (.inl (some (.int (bV32 (decide (a ≤ x ∧ x ≤ b))))), S) := by
  unfold f_X10_in f_X10_in_b14 f_X10_in_b15
  simp (disch := omega) only [fa_lit, nI_ad, nI_mul, nI_cl, inb_nI, nI_ltE, nI_leE, nI_eqE, nI_m1, nI_m1', m1_lt, lt_m1, m1_le, le_m1, eq_self, not_true_eq_false, not_false_eq_true, ↓reduceIte, leT, leF, ltT, ltF, eqT, eqF, decide_true, decide_false, true_and, and_true, Nat.reduceAdd, bI0_i, bI_i, bI_x, bV0_v, bV_v, bV_x, ↓bnd_e, gd_t, nle_lt, and10, and00]
  by_cases q : x < a
  · rw [if_pos q, decide_eq_false (by simp [q])]; rfl
  · rw [if_neg q]
    by_cases q2 : b < x
    · rw [if_pos q2, decide_eq_false (by simp [q2])]; rfl
    · rw [if_neg q2, decide_eq_true ⟨q, q2⟩]; rfl
