/-! plain facts on numbers (the kit's starting texts), and the calculus of the functions -/
theorem fa_lit (n : Nat) : (OfNat.ofNat n : Int32) = nI n := Eq.trans rfl rfl
theorem nI_ad (a b : Nat) : nI a + nI b = nI (a + b) := by unfold nI; exact (Int32.ofNat_add a b).symm
theorem nI_mul (a b : Nat) : nI a * nI b = nI (a * b) := by unfold nI; exact (Int32.ofNat_mul a b).symm
theorem nI_sub {a b : Nat} (h : b ≤ a) : nI a - nI b = nI (a - b) := by
  have e : nI a = nI (a - b) + nI b := by rw [nI_ad]; congr 1; omega
  rw [e]
  apply Int32.toBitVec_inj.1
  simp
theorem nI_ltE {a b : Nat} (ha : a < 2147483648) (hb : b < 2147483648) : (nI a < nI b) = (a < b) := by
  apply propext; constructor
  · intro h
    rcases Nat.lt_or_ge a b with q | q
    · exact q
    · exact absurd h (nI_nlt q ha)
  · intro h; exact nI_lt h hb
theorem nI_leE {a b : Nat} (ha : a < 2147483648) (hb : b < 2147483648) : (nI a ≤ nI b) = (a ≤ b) := by
  apply propext; constructor
  · intro h
    rcases Nat.lt_or_ge b a with q | q
    · exact absurd h (nI_ge q ha)
    · exact q
  · intro h; exact nI_le h hb
theorem nI_inj {a b : Nat} (ha : a < 2147483648) (hb : b < 2147483648) (h : nI a = nI b) : a = b := by
  have := congrArg Int32.toInt h
  rw [nI_toInt ha, nI_toInt hb] at this
  omega
theorem nI_eqE {a b : Nat} (ha : a < 2147483648) (hb : b < 2147483648) : (nI a = nI b) = (a = b) := by
  apply propext; exact ⟨nI_inj ha hb, fun h => by rw [h]⟩
theorem nI_m1 {a : Nat} (ha : a < 2147483648) : (nI a = -nI 1) = False := by
  apply propext; constructor
  · intro h
    have := congrArg Int32.toInt h
    rw [nI_toInt ha] at this
    have e : (-nI 1).toInt = -1 := by decide
    omega
  · intro h; exact h.elim
theorem nI_m1' {a : Nat} (ha : a < 2147483648) : (-nI 1 = nI a) = False := by
  apply propext; constructor
  · intro h; rw [← nI_m1 ha]; exact h.symm
  · intro h; exact h.elim
theorem m1_lt {a : Nat} (ha : a < 2147483648) : (-nI 1 < nI a) = True := by
  apply propext; refine ⟨fun _ => trivial, fun _ => ?_⟩
  rw [Int32.lt_iff_toInt_lt, nI_toInt ha]
  have e : (-nI 1).toInt = -1 := by decide
  omega
theorem lt_m1 {a : Nat} (ha : a < 2147483648) : (nI a < -nI 1) = False := by
  apply propext; refine ⟨fun h => ?_, fun h => h.elim⟩
  rw [Int32.lt_iff_toInt_lt, nI_toInt ha] at h
  have e : (-nI 1).toInt = -1 := by decide
  omega
theorem m1_le {a : Nat} (ha : a < 2147483648) : (-nI 1 ≤ nI a) = True := by
  apply propext; refine ⟨fun _ => trivial, fun _ => ?_⟩
  rw [Int32.le_iff_toInt_le, nI_toInt ha]
  have e : (-nI 1).toInt = -1 := by decide
  omega
theorem le_m1 {a : Nat} (ha : a < 2147483648) : (nI a ≤ -nI 1) = False := by
  apply propext; refine ⟨fun h => ?_, fun h => h.elim⟩
  rw [Int32.le_iff_toInt_le, nI_toInt ha] at h
  have e : (-nI 1).toInt = -1 := by decide
  omega
theorem inb_nI {a n : Nat} (h : a < n) (hn : n < 2147483648) : inb (nI a) n = true := by
  unfold inb
  exact decide_eq_true (nI_in h hn)
theorem nI_cl {n : Nat} (h : n < 2147483648) : (nI n).toNatClampNeg = n := nI_clamp h
/-- a number that isn't below nought -/
theorem nI_ofx {x : Int32} (h : ¬ x < nI 0) : ∃ n, n < 2147483648 ∧ x = nI n := by
  rw [Int32.lt_iff_toInt_lt, nI_toInt (by omega)] at h
  refine ⟨x.toInt.toNat, ?_, ?_⟩
  · have := x.toInt_lt; omega
  · apply Int32.toInt_inj.1
    rw [nI_toInt]
    · omega
    · have := x.toInt_lt; omega
theorem bI0_i {v : Int32} {S : mS} {f : Int32 → mS → Option mR} : bI0 (some (.inl (some (.int v)), S)) f = f v S := Eq.trans rfl rfl
theorem bI_i {v : Int32} {S : mS} {f : Int32 → mS → Option mR} : bI (some (.inl (some (.int v)), S)) f = f v S := Eq.trans rfl rfl
theorem bI_x {e : Nat} {S : mS} {f : Int32 → mS → Option mR} : bI (some (.inr e, S)) f = some (.inr e, S) := Eq.trans rfl rfl
theorem bV0_v {S : mS} {f : mS → Option mR} : bV0 (some (.inl none, S)) f = f S := Eq.trans rfl rfl
theorem bV_v {S : mS} {f : mS → Option mR} : bV (some (.inl none, S)) f = f S := Eq.trans rfl rfl
theorem bV_x {e : Nat} {S : mS} {f : mS → Option mR} : bV (some (.inr e, S)) f = some (.inr e, S) := Eq.trans rfl rfl
theorem bnd_e {α : Type} {x : α} {f : α → Option mR} : bnd x f = f x := Eq.trans rfl rfl
theorem gd_t {x : Option mR} : gd true x = x := Eq.trans rfl rfl
theorem seS_n {S : mS} {i o : Nat} {f : Nat → Int32} (h : o ≠ i) : seS S i f o = S o := if_neg h
theorem seS_s {S : mS} {i : Nat} {f : Nat → Int32} : seS S i f i = f := if_pos rfl
theorem upS_n {S : mS} {i k o : Nat} {x : Int32} (h : o ≠ i) : upS S i k x o = S o := if_neg h
theorem upS_s {S : mS} {i k : Nat} {x : Int32} : upS S i k x i = upd (S i) k x := if_pos rfl
theorem upd_s {f : Nat → Int32} {k : Nat} {x : Int32} : upd f k x k = x := if_pos rfl
theorem upd_n {f : Nat → Int32} {k j : Nat} {x : Int32} (h : j ≠ k) : upd f k x j = f j := if_neg h
theorem itrue {q : Prop} [Decidable q] {α : Type} {a b : α} (h : q) : (if q then a else b) = a := if_pos h
theorem ifalse {q : Prop} [Decidable q] {α : Type} {a b : α} (h : ¬ q) : (if q then a else b) = b := if_neg h
theorem leT {a b : Nat} (h : a ≤ b) : (a ≤ b) = True := eq_true h
theorem leF {a b : Nat} (h : b < a) : (a ≤ b) = False := eq_false (by omega)
theorem ltT {a b : Nat} (h : a < b) : (a < b) = True := eq_true h
theorem ltF {a b : Nat} (h : b ≤ a) : (a < b) = False := eq_false (by omega)
theorem eqT {a b : Nat} (h : a = b) : (a = b) = True := eq_true h
theorem eqF {a b : Nat} (h : a ≠ b) : (a = b) = False := eq_false h
theorem ifT {α : Type} {d : Decidable True} {a b : α} : @ite α True d a b = a := if_pos trivial
theorem ifF {α : Type} {d : Decidable False} {a b : α} : @ite α False d a b = b := if_neg (fun h => h)
theorem seS_seS {S : mS} {i : Nat} {f g : Nat → Int32} : seS (seS S i f) i g = seS S i g := by
  funext o; unfold seS; split <;> rfl
/-- the cells of a cliff: where the model keeps them -/
def pm (i : Nat) : Nat := if 16 ≤ i then i + 1 else
  if i = 0 then 7 else if i = 1 then 8 else if i = 2 then 9 else if i = 3 then 5 else if i = 4 then 6 else if i = 5 then 13 else if i = 6 then 14
  else if i = 7 then 12 else if i = 8 then 10 else if i = 9 then 11 else if i = 10 then 16 else if i = 11 then 3 else if i = 12 then 0 else if i = 13 then 1
  else if i = 14 then 2 else 15
theorem pm_hi {i : Nat} (h : 16 ≤ i) : pm i = i + 1 := if_pos h
theorem pm_lo {i : Nat} (h : i < 16) : pm i < 17 ∧ pm i ≠ 4 := by
  revert i; decide
theorem pm_inj_lo : ∀ i, i < 16 → ∀ j, j < 16 → pm i = pm j → i = j := by decide
theorem pm_inj {i j : Nat} (e : pm i = pm j) : i = j := by
  rcases Nat.lt_or_ge i 16 with hi | hi <;> rcases Nat.lt_or_ge j 16 with hj | hj
  · exact pm_inj_lo i hi j hj e
  · have := (pm_lo hi).1; rw [pm_hi hj] at e; omega
  · have := (pm_lo hj).1; rw [pm_hi hi] at e; omega
  · rw [pm_hi hi, pm_hi hj] at e; omega
def CW (c w : Nat → Int32) : Prop := ∀ i, i < 446 → w (pm i) = c i
theorem CW.up {c w : Nat → Int32} (h : CW c w) (i : Nat) (v : Int32) : CW (upd c i v) (upd w (pm i) v) := by
  intro j hj
  by_cases e : j = i
  · subst e; rw [upd_s, upd_s]
  · rw [upd_n e, upd_n (fun q => e (pm_inj q)), h j hj]
theorem pm_ne {i k : Nat} (hi : i < 446) (hk : k = 4 ∨ 447 ≤ k) : pm i ≠ k := by
  rcases Nat.lt_or_ge i 16 with q | q
  · have := pm_lo q; omega
  · rw [pm_hi q]; omega
theorem CW.out {c w : Nat → Int32} (h : CW c w) {k : Nat} (v : Int32) (hk : k = 4 ∨ 447 ≤ k) : CW c (upd w k v) := by
  intro j hj
  rw [upd_n (pm_ne hj hk), h j hj]
theorem CW.hi {c w : Nat → Int32} (h : CW c w) {i : Nat} (h1 : 17 ≤ i) (h2 : i < 447) : w i = c (i - 1) := by
  have := h (i - 1) (by omega)
  rw [pm_hi (by omega)] at this
  rw [← this]; congr 1; omega
theorem CW.e0 {c w : Nat → Int32} (h : CW c w) : w 0 = c 12 := h 12 (by omega)
theorem CW.e1 {c w : Nat → Int32} (h : CW c w) : w 1 = c 13 := h 13 (by omega)
theorem CW.e2 {c w : Nat → Int32} (h : CW c w) : w 2 = c 14 := h 14 (by omega)
theorem CW.e3 {c w : Nat → Int32} (h : CW c w) : w 3 = c 11 := h 11 (by omega)
theorem CW.e5 {c w : Nat → Int32} (h : CW c w) : w 5 = c 3 := h 3 (by omega)
theorem CW.e6 {c w : Nat → Int32} (h : CW c w) : w 6 = c 4 := h 4 (by omega)
theorem CW.e7 {c w : Nat → Int32} (h : CW c w) : w 7 = c 0 := h 0 (by omega)
theorem CW.e8 {c w : Nat → Int32} (h : CW c w) : w 8 = c 1 := h 1 (by omega)
theorem CW.e9 {c w : Nat → Int32} (h : CW c w) : w 9 = c 2 := h 2 (by omega)
theorem CW.e10 {c w : Nat → Int32} (h : CW c w) : w 10 = c 8 := h 8 (by omega)
theorem CW.e11 {c w : Nat → Int32} (h : CW c w) : w 11 = c 9 := h 9 (by omega)
theorem CW.e12 {c w : Nat → Int32} (h : CW c w) : w 12 = c 7 := h 7 (by omega)
theorem CW.e13 {c w : Nat → Int32} (h : CW c w) : w 13 = c 5 := h 5 (by omega)
theorem CW.e14 {c w : Nat → Int32} (h : CW c w) : w 14 = c 6 := h 6 (by omega)
theorem CW.e15 {c w : Nat → Int32} (h : CW c w) : w 15 = c 15 := h 15 (by omega)
theorem CW.e16 {c w : Nat → Int32} (h : CW c w) : w 16 = c 10 := h 10 (by omega)
/-- the small helpers of the class -/
theorem x_at {u k : Nat} {S : mS} (h : k < 446) : f_X0_at u (nI k) S = some (.inl (some (.int (S (u + 1) k))), S) := by
  unfold f_X0_at f_X0_at_b20 f_X0_at_b21
  simp (disch := omega) only [fa_lit, nI_ad, nI_mul, nI_cl, inb_nI, nI_ltE, nI_leE, nI_eqE, nI_m1, nI_m1', m1_lt, lt_m1, m1_le, le_m1, eq_self, not_true_eq_false, not_false_eq_true, ↓reduceIte, leT, leF, ltT, ltF, eqT, eqF, decide_true, decide_false, true_and, and_true, Nat.reduceAdd, nI_cl, bI0_i, bI_i, bI_x, bV0_v, bV_v, bV_x, ↓bnd_e, gd_t]
