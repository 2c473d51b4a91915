/-! acts are remembered -/
theorem cpy_all {f g : Nat → Int32} (hf : zb f) (hg : zb g) : va_cpy f g 0 0 446 = f := by
  funext k
  unfold va_cpy
  by_cases h : k < 446
  · rw [if_pos (by omega)]; congr 1; omega
  · rw [if_neg (by omega), hf k (by omega), hg k (by omega)]
theorem x_copy {u0 u1 : Nat} {S : mS} (h0 : zb (S (u0 + 1))) (h1 : zb (S (u1 + 1))) : f_X0_copy u0 u1 S = some (.inl none, seS S (u0 + 1) (S (u1 + 1))) := by
  unfold f_X0_copy
  rw [show decide (¬ ((0 : Int32)) < 0 ∧ ¬ ((0 : Int32)) < 0 ∧ ¬ ((446 : Int32)) < 0 ∧ ((0 : Int32)).toNatClampNeg + ((446 : Int32)).toNatClampNeg ≤ 446 ∧ ((0 : Int32)).toNatClampNeg + ((446 : Int32)).toNatClampNeg ≤ 446) = true by decide]
  rw [gd_t, bnd_e, show ((446 : Int32)).toNatClampNeg = 446 by decide, show ((0 : Int32)).toNatClampNeg = 0 by decide, cpy_all h1 h0]
theorem z12 : decide (¬ (12 : Int32) = 0) = true := by decide
theorem x_remember {nx sz : Nat} {S : mS} (hn : nx < 12) (e1 : S 36 1 = nI nx) (hs : sz ≤ 12) (e2 : S 36 2 = nI sz) (h0 : zb (S (39 + 2 * nx))) (h1 : zb (S 25)) :
    f_X5_remember S = some (.inl none, upS (upS (seS S (39 + 2 * nx) (S 25)) 36 1 (nI ((nx + 1) % 12))) 36 2 (nI (if sz < 12 then sz + 1 else 12))) := by
  have key : ∀ (S2 : mS), S2 36 1 = nI nx → S2 36 2 = nI sz → bnd (upS S2 36 1 (((S2 36 1) + ((1 : Int32))) - ((S2 36 1) + ((1 : Int32))) / ((12 : Int32)) * ((12 : Int32)))) (fun S3 => bnd (upS S3 36 2 (if ((S3 36 2) + ((1 : Int32))) < ((12 : Int32)) then ((S3 36 2) + ((1 : Int32))) else ((12 : Int32)))) (fun S4 => f_X5_remember_b46 S4))
      = some (.inl none, upS (upS S2 36 1 (nI ((nx + 1) % 12))) 36 2 (nI (if sz < 12 then sz + 1 else 12))) := by
    intro S2 a1 a2
    have em : nI (nx + 1) - nI ((nx + 1) / 12 * 12) = nI ((nx + 1) % 12) := by
      rw [nI_sub (by omega)]; congr 1; omega
    unfold f_X5_remember_b46
    simp (disch := omega) only [fa_lit, nI_ad, nI_mul, nI_cl, inb_nI, nI_ltE, nI_leE, nI_eqE, nI_m1, nI_m1', m1_lt, lt_m1, m1_le, le_m1, eq_self, not_true_eq_false, not_false_eq_true, ↓reduceIte, leT, leF, ltT, ltF, eqT, eqF, decide_true, decide_false, true_and, and_true, Nat.reduceAdd, bI0_i, bI_i, bI_x, bV0_v, bV_v, bV_x, ↓bnd_e, gd_t, a1, a2, nI_div, em, upS_s, upd_n]
    by_cases g : sz < 12
    · by_cases g2 : sz + 1 < 12
      · simp (disch := omega) only [g, g2, ↓reduceIte]
      · have : sz + 1 = 12 := by omega
        simp (disch := omega) only [g, this, ↓reduceIte, Nat.lt_irrefl]
    · have : ¬ sz + 1 < 12 := by omega
      simp (disch := omega) only [g, this, ↓reduceIte]
  unfold f_X5_remember
  rw [z12]
  match nx, hn with
  | 0, _ =>
    have k0 := key (seS S 39 (S 25)) (by rw [seS_n (by omega)]; exact e1) (by rw [seS_n (by omega)]; exact e2)
    simp (disch := omega) only [fa_lit, nI_ad, nI_mul, nI_cl, inb_nI, nI_ltE, nI_leE, nI_eqE, nI_m1, nI_m1', m1_lt, lt_m1, m1_le, le_m1, eq_self, not_true_eq_false, not_false_eq_true, ↓reduceIte, leT, leF, ltT, ltF, eqT, eqF, decide_true, decide_false, true_and, and_true, Nat.reduceAdd, bI0_i, bI_i, bI_x, bV0_v, bV_v, bV_x, ↓bnd_e, gd_t, e1, x_copy (S := S) (u0 := 38) (u1 := 24) h0 h1]
    simp (disch := omega) only [fa_lit, nI_ad, nI_mul, nI_cl, inb_nI, nI_ltE, nI_leE, nI_eqE, nI_m1, nI_m1', m1_lt, lt_m1, m1_le, le_m1, eq_self, not_true_eq_false, not_false_eq_true, ↓reduceIte, leT, leF, ltT, ltF, eqT, eqF, decide_true, decide_false, true_and, and_true, Nat.reduceAdd, bI0_i, bI_i, bI_x, bV0_v, bV_v, bV_x, ↓bnd_e, gd_t] at k0
    exact k0
  | 1, _ =>
    have k0 := key (seS S 41 (S 25)) (by rw [seS_n (by omega)]; exact e1) (by rw [seS_n (by omega)]; exact e2)
    simp (disch := omega) only [fa_lit, nI_ad, nI_mul, nI_cl, inb_nI, nI_ltE, nI_leE, nI_eqE, nI_m1, nI_m1', m1_lt, lt_m1, m1_le, le_m1, eq_self, not_true_eq_false, not_false_eq_true, ↓reduceIte, leT, leF, ltT, ltF, eqT, eqF, decide_true, decide_false, true_and, and_true, Nat.reduceAdd, bI0_i, bI_i, bI_x, bV0_v, bV_v, bV_x, ↓bnd_e, gd_t, e1, x_copy (S := S) (u0 := 40) (u1 := 24) h0 h1]
    simp (disch := omega) only [fa_lit, nI_ad, nI_mul, nI_cl, inb_nI, nI_ltE, nI_leE, nI_eqE, nI_m1, nI_m1', m1_lt, lt_m1, m1_le, le_m1, eq_self, not_true_eq_false, not_false_eq_true, ↓reduceIte, leT, leF, ltT, ltF, eqT, eqF, decide_true, decide_false, true_and, and_true, Nat.reduceAdd, bI0_i, bI_i, bI_x, bV0_v, bV_v, bV_x, ↓bnd_e, gd_t] at k0
    exact k0
  | 2, _ =>
    have k0 := key (seS S 43 (S 25)) (by rw [seS_n (by omega)]; exact e1) (by rw [seS_n (by omega)]; exact e2)
    simp (disch := omega) only [fa_lit, nI_ad, nI_mul, nI_cl, inb_nI, nI_ltE, nI_leE, nI_eqE, nI_m1, nI_m1', m1_lt, lt_m1, m1_le, le_m1, eq_self, not_true_eq_false, not_false_eq_true, ↓reduceIte, leT, leF, ltT, ltF, eqT, eqF, decide_true, decide_false, true_and, and_true, Nat.reduceAdd, bI0_i, bI_i, bI_x, bV0_v, bV_v, bV_x, ↓bnd_e, gd_t, e1, x_copy (S := S) (u0 := 42) (u1 := 24) h0 h1]
    simp (disch := omega) only [fa_lit, nI_ad, nI_mul, nI_cl, inb_nI, nI_ltE, nI_leE, nI_eqE, nI_m1, nI_m1', m1_lt, lt_m1, m1_le, le_m1, eq_self, not_true_eq_false, not_false_eq_true, ↓reduceIte, leT, leF, ltT, ltF, eqT, eqF, decide_true, decide_false, true_and, and_true, Nat.reduceAdd, bI0_i, bI_i, bI_x, bV0_v, bV_v, bV_x, ↓bnd_e, gd_t] at k0
    exact k0
  | 3, _ =>
    have k0 := key (seS S 45 (S 25)) (by rw [seS_n (by omega)]; exact e1) (by rw [seS_n (by omega)]; exact e2)
    simp (disch := omega) only [fa_lit, nI_ad, nI_mul, nI_cl, inb_nI, nI_ltE, nI_leE, nI_eqE, nI_m1, nI_m1', m1_lt, lt_m1, m1_le, le_m1, eq_self, not_true_eq_false, not_false_eq_true, ↓reduceIte, leT, leF, ltT, ltF, eqT, eqF, decide_true, decide_false, true_and, and_true, Nat.reduceAdd, bI0_i, bI_i, bI_x, bV0_v, bV_v, bV_x, ↓bnd_e, gd_t, e1, x_copy (S := S) (u0 := 44) (u1 := 24) h0 h1]
    simp (disch := omega) only [fa_lit, nI_ad, nI_mul, nI_cl, inb_nI, nI_ltE, nI_leE, nI_eqE, nI_m1, nI_m1', m1_lt, lt_m1, m1_le, le_m1, eq_self, not_true_eq_false, not_false_eq_true, ↓reduceIte, leT, leF, ltT, ltF, eqT, eqF, decide_true, decide_false, true_and, and_true, Nat.reduceAdd, bI0_i, bI_i, bI_x, bV0_v, bV_v, bV_x, ↓bnd_e, gd_t] at k0
    exact k0
  | 4, _ =>
    have k0 := key (seS S 47 (S 25)) (by rw [seS_n (by omega)]; exact e1) (by rw [seS_n (by omega)]; exact e2)
    simp (disch := omega) only [fa_lit, nI_ad, nI_mul, nI_cl, inb_nI, nI_ltE, nI_leE, nI_eqE, nI_m1, nI_m1', m1_lt, lt_m1, m1_le, le_m1, eq_self, not_true_eq_false, not_false_eq_true, ↓reduceIte, leT, leF, ltT, ltF, eqT, eqF, decide_true, decide_false, true_and, and_true, Nat.reduceAdd, bI0_i, bI_i, bI_x, bV0_v, bV_v, bV_x, ↓bnd_e, gd_t, e1, x_copy (S := S) (u0 := 46) (u1 := 24) h0 h1]
    simp (disch := omega) only [fa_lit, nI_ad, nI_mul, nI_cl, inb_nI, nI_ltE, nI_leE, nI_eqE, nI_m1, nI_m1', m1_lt, lt_m1, m1_le, le_m1, eq_self, not_true_eq_false, not_false_eq_true, ↓reduceIte, leT, leF, ltT, ltF, eqT, eqF, decide_true, decide_false, true_and, and_true, Nat.reduceAdd, bI0_i, bI_i, bI_x, bV0_v, bV_v, bV_x, ↓bnd_e, gd_t] at k0
    exact k0
  | 5, _ =>
    have k0 := key (seS S 49 (S 25)) (by rw [seS_n (by omega)]; exact e1) (by rw [seS_n (by omega)]; exact e2)
    simp (disch := omega) only [fa_lit, nI_ad, nI_mul, nI_cl, inb_nI, nI_ltE, nI_leE, nI_eqE, nI_m1, nI_m1', m1_lt, lt_m1, m1_le, le_m1, eq_self, not_true_eq_false, not_false_eq_true, ↓reduceIte, leT, leF, ltT, ltF, eqT, eqF, decide_true, decide_false, true_and, and_true, Nat.reduceAdd, bI0_i, bI_i, bI_x, bV0_v, bV_v, bV_x, ↓bnd_e, gd_t, e1, x_copy (S := S) (u0 := 48) (u1 := 24) h0 h1]
    simp (disch := omega) only [fa_lit, nI_ad, nI_mul, nI_cl, inb_nI, nI_ltE, nI_leE, nI_eqE, nI_m1, nI_m1', m1_lt, lt_m1, m1_le, le_m1, eq_self, not_true_eq_false, not_false_eq_true, ↓reduceIte, leT, leF, ltT, ltF, eqT, eqF, decide_true, decide_false, true_and, and_true, Nat.reduceAdd, bI0_i, bI_i, bI_x, bV0_v, bV_v, bV_x, ↓bnd_e, gd_t] at k0
    exact k0
  | 6, _ =>
    have k0 := key (seS S 51 (S 25)) (by rw [seS_n (by omega)]; exact e1) (by rw [seS_n (by omega)]; exact e2)
    simp (disch := omega) only [fa_lit, nI_ad, nI_mul, nI_cl, inb_nI, nI_ltE, nI_leE, nI_eqE, nI_m1, nI_m1', m1_lt, lt_m1, m1_le, le_m1, eq_self, not_true_eq_false, not_false_eq_true, ↓reduceIte, leT, leF, ltT, ltF, eqT, eqF, decide_true, decide_false, true_and, and_true, Nat.reduceAdd, bI0_i, bI_i, bI_x, bV0_v, bV_v, bV_x, ↓bnd_e, gd_t, e1, x_copy (S := S) (u0 := 50) (u1 := 24) h0 h1]
    simp (disch := omega) only [fa_lit, nI_ad, nI_mul, nI_cl, inb_nI, nI_ltE, nI_leE, nI_eqE, nI_m1, nI_m1', m1_lt, lt_m1, m1_le, le_m1, eq_self, not_true_eq_false, not_false_eq_true, ↓reduceIte, leT, leF, ltT, ltF, eqT, eqF, decide_true, decide_false, true_and, and_true, Nat.reduceAdd, bI0_i, bI_i, bI_x, bV0_v, bV_v, bV_x, ↓bnd_e, gd_t] at k0
    exact k0
  | 7, _ =>
    have k0 := key (seS S 53 (S 25)) (by rw [seS_n (by omega)]; exact e1) (by rw [seS_n (by omega)]; exact e2)
    simp (disch := omega) only [fa_lit, nI_ad, nI_mul, nI_cl, inb_nI, nI_ltE, nI_leE, nI_eqE, nI_m1, nI_m1', m1_lt, lt_m1, m1_le, le_m1, eq_self, not_true_eq_false, not_false_eq_true, ↓reduceIte, leT, leF, ltT, ltF, eqT, eqF, decide_true, decide_false, true_and, and_true, Nat.reduceAdd, bI0_i, bI_i, bI_x, bV0_v, bV_v, bV_x, ↓bnd_e, gd_t, e1, x_copy (S := S) (u0 := 52) (u1 := 24) h0 h1]
    simp (disch := omega) only [fa_lit, nI_ad, nI_mul, nI_cl, inb_nI, nI_ltE, nI_leE, nI_eqE, nI_m1, nI_m1', m1_lt, lt_m1, m1_le, le_m1, eq_self, not_true_eq_false, not_false_eq_true, ↓reduceIte, leT, leF, ltT, ltF, eqT, eqF, decide_true, decide_false, true_and, and_true, Nat.reduceAdd, bI0_i, bI_i, bI_x, bV0_v, bV_v, bV_x, ↓bnd_e, gd_t] at k0
    exact k0
  | 8, _ =>
    have k0 := key (seS S 55 (S 25)) (by rw [seS_n (by omega)]; exact e1) (by rw [seS_n (by omega)]; exact e2)
    simp (disch := omega) only [fa_lit, nI_ad, nI_mul, nI_cl, inb_nI, nI_ltE, nI_leE, nI_eqE, nI_m1, nI_m1', m1_lt, lt_m1, m1_le, le_m1, eq_self, not_true_eq_false, not_false_eq_true, ↓reduceIte, leT, leF, ltT, ltF, eqT, eqF, decide_true, decide_false, true_and, and_true, Nat.reduceAdd, bI0_i, bI_i, bI_x, bV0_v, bV_v, bV_x, ↓bnd_e, gd_t, e1, x_copy (S := S) (u0 := 54) (u1 := 24) h0 h1]
    simp (disch := omega) only [fa_lit, nI_ad, nI_mul, nI_cl, inb_nI, nI_ltE, nI_leE, nI_eqE, nI_m1, nI_m1', m1_lt, lt_m1, m1_le, le_m1, eq_self, not_true_eq_false, not_false_eq_true, ↓reduceIte, leT, leF, ltT, ltF, eqT, eqF, decide_true, decide_false, true_and, and_true, Nat.reduceAdd, bI0_i, bI_i, bI_x, bV0_v, bV_v, bV_x, ↓bnd_e, gd_t] at k0
    exact k0
  | 9, _ =>
    have k0 := key (seS S 57 (S 25)) (by rw [seS_n (by omega)]; exact e1) (by rw [seS_n (by omega)]; exact e2)
    simp (disch := omega) only [fa_lit, nI_ad, nI_mul, nI_cl, inb_nI, nI_ltE, nI_leE, nI_eqE, nI_m1, nI_m1', m1_lt, lt_m1, m1_le, le_m1, eq_self, not_true_eq_false, not_false_eq_true, ↓reduceIte, leT, leF, ltT, ltF, eqT, eqF, decide_true, decide_false, true_and, and_true, Nat.reduceAdd, bI0_i, bI_i, bI_x, bV0_v, bV_v, bV_x, ↓bnd_e, gd_t, e1, x_copy (S := S) (u0 := 56) (u1 := 24) h0 h1]
    simp (disch := omega) only [fa_lit, nI_ad, nI_mul, nI_cl, inb_nI, nI_ltE, nI_leE, nI_eqE, nI_m1, nI_m1', m1_lt, lt_m1, m1_le, le_m1, eq_self, not_true_eq_false, not_false_eq_true, ↓reduceIte, leT, leF, ltT, ltF, eqT, eqF, decide_true, decide_false, true_and, and_true, Nat.reduceAdd, bI0_i, bI_i, bI_x, bV0_v, bV_v, bV_x, ↓bnd_e, gd_t] at k0
    exact k0
  | 10, _ =>
    have k0 := key (seS S 59 (S 25)) (by rw [seS_n (by omega)]; exact e1) (by rw [seS_n (by omega)]; exact e2)
    simp (disch := omega) only [fa_lit, nI_ad, nI_mul, nI_cl, inb_nI, nI_ltE, nI_leE, nI_eqE, nI_m1, nI_m1', m1_lt, lt_m1, m1_le, le_m1, eq_self, not_true_eq_false, not_false_eq_true, ↓reduceIte, leT, leF, ltT, ltF, eqT, eqF, decide_true, decide_false, true_and, and_true, Nat.reduceAdd, bI0_i, bI_i, bI_x, bV0_v, bV_v, bV_x, ↓bnd_e, gd_t, e1, x_copy (S := S) (u0 := 58) (u1 := 24) h0 h1]
    simp (disch := omega) only [fa_lit, nI_ad, nI_mul, nI_cl, inb_nI, nI_ltE, nI_leE, nI_eqE, nI_m1, nI_m1', m1_lt, lt_m1, m1_le, le_m1, eq_self, not_true_eq_false, not_false_eq_true, ↓reduceIte, leT, leF, ltT, ltF, eqT, eqF, decide_true, decide_false, true_and, and_true, Nat.reduceAdd, bI0_i, bI_i, bI_x, bV0_v, bV_v, bV_x, ↓bnd_e, gd_t] at k0
    exact k0
  | 11, _ =>
    have k0 := key (seS S 61 (S 25)) (by rw [seS_n (by omega)]; exact e1) (by rw [seS_n (by omega)]; exact e2)
    simp (disch := omega) only [fa_lit, nI_ad, nI_mul, nI_cl, inb_nI, nI_ltE, nI_leE, nI_eqE, nI_m1, nI_m1', m1_lt, lt_m1, m1_le, le_m1, eq_self, not_true_eq_false, not_false_eq_true, ↓reduceIte, leT, leF, ltT, ltF, eqT, eqF, decide_true, decide_false, true_and, and_true, Nat.reduceAdd, bI0_i, bI_i, bI_x, bV0_v, bV_v, bV_x, ↓bnd_e, gd_t, e1, x_copy (S := S) (u0 := 60) (u1 := 24) h0 h1]
    simp (disch := omega) only [fa_lit, nI_ad, nI_mul, nI_cl, inb_nI, nI_ltE, nI_leE, nI_eqE, nI_m1, nI_m1', m1_lt, lt_m1, m1_le, le_m1, eq_self, not_true_eq_false, not_false_eq_true, ↓reduceIte, leT, leF, ltT, ltF, eqT, eqF, decide_true, decide_false, true_and, and_true, Nat.reduceAdd, bI0_i, bI_i, bI_x, bV0_v, bV_v, bV_x, ↓bnd_e, gd_t] at k0
    exact k0
/-- what the model's row of acts is behind that -/
def actF (sz : Nat) (w g : Nat → Int32) : Nat → Int32 :=
  if sz < 12 then rngF (447 * sz) (447 * sz + 447) (fun j => w (j - 447 * sz)) g
  else rngF 4917 5364 (fun j => w (j - 4917)) (rngF 0 4917 (fun j => g (j + 447)) g)
theorem actF_old {sz j i : Nat} {w g : Nat → Int32} (h : sz < 12) (hj : j < sz) (hi : i < 447) : actF sz w g (447 * j + i) = g (447 * j + i) := by
  unfold actF; rw [if_pos h, rng_out (by omega)]
theorem actF_new {sz i : Nat} {w g : Nat → Int32} (h : sz < 12) (hi : i < 447) : actF sz w g (447 * sz + i) = w i := by
  unfold actF; rw [if_pos h, rng_in (by omega) (by omega)]; congr 1; omega
theorem actF_old' {j i : Nat} {w g : Nat → Int32} (hj : j < 11) (hi : i < 447) : actF 12 w g (447 * j + i) = g (447 * (j + 1) + i) := by
  unfold actF; rw [if_neg (by omega), rng_out (by omega), rng_in (by omega) (by omega)]; congr 1; omega
theorem actF_new' {i k : Nat} {w g : Nat → Int32} (hk : k = 4917 + i) (hi : i < 447) : actF 12 w g k = w i := by
  subst hk
  unfold actF; rw [if_neg (by omega), rng_in (by omega) (by omega), Nat.add_sub_cancel_left]
theorem m_remembers {F sz : Nat} {S : mS} (hF : 6000 ≤ F) (hs : sz ≤ 12) (e : S 63 7 = nI sz) :
    f_X10_remembers F S = some (.inl none, seS (upS S 63 7 (nI (if sz < 12 then sz + 1 else 12))) 68 (actF sz (S 64) (S 68))) := by
  unfold f_X10_remembers
  by_cases g : sz < 12
  · have h := m_remL (F := F) g 447 0 F (upS S 63 7 (nI (sz + 1))) (by omega) (by omega) (by rw [upS_s, upd_s])
    unfold f_X10_remembers_b53 actF
    rw [if_pos g, if_pos g]
    simp (disch := omega) only [fa_lit, nI_ad, nI_mul, nI_cl, inb_nI, nI_ltE, nI_leE, nI_eqE, nI_m1, nI_m1', m1_lt, lt_m1, m1_le, le_m1, eq_self, not_true_eq_false, not_false_eq_true, ↓reduceIte, leT, leF, ltT, ltF, eqT, eqF, decide_true, decide_false, true_and, and_true, Nat.reduceAdd, bI0_i, bI_i, bI_x, bV0_v, bV_v, bV_x, ↓bnd_e, gd_t, e]
    refine Eq.trans h ?_
    simp (disch := omega) only [upS_n, Nat.add_zero]
  · have hs12 : sz = 12 := by omega
    subst hs12
    have h2 := m_shiftL (F := F) 4917 0 F S (by omega) (by omega)
    have h := m_remL (F := F) (r := 11) (by omega) 447 0 F (seS S 68 (rngF 0 4917 (fun j => S 68 (j + 447)) (S 68))) (by omega) (by omega) (by rw [seS_n (by omega)]; exact e)
    unfold actF
    rw [if_neg g, if_neg g]
    simp (disch := omega) only [fa_lit, nI_ad, nI_mul, nI_cl, inb_nI, nI_ltE, nI_leE, nI_eqE, nI_m1, nI_m1', m1_lt, lt_m1, m1_le, le_m1, eq_self, not_true_eq_false, not_false_eq_true, ↓reduceIte, leT, leF, ltT, ltF, eqT, eqF, decide_true, decide_false, true_and, and_true, Nat.reduceAdd, bI0_i, bI_i, bI_x, bV0_v, bV_v, bV_x, ↓bnd_e, gd_t, e]
    refine Eq.trans h2 ?_
    unfold f_X10_remembers_b53
    refine Eq.trans h ?_
    have e7 : upS S 63 7 (nI 12) = S := by rw [up_def, upd_id e, se_id]
    simp (disch := omega) only [seS_n, seS_s, seS_seS, Nat.add_zero, e7]
theorem inv_b {S : mS} (hI : Inv S) : ∃ n nh nk A, n ≤ 10 ∧ S 25 12 = nI n ∧ nh ≤ 6 ∧ S 25 13 = nI nh ∧ nk ≤ 4 ∧ S 25 14 = nI nk ∧ LX A S 3 ∧ LW A ∧ LM A (S 64) ∧ Rg (S 25) ∧ cM (S 64) = S 25 := by
  obtain ⟨h1, h2, ⟨A, a1, a2, a3⟩, -⟩ := hI
  obtain ⟨n, hn, en⟩ := h1.n12
  obtain ⟨nh, hnh, enh⟩ := h1.n13
  obtain ⟨nk, hnk, enk⟩ := h1.n14
  exact ⟨n, nh, nk, A, hn, en, hnh, enh, hnk, enk, a2, a1, a3, h1, h2⟩
theorem ag_exc {S : mS} {fX fM : mS → Option mR} {cs : List Nat} {b : Int32} {e : Nat} (hI : Inv S) (j : Nat) (hj : cs[j]? = some e) (hj8 : j < 8) (hX : fX S = some (.inr e, S))
    (hM : ∀ T U, U = upS T 63 0 (nI 0) → U 64 = S 64 → fM T = some (.inl (some (.int b)), upS U 63 0 (nI (j + 1)))) : Ag fX fM cs S := by
  refine ⟨_, S, hX, fun T hT => ?_⟩
  refine ⟨b, _, hM T _ rfl (by rw [upS_n (by omega), hT 64 (by omega)]), ?_, j, hj, hj8, by rw [upS_s, upd_s]⟩
  refine Inv_same hI ⟨fun o ho => ?_, fun k hk => ?_, ?_⟩
  · unfold keepO at ho
    rw [upS_n (by omega), upS_n (by omega), hT o (by omega)]
  · rw [upS_s, upd_n (by omega), upS_s, upd_n (by omega), hT 63 (by omega)]
  · rw [upS_n (by omega), upS_n (by omega), hT 27 (by omega)]; exact hI.2.2.2.1
theorem ag_ok0 {S : mS} {fX fM : mS → Option mR} {cs : List Nat} {b : Int32} (hI : Inv S) (hX : fX S = some (.inl (some (.int b)), S))
    (hM : ∀ T U, U = upS T 63 0 (nI 0) → U 64 = S 64 → U 63 = upd (S 63) 0 (nI 0) → fM T = some (.inl (some (.int b)), U)) : Ag fX fM cs S := by
  refine ⟨_, S, hX, fun T hT => ?_⟩
  refine ⟨b, _, hM T _ rfl (by rw [upS_n (by omega), hT 64 (by omega)]) (by rw [upS_s, hT 63 (by omega)]), ?_, rfl, by rw [upS_s, upd_s]⟩
  refine Inv_same hI ⟨fun o ho => ?_, fun k hk => ?_, ?_⟩
  · unfold keepO at ho
    rw [upS_n (by omega), hT o (by omega)]
  · rw [upS_s, upd_n (by omega), hT 63 (by omega)]
  · rw [upS_n (by omega), hT 27 (by omega)]; exact hI.2.2.2.1
/-- an act -/
theorem Inv_act {S T : mS} {c' : Nat → Int32} {nx sz : Nat} (hI : Inv S) (hnx : nx < 12) (hsz : sz ≤ 12) (e1 : S 36 1 = nI nx) (e2 : S 36 2 = nI sz) (hc : Rg c') (hz : Az c')
    (h25 : T 25 = c') (h64 : T 64 = wO (S 64) c') (h361 : T 36 1 = nI ((nx + 1) % 12)) (h362 : T 36 2 = nI (if sz < 12 then sz + 1 else 12)) (hp : T (39 + 2 * nx) = S 25)
    (h637 : T 63 7 = nI (if sz < 12 then sz + 1 else 12)) (h63 : ∀ k, k = 6 ∨ k = 9 ∨ k = 14 → T 63 k = S 63 k) (h68 : T 68 = actF sz (S 64) (S 68))
    (ho : ∀ o, o < 75 → o ≠ 8 → o ≠ 9 → o ≠ 25 → o ≠ 36 → o ≠ 39 + 2 * nx → o ≠ 63 → o ≠ 64 → o ≠ 68 → o ≠ 71 → T o = S o) : Inv T := by
  obtain ⟨h1, h2, ⟨A, a1, a2, a3⟩, h4, h5, h6, h7, h8, h9⟩ := hI
  refine ⟨by rw [h25]; exact hc, by rw [h25, h64, cM_wO hc.2], ⟨A, a1, LX_of (fun o q1 q2 => ho o (by omega) (by omega) (by omega) (by omega) (by omega) (by omega) (by omega) (by omega) (by omega) (by omega)) a2, by rw [h64]; exact LM_wO a1 a3⟩, ?_, ?_, ?_, ?_, ?_, ?_⟩
  · rw [ho 27 (by omega) (by omega) (by omega) (by omega) (by omega) (by omega) (by omega) (by omega) (by omega) (by omega)]; exact h4
  · rw [ho 29 (by omega) (by omega) (by omega) (by omega) (by omega) (by omega) (by omega) (by omega) (by omega) (by omega)]; exact h5
  · rw [ho 0 (by omega) (by omega) (by omega) (by omega) (by omega) (by omega) (by omega) (by omega) (by omega) (by omega), h63 6 (by omega), ho 29 (by omega) (by omega) (by omega) (by omega) (by omega) (by omega) (by omega) (by omega) (by omega) (by omega), ho 65 (by omega) (by omega) (by omega) (by omega) (by omega) (by omega) (by omega) (by omega) (by omega) (by omega)]
    refine ⟨h6.1, ?_⟩
    rcases h6.2 with q | ⟨q1, q2, q3, q4⟩
    · exact Or.inl q
    · exact Or.inr ⟨q1, q2, q3, LR_of (fun o a b => ho o (by omega) (by omega) (by omega) (by omega) (by omega) (by omega) (by omega) (by omega) (by omega) (by omega)) q4⟩
  · obtain ⟨nx', sz', b1, b2, b3, b4, b5, b6, b7⟩ := h7
    have hx : nx' = nx := nI_inj (by omega) (by omega) (b3.symm.trans e1)
    have hs : sz' = sz := nI_inj (by omega) (by omega) (b4.symm.trans e2)
    subst hx; subst hs
    have hzb : ∀ i, i < 12 → zb (T (39 + 2 * i)) := by
      intro i hi
      by_cases e : i = nx'
      · subst e; rw [hp]; exact h1.2
      · rw [ho (39 + 2 * i) (by omega) (by omega) (by omega) (by omega) (by omega) (by omega) (by omega) (by omega) (by omega) (by omega)]; exact b6 i hi
    by_cases g : sz' < 12
    · rw [if_pos g] at h362 h637
      refine ⟨(nx' + 1) % 12, sz' + 1, by omega, by omega, h361, h362, h637, hzb, fun j hj => ?_⟩
      by_cases hjs : j < sz'
      · have ei : ((nx' + 1) % 12 + 12 - (sz' + 1) + j) % 12 = (nx' + 12 - sz' + j) % 12 := by omega
        rw [ei, ho (39 + 2 * ((nx' + 12 - sz' + j) % 12)) (by omega) (by omega) (by omega) (by omega) (by omega) (by omega) (by omega) (by omega) (by omega) (by omega)]
        obtain ⟨c1, c2, c3⟩ := b7 j hjs
        refine ⟨c1, ?_, ?_⟩
        · rw [← c2]
          funext i
          unfold cM
          split
          · rename_i hi
            have : pm i < 447 := by
              rcases Nat.lt_or_ge i 16 with q | q
              · have := pm_lo q; omega
              · rw [pm_hi q]; omega
            simp only [h68]
            rw [actF_old g hjs this]
          · rfl
        · rw [h68, actF_old g hjs (by omega), c3, h64, wO_out (Or.inl rfl)]
      · have hj2 : j = sz' := by omega
        subst hj2
        have ei : ((nx' + 1) % 12 + 12 - (j + 1) + j) % 12 = nx' := by omega
        rw [ei, hp]
        refine ⟨h1, ?_, ?_⟩
        · rw [← h2]
          funext i
          unfold cM
          split
          · rename_i hi
            have : pm i < 447 := by
              rcases Nat.lt_or_ge i 16 with q | q
              · have := pm_lo q; omega
              · rw [pm_hi q]; omega
            simp only [h68]
            rw [actF_new g this]
          · rfl
        · rw [h68, actF_new g (by omega), h64, wO_out (Or.inl rfl)]
    · have h12 : sz' = 12 := by omega
      subst h12
      rw [if_neg g] at h362 h637
      refine ⟨(nx' + 1) % 12, 12, by omega, by omega, h361, h362, h637, hzb, fun j hj => ?_⟩
      by_cases hjs : j < 11
      · have ei : ((nx' + 1) % 12 + 12 - 12 + j) % 12 = (nx' + 12 - 12 + (j + 1)) % 12 := by omega
        rw [ei, ho (39 + 2 * ((nx' + 12 - 12 + (j + 1)) % 12)) (by omega) (by omega) (by omega) (by omega) (by omega) (by omega) (by omega) (by omega) (by omega) (by omega)]
        obtain ⟨c1, c2, c3⟩ := b7 (j + 1) (by omega)
        refine ⟨c1, ?_, ?_⟩
        · rw [← c2]
          funext i
          unfold cM
          split
          · rename_i hi
            have : pm i < 447 := by
              rcases Nat.lt_or_ge i 16 with q | q
              · have := pm_lo q; omega
              · rw [pm_hi q]; omega
            simp only [h68]
            rw [actF_old' hjs this]
          · rfl
        · rw [h68, actF_old' hjs (by omega), c3, h64, wO_out (Or.inl rfl)]
      · have hj2 : j = 11 := by omega
        subst hj2
        have ei : ((nx' + 1) % 12 + 12 - 12 + 11) % 12 = nx' := by omega
        rw [ei, hp]
        refine ⟨h1, ?_, ?_⟩
        · rw [← h2]
          funext i
          unfold cM
          split
          · rename_i hi
            have : pm i < 447 := by
              rcases Nat.lt_or_ge i 16 with q | q
              · have := pm_lo q; omega
              · rw [pm_hi q]; omega
            simp only [h68]
            rw [actF_new' (i := pm i) (by omega) this]
          · rfl
        · rw [h68, actF_new' (i := 4) (by omega) (by omega), h64, wO_out (Or.inl rfl)]
  · obtain ⟨t, b1, b2, b3, b4⟩ := h8
    refine ⟨t, b1, ?_, by rw [h63 9 (by omega)]; exact b3, fun i hi => ?_⟩
    · rw [ho 1 (by omega) (by omega) (by omega) (by omega) (by omega) (by omega) (by omega) (by omega) (by omega) (by omega)]; exact b2
    · rw [ho 2 (by omega) (by omega) (by omega) (by omega) (by omega) (by omega) (by omega) (by omega) (by omega) (by omega), ho 69 (by omega) (by omega) (by omega) (by omega) (by omega) (by omega) (by omega) (by omega) (by omega) (by omega)]; exact b4 i hi
  · rw [ho 1 (by omega) (by omega) (by omega) (by omega) (by omega) (by omega) (by omega) (by omega) (by omega) (by omega), h63 14 (by omega)]
    refine ⟨h9.1, by rw [h25]; exact hz, by rw [ho 29 (by omega) (by omega) (by omega) (by omega) (by omega) (by omega) (by omega) (by omega) (by omega) (by omega)]; exact h9.2.2.1, fun i hi => ?_⟩
    by_cases e : i = nx
    · subst e; rw [hp]; exact h9.2.1
    · rw [ho (39 + 2 * i) (by omega) (by omega) (by omega) (by omega) (by omega) (by omega) (by omega) (by omega) (by omega) (by omega)]; exact h9.2.2.2 i hi
theorem ag_act {F : Nat} {S : mS} {fX fM gX gM : mS → Option mR} {cs : List Nat} {c' : Nat → Int32} {r : Int32} (hF : 6000 ≤ F) (hI : Inv S) (hc : Rg c') (hz : Az c')
    (hX : fX S = bV0 (f_X5_remember S) gX)
    (hM : ∀ T U, U = upS T 63 0 (nI 0) → U 64 = S 64 → fM T = bV0 (f_X10_remembers F U) gM)
    (gx : ∀ S1, S1 25 = S 25 → (∀ o, o < 8 → S1 o = S o) → ∃ p q, gX S1 = some (.inl (some (.int r)), sX (seS S1 25 c') p q))
    (gm : ∀ T1, T1 64 = S 64 → ∃ a b q, gM T1 = some (.inl (some (.int r)), sM (seS T1 64 (wO (S 64) c')) a b q)) : Ag fX fM cs S := by
  have hI0 := hI
  obtain ⟨h1, h2, ⟨A, a1, a2, a3⟩, h4, h5, h6, ⟨nx, sz, b1, b2, b3, b4, b5, b6, b7⟩, h8, h9⟩ := hI
  have hr := x_remember b1 b3 b2 b4 (b6 nx b1) h1.2
  rw [hr, bV0_v] at hX
  obtain ⟨p, q, hg⟩ := gx (upS (upS (seS S (39 + 2 * nx) (S 25)) 36 1 (nI ((nx + 1) % 12))) 36 2 (nI (if sz < 12 then sz + 1 else 12))) (by rw [upS_n (by omega), upS_n (by omega), seS_n (by omega)]) (fun o ho => by rw [upS_n (by omega), upS_n (by omega), seS_n (by omega)])
  rw [hg] at hX
  refine ⟨_, _, hX, fun T hT => ?_⟩
  have eo : ∀ o, o < 75 → o ≠ 8 → o ≠ 9 → o ≠ 25 → o ≠ 36 → o ≠ 39 + 2 * nx → T o = S o := by
    intro o q1 q2 q3 q4 q5 q6
    rw [hT o q1, sX_n q2 q3, seS_n q4, upS_n q5, upS_n q5, seS_n q6]
  have e63 : (upS T 63 0 (nI 0)) 63 7 = nI sz := by rw [upS_s, upd_n (by omega), eo 63 (by omega) (by omega) (by omega) (by omega) (by omega) (by omega)]; exact b5
  have e64 : (upS T 63 0 (nI 0)) 64 = S 64 := by rw [upS_n (by omega), eo 64 (by omega) (by omega) (by omega) (by omega) (by omega) (by omega)]
  have hm := m_remembers hF b2 e63
  have hf := hM T _ rfl e64
  rw [hm, bV0_v] at hf
  obtain ⟨a, b, q', hg2⟩ := gm (seS (upS (upS T 63 0 (nI 0)) 63 7 (nI (if sz < 12 then sz + 1 else 12))) 68 (actF sz ((upS T 63 0 (nI 0)) 64) ((upS T 63 0 (nI 0)) 68))) (by rw [seS_n (by omega), upS_n (by omega)]; exact e64)
  rw [hg2] at hf
  refine ⟨r, _, hf, ?_, rfl, ?_⟩
  · refine Inv_act hI0 b1 b2 b3 b4 hc hz ?_ ?_ ?_ ?_ ?_ ?_ ?_ ?_ ?_
    · rw [sM_n (by omega) (by omega), seS_n (by omega), seS_n (by omega), upS_n (by omega), upS_n (by omega), hT 25 (by omega), sX_n (by omega) (by omega), seS_s]
    · rw [sM_n (by omega) (by omega), seS_s]
    · rw [sM_n (by omega) (by omega), seS_n (by omega), seS_n (by omega), upS_n (by omega), upS_n (by omega), hT 36 (by omega), sX_n (by omega) (by omega), seS_n (by omega), upS_s, upd_n (by omega), upS_s, upd_s]
    · rw [sM_n (by omega) (by omega), seS_n (by omega), seS_n (by omega), upS_n (by omega), upS_n (by omega), hT 36 (by omega), sX_n (by omega) (by omega), seS_n (by omega), upS_s, upd_s]
    · rw [sM_n (by omega) (by omega), seS_n (by omega), seS_n (by omega), upS_n (by omega), upS_n (by omega), hT (39 + 2 * nx) (by omega), sX_n (by omega) (by omega), seS_n (by omega), upS_n (by omega), upS_n (by omega), seS_s]
    · rw [sM_63, upd_n (by omega), upd_n (by omega), seS_n (by omega), seS_n (by omega), upS_s, upd_s]
    · intro k hk
      rw [sM_63, upd_n (by omega), upd_n (by omega), seS_n (by omega), seS_n (by omega), upS_s, upd_n (by omega), upS_s, upd_n (by omega), eo 63 (by omega) (by omega) (by omega) (by omega) (by omega) (by omega)]
    · rw [sM_n (by omega) (by omega), seS_n (by omega), seS_s, upS_n (by omega), upS_n (by omega), eo 64 (by omega) (by omega) (by omega) (by omega) (by omega) (by omega), eo 68 (by omega) (by omega) (by omega) (by omega) (by omega) (by omega)]
    · intro o q1 q2 q3 q4 q5 q6 q7 q8 q9 q10
      rw [sM_n q10 q7, seS_n q8, seS_n q9, upS_n q7, upS_n q7, eo o q1 q2 q3 q4 q5 q6]
  · rw [sM_63, upd_n (by omega), upd_n (by omega), seS_n (by omega), seS_n (by omega), upS_s, upd_n (by omega), upS_s, upd_s]
theorem cM_wOi {w c : Nat → Int32} {i : Nat} (h : i < 446) : cM (wO w c) i = c i := by
  rw [cM_lo h, wO_at (pm_ne h (Or.inl rfl)) ?_, pj_pm]
  rcases Nat.lt_or_ge i 16 with q | q
  · have := pm_lo q; omega
  · rw [pm_hi q]; omega
theorem zb_up {c : Nat → Int32} {k : Nat} {v : Int32} (hz : zb c) (hk : k < 446) : zb (upd c k v) := fun i hi => by rw [upd_n (by omega)]; exact hz i hi
theorem ag_act2 {F : Nat} {S : mS} {fX fM gX gM : mS → Option mR} {cs : List Nat} {c' : Nat → Int32} {r : Int32} (hF : 6000 ≤ F) (hI : Inv S) (hc : Rg c') (hz : Az c')
    (hX : fX S = bV0 (f_X5_remember S) gX)
    (hM : ∀ T U, U = upS T 63 0 (nI 0) → U 64 = S 64 → fM T = bV0 (f_X10_remembers F U) gM)
    (gx : ∀ S1 p q, (∀ o, o < 8 → S1 o = S o) → ∃ p' q', gX (sX (seS S1 25 (S 25)) p q) = some (.inl (some (.int r)), sX (seS S1 25 c') p' q'))
    (gm : ∀ T1 a b q, ∃ a' b' q', gM (sM (seS T1 64 (wO (S 64) (S 25))) a b q) = some (.inl (some (.int r)), sM (seS T1 64 (wO (S 64) c')) a' b' q')) : Ag fX fM cs S := by
  refine ag_act (r := r) hF hI hc hz hX hM (fun S1 e25 eo => ?_) (fun T1 e64 => ?_)
  · have h := gx S1 (S1 8) (S1 9) eo
    rw [← e25, se_id, sX_id] at h
    exact h
  · have h := gm T1 (T1 63 18) (T1 63 19) (T1 71)
    rw [← hI.2.1, wO_self, ← e64, se_id, sM_id] at h
    rw [← e64]; exact h
