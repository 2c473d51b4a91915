/-! texts: the model's tape -/
section T
variable {B : Nat → Nat} {t : Nat}
def zS (U : mS) (q b d s : Nat) (w : Nat → Int32) : mS := fun o => if o = 63 then upd (upd (upd (upd (U 63) 10 (nI q)) 12 (nI b)) 13 (nI d)) 16 (nI s) else if o = 64 then w else U o
variable {U : mS} {q b d s : Nat} {w : Nat → Int32} {F : Nat}
theorem z_63 : zS U q b d s w 63 = upd (upd (upd (upd (U 63) 10 (nI q)) 12 (nI b)) 13 (nI d)) 16 (nI s) := rfl
theorem z_10 : zS U q b d s w 63 10 = nI q := by rw [z_63, upd_n (by omega), upd_n (by omega), upd_n (by omega), upd_s]
theorem z_12 : zS U q b d s w 63 12 = nI b := by rw [z_63, upd_n (by omega), upd_n (by omega), upd_s]
theorem z_13 : zS U q b d s w 63 13 = nI d := by rw [z_63, upd_n (by omega), upd_s]
theorem z_16 : zS U q b d s w 63 16 = nI s := by rw [z_63, upd_s]
theorem z_k {k : Nat} (h1 : k ≠ 10) (h2 : k ≠ 12) (h3 : k ≠ 13) (h4 : k ≠ 16) : zS U q b d s w 63 k = U 63 k := by rw [z_63, upd_n h4, upd_n h3, upd_n h2, upd_n h1]
theorem z_11 : zS U q b d s w 63 11 = U 63 11 := z_k (by omega) (by omega) (by omega) (by omega)
theorem z_64 : zS U q b d s w 64 = w := rfl
theorem z_69 : zS U q b d s w 69 = U 69 := rfl
theorem z_o {o : Nat} (h1 : o ≠ 63) (h2 : o ≠ 64) : zS U q b d s w o = U o := by unfold zS; rw [if_neg h1, if_neg h2]
theorem z_u10 {v : Nat} : upS (zS U q b d s w) 63 10 (nI v) = zS U v b d s w := by
  funext o
  by_cases e : o = 63
  · subst e; rw [upS_s, z_63, z_63, upd_comm (k := 16) (l := 10) (by omega), upd_comm (k := 13) (l := 10) (by omega), upd_comm (k := 12) (l := 10) (by omega), upd_upd]
  · rw [upS_n e]; unfold zS; rw [if_neg e, if_neg e]
theorem z_u12 {v : Nat} : upS (zS U q b d s w) 63 12 (nI v) = zS U q v d s w := by
  funext o
  by_cases e : o = 63
  · subst e; rw [upS_s, z_63, z_63, upd_comm (k := 16) (l := 12) (by omega), upd_comm (k := 13) (l := 12) (by omega), upd_upd]
  · rw [upS_n e]; unfold zS; rw [if_neg e, if_neg e]
theorem z_u13 {v : Nat} : upS (zS U q b d s w) 63 13 (nI v) = zS U q b v s w := by
  funext o
  by_cases e : o = 63
  · subst e; rw [upS_s, z_63, z_63, upd_comm (k := 16) (l := 13) (by omega), upd_upd]
  · rw [upS_n e]; unfold zS; rw [if_neg e, if_neg e]
theorem z_u16 {v : Nat} : upS (zS U q b d s w) 63 16 (nI v) = zS U q b d v w := by
  funext o
  by_cases e : o = 63
  · subst e; rw [upS_s, z_63, z_63, upd_upd]
  · rw [upS_n e]; unfold zS; rw [if_neg e, if_neg e]
theorem z_u64 {k : Nat} {v : Int32} : upS (zS U q b d s w) 64 k v = zS U q b d s (upd w k v) := by
  funext o
  by_cases e : o = 64
  · subst e; rw [upS_s]; rfl
  · rw [upS_n e]; unfold zS
    by_cases e1 : o = 63
    · rw [if_pos e1, if_pos e1]
    · rw [if_neg e1, if_neg e1, if_neg e, if_neg e]
def TM (U : mS) (B : Nat → Nat) (t : Nat) : Prop := t ≤ 400 ∧ U 63 11 = nI t ∧ ∀ i, i < t → U 69 i = (nI (B i)).toInt8.toInt32 ∧ B i < 256
theorem eg_sg_lo : ∀ x, x < 128 → (nI x).toInt8.toInt32 = nI x := by decide
theorem eg_sg_hi : ∀ x, x < 128 → (nI (128 + x)).toInt8.toInt32 < nI 0 := by decide
theorem eg_sg {x lo hi : Nat} (hx : x < 256) (hlo : lo < 128) (hhi : hi < 128) : ((nI x).toInt8.toInt32 < nI lo ∨ nI hi < (nI x).toInt8.toInt32) ↔ ¬ (lo ≤ x ∧ x ≤ hi) := by
  rcases Nat.lt_or_ge x 128 with g | g
  · rw [eg_sg_lo x g, nI_ltE (by omega) (by omega), nI_ltE (by omega) (by omega)]; omega
  · have h := eg_sg_hi (x - 128) (by omega)
    rw [show 128 + (x - 128) = x by omega, Int32.lt_iff_toInt_lt, nI_toInt (by omega)] at h
    rw [Int32.lt_iff_toInt_lt, Int32.lt_iff_toInt_lt, nI_toInt (by omega), nI_toInt (by omega)]; omega
theorem m_isAt {lo hi : Nat} (hT : TM U B t) (hlo : lo < 128) (hhi : hi < 128) (hq : q ≤ t) : f_X10_isAt (nI lo) (nI hi) (zS U q b d s w) = some (.inl (some (.int (bV32 (decide (q < t ∧ lo ≤ B q ∧ B q ≤ hi))))), zS U q b d s w) := by
  obtain ⟨h1, h2, h3⟩ := hT
  unfold f_X10_isAt f_X10_isAt_b41 f_X10_isAt_b42
  by_cases g : q < t
  · obtain ⟨h4, h5⟩ := h3 q g
    have hs := eg_sg (x := B q) h5 hlo hhi
    by_cases k1 : (nI (B q)).toInt8.toInt32 < nI lo
    · rw [decide_eq_false (fun e => (hs.1 (Or.inl k1)) e.2)]
      simp (disch := omega) only [fa_lit, nI_ad, nI_mul, nI_cl, inb_nI, nI_ltE, nI_leE, nI_eqE, nI_m1, nI_m1', m1_lt, lt_m1, m1_le, le_m1, eq_self, not_true_eq_false, not_false_eq_true, ↓reduceIte, leT, leF, ltT, ltF, eqT, eqF, decide_true, decide_false, true_and, and_true, Nat.reduceAdd, bI0_i, bI_i, bI_x, bV0_v, bV_v, bV_x, ↓bnd_e, gd_t, z_10, z_11, z_69, h2, h4, k1, and00, bF]
    · by_cases k2 : nI hi < (nI (B q)).toInt8.toInt32
      · rw [decide_eq_false (fun e => (hs.1 (Or.inr k2)) e.2)]
        simp (disch := omega) only [fa_lit, nI_ad, nI_mul, nI_cl, inb_nI, nI_ltE, nI_leE, nI_eqE, nI_m1, nI_m1', m1_lt, lt_m1, m1_le, le_m1, eq_self, not_true_eq_false, not_false_eq_true, ↓reduceIte, leT, leF, ltT, ltF, eqT, eqF, decide_true, decide_false, true_and, and_true, Nat.reduceAdd, bI0_i, bI_i, bI_x, bV0_v, bV_v, bV_x, ↓bnd_e, gd_t, z_10, z_11, z_69, h2, h4, k1, k2, and00, bF]
      · rw [decide_eq_true ⟨g, Classical.byContradiction (fun e => (hs.2 e).elim k1 k2)⟩]
        simp (disch := omega) only [fa_lit, nI_ad, nI_mul, nI_cl, inb_nI, nI_ltE, nI_leE, nI_eqE, nI_m1, nI_m1', m1_lt, lt_m1, m1_le, le_m1, eq_self, not_true_eq_false, not_false_eq_true, ↓reduceIte, leT, leF, ltT, ltF, eqT, eqF, decide_true, decide_false, true_and, and_true, Nat.reduceAdd, bI0_i, bI_i, bI_x, bV0_v, bV_v, bV_x, ↓bnd_e, gd_t, z_10, z_11, z_69, h2, h4, k1, k2, and10, bT]
  · rw [decide_eq_false (fun e => g e.1)]
    simp (disch := omega) only [fa_lit, nI_ad, nI_mul, nI_cl, inb_nI, nI_ltE, nI_leE, nI_eqE, nI_m1, nI_m1', m1_lt, lt_m1, m1_le, le_m1, eq_self, not_true_eq_false, not_false_eq_true, ↓reduceIte, leT, leF, ltT, ltF, eqT, eqF, decide_true, decide_false, true_and, and_true, Nat.reduceAdd, bI0_i, bI_i, bI_x, bV0_v, bV_v, bV_x, ↓bnd_e, gd_t, z_10, z_11, h2, and00, bF]
theorem m_blanksL (hT : TM U B t) : ∀ (m q f : Nat), t - q = m → q ≤ t → m < f → f_X10_blanks_b0 F f (zS U q b d s w) = some (.inl none, zS U (tSk B t q) (tSk B t q) d s w)
  | 0, q, f + 1, hm, hq, hf => by
    have : q = t := by omega
    subst this
    have h := m_isAt (b := b) (d := d) (s := s) (w := w) (q := q) (lo := 32) (hi := 32) hT (by omega) (by omega) (Nat.le_refl _)
    rw [decide_eq_false (by omega)] at h
    rw [f_X10_blanks_b0, tSk_e]
    simp (disch := omega) only [fa_lit, nI_ad, nI_mul, nI_cl, inb_nI, nI_ltE, nI_leE, nI_eqE, nI_m1, nI_m1', m1_lt, lt_m1, m1_le, le_m1, eq_self, not_true_eq_false, not_false_eq_true, ↓reduceIte, leT, leF, ltT, ltF, eqT, eqF, decide_true, decide_false, true_and, and_true, Nat.reduceAdd, bI0_i, bI_i, bI_x, bV0_v, bV_v, bV_x, ↓bnd_e, gd_t, h, bF, z_10, z_u12]
  | m + 1, q, f + 1, hm, hq, hf => by
    have ih := m_blanksL hT m (q + 1) f (by omega) (by omega) (by omega)
    have h := m_isAt (b := b) (d := d) (s := s) (w := w) (q := q) (lo := 32) (hi := 32) hT (by omega) (by omega) hq
    have ht := hT.1
    rw [f_X10_blanks_b0]
    by_cases g : B q = 32
    · rw [decide_eq_true (by omega)] at h
      rw [tSk_s (by omega) g]
      simp (disch := omega) only [fa_lit, nI_ad, nI_mul, nI_cl, inb_nI, nI_ltE, nI_leE, nI_eqE, nI_m1, nI_m1', m1_lt, lt_m1, m1_le, le_m1, eq_self, not_true_eq_false, not_false_eq_true, ↓reduceIte, leT, leF, ltT, ltF, eqT, eqF, decide_true, decide_false, true_and, and_true, Nat.reduceAdd, bI0_i, bI_i, bI_x, bV0_v, bV_v, bV_x, ↓bnd_e, gd_t, h, bT, z_10, z_u10]
      exact ih
    · rw [decide_eq_false (by omega)] at h
      rw [tSk_n (by omega) g]
      simp (disch := omega) only [fa_lit, nI_ad, nI_mul, nI_cl, inb_nI, nI_ltE, nI_leE, nI_eqE, nI_m1, nI_m1', m1_lt, lt_m1, m1_le, le_m1, eq_self, not_true_eq_false, not_false_eq_true, ↓reduceIte, leT, leF, ltT, ltF, eqT, eqF, decide_true, decide_false, true_and, and_true, Nat.reduceAdd, bI0_i, bI_i, bI_x, bV0_v, bV_v, bV_x, ↓bnd_e, gd_t, h, bF, z_10, z_u12]
theorem m_blanks (hF : 6000 ≤ F) (hT : TM U B t) (hq : q ≤ t) : f_X10_blanks F (zS U q b d s w) = some (.inl none, zS U (tSk B t q) (tSk B t q) d s w) := by
  have ht := hT.1
  exact m_blanksL hT (t - q) q F rfl hq (by omega)
theorem m_lettersL (hT : TM U B t) : ∀ (m q f : Nat), t - q = m → q ≤ t → m < f → f_X10_letters_b4 F f (zS U q b d s w) = some (.inl none, zS U (tWd B t q) b d s w)
  | 0, q, f + 1, hm, hq, hf => by
    have : q = t := by omega
    subst this
    have h := m_isAt (b := b) (d := d) (s := s) (w := w) (q := q) (lo := 97) (hi := 122) hT (by omega) (by omega) (Nat.le_refl _)
    rw [decide_eq_false (by omega)] at h
    have e : tWd B q q = q := by unfold tWd; rw [tWl_e]; rfl
    rw [f_X10_letters_b4, e]
    simp (disch := omega) only [fa_lit, nI_ad, nI_mul, nI_cl, inb_nI, nI_ltE, nI_leE, nI_eqE, nI_m1, nI_m1', m1_lt, lt_m1, m1_le, le_m1, eq_self, not_true_eq_false, not_false_eq_true, ↓reduceIte, leT, leF, ltT, ltF, eqT, eqF, decide_true, decide_false, true_and, and_true, Nat.reduceAdd, bI0_i, bI_i, bI_x, bV0_v, bV_v, bV_x, ↓bnd_e, gd_t, h, bF]
  | m + 1, q, f + 1, hm, hq, hf => by
    have ih := m_lettersL hT m (q + 1) f (by omega) (by omega) (by omega)
    have h := m_isAt (b := b) (d := d) (s := s) (w := w) (q := q) (lo := 97) (hi := 122) hT (by omega) (by omega) hq
    rw [f_X10_letters_b4]
    cases g : tLet (B q) with
    | true =>
      have g' : 97 ≤ B q ∧ B q ≤ 122 := of_decide_eq_true g
      rw [decide_eq_true (by omega)] at h
      have e : tWd B t q = tWd B t (q + 1) := by unfold tWd; rw [tWl_s (by omega) g, List.length_cons]; omega
      rw [e]
      simp (disch := omega) only [fa_lit, nI_ad, nI_mul, nI_cl, inb_nI, nI_ltE, nI_leE, nI_eqE, nI_m1, nI_m1', m1_lt, lt_m1, m1_le, le_m1, eq_self, not_true_eq_false, not_false_eq_true, ↓reduceIte, leT, leF, ltT, ltF, eqT, eqF, decide_true, decide_false, true_and, and_true, Nat.reduceAdd, bI0_i, bI_i, bI_x, bV0_v, bV_v, bV_x, ↓bnd_e, gd_t, h, bT, z_10, z_u10]
      exact ih
    | false =>
      have g' : ¬ (97 ≤ B q ∧ B q ≤ 122) := of_decide_eq_false g
      rw [decide_eq_false (by omega)] at h
      have e : tWd B t q = q := by unfold tWd; rw [tWl_n (by omega) g]; rfl
      rw [e]
      simp (disch := omega) only [fa_lit, nI_ad, nI_mul, nI_cl, inb_nI, nI_ltE, nI_leE, nI_eqE, nI_m1, nI_m1', m1_lt, lt_m1, m1_le, le_m1, eq_self, not_true_eq_false, not_false_eq_true, ↓reduceIte, leT, leF, ltT, ltF, eqT, eqF, decide_true, decide_false, true_and, and_true, Nat.reduceAdd, bI0_i, bI_i, bI_x, bV0_v, bV_v, bV_x, ↓bnd_e, gd_t, h, bF]
theorem m_letters (hF : 6000 ≤ F) (hT : TM U B t) (hq : q ≤ t) : f_X10_letters F (zS U q b d s w) = some (.inl none, zS U (tWd B t (tSk B t q)) (tSk B t q) d s w) := by
  have ht := hT.1
  have h := m_blanks (b := b) (d := d) (s := s) (w := w) hF hT hq
  have h2 := m_lettersL (F := F) (b := tSk B t q) (d := d) (s := s) (w := w) hT (t - tSk B t q) (tSk B t q) F rfl (tSk_le hq) (by omega)
  unfold f_X10_letters
  rw [h, bV0_v]; exact h2
theorem m_isWordL {k p : Nat} (hk : k < 23) (hT : TM U B t) (hp : p ≤ t) (hl : (tWl B t p).length = (strN k).length) : ∀ (m i f : Nat), i + m = (strN k).length → m + 1 < f → (∀ j, j < i → B (p + j) = (strN k).getD j 0) →
    f_X10_isWord_b24 F k f (nI 1) (nI i) (zS U q p d s w) = some (.inl (some (.int (bV32 (decide (tWl B t p = strN k))))), zS U q p d s w)
  | 0, i, f + 1, hi, hf, hj => by
    have hsl := sw_len hk
    have hw := tWl_p (B := B) (t - p) p rfl hp
    have e : tWl B t p = strN k := eg_ext_getD _ _ hl (fun j hjl => by rw [(hw.2 j hjl).1]; exact hj j (by omega))
    rw [f_X10_isWord_b24, sw_n, decide_eq_true e]
    unfold f_X10_isWord_b67
    simp (disch := omega) only [fa_lit, nI_ad, nI_mul, nI_cl, inb_nI, nI_ltE, nI_leE, nI_eqE, nI_m1, nI_m1', m1_lt, lt_m1, m1_le, le_m1, eq_self, not_true_eq_false, not_false_eq_true, ↓reduceIte, leT, leF, ltT, ltF, eqT, eqF, decide_true, decide_false, true_and, and_true, Nat.reduceAdd, bI0_i, bI_i, bI_x, bV0_v, bV_v, bV_x, ↓bnd_e, gd_t, and10, bT]
  | m + 1, i, f + 2, hi, hf, hj => by
    have hsl := sw_len hk
    have ht := hT.1
    have hw := tWl_p (B := B) (t - p) p rfl hp
    have hwi := hw.2 i (by omega)
    have hlet : 97 ≤ B (p + i) ∧ B (p + i) ≤ 122 := of_decide_eq_true hwi.2
    have h4 := (hT.2.2 (p + i) (by omega)).1
    rw [eg_sg_lo _ (by omega)] at h4
    have hs : (mStr.getD k []).getD i (nI 0) = nI ((strN k).getD i 0) := sw_g (i := i) hk (by omega)
    have hsb := sw_b (i := i) hk (by omega)
    have eln : (mStr.getD k []).length = (strN k).length := by unfold strN; rw [List.length_map]
    rw [f_X10_isWord_b24, sw_n]
    unfold f_X10_isWord_b60
    by_cases g : B (p + i) = (strN k).getD i 0
    · have ih := m_isWordL hk hT hp hl m (i + 1) (f + 1) (by omega) (by omega) (fun j hj2 => by
        by_cases e : j = i
        · subst e; exact g
        · exact hj j (by omega))
      simp (disch := omega) only [fa_lit, nI_ad, nI_mul, nI_cl, inb_nI, nI_ltE, nI_leE, nI_eqE, nI_m1, nI_m1', m1_lt, lt_m1, m1_le, le_m1, eq_self, not_true_eq_false, not_false_eq_true, ↓reduceIte, leT, leF, ltT, ltF, eqT, eqF, decide_true, decide_false, true_and, and_true, Nat.reduceAdd, bI0_i, bI_i, bI_x, bV0_v, bV_v, bV_x, ↓bnd_e, gd_t, z_12, z_69, h4, eln, hs, g]
      exact ih
    · have e : ¬ tWl B t p = strN k := fun e => g (by rw [← hwi.1, e])
      rw [decide_eq_false e]
      simp (disch := omega) only [fa_lit, nI_ad, nI_mul, nI_cl, inb_nI, nI_ltE, nI_leE, nI_eqE, nI_m1, nI_m1', m1_lt, lt_m1, m1_le, le_m1, eq_self, not_true_eq_false, not_false_eq_true, ↓reduceIte, leT, leF, ltT, ltF, eqT, eqF, decide_true, decide_false, true_and, and_true, Nat.reduceAdd, bI0_i, bI_i, bI_x, bV0_v, bV_v, bV_x, ↓bnd_e, gd_t, z_12, z_69, h4, eln, hs, g]
      rw [f_X10_isWord_b24]
      unfold f_X10_isWord_b67
      simp (disch := omega) only [fa_lit, nI_ad, nI_mul, nI_cl, inb_nI, nI_ltE, nI_leE, nI_eqE, nI_m1, nI_m1', m1_lt, lt_m1, m1_le, le_m1, eq_self, not_true_eq_false, not_false_eq_true, ↓reduceIte, leT, leF, ltT, ltF, eqT, eqF, decide_true, decide_false, true_and, and_true, Nat.reduceAdd, bI0_i, bI_i, bI_x, bV0_v, bV_v, bV_x, ↓bnd_e, gd_t, and00, bF]
theorem m_isWord {k p : Nat} (hF : 6000 ≤ F) (hk : k < 23) (hT : TM U B t) (hp : p ≤ t) : f_X10_isWord F k (zS U (tWd B t p) p d s w) = some (.inl (some (.int (bV32 (decide (tWl B t p = strN k))))), zS U (tWd B t p) p d s w) := by
  have hsl := sw_len hk
  have ht := hT.1
  have hwd := tWd_le (B := B) hp
  have e : nI (tWd B t p) - nI p = nI (tWl B t p).length := by
    rw [nI_sub tWd_ge]; unfold tWd; rw [Nat.add_sub_cancel_left]
  have hwl : (tWl B t p).length ≤ 400 := by unfold tWd at hwd; omega
  unfold f_X10_isWord f_X10_isWord_b21
  rw [z_10, z_12, e, sw_n]
  by_cases g : (tWl B t p).length = (strN k).length
  · rw [if_neg (by rw [g]; simp)]
    exact m_isWordL hk hT hp g (strN k).length 0 F (by omega) (by omega) (fun j hj => absurd hj (by omega))
  · have e2 : ¬ tWl B t p = strN k := fun e => g (by rw [e])
    rw [if_pos (by rw [nI_eqE (by omega) (by omega)]; exact g), decide_eq_false e2]
    obtain ⟨G, rfl⟩ : ∃ G, F = G + 1 := ⟨F - 1, by omega⟩
    rw [f_X10_isWord_b24]
    unfold f_X10_isWord_b67
    simp (disch := omega) only [fa_lit, nI_ad, nI_mul, nI_cl, inb_nI, nI_ltE, nI_leE, nI_eqE, nI_m1, nI_m1', m1_lt, lt_m1, m1_le, le_m1, eq_self, not_true_eq_false, not_false_eq_true, ↓reduceIte, leT, leF, ltT, ltF, eqT, eqF, decide_true, decide_false, true_and, and_true, Nat.reduceAdd, bI0_i, bI_i, bI_x, bV0_v, bV_v, bV_x, ↓bnd_e, gd_t, and00, bF]
theorem m_numL {lo hi p : Nat} (hT : TM U B t) (hlo : lo ≤ 1000) (hhi : hi ≤ 1000) : ∀ (m q v f : Nat), t - q = m → p ≤ q → q ≤ t → m < f → (tDg B t p q v).2 ≤ 999 →
    f_X10_number_b6 F f (nI lo) (nI hi) (nI v) (zS U q p d s w) = some (.inl (some (.int (if 1 ≤ (tDg B t p q v).1 - p ∧ (tDg B t p q v).1 - p ≤ 3 ∧ lo ≤ (tDg B t p q v).2 ∧ (tDg B t p q v).2 ≤ hi then nI (tDg B t p q v).2 else -nI 1))), zS U (tDg B t p q v).1 p d s w) := by
  have fin : ∀ (q v : Nat), p ≤ q → q ≤ 400 → v ≤ 999 → (if nI q = nI p then f_X10_number_b99 F (zS U q p d s w) else (if nI 3 < nI q - nI p then f_X10_number_b99 F (zS U q p d s w) else (if nI v < nI lo then f_X10_number_b99 F (zS U q p d s w) else (if nI v ≤ nI hi then f_X10_number_b104 F (nI v) (zS U q p d s w) else f_X10_number_b99 F (zS U q p d s w))))) = some (.inl (some (.int (if 1 ≤ q - p ∧ q - p ≤ 3 ∧ lo ≤ v ∧ v ≤ hi then nI v else -nI 1))), zS U q p d s w) := by
    intro q v h0 h4 hv
    unfold f_X10_number_b99 f_X10_number_b104
    have es : nI q - nI p = nI (q - p) := nI_sub h0
    rw [es]
    by_cases k1 : q = p
    · rw [if_pos (by rw [k1]), if_neg (by omega)]; rfl
    · rw [if_neg (by rw [nI_eqE (by omega) (by omega)]; exact k1)]
      by_cases k2 : 3 < q - p
      · rw [if_pos (nI_lt k2 (by omega)), if_neg (by omega)]; rfl
      · rw [if_neg (by rw [nI_ltE (by omega) (by omega)]; exact k2)]
        by_cases k3 : v < lo
        · rw [if_pos (nI_lt k3 (by omega)), if_neg (by omega)]; rfl
        · rw [if_neg (by rw [nI_ltE (by omega) (by omega)]; exact k3)]
          by_cases k4 : v ≤ hi
          · rw [if_pos (by rw [nI_leE (by omega) (by omega)]; exact k4), if_pos (by omega)]
          · rw [if_neg (by rw [nI_leE (by omega) (by omega)]; exact k4), if_neg (by omega)]; rfl
  intro m
  induction m with
  | zero =>
    intro q v f hm hq0 hq hf hv
    have : q = t := by omega
    subst this
    obtain ⟨f, rfl⟩ : ∃ g, f = g + 1 := ⟨f - 1, by omega⟩
    have h := m_isAt (b := p) (d := d) (s := s) (w := w) (q := q) (lo := 48) (hi := 57) hT (by omega) (by omega) (Nat.le_refl _)
    rw [decide_eq_false (by omega)] at h
    rw [tDg_e] at hv ⊢
    rw [f_X10_number_b6]
    simp (disch := omega) only [fa_lit, h, bI0_i, bF, eq_self, ↓reduceIte, z_10, z_12]
    exact fin q v hq0 (by have := hT.1; omega) hv
  | succ m ih =>
    intro q v f hm hq0 hq hf hv
    obtain ⟨f, rfl⟩ : ∃ g, f = g + 1 := ⟨f - 1, by omega⟩
    have ht := hT.1
    have h := m_isAt (b := p) (d := d) (s := s) (w := w) (q := q) (lo := 48) (hi := 57) hT (by omega) (by omega) hq
    rw [f_X10_number_b6]
    unfold f_X10_number_b51
    cases g : tDig (B q) with
    | false =>
      have g' : ¬ (48 ≤ B q ∧ B q ≤ 57) := of_decide_eq_false g
      rw [decide_eq_false (by omega)] at h
      rw [tDg_n (by omega) g] at hv ⊢
      simp (disch := omega) only [fa_lit, h, bI0_i, bF, eq_self, ↓reduceIte, z_10, z_12]
      exact fin q v hq0 (by omega) hv
    | true =>
      have g' : 48 ≤ B q ∧ B q ≤ 57 := of_decide_eq_true g
      rw [decide_eq_true (by omega)] at h
      rw [tDg_s (by omega) g] at hv ⊢
      have h4 := (hT.2.2 q (by omega)).1
      rw [eg_sg_lo _ (by omega)] at h4
      have es : nI q - nI p = nI (q - p) := nI_sub hq0
      by_cases g3 : q - p < 3
      · rw [if_pos g3] at hv ⊢
        have ev : nI (10 * v + B q) - nI 48 = nI (v * 10 + B q - 48) := by rw [nI_sub (by omega)]; congr 1; omega
        simp (disch := omega) only [fa_lit, nI_ad, nI_mul, nI_cl, inb_nI, nI_ltE, nI_leE, nI_eqE, nI_m1, nI_m1', m1_lt, lt_m1, m1_le, le_m1, eq_self, not_true_eq_false, not_false_eq_true, ↓reduceIte, leT, leF, ltT, ltF, eqT, eqF, decide_true, decide_false, true_and, and_true, Nat.reduceAdd, bI0_i, bI_i, bI_x, bV0_v, bV_v, bV_x, ↓bnd_e, gd_t, h, bT, z_10, z_12, z_69, h4, es, ev, z_u10]
        exact ih (q + 1) (v * 10 + B q - 48) f (by omega) (by omega) (by omega) (by omega) hv
      · rw [if_neg g3] at hv ⊢
        simp (disch := omega) only [fa_lit, nI_ad, nI_mul, nI_cl, inb_nI, nI_ltE, nI_leE, nI_eqE, nI_m1, nI_m1', m1_lt, lt_m1, m1_le, le_m1, eq_self, not_true_eq_false, not_false_eq_true, ↓reduceIte, leT, leF, ltT, ltF, eqT, eqF, decide_true, decide_false, true_and, and_true, Nat.reduceAdd, bI0_i, bI_i, bI_x, bV0_v, bV_v, bV_x, ↓bnd_e, gd_t, h, bT, z_10, z_12, es, z_u10]
        exact ih (q + 1) v f (by omega) (by omega) (by omega) (by omega) hv
theorem m_number {lo hi : Nat} (hF : 6000 ≤ F) (hT : TM U B t) (hlo : lo ≤ 1000) (hhi : hi ≤ 1000) (hq : q ≤ t) :
    f_X10_number F (nI lo) (nI hi) (zS U q b d s w) = some (.inl (some (.int (encO (tN B t lo hi (tSk B t q))))), zS U (tE B t (tSk B t q)) (tSk B t q) d s w) := by
  have ht := hT.1
  have hs := tSk_le (B := B) hq
  have h := m_blanks (b := b) (d := d) (s := s) (w := w) hF hT hq
  have h2 := m_numL (F := F) (lo := lo) (hi := hi) (p := tSk B t q) (d := d) (s := s) (w := w) hT hlo hhi (t - tSk B t q) (tSk B t q) 0 F rfl (Nat.le_refl _) hs (by omega) (tE_p hs).2.2
  unfold f_X10_number
  rw [h, bV0_v]
  refine Eq.trans h2 ?_
  unfold tN tE tV
  split <;> rfl
theorem m_sign {x : Nat} (hF : 6000 ≤ F) (hT : TM U B t) (hx : x < 128) (hq : q ≤ t) :
    f_X10_sign F (nI x) (zS U q b d s w) = some (.inl (some (.int (bV32 (tSg B t (tSk B t q) x)))), zS U (if tSg B t (tSk B t q) x = true then tSk B t q + 1 else tSk B t q) (tSk B t q) d s w) := by
  have ht := hT.1
  have hs := tSk_le (B := B) hq
  have h := m_blanks (b := b) (d := d) (s := s) (w := w) hF hT hq
  have h2 := m_isAt (b := tSk B t q) (d := d) (s := s) (w := w) (q := tSk B t q) (lo := x) (hi := x) hT hx hx hs
  unfold f_X10_sign tSg
  by_cases g : tSk B t q < t ∧ B (tSk B t q) = x
  · rw [decide_eq_true (by omega)] at h2
    rw [decide_eq_true g]
    simp (disch := omega) only [fa_lit, nI_ad, nI_mul, nI_cl, inb_nI, nI_ltE, nI_leE, nI_eqE, nI_m1, nI_m1', m1_lt, lt_m1, m1_le, le_m1, eq_self, not_true_eq_false, not_false_eq_true, ↓reduceIte, leT, leF, ltT, ltF, eqT, eqF, decide_true, decide_false, true_and, and_true, Nat.reduceAdd, bI0_i, bI_i, bI_x, bV0_v, bV_v, bV_x, ↓bnd_e, gd_t, h, h2, bT, z_10, z_u10, and10]
  · rw [decide_eq_false (by omega)] at h2
    rw [decide_eq_false g]
    simp (disch := omega) only [fa_lit, nI_ad, nI_mul, nI_cl, inb_nI, nI_ltE, nI_leE, nI_eqE, nI_m1, nI_m1', m1_lt, lt_m1, m1_le, le_m1, eq_self, not_true_eq_false, not_false_eq_true, ↓reduceIte, leT, leF, ltT, ltF, eqT, eqF, decide_true, decide_false, true_and, and_true, Nat.reduceAdd, bI0_i, bI_i, bI_x, bV0_v, bV_v, bV_x, ↓bnd_e, gd_t, h, h2, bF, and00, Bool.false_eq_true]
theorem m_passes {k : Nat} (hF : 6000 ≤ F) (hk : k < 23) (hT : TM U B t) (hq : q ≤ t) :
    f_X10_passes F k (zS U q b d s w) = some (.inl (some (.int (bV32 (decide (tWl B t (tSk B t q) = strN k))))), zS U (if tWl B t (tSk B t q) = strN k then tWd B t (tSk B t q) else tSk B t q) (tSk B t q) d s w) := by
  have hs := tSk_le (B := B) hq
  have h := m_letters (b := b) (d := d) (s := s) (w := w) hF hT hq
  have h2 := m_isWord (F := F) (d := d) (s := s) (w := w) hF hk hT hs
  unfold f_X10_passes
  by_cases g : tWl B t (tSk B t q) = strN k
  · rw [decide_eq_true g] at h2
    rw [decide_eq_true g, if_pos g]
    simp (disch := omega) only [fa_lit, nI_ad, nI_mul, nI_cl, inb_nI, nI_ltE, nI_leE, nI_eqE, nI_m1, nI_m1', m1_lt, lt_m1, m1_le, le_m1, eq_self, not_true_eq_false, not_false_eq_true, ↓reduceIte, leT, leF, ltT, ltF, eqT, eqF, decide_true, decide_false, true_and, and_true, Nat.reduceAdd, bI0_i, bI_i, bI_x, bV0_v, bV_v, bV_x, ↓bnd_e, gd_t, h, h2, bT, and10]
  · rw [decide_eq_false g] at h2
    rw [decide_eq_false g, if_neg g]
    simp (disch := omega) only [fa_lit, nI_ad, nI_mul, nI_cl, inb_nI, nI_ltE, nI_leE, nI_eqE, nI_m1, nI_m1', m1_lt, lt_m1, m1_le, le_m1, eq_self, not_true_eq_false, not_false_eq_true, ↓reduceIte, leT, leF, ltT, ltF, eqT, eqF, decide_true, decide_false, true_and, and_true, Nat.reduceAdd, bI0_i, bI_i, bI_x, bV0_v, bV_v, bV_x, ↓bnd_e, gd_t, h, h2, bF, and00, z_12, z_u10]
theorem m_after {k lo hi : Nat} (hF : 6000 ≤ F) (hk : k < 23) (hT : TM U B t) (hlo : lo ≤ 1000) (hhi : hi ≤ 1000) (hq : q ≤ t) :
    f_X10_after F k (nI lo) (nI hi) (zS U q b d s w) = (if tWl B t (tSk B t q) = strN k then some (.inl (some (.int (encO (tN B t lo hi (tSk B t (tWd B t (tSk B t q))))))), zS U (tE B t (tSk B t (tWd B t (tSk B t q)))) (tSk B t (tWd B t (tSk B t q))) d s w) else some (.inl (some (.int (-nI 1))), zS U (tWd B t (tSk B t q)) (tSk B t q) d s w)) := by
  have hs := tSk_le (B := B) hq
  have h := m_letters (b := b) (d := d) (s := s) (w := w) hF hT hq
  have h2 := m_isWord (F := F) (d := d) (s := s) (w := w) hF hk hT hs
  have h3 := m_number (F := F) (lo := lo) (hi := hi) (q := tWd B t (tSk B t q)) (b := tSk B t q) (d := d) (s := s) (w := w) hF hT hlo hhi (tWd_le hs)
  unfold f_X10_after f_X10_after_b22
  by_cases g : tWl B t (tSk B t q) = strN k
  · rw [decide_eq_true g] at h2
    rw [if_pos g]
    simp (disch := omega) only [fa_lit, nI_ad, nI_mul, nI_cl, inb_nI, nI_ltE, nI_leE, nI_eqE, nI_m1, nI_m1', m1_lt, lt_m1, m1_le, le_m1, eq_self, not_true_eq_false, not_false_eq_true, ↓reduceIte, leT, leF, ltT, ltF, eqT, eqF, decide_true, decide_false, true_and, and_true, Nat.reduceAdd, bI0_i, bI_i, bI_x, bV0_v, bV_v, bV_x, ↓bnd_e, gd_t, h, h2, bT, h3]
  · rw [decide_eq_false g] at h2
    rw [if_neg g]
    simp (disch := omega) only [fa_lit, nI_ad, nI_mul, nI_cl, inb_nI, nI_ltE, nI_leE, nI_eqE, nI_m1, nI_m1', m1_lt, lt_m1, m1_le, le_m1, eq_self, not_true_eq_false, not_false_eq_true, ↓reduceIte, leT, leF, ltT, ltF, eqT, eqF, decide_true, decide_false, true_and, and_true, Nat.reduceAdd, bI0_i, bI_i, bI_x, bV0_v, bV_v, bV_x, ↓bnd_e, gd_t, h, h2, bF]
theorem m_emits {x y : Int32} (hs : s < 400) : f_X10_emits x y (zS U q b d s w) = some (.inl none, zS U q b d (s + 1) (upd (upd w (1345 + 2 * s) x) (1345 + 2 * s + 1) y)) := by
  unfold f_X10_emits
  simp (disch := omega) only [fa_lit, nI_ad, nI_mul, nI_cl, inb_nI, nI_ltE, nI_leE, nI_eqE, nI_m1, nI_m1', m1_lt, lt_m1, m1_le, le_m1, eq_self, not_true_eq_false, not_false_eq_true, ↓reduceIte, leT, leF, ltT, ltF, eqT, eqF, decide_true, decide_false, true_and, and_true, Nat.reduceAdd, bI0_i, bI_i, bI_x, bV0_v, bV_v, bV_x, ↓bnd_e, gd_t, z_16, z_u64, z_u16]
end T
