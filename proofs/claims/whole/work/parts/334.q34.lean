/-! trips -/
section D
variable {F : Nat} {S : mS} {A : aL}
theorem eg_al_far {l : Nat} {c c' : Nat → Int32} {w : Int32} (h : AgL l c c') : ∀ {n : Nat}, farV A c l w n = farV A c' l w n
  | 0 => rfl
  | n + 1 => by
    rw [farV, farV, eg_al_far h]
    unfold swingV
    rw [eg_al_sum h]
theorem eg_al_kickF {l : Nat} {c c' : Nat → Int32} {w : Int32} (h : AgL l c c') : ∀ {m k : Nat}, kickF A c l w m k = kickF A c' l w m k
  | 0, _ => rfl
  | m + 1, k => by rw [kickF, kickF, eg_al_far h, h.2.2 1 (by omega), eg_al_kickF h]
theorem eg_al_kicks {l : Nat} {c c' : Nat → Int32} {w : Int32} (h : AgL l c c') : kicksV A c l w = kicksV A c' l w := eg_al_kickF h
/-- alike but for what is hurt, the seed and the log -/
def AgT (c d : Nat → Int32) : Prop := ∀ i, i < 86 → i ≠ 7 → i ≠ 10 → i ≠ 15 → c i = d i
theorem AgT_l {c d : Nat → Int32} {l : Nat} (h : AgT c d) (hl : l < 10) : AgL l c d :=
  ⟨h 3 (by omega) (by omega) (by omega) (by omega), h 4 (by omega) (by omega) (by omega) (by omega), fun w hw => h _ (by omega) (by omega) (by omega) (by omega)⟩
theorem AgT_str {c d : Nat → Int32} {s : Int32} (h : AgT c d) : ∀ {n : Nat}, n ≤ 6 → strV c s n = strV d s n
  | 0, _ => rfl
  | n + 1, hn => by rw [strV, strV, AgT_str h (by omega), h (66 + n * 2 + 0) (by omega) (by omega) (by omega) (by omega), h (66 + n * 2 + 1) (by omega) (by omega) (by omega) (by omega)]
theorem AgT_can {c d : Nat → Int32} {k l n : Nat} (h : AgT c d) (hk : k < 4) (hl : l < 10) (hn : n ≤ 6) : canV A c k l n = canV A d k l n := by
  unfold canV heldV loadV
  rw [AgT_str h hn, h 0 (by omega) (by omega) (by omega) (by omega), h 1 (by omega) (by omega) (by omega) (by omega), h 2 (by omega) (by omega) (by omega) (by omega), h 4 (by omega) (by omega) (by omega) (by omega), h (16 + l * 5 + 0) (by omega) (by omega) (by omega) (by omega), h (78 + k * 2 + 0) (by omega) (by omega) (by omega) (by omega), eg_al_kicks (AgT_l h hl)]
theorem AgT_fr {c d : Nat → Int32} {l : Nat} (h : AgT c d) (hl : l < 10) : eg_fr A c l = eg_fr A d l := by
  unfold eg_fr
  rw [h 1 (by omega) (by omega) (by omega) (by omega), h 4 (by omega) (by omega) (by omega) (by omega), eg_al_kicks (AgT_l h hl), eg_al_sum (AgT_l h hl)]
theorem AgT_ti {c d : Nat → Int32} (h : AgT c d) : ∀ {n : Nat}, n ≤ 6 → AgT (eg_ti c n) (eg_ti d n)
  | 0, _ => h
  | n + 1, hn => by
    have ih := AgT_ti h (n := n) (by omega)
    intro i h1 h2 h3 h4
    rw [eg_ti, eg_ti]
    by_cases e : i = 66 + n * 2 + 1
    · subst e; rw [upd_s, upd_s, ih _ h1 h2 h3 h4]
    · rw [upd_n e, upd_n e, ih i h1 h2 h3 h4]
theorem AgT_up {c d : Nat → Int32} {k : Nat} {v : Int32} (h : AgT c d) : AgT (upd c k v) (upd d k v) := by
  intro i h1 h2 h3 h4
  by_cases e : i = k
  · subst e; rw [upd_s, upd_s]
  · rw [upd_n e, upd_n e, h i h1 h2 h3 h4]
theorem eg_sub0 {x : Int32} : x - nI 0 = x := Int32.sub_zero x
theorem eg_l1_0 {c : Nat → Int32} {k l e : Nat} (hk : k < 4) (hl : l < 10) (he : e ≤ 20) (ee : c (16 + l * 5 + 2) = nI e) (hz : Az c) : eg_l1 A c k l (nI 0) = upd c 1 (eg_fr A c l) := by
  rw [← eg_mk_eq hk hl he (Nat.zero_le e) ee]
  generalize eg_fr A c l = v
  have i0 : ∀ {f : Nat → Int32} {j : Nat}, upd f j (f j) = f := upd_id rfl
  unfold eg_mk
  have e2 : (upd (upd (upd (upd (upd c 1 v) 8 (upd c 1 v 8 + nI 0)) 9 (upd c 1 v 9 + (if upd c 1 v (16 + l * 5 + 3) ≤ nI 3 then nI 0 else nI 0))) (78 + k * 2 + 1) (upd c 1 v (78 + k * 2 + 1) + nI 0)) (16 + l * 5 + 2) (upd c 1 v (16 + l * 5 + 2) - nI 0)) = upd c 1 v := by
    rw [ite_self, add_n0, add_n0, add_n0, eg_sub0, i0, i0, i0, i0]
  rw [e2, eg_sub0]
  split
  · rename_i h0
    rw [upd_n (by omega)] at h0
    have := hz l hl h0
    refine upd_id ?_
    rw [upd_n (by omega)]; exact this
  · rfl
theorem AgT_step {c d : Nat → Int32} {k l e nh : Nat} (h : AgT c d) (hk : k < 4) (hl : l < 10) (he : e ≤ 20) (ee : c (16 + l * 5 + 2) = nI e) (hz : Az c) (hnh : nh ≤ 6) : AgT (eg_le A c k l nh (nI 0)) (eg_ti (upd d 1 (eg_fr A d l)) nh) := by
  intro i h1 h2 h3 h4
  rw [eg_le_lo h1 h2 h3 h4, eg_l1_0 hk hl he ee hz, AgT_fr h hl]
  exact AgT_ti (AgT_up h) hnh i h1 h2 h3 h4
def eg_tp (A : aL) (k l nh : Nat) : Nat → Nat → (Nat → Int32) → Nat
  | 0, i, _ => i
  | m + 1, i, c => if canV A c k l nh = true then eg_tp A k l nh m (i + 1) (eg_le A c k l nh (nI 0)) else i
def eg_tm (A : aL) (k l nh : Nat) : Nat → Nat → (Nat → Int32) → Nat
  | 0, i, _ => i
  | m + 1, i, c => if canV A c k l nh = true then eg_tm A k l nh m (i + 1) (eg_ti (upd c 1 (eg_fr A c l)) nh) else i
theorem eg_ta0 {c : Nat → Int32} {l e : Nat} (he : e ≤ 20) (ee : c (16 + l * 5 + 2) = nI e) : eg_ta c l (nI 0) = nI 0 := by
  unfold eg_ta
  rw [ee, ifLt (by omega) (by omega), if_neg (by omega)]
theorem eg_tp_tm {k l nh : Nat} (hW : LW A) (hk : k < 4) (hl : l < 10) (hnh : nh ≤ 6) : ∀ {m i : Nat} {c d : Nat → Int32}, AgT c d → Rg c → Az c → eg_tp A k l nh m i c = eg_tm A k l nh m i d
  | 0, _, _, _, _, _, _ => rfl
  | m + 1, i, c, d, h, hR, hz => by
    rw [eg_tp, eg_tm, AgT_can h hk hl hnh]
    cases g : canV A d k l nh with
    | false => rfl
    | true =>
      rw [if_pos rfl, if_pos rfl]
      rw [← AgT_can h hk hl hnh] at g
      obtain ⟨e, he, ee⟩ := hR.eggs hl
      obtain ⟨j, hj, ej⟩ := eg_can g
      exact eg_tp_tm hW hk hl hnh (AgT_step h hk hl he ee hz hnh) (eg_le_rg hW hR hk hl he (Nat.zero_le e) ee hj ej hnh) (eg_le_az hz hk hl he (Nat.zero_le e) ee hnh)
theorem x_tripsL {k l nh : Nat} (hF : 6000 ≤ F) (hk : k < 4) (hl : l < 10) (hA : LX A S 3) (hW : LW A) (hnh : nh ≤ 6) : ∀ (m i f : Nat) (c p q : Nat → Int32), i + m = 99 → m < f → c 13 = nI nh → Rg c → Az c →
    ∃ c' p' q', zb c' ∧ f_X9_trips_b23 F f (nI k) (nI l) (nI i) (sX (seS S 27 c) p q) = some (.inl (some (.int (nI (eg_tp A k l nh m i c)))), sX (seS S 27 c') p' q')
  | 0, i, f + 1, c, p, q, hi, hf, enh, hR, hz => by
    have hie : i = 99 := by omega
    rw [hie]
    refine ⟨c, p, q, hR.2, ?_⟩
    rw [f_X9_trips_b23, eg_tp]
    unfold f_X9_trips_b66
    simp (disch := omega) only [fa_lit, nI_ad, nI_mul, nI_cl, inb_nI, nI_ltE, nI_leE, nI_eqE, nI_m1, nI_m1', m1_lt, lt_m1, m1_le, le_m1, eq_self, not_true_eq_false, not_false_eq_true, ↓reduceIte, leT, leF, ltT, ltF, eqT, eqF, decide_true, decide_false, true_and, and_true, Nat.reduceAdd, bI0_i, bI_i, bI_x, bV0_v, bV_v, bV_x, ↓bnd_e, gd_t, Nat.le_refl]
  | m + 1, i, f + 1, c, p, q, hi, hf, enh, hR, hz => by
    obtain ⟨p1, q1, h⟩ := x_canLet (F := F) (S := sX (seS S 27 c) p q) (u := 26) (k := k) (l := l) (n := nh) (A := A) (by omega) (by omega) hk hl (by rw [at_x (by omega) (by omega)]; exact enh) hnh (LX_sX (LX_se (by omega) hA)) hW
    rw [at_x (by omega) (by omega), sX_sX] at h
    rw [f_X9_trips_b23, eg_tp]
    unfold f_X9_trips_b66
    cases g : canV A c k l nh with
    | false =>
      refine ⟨c, p1, q1, hR.2, ?_⟩
      rw [g] at h
      simp (disch := omega) only [fa_lit, nI_ad, nI_mul, nI_cl, inb_nI, nI_ltE, nI_leE, nI_eqE, nI_m1, nI_m1', m1_lt, lt_m1, m1_le, le_m1, eq_self, not_true_eq_false, not_false_eq_true, ↓reduceIte, leT, leF, ltT, ltF, eqT, eqF, decide_true, decide_false, true_and, and_true, Nat.reduceAdd, bI0_i, bI_i, bI_x, bV0_v, bV_v, bV_x, ↓bnd_e, gd_t, h, bF, Bool.false_eq_true]
    | true =>
      rw [g] at h
      obtain ⟨e, he, ee⟩ := hR.eggs hl
      obtain ⟨j, hj, ej⟩ := eg_can g
      obtain ⟨p2, q2, h2⟩ := x_letDown (F := F) (S := S) (u := 26) (k := k) (l := l) (nh := nh) (m := nI 0) (c := c) (p := p1) (q := q1) (by omega) (by omega) hk hl hA hW hnh enh
      rw [eg_ta0 he ee] at h2
      obtain ⟨c', p3, q3, z, ih⟩ := x_tripsL hF hk hl hA hW hnh m (i + 1) f (eg_le A c k l nh (nI 0)) p2 q2 (by omega) (by omega) (by
        rw [eg_le_lo (by omega) (by omega) (by omega) (by omega), eg_ti_out (by omega) hnh, eg_l1_0 hk hl he ee hz, upd_n (by omega)]; exact enh) (eg_le_rg hW hR hk hl he (Nat.zero_le e) ee hj ej hnh) (eg_le_az hz hk hl he (Nat.zero_le e) ee hnh)
      refine ⟨c', p3, q3, z, ?_⟩
      simp (disch := omega) only [fa_lit, nI_ad, nI_mul, nI_cl, inb_nI, nI_ltE, nI_leE, nI_eqE, nI_m1, nI_m1', m1_lt, lt_m1, m1_le, le_m1, eq_self, not_true_eq_false, not_false_eq_true, ↓reduceIte, leT, leF, ltT, ltF, eqT, eqF, decide_true, decide_false, true_and, and_true, Nat.reduceAdd, bI0_i, bI_i, bI_x, bV0_v, bV_v, bV_x, ↓bnd_e, gd_t, h, bT, show f_X7_letDown F 26 (nI k) (nI l) (nI 0) (sX (seS S 27 c) p1 q1) = _ from h2]
      exact ih
theorem m_tripsL {k l nh : Nat} {w c0 : Nat → Int32} (hF : 6000 ≤ F) (hk : k < 4) (hl : l < 10) (h4 : S 67 4 = w 4) (hc : cM (S 67) = c0) (hA : LM A w) (hW : LW A) (hnh : nh ≤ 6) : ∀ (m i f : Nat) (c q : Nat → Int32) (a b : Int32), i + m = 99 → m < f → c 13 = nI nh → zb c →
    ∃ a' b' q', f_X10_trips_b27 F f (nI k) (nI l) (nI i) (sM (seS S 64 (wO w c)) a b q) = some (.inl (some (.int (nI (eg_tm A k l nh m i c)))), sM (seS S 64 (wO w c0)) a' b' q')
  | 0, i, f + 1, c, q, a, b, hi, hf, enh, hz => by
    have hie : i = 99 := by omega
    rw [hie]
    refine ⟨a, b, q, ?_⟩
    rw [f_X10_trips_b27, eg_tm]
    unfold f_X10_trips_b57
    simp (disch := omega) only [fa_lit, nI_ad, nI_mul, nI_cl, inb_nI, nI_ltE, nI_leE, nI_eqE, nI_m1, nI_m1', m1_lt, lt_m1, m1_le, le_m1, eq_self, not_true_eq_false, not_false_eq_true, ↓reduceIte, leT, leF, ltT, ltF, eqT, eqF, decide_true, decide_false, true_and, and_true, Nat.reduceAdd, bI0_i, bI_i, bI_x, bV0_v, bV_v, bV_x, ↓bnd_e, gd_t, Nat.le_refl, m_brings hF h4 hc]
  | m + 1, i, f + 1, c, q, a, b, hi, hf, enh, hz => by
    obtain ⟨a1, b1, q1, h⟩ := m_canLet (F := F) (S := sM (seS S 64 (wO w c)) a b q) (k := k) (l := l) (n := nh) (A := A) (by omega) hk hl (by rw [at_m, cM_wO hz]; exact enh) hnh (by rw [at_m]; exact LM_wO hW hA) hW
    rw [at_m, cM_wO hz, sM_sM] at h
    rw [f_X10_trips_b27, eg_tm]
    unfold f_X10_trips_b57
    cases g : canV A c k l nh with
    | false =>
      refine ⟨a1, b1, q1, ?_⟩
      rw [g] at h
      simp (disch := omega) only [fa_lit, nI_ad, nI_mul, nI_cl, inb_nI, nI_ltE, nI_leE, nI_eqE, nI_m1, nI_m1', m1_lt, lt_m1, m1_le, le_m1, eq_self, not_true_eq_false, not_false_eq_true, ↓reduceIte, leT, leF, ltT, ltF, eqT, eqF, decide_true, decide_false, true_and, and_true, Nat.reduceAdd, bI0_i, bI_i, bI_x, bV0_v, bV_v, bV_x, ↓bnd_e, gd_t, h, bF, Bool.false_eq_true, m_brings hF h4 hc]
    | true =>
      rw [g] at h
      obtain ⟨a2, b2, q2, h2⟩ := m_frays (F := F) (S := S) (l := l) (w := w) (c := c) (a := a1) (b := b1) (q := q1) (by omega) hl hz hA hW
      have e13 : upd c 1 (eg_fr A c l) 13 = nI nh := by rw [upd_n (by omega)]; exact enh
      have h3 := m_tires (F := F) (S := S) (w := w) (c := upd c 1 (eg_fr A c l)) (a := a2) (b := b2) (q := q2) (by omega) hnh e13
      obtain ⟨a3, b3, q3, ih⟩ := m_tripsL hF hk hl h4 hc hA hW hnh m (i + 1) f (eg_ti (upd c 1 (eg_fr A c l)) nh) q2 a2 b2 (by omega) (by omega) (by rw [eg_ti_out (by omega) hnh]; exact e13) (fun i hi => by rw [eg_ti_out (by omega) hnh, upd_n (by omega)]; exact hz i hi)
      refine ⟨a3, b3, q3, ?_⟩
      simp (disch := omega) only [fa_lit, nI_ad, nI_mul, nI_cl, inb_nI, nI_ltE, nI_leE, nI_eqE, nI_m1, nI_m1', m1_lt, lt_m1, m1_le, le_m1, eq_self, not_true_eq_false, not_false_eq_true, ↓reduceIte, leT, leF, ltT, ltF, eqT, eqF, decide_true, decide_false, true_and, and_true, Nat.reduceAdd, bI0_i, bI_i, bI_x, bV0_v, bV_v, bV_x, ↓bnd_e, gd_t, h, bT, h2, h3]
      exact ih
theorem ag_trips {p1 p2 : Int32} (hF : 6000 ≤ F) (hI : Inv S) : Ag (f_X9_trips F p1 p2) (f_X10_trips F p1 p2) [3] S := by
  obtain ⟨n, nh, nk, A, hn, en, hnh, enh, hnk, enk, hX, hW, hM, hR, hC⟩ := inv_b hI
  have hz := hI.2.2.2.2.2.2.2.2.2.1
  by_cases g1 : ∃ z, z < nk ∧ p1 = nI z
  · obtain ⟨k, hk, rfl⟩ := g1
    by_cases g2 : ∃ z, z < n ∧ p2 = nI z
    · obtain ⟨l, hl, rfl⟩ := g2
      refine ag_as (r := nI (eg_tp A k l nh 99 0 (S 25))) hF hI (gX := _) (gM := _) (by unfold f_X9_trips; rw [x_needClimber hnk enk hk, bV_v, x_needLedge hn en hl, bV_v]) (fun T U hU h64 => by
        have en' : cM (U 64) 12 = nI n := by rw [h64, hC]; exact en
        have enk' : cM (U 64) 14 = nI nk := by rw [h64, hC]; exact enk
        unfold f_X10_trips; rw [bnd_e, show upS T 63 0 (0 : Int32) = U from hU.symm]
        simp (disch := omega) only [fa_lit, nI_ad, nI_mul, nI_cl, inb_nI, nI_ltE, nI_leE, nI_eqE, nI_m1, nI_m1', m1_lt, lt_m1, m1_le, le_m1, eq_self, not_true_eq_false, not_false_eq_true, ↓reduceIte, leT, leF, ltT, ltF, eqT, eqF, decide_true, decide_false, true_and, and_true, Nat.reduceAdd, bI0_i, bI_i, bI_x, bV0_v, bV_v, bV_x, ↓bnd_e, gd_t, m_noBoth hn en' hl hnk enk' hk, m_throw0]
        rfl) (fun p q => ?_) (fun U a b q h4 hc => ?_)
      · exact x_tripsL (F := F) (S := S) hF (by omega) (by omega) hX hW hnh 99 0 F (S 25) p q (by omega) (by omega) enh hR hz
      · have h := m_tripsL (F := F) (S := U) (k := k) (l := l) (w := S 64) hF (by omega) (by omega) h4 hc hM hW hnh 99 0 F (S 25) q a b (by omega) (by omega) enh hR.2
        rw [← eg_tp_tm (c := S 25) hW (by omega : k < 4) (by omega : l < 10) hnh (fun i _ _ _ _ => rfl) hR hz] at h
        exact h
    · refine ag_exc (b := nI 0) hI 0 rfl (by omega) ?_ (fun T U hU h64 => ?_)
      · unfold f_X9_trips
        simp (disch := omega) only [fa_lit, nI_ad, nI_mul, nI_cl, inb_nI, nI_ltE, nI_leE, nI_eqE, nI_m1, nI_m1', m1_lt, lt_m1, m1_le, le_m1, eq_self, not_true_eq_false, not_false_eq_true, ↓reduceIte, leT, leF, ltT, ltF, eqT, eqF, decide_true, decide_false, true_and, and_true, Nat.reduceAdd, bI0_i, bI_i, bI_x, bV0_v, bV_v, bV_x, ↓bnd_e, gd_t, x_needClimber hnk enk hk, x_needLedge_x hn en g2]
      · have en' : cM (U 64) 12 = nI n := by rw [h64, hC]; exact en
        have enk' : cM (U 64) 14 = nI nk := by rw [h64, hC]; exact enk
        unfold f_X10_trips; rw [bnd_e, show upS T 63 0 (0 : Int32) = U from hU.symm]
        simp (disch := omega) only [fa_lit, nI_ad, nI_mul, nI_cl, inb_nI, nI_ltE, nI_leE, nI_eqE, nI_m1, nI_m1', m1_lt, lt_m1, m1_le, le_m1, eq_self, not_true_eq_false, not_false_eq_true, ↓reduceIte, leT, leF, ltT, ltF, eqT, eqF, decide_true, decide_false, true_and, and_true, Nat.reduceAdd, bI0_i, bI_i, bI_x, bV0_v, bV_v, bV_x, ↓bnd_e, gd_t, m_noBoth_l hnk enk' hk hn en' g2, m_throw]
  · refine ag_exc (b := nI 0) hI 0 rfl (by omega) ?_ (fun T U hU h64 => ?_)
    · unfold f_X9_trips
      simp (disch := omega) only [fa_lit, nI_ad, nI_mul, nI_cl, inb_nI, nI_ltE, nI_leE, nI_eqE, nI_m1, nI_m1', m1_lt, lt_m1, m1_le, le_m1, eq_self, not_true_eq_false, not_false_eq_true, ↓reduceIte, leT, leF, ltT, ltF, eqT, eqF, decide_true, decide_false, true_and, and_true, Nat.reduceAdd, bI0_i, bI_i, bI_x, bV0_v, bV_v, bV_x, ↓bnd_e, gd_t, x_needClimber_x hnk enk g1]
    · have enk' : cM (U 64) 14 = nI nk := by rw [h64, hC]; exact enk
      unfold f_X10_trips; rw [bnd_e, show upS T 63 0 (0 : Int32) = U from hU.symm]
      simp (disch := omega) only [fa_lit, nI_ad, nI_mul, nI_cl, inb_nI, nI_ltE, nI_leE, nI_eqE, nI_m1, nI_m1', m1_lt, lt_m1, m1_le, le_m1, eq_self, not_true_eq_false, not_false_eq_true, ↓reduceIte, leT, leF, ltT, ltF, eqT, eqF, decide_true, decide_false, true_and, and_true, Nat.reduceAdd, bI0_i, bI_i, bI_x, bV0_v, bV_v, bV_x, ↓bnd_e, gd_t, m_noBoth_k hnk enk' g1, m_throw]
end D
