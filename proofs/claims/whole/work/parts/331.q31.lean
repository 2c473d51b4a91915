/-! lasts, recovers -/
section D
variable {F : Nat} {S : mS} {A : aL}
def eg_la (e b : Nat) : Nat → Nat → Nat → Nat
  | 0, i, _ => i
  | m + 1, i, f => if b ≤ f then i else eg_la e b m (i + 1) (f + e)
def eg_lm (e b : Nat) (i f : Nat) : Nat := if b ≤ f then i else if e = 0 then 99 else if i + ((b - f - 1) / e + 1) < 99 then i + ((b - f - 1) / e + 1) else 99
theorem eg_la_lm {e b : Nat} : ∀ {m i f : Nat}, i + m = 99 → eg_la e b m i f = (if 99 ≤ i then 99 else eg_lm e b i f)
  | 0, i, f, h => by
    rw [eg_la, if_pos (by omega)]; omega
  | m + 1, i, f, h => by
    rw [show (if 99 ≤ i then 99 else eg_lm e b i f) = eg_lm e b i f from if_neg (by omega), eg_la]
    unfold eg_lm
    by_cases g : b ≤ f
    · rw [if_pos g, if_pos g]
    · rw [if_neg g, if_neg g, eg_la_lm (by omega)]
      unfold eg_lm
      by_cases g0 : e = 0
      · subst g0
        simp only [Nat.add_zero, g, eq_self, ↓reduceIte, ite_self]
      · rw [if_neg g0, if_neg g0]
        by_cases g1 : b ≤ f + e
        · have hd : (b - f - 1) / e = 0 := Nat.div_eq_of_lt (by omega)
          rw [hd, if_pos g1]
          by_cases g2 : 99 ≤ i + 1
          · rw [if_pos g2, if_neg (by omega)]
          · rw [if_neg g2, if_pos (by omega)]
        · have hd : (b - f - 1) / e = (b - (f + e) - 1) / e + 1 := by
            rw [Nat.div_eq_sub_div (by omega) (by omega)]
            congr 2; omega
          rw [hd, if_neg g1]
          generalize (b - (f + e) - 1) / e = d
          by_cases g2 : 99 ≤ i + 1
          · rw [if_pos g2, if_neg (by omega)]
          · rw [if_neg g2]
            by_cases g3 : i + 1 + (d + 1) < 99
            · rw [if_pos g3, if_pos (by omega)]; omega
            · rw [if_neg g3, if_neg (by omega)]
theorem x_lastsL {e b : Nat} (he : e ≤ 300) (hb : b ≤ 999) (eb : S 25 2 = nI b) : ∀ (m i k f : Nat), i + m = 99 → m < k → f ≤ 1000 + 300 * i →
    f_X9_lasts_b63 F k (nI e) (nI f) (nI i) S = some (.inl (some (.int (nI (eg_la e b m i f)))), S)
  | 0, i, k + 1, f, hi, hk, hf => by
    have hie : i = 99 := by omega
    rw [hie, f_X9_lasts_b63, eg_la]
    unfold f_X9_lasts_b96
    simp (disch := omega) only [fa_lit, nI_ad, nI_mul, nI_cl, inb_nI, nI_ltE, nI_leE, nI_eqE, nI_m1, nI_m1', m1_lt, lt_m1, m1_le, le_m1, eq_self, not_true_eq_false, not_false_eq_true, ↓reduceIte, leT, leF, ltT, ltF, eqT, eqF, decide_true, decide_false, true_and, and_true, Nat.reduceAdd, bI0_i, bI_i, bI_x, bV0_v, bV_v, bV_x, ↓bnd_e, gd_t, Nat.le_refl]
  | m + 1, i, k + 1, f, hi, hk, hf => by
    have ih := x_lastsL he hb eb m (i + 1) k (f + e) (by omega) (by omega) (by omega)
    rw [f_X9_lasts_b63, eg_la]
    unfold f_X9_lasts_b96
    by_cases g : b ≤ f
    · simp (disch := omega) only [fa_lit, nI_ad, nI_mul, nI_cl, inb_nI, nI_ltE, nI_leE, nI_eqE, nI_m1, nI_m1', m1_lt, lt_m1, m1_le, le_m1, eq_self, not_true_eq_false, not_false_eq_true, ↓reduceIte, leT, leF, ltT, ltF, eqT, eqF, decide_true, decide_false, true_and, and_true, Nat.reduceAdd, bI0_i, bI_i, bI_x, bV0_v, bV_v, bV_x, ↓bnd_e, gd_t, x_at, eb, g]
    · simp (disch := omega) only [fa_lit, nI_ad, nI_mul, nI_cl, inb_nI, nI_ltE, nI_leE, nI_eqE, nI_m1, nI_m1', m1_lt, lt_m1, m1_le, le_m1, eq_self, not_true_eq_false, not_false_eq_true, ↓reduceIte, leT, leF, ltT, ltF, eqT, eqF, decide_true, decide_false, true_and, and_true, Nat.reduceAdd, bI0_i, bI_i, bI_x, bV0_v, bV_v, bV_x, ↓bnd_e, gd_t, x_at, eb, g]
      exact ih
theorem ag_lasts {p1 p2 : Int32} (hF : 6000 ≤ F) (hI : Inv S) : Ag (f_X9_lasts F p1 p2) (f_X10_lasts F p1 p2) [3, 1] S := by
  refine ag_ro hI (fun n nh nk A hn en hnh enh hnk enk hX hW hR => ?_)
  obtain ⟨fr, hfr, efr⟩ := hR.1 1 999 rfl
  obtain ⟨be, hbe, ebe⟩ := hR.1 2 999 rfl
  by_cases g1 : ∃ l, l < n ∧ p1 = nI l
  · obtain ⟨l, hl, rfl⟩ := g1
    by_cases g : nI 0 ≤ p2 ∧ p2 ≤ nI 9
    · have gd1 : decide (nI 0 ≤ p2 ∧ p2 ≤ nI 9) = true := decide_eq_true g
      obtain ⟨w, hw0, hw, rfl⟩ := withinN (by omega) g (by omega)
      obtain ⟨pp, qq, hk⟩ := x_kicksTo (F := F) (S := S) (u := 24) (wind := nI w) (by omega) (by omega) (by omega : l < 10) hX hW
      obtain ⟨pp2, qq2, hwr⟩ := x_wearAt (F := F) (S := sX S pp qq) (u := 24) (wind := nI w) (by omega) (by omega) (by omega : l < 10) (LX_sX hX) hW
      rw [sX_n (by omega) (by omega), sX_sX] at hwr
      obtain ⟨y, hy, ey⟩ := sumV_rng (A := A) (kind := 1) (l := l) (c := S 25) (kick := nI 0) (wind := nI w) hW
      rcases kicksV_cases (A := A) (c := S 25) (l := l) (wind := nI w) with hc | ⟨j, hj, hc⟩
      · refine ⟨.inl (some (.int (-nI 1))), ⟨pp, qq, ?_⟩, fun U hC hM => ?_⟩
        · unfold f_X9_lasts
          simp (disch := omega) only [fa_lit, nI_ad, nI_mul, nI_cl, inb_nI, nI_ltE, nI_leE, nI_eqE, nI_m1, nI_m1', m1_lt, lt_m1, m1_le, le_m1, eq_self, not_true_eq_false, not_false_eq_true, ↓reduceIte, leT, leF, ltT, ltF, eqT, eqF, decide_true, decide_false, true_and, and_true, Nat.reduceAdd, bI0_i, bI_i, bI_x, bV0_v, bV_v, bV_x, ↓bnd_e, gd_t, x_needLedge hn en hl, x_need g, hk, hc]
        · have en' : cM (U 64) 12 = nI n := by rw [hC]; exact en
          obtain ⟨a, b, q, hk'⟩ := m_kicksTo (F := F) (S := U) (wind := nI w) (by omega) (by omega : l < 10) hM hW
          rw [hC, hc] at hk'
          have n0 : ¬ nI 0 ≤ -nI 1 := by decide
          refine res_ok (a := a) (b' := b) (q := q) fun T hU => ?_
          unfold f_X10_lasts f_X10_lasts_b30; rw [bnd_e, show upS T 63 0 (0 : Int32) = U from hU.symm]
          simp (disch := omega) only [fa_lit, nI_ad, nI_mul, nI_cl, inb_nI, nI_ltE, nI_leE, nI_eqE, nI_m1, nI_m1', m1_lt, lt_m1, m1_le, le_m1, eq_self, not_true_eq_false, not_false_eq_true, ↓reduceIte, leT, leF, ltT, ltF, eqT, eqF, decide_true, decide_false, true_and, and_true, Nat.reduceAdd, bI0_i, bI_i, bI_x, bV0_v, bV_v, bV_x, ↓bnd_e, gd_t, m_noLedge hn en' hl, m_noWind, gd1, Bool.not_true, bF, m_throw0, hk', n0]
      · have hl2 := x_lastsL (F := F) (S := sX S pp2 qq2) (e := j + y) (b := be) (by omega) hbe (by rw [sX_n (by omega) (by omega)]; exact ebe) 99 0 F fr (by omega) (by omega) (by omega)
        rw [eg_la_lm (by omega), if_neg (by omega)] at hl2
        refine ⟨.inl (some (.int (nI (eg_lm (j + y) be 0 fr)))), ⟨pp2, qq2, ?_⟩, fun U hC hM => ?_⟩
        · unfold f_X9_lasts
          simp (disch := omega) only [fa_lit, nI_ad, nI_mul, nI_cl, inb_nI, nI_ltE, nI_leE, nI_eqE, nI_m1, nI_m1', m1_lt, lt_m1, m1_le, le_m1, eq_self, not_true_eq_false, not_false_eq_true, ↓reduceIte, leT, leF, ltT, ltF, eqT, eqF, decide_true, decide_false, true_and, and_true, Nat.reduceAdd, bI0_i, bI_i, bI_x, bV0_v, bV_v, bV_x, ↓bnd_e, gd_t, x_needLedge hn en hl, x_need g, hk, hc, hwr, ey, x_at, sX_n, efr]
          exact hl2
        · have en' : cM (U 64) 12 = nI n := by rw [hC]; exact en
          obtain ⟨a, b, q, hk'⟩ := m_kicksTo (F := F) (S := U) (wind := nI w) (by omega) (by omega : l < 10) hM hW
          rw [hC, hc] at hk'
          obtain ⟨a2, b2, q2, hw'⟩ := m_wearOf (F := F) (S := sM U a b q) (wind := nI w) (by omega) (by omega : l < 10) (by rw [sM64]; exact hM) hW
          rw [sM64, hC, ey, sM_sM] at hw'
          have e9 : (sM U a2 b2 q2) 64 9 = nI be := by rw [sM64, w9 (U 64), hC, ebe]
          have e8 : (sM U a2 b2 q2) 64 8 = nI fr := by rw [sM64, w8 (U 64), hC, efr]
          refine res_ok (a := a2) (b' := b2) (q := q2) fun T hU => ?_
          unfold f_X10_lasts f_X10_lasts_b30 f_X10_lasts_b110; rw [bnd_e, show upS T 63 0 (0 : Int32) = U from hU.symm]
          simp (disch := omega) only [fa_lit, nI_ad, nI_mul, nI_cl, inb_nI, nI_ltE, nI_leE, nI_eqE, nI_m1, nI_m1', m1_lt, lt_m1, m1_le, le_m1, eq_self, not_true_eq_false, not_false_eq_true, ↓reduceIte, leT, leF, ltT, ltF, eqT, eqF, decide_true, decide_false, true_and, and_true, Nat.reduceAdd, bI0_i, bI_i, bI_x, bV0_v, bV_v, bV_x, ↓bnd_e, gd_t, m_noLedge hn en' hl, m_noWind, gd1, Bool.not_true, bF, m_throw0, hk', hw', e9, e8]
          unfold eg_lm
          by_cases g2 : be ≤ fr
          · have e0 : (if nI 0 < nI be - nI fr then nI be - nI fr else nI 0) = nI 0 := by
              by_cases g3 : be = fr
              · subst g3
                rw [nI_sub (Nat.le_refl be), Nat.sub_self]; rfl
              · have : ¬ nI 0 < nI be - nI fr := by
                  rw [Int32.lt_iff_toInt_lt, nI_toInt (by omega)]
                  have e : nI be - nI fr = -(nI (fr - be)) := by
                    rw [← nI_sub (by omega), Int32.neg_sub]
                  rw [e, Int32.toInt_neg, nI_toInt (by omega), Int.bmod_eq_of_le (by omega) (by omega)]
                  omega
                rw [if_neg this]
            rw [e0]
            simp (disch := omega) only [fa_lit, nI_ad, nI_mul, nI_cl, inb_nI, nI_ltE, nI_leE, nI_eqE, nI_m1, nI_m1', m1_lt, lt_m1, m1_le, le_m1, eq_self, not_true_eq_false, not_false_eq_true, ↓reduceIte, leT, leF, ltT, ltF, eqT, eqF, decide_true, decide_false, true_and, and_true, Nat.reduceAdd, bI0_i, bI_i, bI_x, bV0_v, bV_v, bV_x, ↓bnd_e, gd_t, g2]
          · have e0 : (if nI 0 < nI be - nI fr then nI be - nI fr else nI 0) = nI (be - fr) := by
              rw [nI_sub (by omega), ifLt (by omega) (by omega), if_pos (by omega)]
            rw [e0]
            by_cases g4 : j + y = 0
            · have hb0 : ¬ be - fr = 0 := by omega
              simp (disch := omega) only [fa_lit, nI_ad, nI_mul, nI_cl, inb_nI, nI_ltE, nI_leE, nI_eqE, nI_m1, nI_m1', m1_lt, lt_m1, m1_le, le_m1, eq_self, not_true_eq_false, not_false_eq_true, ↓reduceIte, leT, leF, ltT, ltF, eqT, eqF, decide_true, decide_false, true_and, and_true, Nat.reduceAdd, bI0_i, bI_i, bI_x, bV0_v, bV_v, bV_x, ↓bnd_e, gd_t, g2, g4, hb0]
            · have hb0 : ¬ be - fr = 0 := by omega
              have hs : nI (be - fr + (j + y)) - nI 1 = nI (be - fr - 1 + (j + y)) := by
                rw [nI_sub (by omega)]; congr 1; omega
              have hdv : (be - fr - 1 + (j + y)) / (j + y) = (be - fr - 1) / (j + y) + 1 := Nat.add_div_right _ (by omega)
              have hdl : (be - fr - 1) / (j + y) ≤ be - fr - 1 := Nat.div_le_self _ _
              simp (disch := omega) only [fa_lit, nI_ad, nI_mul, nI_cl, inb_nI, nI_ltE, nI_leE, nI_eqE, nI_m1, nI_m1', m1_lt, lt_m1, m1_le, le_m1, eq_self, not_true_eq_false, not_false_eq_true, ↓reduceIte, leT, leF, ltT, ltF, eqT, eqF, decide_true, decide_false, true_and, and_true, Nat.reduceAdd, bI0_i, bI_i, bI_x, bV0_v, bV_v, bV_x, ↓bnd_e, gd_t, g2, g4, hb0, hs, nI_div, hdv, Nat.zero_add]
              split <;> rfl
    · have gd1 : decide (nI 0 ≤ p2 ∧ p2 ≤ nI 9) = false := decide_eq_false g
      refine ⟨.inr 1, idX ?_, fun U hC hM => res_ex (b := nI 0) 1 rfl (by omega) fun T hU => ?_⟩
      · unfold f_X9_lasts
        simp (disch := omega) only [fa_lit, nI_ad, nI_mul, nI_cl, inb_nI, nI_ltE, nI_leE, nI_eqE, nI_m1, nI_m1', m1_lt, lt_m1, m1_le, le_m1, eq_self, not_true_eq_false, not_false_eq_true, ↓reduceIte, leT, leF, ltT, ltF, eqT, eqF, decide_true, decide_false, true_and, and_true, Nat.reduceAdd, bI0_i, bI_i, bI_x, bV0_v, bV_v, bV_x, ↓bnd_e, gd_t, x_needLedge hn en hl, x_need_x g]
      · have en' : cM (U 64) 12 = nI n := by rw [hC]; exact en
        unfold f_X10_lasts f_X10_lasts_b30; rw [bnd_e, show upS T 63 0 (0 : Int32) = U from hU.symm]
        simp (disch := omega) only [fa_lit, nI_ad, nI_mul, nI_cl, inb_nI, nI_ltE, nI_leE, nI_eqE, nI_m1, nI_m1', m1_lt, lt_m1, m1_le, le_m1, eq_self, not_true_eq_false, not_false_eq_true, ↓reduceIte, leT, leF, ltT, ltF, eqT, eqF, decide_true, decide_false, true_and, and_true, Nat.reduceAdd, bI0_i, bI_i, bI_x, bV0_v, bV_v, bV_x, ↓bnd_e, gd_t, m_noLedge hn en' hl, m_noWind, gd1, Bool.not_false, bT, m_throw0, m_throw]
  · refine ⟨.inr 3, idX ?_, fun U hC hM => res_ex (b := nI 0) 0 rfl (by omega) fun T hU => ?_⟩
    · unfold f_X9_lasts
      simp (disch := omega) only [fa_lit, nI_ad, nI_mul, nI_cl, inb_nI, nI_ltE, nI_leE, nI_eqE, nI_m1, nI_m1', m1_lt, lt_m1, m1_le, le_m1, eq_self, not_true_eq_false, not_false_eq_true, ↓reduceIte, leT, leF, ltT, ltF, eqT, eqF, decide_true, decide_false, true_and, and_true, Nat.reduceAdd, bI0_i, bI_i, bI_x, bV0_v, bV_v, bV_x, ↓bnd_e, gd_t, x_needLedge_x hn en g1]
    · have en' : cM (U 64) 12 = nI n := by rw [hC]; exact en
      unfold f_X10_lasts f_X10_lasts_b30; rw [bnd_e, show upS T 63 0 (0 : Int32) = U from hU.symm]
      simp (disch := omega) only [fa_lit, nI_ad, nI_mul, nI_cl, inb_nI, nI_ltE, nI_leE, nI_eqE, nI_m1, nI_m1', m1_lt, lt_m1, m1_le, le_m1, eq_self, not_true_eq_false, not_false_eq_true, ↓reduceIte, leT, leF, ltT, ltF, eqT, eqF, decide_true, decide_false, true_and, and_true, Nat.reduceAdd, bI0_i, bI_i, bI_x, bV0_v, bV_v, bV_x, ↓bnd_e, gd_t, m_noLedge_x hn en' g1, m_throw]
/-- holders that rest for some days -/
def eg_es (c : Nat → Int32) (nh : Nat) : Nat → Nat → Int32
  | 0 => c
  | i + 1 => easeC (eg_es c nh i) nh
theorem eg_es_out {c : Nat → Int32} {nh j : Nat} (hnh : nh ≤ 6) (h : j < 66 ∨ 78 ≤ j) : ∀ {i : Nat}, eg_es c nh i j = c j
  | 0 => by rw [eg_es]
  | i + 1 => by rw [eg_es, easeC_out h hnh, eg_es_out hnh h]
theorem eg_es_rg {c : Nat → Int32} {nh : Nat} (hnh : nh ≤ 6) (hR : Rg c) : ∀ {i : Nat}, Rg (eg_es c nh i)
  | 0 => by rw [eg_es]; exact hR
  | i + 1 => by rw [eg_es]; exact easeC_rg (eg_es_rg hnh hR) hnh
theorem eg_ease_hi {c : Nat → Int32} {j : Nat} : ∀ {i : Nat}, (∀ h, h < i → j ≠ 66 + h * 2 + 1) → easeC c i j = c j
  | 0, _ => by rw [easeC]
  | i + 1, hh => by rw [easeC, upd_n (hh i (by omega)), eg_ease_hi (fun h q => hh h (by omega))]
theorem eg_ease_at {c : Nat → Int32} {h : Nat} : ∀ {i : Nat}, h < i → easeC c i (66 + h * 2 + 1) = max0 (c (66 + h * 2 + 1) - nI 2)
  | 0, hh => absurd hh (by omega)
  | i + 1, hh => by
    rw [easeC]
    by_cases e : h = i
    · subst e; rw [upd_s, eg_ease_hi (fun h q => by omega)]
    · rw [upd_n (by omega), eg_ease_at (by omega)]
theorem eg_es_s {c : Nat → Int32} {nh h : Nat} (hnh : nh ≤ 6) (hh : h < nh) : ∀ {i : Nat}, eg_es c nh i (66 + h * 2 + 0) = c (66 + h * 2 + 0)
  | 0 => by rw [eg_es]
  | i + 1 => by rw [eg_es, eg_ease_hi (fun h q => by omega), eg_es_s hnh hh]
theorem eg_m2 : ∀ t, t < 10 → max0 (nI t - nI 2) = nI (t - 2) := by decide
theorem eg_es_t {c : Nat → Int32} {nh h t : Nat} (hnh : nh ≤ 6) (hh : h < nh) (ht : t ≤ 9) (et : c (66 + h * 2 + 1) = nI t) : ∀ {i : Nat}, eg_es c nh i (66 + h * 2 + 1) = nI (t - 2 * i)
  | 0 => by rw [eg_es, et]; rfl
  | i + 1 => by
    rw [eg_es, eg_ease_at hh, eg_es_t hnh hh ht et, eg_m2 _ (by omega)]
    congr 1
theorem eg_mt : ∀ i, i < 6 → ∀ t, t < 10 → (if nI 0 < nI t - nI (2 * i) then nI t - nI (2 * i) else nI 0) = nI (t - 2 * i) := by decide
theorem x_recL {k l nh : Nat} {c p q : Nat → Int32} (hF : 6000 ≤ F) (hk : k < 4) (hl : l < 10) (hnh : nh ≤ 6) (enh : c 13 = nI nh) (hR : Rg c) : ∀ (m i f : Nat), i + m = 6 → m < f →
    ∃ c', zb c' ∧ f_X9_recovers_b23 F f (nI k) (nI l) (nI i) (sX (seS S 27 c') p q) = f_X9_recovers_b23 F f (nI k) (nI l) (nI i) (sX (seS S 27 c') p q) ∧ f_X9_recovers_b23 F f (nI k) (nI l) (nI i) (sX (seS S 27 (eg_es c nh i)) p q) = some (.inl (some (.int (whF (fun i => heldV (eg_es c nh i) k l (-nI 1) nh) m i))), sX (seS S 27 c') p q)
  | 0, i, f + 1, hi, hf => by
    have hie : i = 6 := by omega
    rw [hie]
    refine ⟨_, (eg_es_rg hnh hR (i := 6)).2, rfl, ?_⟩
    rw [f_X9_recovers_b23, whF]
    simp (disch := omega) only [fa_lit, nI_ad, nI_mul, nI_cl, inb_nI, nI_ltE, nI_leE, nI_eqE, nI_m1, nI_m1', m1_lt, lt_m1, m1_le, le_m1, eq_self, not_true_eq_false, not_false_eq_true, ↓reduceIte, leT, leF, ltT, ltF, eqT, eqF, decide_true, decide_false, true_and, and_true, Nat.reduceAdd, bI0_i, bI_i, bI_x, bV0_v, bV_v, bV_x, ↓bnd_e, gd_t]
  | m + 1, i, f + 1, hi, hf => by
    have e13 : eg_es c nh i 13 = nI nh := by rw [eg_es_out hnh (by omega)]; exact enh
    have hh := x_isHeldByAll (F := F) (S := sX (seS S 27 (eg_es c nh i)) p q) (u := 26) (k := k) (l := l) (n := nh) (by omega) hk hl (by rw [at_x (by omega) (by omega)]; exact e13) hnh
    rw [at_x (by omega) (by omega)] at hh
    have he := x_easeHolders (F := F) (S := S) (u := 26) (p := p) (q := q) (c := eg_es c nh i) (by omega) (by omega) hnh e13
    rw [whF, f_X9_recovers_b23]
    cases g : heldV (eg_es c nh i) k l (-nI 1) nh with
    | false =>
      obtain ⟨c', z, -, ih⟩ := x_recL (p := p) (q := q) hF hk hl hnh enh hR m (i + 1) f (by omega) (by omega)
      refine ⟨c', z, rfl, ?_⟩
      rw [eg_es] at ih
      simp (disch := omega) only [fa_lit, nI_ad, nI_mul, nI_cl, inb_nI, nI_ltE, nI_leE, nI_eqE, nI_m1, nI_m1', m1_lt, lt_m1, m1_le, le_m1, eq_self, not_true_eq_false, not_false_eq_true, ↓reduceIte, leT, leF, ltT, ltF, eqT, eqF, decide_true, decide_false, true_and, and_true, Nat.reduceAdd, bI0_i, bI_i, bI_x, bV0_v, bV_v, bV_x, ↓bnd_e, gd_t, hh, g, bF, Bool.false_eq_true, show f_X7_easeHolders F 26 (sX (seS S 27 (eg_es c nh i)) p q) = _ from he]
      exact ih
    | true =>
      refine ⟨_, (eg_es_rg hnh hR (i := i)).2, rfl, ?_⟩
      simp (disch := omega) only [fa_lit, nI_ad, nI_mul, nI_cl, inb_nI, nI_ltE, nI_leE, nI_eqE, nI_m1, nI_m1', m1_lt, lt_m1, m1_le, le_m1, eq_self, not_true_eq_false, not_false_eq_true, ↓reduceIte, leT, leF, ltT, ltF, eqT, eqF, decide_true, decide_false, true_and, and_true, Nat.reduceAdd, bI0_i, bI_i, bI_x, bV0_v, bV_v, bV_x, ↓bnd_e, gd_t, hh, g, bT]
theorem eg_strs {c : Nat → Int32} {h : Nat} (hh : h < 6) : strV c (-nI 1) (h + 1) = strV c (-nI 1) h + max0 (c (66 + h * 2 + 0) - c (66 + h * 2 + 1)) := by
  rw [strV, has_m1 h (by omega), if_pos rfl]
theorem m_recI {k l nh i : Nat} {K : Int32 → Int32 → Int32 → mS → Option mR} {c : Nat → Int32} (hF : 6000 ≤ F) (hk : k < 4) (hl : l < 10) (hi6 : i < 6) (hnh : nh ≤ 6) (hC : cM (S 64) = c) (enh : c 13 = nI nh) (hR : Rg c) : ∀ (m h f : Nat), h + m = nh → m < f →
    f_X10_recovers_b34 K F f (nI k) (nI l) (nI i) (strV (eg_es c nh i) (-nI 1) h) (nI h) S = (if heldV (eg_es c nh i) k l (-nI 1) nh = true then some (.inl (some (.int (nI i))), S) else K (nI k) (nI l) (nI (i + 1)) S)
  | 0, h, f + 1, hh, hf => by
    have hie : h = nh := by omega
    subst hie
    have el : loadV (eg_es c h i) k l = loadV c k l := by
      unfold loadV; rw [eg_es_out hnh (by omega), eg_es_out hnh (by omega)]
    rw [f_X10_recovers_b34]
    unfold heldV
    rw [el]
    by_cases g : strV (eg_es c h i) (-nI 1) h < loadV c k l
    · simp (disch := omega) only [fa_lit, nI_ad, nI_mul, nI_cl, inb_nI, nI_ltE, nI_leE, nI_eqE, nI_m1, nI_m1', m1_lt, lt_m1, m1_le, le_m1, eq_self, not_true_eq_false, not_false_eq_true, ↓reduceIte, leT, leF, ltT, ltF, eqT, eqF, decide_true, decide_false, true_and, and_true, Nat.reduceAdd, bI0_i, bI_i, bI_x, bV0_v, bV_v, bV_x, ↓bnd_e, gd_t, m_holders, hC, enh, Nat.le_refl, m_loadOf, g, Bool.false_eq_true]
    · simp (disch := omega) only [fa_lit, nI_ad, nI_mul, nI_cl, inb_nI, nI_ltE, nI_leE, nI_eqE, nI_m1, nI_m1', m1_lt, lt_m1, m1_le, le_m1, eq_self, not_true_eq_false, not_false_eq_true, ↓reduceIte, leT, leF, ltT, ltF, eqT, eqF, decide_true, decide_false, true_and, and_true, Nat.reduceAdd, bI0_i, bI_i, bI_x, bV0_v, bV_v, bV_x, ↓bnd_e, gd_t, m_holders, hC, enh, Nat.le_refl, m_loadOf, g]
  | m + 1, h, f + 1, hh, hf => by
    obtain ⟨t, ht, et⟩ := hR.hold (show h < 6 by omega) (show 1 < 2 by omega)
    have ih := m_recI (K := K) hF hk hl hi6 hnh hC enh hR m (h + 1) f (by omega) (by omega)
    rw [eg_strs (by omega), eg_es_s hnh (by omega), eg_es_t hnh (by omega) ht et] at ih
    unfold max0 at ih
    rw [f_X10_recovers_b34]
    have e := eg_mt i hi6 t (by omega)
    simp (disch := omega) only [fa_lit, nI_ad, nI_mul, nI_cl, inb_nI, nI_ltE, nI_leE, nI_eqE, nI_m1, nI_m1', m1_lt, lt_m1, m1_le, le_m1, eq_self, not_true_eq_false, not_false_eq_true, ↓reduceIte, leT, leF, ltT, ltF, eqT, eqF, decide_true, decide_false, true_and, and_true, Nat.reduceAdd, bI0_i, bI_i, bI_x, bV0_v, bV_v, bV_x, ↓bnd_e, gd_t, m_holders, hC, enh, m_ofHolder, et, e]
    exact ih
theorem m_recL {k l nh : Nat} {c : Nat → Int32} (hF : 6000 ≤ F) (hk : k < 4) (hl : l < 10) (hnh : nh ≤ 6) (hC : cM (S 64) = c) (enh : c 13 = nI nh) (hR : Rg c) : ∀ (m i f : Nat), i + m = 6 → m < f →
    f_X10_recovers_b23 F f (nI k) (nI l) (nI i) S = some (.inl (some (.int (whF (fun i => heldV (eg_es c nh i) k l (-nI 1) nh) m i))), S)
  | 0, i, f + 1, hi, hf => by
    have hie : i = 6 := by omega
    rw [hie, f_X10_recovers_b23, whF]
    simp (disch := omega) only [fa_lit, nI_ad, nI_mul, nI_cl, inb_nI, nI_ltE, nI_leE, nI_eqE, nI_m1, nI_m1', m1_lt, lt_m1, m1_le, le_m1, eq_self, not_true_eq_false, not_false_eq_true, ↓reduceIte, leT, leF, ltT, ltF, eqT, eqF, decide_true, decide_false, true_and, and_true, Nat.reduceAdd, bI0_i, bI_i, bI_x, bV0_v, bV_v, bV_x, ↓bnd_e, gd_t]
  | m + 1, i, f + 1, hi, hf => by
    have ih := m_recL hF hk hl hnh hC enh hR m (i + 1) f (by omega) (by omega)
    have h := m_recI (F := F) (S := S) (k := k) (l := l) (i := i) (K := fun x1 x2 x3 S => f_X10_recovers_b23 F f x1 x2 x3 S) hF hk hl (by omega) hnh hC enh hR nh 0 F (by omega) (by omega)
    rw [f_X10_recovers_b23, whF]
    simp (disch := omega) only [fa_lit, nI_ad, nI_mul, nI_cl, inb_nI, nI_ltE, nI_leE, nI_eqE, nI_m1, nI_m1', m1_lt, lt_m1, m1_le, le_m1, eq_self, not_true_eq_false, not_false_eq_true, ↓reduceIte, leT, leF, ltT, ltF, eqT, eqF, decide_true, decide_false, true_and, and_true, Nat.reduceAdd, bI0_i, bI_i, bI_x, bV0_v, bV_v, bV_x, ↓bnd_e, gd_t]
    refine Eq.trans h ?_
    cases g : heldV (eg_es c nh i) k l (-nI 1) nh with
    | false => rw [if_neg (by simp), if_neg (by simp)]; exact ih
    | true => rw [if_pos rfl, if_pos rfl]
theorem ag_recovers {p1 p2 : Int32} (hF : 6000 ≤ F) (hI : Inv S) : Ag (f_X9_recovers F p1 p2) (f_X10_recovers F p1 p2) [3] S := by
  refine ag_g hI (fun n nh nk A hn en hnh enh hnk enk hX hW hR hz => ?_)
  have nochange : FX S S := ⟨fun o _ _ _ _ _ _ _ => rfl, fun h => h⟩
  have nc2 : ∀ (T : mS) (t : Int32), FM T (upS (upS T 63 0 (nI 0)) 63 0 t) := fun T t => ⟨fun o q _ _ _ _ _ _ _ => by rw [upS_n q, upS_n q], fun k hk => by rw [upS_s, upd_n (by omega), upS_s, upd_n (by omega)]⟩
  have nc1 : ∀ (T : mS), FM T (upS T 63 0 (nI 0)) := fun T => ⟨fun o q _ _ _ _ _ _ _ => by rw [upS_n q], fun k hk => by rw [upS_s, upd_n (by omega)]⟩
  by_cases g1 : ∃ z, z < nk ∧ p1 = nI z
  · obtain ⟨k, hk, rfl⟩ := g1
    by_cases g2 : ∃ z, z < n ∧ p2 = nI z
    · obtain ⟨l, hl, rfl⟩ := g2
      obtain ⟨c', zc, -, h⟩ := x_recL (F := F) (S := S) (k := k) (l := l) (c := S 25) (p := S 8) (q := S 9) hF (by omega) (by omega) hnh enh hR 6 0 F (by omega) (by omega)
      have e0 : sX (seS S 27 (S 25)) (S 8) (S 9) = seS S 27 (S 25) := by
        conv => lhs; rw [← seS_n (S := S) (i := 27) (f := S 25) (show 8 ≠ 27 by omega), ← seS_n (S := S) (i := 27) (f := S 25) (show 9 ≠ 27 by omega)]
        exact sX_id
      rw [eg_es, e0] at h
      refine ⟨.inl (some (.int (whF (fun i => heldV (eg_es (S 25) nh i) k l (-nI 1) nh) 6 0))), sX (seS S 27 c') (S 8) (S 9), ?_, ⟨?_, ?_⟩, fun T hC hM => ⟨whF (fun i => heldV (eg_es (S 25) nh i) k l (-nI 1) nh) 6 0, upS T 63 0 (nI 0), ?_, nc1 T, rfl, by rw [upS_s, upd_s]⟩⟩
      · unfold f_X9_recovers
        simp (disch := omega) only [fa_lit, nI_ad, nI_mul, nI_cl, inb_nI, nI_ltE, nI_leE, nI_eqE, nI_m1, nI_m1', m1_lt, lt_m1, m1_le, le_m1, eq_self, not_true_eq_false, not_false_eq_true, ↓reduceIte, leT, leF, ltT, ltF, eqT, eqF, decide_true, decide_false, true_and, and_true, Nat.reduceAdd, bI0_i, bI_i, bI_x, bV0_v, bV_v, bV_x, ↓bnd_e, gd_t, x_needClimber hnk enk hk, x_needLedge hn en hl, x_copy (S := S) (u0 := 26) (u1 := 24) hz hR.2]
        exact h
      · intro o q1 q2 q3 _ _ _ _
        rw [sX_n q1 q2, seS_n q3]
      · intro _; rw [sX_n (by omega) (by omega), seS_s]; exact zc
      · have e64 : cM ((upS T 63 0 (nI 0)) 64) = S 25 := by rw [upS_n (by omega)]; exact hC
        have hm := m_recL (F := F) (S := upS T 63 0 (nI 0)) (k := k) (l := l) hF (by omega) (by omega) hnh e64 enh hR 6 0 F (by omega) (by omega)
        unfold f_X10_recovers
        rw [bnd_e, show upS T 63 0 (0 : Int32) = upS T 63 0 (nI 0) from rfl]
        simp (disch := omega) only [fa_lit, nI_ad, nI_mul, nI_cl, inb_nI, nI_ltE, nI_leE, nI_eqE, nI_m1, nI_m1', m1_lt, lt_m1, m1_le, le_m1, eq_self, not_true_eq_false, not_false_eq_true, ↓reduceIte, leT, leF, ltT, ltF, eqT, eqF, decide_true, decide_false, true_and, and_true, Nat.reduceAdd, bI0_i, bI_i, bI_x, bV0_v, bV_v, bV_x, ↓bnd_e, gd_t, m_noBoth hn (by rw [e64]; exact en) hl hnk (by rw [e64]; exact enk) hk, m_throw0]
        exact hm
    · refine ⟨.inr 3, S, ?_, nochange, fun T hC hM => ⟨nI 0, upS (upS T 63 0 (nI 0)) 63 0 (nI 1), ?_, nc2 T (nI 1), 0, rfl, by omega, by rw [upS_s, upd_s]⟩⟩
      · unfold f_X9_recovers
        simp (disch := omega) only [fa_lit, nI_ad, nI_mul, nI_cl, inb_nI, nI_ltE, nI_leE, nI_eqE, nI_m1, nI_m1', m1_lt, lt_m1, m1_le, le_m1, eq_self, not_true_eq_false, not_false_eq_true, ↓reduceIte, leT, leF, ltT, ltF, eqT, eqF, decide_true, decide_false, true_and, and_true, Nat.reduceAdd, bI0_i, bI_i, bI_x, bV0_v, bV_v, bV_x, ↓bnd_e, gd_t, x_needClimber hnk enk hk, x_needLedge_x hn en g2]
      · have e64 : cM ((upS T 63 0 (nI 0)) 64) = S 25 := by rw [upS_n (by omega)]; exact hC
        unfold f_X10_recovers
        rw [bnd_e, show upS T 63 0 (0 : Int32) = upS T 63 0 (nI 0) from rfl]
        simp (disch := omega) only [fa_lit, nI_ad, nI_mul, nI_cl, inb_nI, nI_ltE, nI_leE, nI_eqE, nI_m1, nI_m1', m1_lt, lt_m1, m1_le, le_m1, eq_self, not_true_eq_false, not_false_eq_true, ↓reduceIte, leT, leF, ltT, ltF, eqT, eqF, decide_true, decide_false, true_and, and_true, Nat.reduceAdd, bI0_i, bI_i, bI_x, bV0_v, bV_v, bV_x, ↓bnd_e, gd_t, m_noBoth_l hnk (by rw [e64]; exact enk) hk hn (by rw [e64]; exact en) g2, m_throw]
  · refine ⟨.inr 3, S, ?_, nochange, fun T hC hM => ⟨nI 0, upS (upS T 63 0 (nI 0)) 63 0 (nI 1), ?_, nc2 T (nI 1), 0, rfl, by omega, by rw [upS_s, upd_s]⟩⟩
    · unfold f_X9_recovers
      simp (disch := omega) only [fa_lit, nI_ad, nI_mul, nI_cl, inb_nI, nI_ltE, nI_leE, nI_eqE, nI_m1, nI_m1', m1_lt, lt_m1, m1_le, le_m1, eq_self, not_true_eq_false, not_false_eq_true, ↓reduceIte, leT, leF, ltT, ltF, eqT, eqF, decide_true, decide_false, true_and, and_true, Nat.reduceAdd, bI0_i, bI_i, bI_x, bV0_v, bV_v, bV_x, ↓bnd_e, gd_t, x_needClimber_x hnk enk g1]
    · have e64 : cM ((upS T 63 0 (nI 0)) 64) = S 25 := by rw [upS_n (by omega)]; exact hC
      unfold f_X10_recovers
      rw [bnd_e, show upS T 63 0 (0 : Int32) = upS T 63 0 (nI 0) from rfl]
      simp (disch := omega) only [fa_lit, nI_ad, nI_mul, nI_cl, inb_nI, nI_ltE, nI_leE, nI_eqE, nI_m1, nI_m1', m1_lt, lt_m1, m1_le, le_m1, eq_self, not_true_eq_false, not_false_eq_true, ↓reduceIte, leT, leF, ltT, ltF, eqT, eqF, decide_true, decide_false, true_and, and_true, Nat.reduceAdd, bI0_i, bI_i, bI_x, bV0_v, bV_v, bV_x, ↓bnd_e, gd_t, m_noBoth_k hnk (by rw [e64]; exact enk) g1, m_throw]
end D
