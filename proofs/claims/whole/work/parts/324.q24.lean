/-! feed -/
theorem low8 : ∀ i, i < 8 → (255#32).getLsbD i = true := by decide
theorem byte_rel (v : Int32) : ∃ x, x < 256 ∧ v &&& nI 255 = nI x ∧ v.toInt8.toInt32.toInt8.toInt32 = (nI x).toInt8.toInt32 := by
  refine ⟨(v &&& nI 255).toBitVec.toNat, ?_, ?_, ?_⟩
  · rw [Int32.toBitVec_and, BitVec.toNat_and]
    have : v.toBitVec.toNat &&& (nI 255).toBitVec.toNat ≤ (nI 255).toBitVec.toNat := Nat.and_le_right
    have e : (nI 255).toBitVec.toNat = 255 := by decide
    omega
  · apply Int32.toBitVec_inj.1
    show _ = BitVec.ofNat 32 _
    rw [BitVec.ofNat_toNat, BitVec.setWidth_eq]
  · have e1 : nI (v &&& nI 255).toBitVec.toNat = v &&& nI 255 := by
      apply Int32.toBitVec_inj.1
      show BitVec.ofNat 32 _ = _
      rw [BitVec.ofNat_toNat, BitVec.setWidth_eq]
    rw [e1, Int8.toInt8_toInt32]
    congr 1
    apply Int8.toBitVec_inj.1
    rw [Int32.toBitVec_toInt8, Int32.toBitVec_toInt8, Int32.toBitVec_and, BitVec.signExtend_eq_setWidth_of_le _ (by omega), BitVec.signExtend_eq_setWidth_of_le _ (by omega)]
    apply BitVec.eq_of_getLsbD_eq
    intro i hi
    have e : (nI 255).toBitVec = 255#32 := by decide
    rw [BitVec.getLsbD_setWidth, BitVec.getLsbD_setWidth, BitVec.getLsbD_and, e, low8 i hi, Bool.and_true]
theorem se_up {S : mS} {v k : Nat} {x : Int32} {f : Nat → Int32} : seS (upS S v k x) v f = seS S v f := by rw [up_def, seS_seS]
section O
variable {F : Nat} {S : mS}
def byF (x : Int32) (k : Nat) : Int32 := (x >>> (nI (24 - 8 * k) &&& nI 31)) &&& nI 255
theorem x_appStep {t k : Nat} {x s : Int32} (hs : ¬ s < nI 0) (ht : t < 400) (e : S 1 1 = nI t) :
    f_X8_append_b3 F (k + 1) x s S = f_X8_append_b3 F k x (s + -nI 8) (upS (upS S 2 t ((x >>> (s &&& nI 31)) &&& nI 255)) 1 1 (nI (t + 1))) := by
  have e4 : Int32.ofNat 400 = nI 400 := rfl
  rw [f_X8_append_b3]
  unfold f_X8_append_b52
  simp (disch := omega) only [fa_lit, nI_ad, nI_mul, nI_cl, inb_nI, nI_ltE, nI_leE, nI_eqE, nI_m1, nI_m1', m1_lt, lt_m1, m1_le, le_m1, eq_self, not_true_eq_false, not_false_eq_true, ↓reduceIte, leT, leF, ltT, ltF, eqT, eqF, decide_true, decide_false, true_and, and_true, Nat.reduceAdd, bI0_i, bI_i, bI_x, bV0_v, bV_v, bV_x, ↓bnd_e, gd_t, e, e4, hs, upS_n]
theorem x_append {t : Nat} {x : Int32} (hF : 6000 ≤ F) (ht : t + 4 ≤ 400) (e : S 1 1 = nI t) :
    ∃ S', f_X8_append F x S = some (.inl none, S') ∧ S' 1 = upd (S 1) 1 (nI (t + 4)) ∧ (∀ j, j < 4 → S' 2 (t + j) = byF x j) ∧ (∀ i, i < t → S' 2 i = S 2 i) ∧ ∀ o, o ≠ 1 → o ≠ 2 → S' o = S o := by
  obtain ⟨G, rfl⟩ : ∃ G, F = G + 1 + 1 + 1 + 1 + 1 := ⟨F - 5, by omega⟩
  unfold f_X8_append
  have e24 : (24 : Int32) = nI 24 := rfl
  have d1 : nI 24 + -nI 8 = nI 16 := by decide
  have d2 : nI 16 + -nI 8 = nI 8 := by decide
  have d3 : nI 8 + -nI 8 = nI 0 := by decide
  have d4 : nI 0 + -nI 8 < 0 := by decide
  rw [e24, x_appStep (t := t) (by decide) (by omega) e, d1, x_appStep (t := t + 1) (by decide) (by omega) (by rw [upS_s, upd_s]), d2, x_appStep (t := t + 1 + 1) (by decide) (by omega) (by rw [upS_s, upd_s]), d3, x_appStep (t := t + 1 + 1 + 1) (by decide) (by omega) (by rw [upS_s, upd_s]), f_X8_append_b3, if_pos d4]
  refine ⟨_, rfl, ?_, fun j hj => ?_, fun i hi => ?_, fun o h1 h2 => ?_⟩
  · simp (disch := omega) only [upS_s, upS_n, upd_upd]
  · simp (disch := omega) only [upS_s, upS_n]
    match j, hj with
    | 0, _ => simp (disch := omega) only [upd_n, Nat.add_zero, upd_s]; rfl
    | 1, _ => simp (disch := omega) only [upd_n, upd_s]; rfl
    | 2, _ => simp (disch := omega) only [upd_n, upd_s]; rfl
    | 3, _ => simp (disch := omega) only [upd_n, upd_s]; rfl
  · simp (disch := omega) only [upS_s, upS_n, upd_n]
  · simp (disch := omega) only [upS_n]
def fdV (five : Nat → Int32) (k : Nat) : Int32 := ((five (k / 4) >>> (nI (24 - 8 * (k % 4)) &&& nI 31)).toInt8.toInt32).toInt8.toInt32
theorem m_feedL {t : Nat} (ht : t + 20 ≤ 400) : ∀ (m i k : Nat) (S : mS), i + m = 20 → m < k → S 63 9 = nI t →
    f_X10_feed_b60 F k (nI i) S = some (.inl (some (.int (nI (t + 20)))), upS (seS S 69 (rngF (t + i) (t + 20) (fun j => fdV (S 70) (j - t)) (S 69))) 63 9 (nI (t + 20)))
  | 0, i, k + 1, S, hi, hk, h9 => by
    have hie : i = 20 := by omega
    rw [hie, f_X10_feed_b60]
    simp (disch := omega) only [fa_lit, nI_ad, nI_mul, nI_cl, inb_nI, nI_ltE, nI_leE, nI_eqE, nI_m1, nI_m1', m1_lt, lt_m1, m1_le, le_m1, eq_self, not_true_eq_false, not_false_eq_true, ↓reduceIte, leT, leF, ltT, ltF, eqT, eqF, decide_true, decide_false, true_and, and_true, Nat.reduceAdd, bI0_i, bI_i, bI_x, bV0_v, bV_v, bV_x, ↓bnd_e, gd_t, rng_end, se_id, Nat.le_refl, h9, upS_s, upd_s]
  | m + 1, i, k + 1, S, hi, hk, h9 => by
    have e3 : nI i - nI (i / 4 * 4) = nI (i % 4) := by rw [nI_sub (by omega)]; congr 1; omega
    have e4 : nI 24 - nI (8 * (i % 4)) = nI (24 - 8 * (i % 4)) := nI_sub (by omega)
    have e5 : ((S 70 (i / 4) >>> (nI (24 - 8 * (i % 4)) &&& nI 31)).toInt8.toInt32).toInt8.toInt32 = (fun j => fdV (S 70) (j - t)) (t + i) := by
      show _ = fdV (S 70) (t + i - t)
      rw [Nat.add_sub_cancel_left]; rfl
    have ih := m_feedL ht m (i + 1) k (upS S 69 (t + i) (((S 70 (i / 4) >>> (nI (24 - 8 * (i % 4)) &&& nI 31)).toInt8.toInt32).toInt8.toInt32)) (by omega) (by omega) (by rw [upS_n (by omega)]; exact h9)
    rw [f_X10_feed_b60]
    simp (disch := omega) only [fa_lit, nI_ad, nI_mul, nI_cl, inb_nI, nI_ltE, nI_leE, nI_eqE, nI_m1, nI_m1', m1_lt, lt_m1, m1_le, le_m1, eq_self, not_true_eq_false, not_false_eq_true, ↓reduceIte, leT, leF, ltT, ltF, eqT, eqF, decide_true, decide_false, true_and, and_true, Nat.reduceAdd, bI0_i, bI_i, bI_x, bV0_v, bV_v, bV_x, ↓bnd_e, gd_t, h9, nI_div, e3, e4, ih]
    rw [se_up, upS_n (by omega), upS_s, e5, ← Nat.add_assoc, rng_step (f := fun j => fdV (S 70) (j - t)) (by omega)]
theorem ag_feed {p1 p2 p3 p4 p5 : Int32} (hF : 6000 ≤ F) (hI : Inv S) : Ag (f_X9_feed F p1 p2 p3 p4 p5) (f_X10_feed F p1 p2 p3 p4 p5) [] S := by
  have hI0 := hI
  obtain ⟨h1, h2, ⟨A, a1, a2, a3⟩, h4, h5, h6, h7, h8, h9⟩ := hI
  obtain ⟨t, b1, b2, b3, b4⟩ := h8
  by_cases g : t + 20 ≤ 400
  · obtain ⟨S1, f1, q1, r1, s1, o1⟩ := x_append (F := F) (S := S) (t := t) (x := p1) hF (by omega) b2
    obtain ⟨S2, f2, q2, r2, s2, o2⟩ := x_append (F := F) (S := S1) (t := t + 4) (x := p2) hF (by omega) (by rw [q1, upd_s])
    obtain ⟨S3, f3, q3, r3, s3, o3⟩ := x_append (F := F) (S := S2) (t := t + 4 + 4) (x := p3) hF (by omega) (by rw [q2, upd_s])
    obtain ⟨S4, f4, q4, r4, s4, o4⟩ := x_append (F := F) (S := S3) (t := t + 4 + 4 + 4) (x := p4) hF (by omega) (by rw [q3, upd_s])
    obtain ⟨S5, f5, q5, r5, s5, o5⟩ := x_append (F := F) (S := S4) (t := t + 4 + 4 + 4 + 4) (x := p5) hF (by omega) (by rw [q4, upd_s])
    have e51 : S5 1 1 = nI (t + 20) := by rw [q5, upd_s]
    have e5 : ∀ o, o ≠ 1 → o ≠ 2 → S5 o = S o := fun o u v => by rw [o5 o u v, o4 o u v, o3 o u v, o2 o u v, o1 o u v]
    refine ⟨.inl (some (.int (nI (t + 20)))), S5, ?_, fun T hT => ?_⟩
    · unfold f_X9_feed f_X8_size
      simp (disch := omega) only [fa_lit, nI_ad, nI_mul, nI_cl, inb_nI, nI_ltE, nI_leE, nI_eqE, nI_m1, nI_m1', m1_lt, lt_m1, m1_le, le_m1, eq_self, not_true_eq_false, not_false_eq_true, ↓reduceIte, leT, leF, ltT, ltF, eqT, eqF, decide_true, decide_false, true_and, and_true, Nat.reduceAdd, bI0_i, bI_i, bI_x, bV0_v, bV_v, bV_x, ↓bnd_e, gd_t, b2, f1, f2, f3, f4, f5, e51]
    · generalize hU : upS T 63 0 (nI 0) = U
      have hU9 : U 63 9 = nI t := by rw [← hU, upS_s, upd_n (by omega), hT 63 (by omega), e5 63 (by omega) (by omega)]; exact b3
      have hm := m_feedL (F := F) g 20 0 F (upS (upS (upS (upS (upS U 70 0 p1) 70 1 p2) 70 2 p3) 70 3 p4) 70 4 p5) (by omega) (by omega) (by simp (disch := omega) only [upS_n]; exact hU9)
      have eU : ∀ o, o < 75 → o ≠ 1 → o ≠ 2 → o ≠ 63 → U o = S o := fun o u v w x => by rw [← hU, upS_n x, hT o u, e5 o v w]
      have e70 : ∀ k, k < 20 → fdV ((upS (upS (upS (upS (upS U 70 0 p1) 70 1 p2) 70 2 p3) 70 3 p4) 70 4 p5) 70) k = fdV (fun a => if a = 0 then p1 else if a = 1 then p2 else if a = 2 then p3 else if a = 3 then p4 else p5) k := by
        intro k hk
        unfold fdV
        have : k / 4 < 5 := by omega
        simp only [upS_s]
        generalize k / 4 = a at this
        match a, this with
        | 0, _ => rfl
        | 1, _ => rfl
        | 2, _ => rfl
        | 3, _ => rfl
        | 4, _ => rfl
      refine ⟨nI (t + 20), _, Eq.trans ?_ hm, ?_, rfl, ?_⟩
      · unfold f_X10_feed
        rw [bnd_e, show upS T 63 0 (0 : Int32) = U from hU]
        simp (disch := omega) only [fa_lit, nI_ad, nI_mul, nI_cl, inb_nI, nI_ltE, nI_leE, nI_eqE, nI_m1, nI_m1', m1_lt, lt_m1, m1_le, le_m1, eq_self, not_true_eq_false, not_false_eq_true, ↓reduceIte, leT, leF, ltT, ltF, eqT, eqF, decide_true, decide_false, true_and, and_true, Nat.reduceAdd, bI0_i, bI_i, bI_x, bV0_v, bV_v, bV_x, ↓bnd_e, gd_t, hU9]
      · have eo : ∀ o, o < 75 → o ≠ 1 → o ≠ 2 → o ≠ 63 → o ≠ 69 → o ≠ 70 → (upS (seS (upS (upS (upS (upS (upS U 70 0 p1) 70 1 p2) 70 2 p3) 70 3 p4) 70 4 p5) 69 (rngF (t + 0) (t + 20) (fun j => fdV ((upS (upS (upS (upS (upS U 70 0 p1) 70 1 p2) 70 2 p3) 70 3 p4) 70 4 p5) 70) (j - t)) ((upS (upS (upS (upS (upS U 70 0 p1) 70 1 p2) 70 2 p3) 70 3 p4) 70 4 p5) 69))) 63 9 (nI (t + 20))) o = S o := by
          intro o u v w x y z
          rw [upS_n x, seS_n y, upS_n z, upS_n z, upS_n z, upS_n z, upS_n z, eU o u v w x]
        have e63 : ∀ k, k ≠ 0 → k ≠ 9 → (upS (seS (upS (upS (upS (upS (upS U 70 0 p1) 70 1 p2) 70 2 p3) 70 3 p4) 70 4 p5) 69 (rngF (t + 0) (t + 20) (fun j => fdV ((upS (upS (upS (upS (upS U 70 0 p1) 70 1 p2) 70 2 p3) 70 3 p4) 70 4 p5) 70) (j - t)) ((upS (upS (upS (upS (upS U 70 0 p1) 70 1 p2) 70 2 p3) 70 3 p4) 70 4 p5) 69))) 63 9 (nI (t + 20))) 63 k = S 63 k := by
          intro k u v
          rw [upS_s, upd_n v, seS_n (by omega), upS_n (by omega), upS_n (by omega), upS_n (by omega), upS_n (by omega), upS_n (by omega), ← hU, upS_s, upd_n u, hT 63 (by omega), e5 63 (by omega) (by omega)]
        have e12 : ∀ o, o = 1 ∨ o = 2 → (upS (seS (upS (upS (upS (upS (upS U 70 0 p1) 70 1 p2) 70 2 p3) 70 3 p4) 70 4 p5) 69 (rngF (t + 0) (t + 20) (fun j => fdV ((upS (upS (upS (upS (upS U 70 0 p1) 70 1 p2) 70 2 p3) 70 3 p4) 70 4 p5) 70) (j - t)) ((upS (upS (upS (upS (upS U 70 0 p1) 70 1 p2) 70 2 p3) 70 3 p4) 70 4 p5) 69))) 63 9 (nI (t + 20))) o = S5 o := by
          intro o u
          rw [upS_n (by omega), seS_n (by omega), upS_n (by omega), upS_n (by omega), upS_n (by omega), upS_n (by omega), upS_n (by omega), ← hU, upS_n (by omega), hT o (by omega)]
        refine ⟨by rw [eo 25 (by omega) (by omega) (by omega) (by omega) (by omega) (by omega)]; exact h1, by rw [eo 25 (by omega) (by omega) (by omega) (by omega) (by omega) (by omega), eo 64 (by omega) (by omega) (by omega) (by omega) (by omega) (by omega)]; exact h2, ⟨A, a1, LX_of (fun o q1 q2 => eo o (by omega) (by omega) (by omega) (by omega) (by omega) (by omega)) a2, by rw [eo 64 (by omega) (by omega) (by omega) (by omega) (by omega) (by omega)]; exact a3⟩, ?_, ?_, ?_, ?_, ?_, ?_⟩
        · rw [eo 27 (by omega) (by omega) (by omega) (by omega) (by omega) (by omega)]; exact h4
        · rw [eo 29 (by omega) (by omega) (by omega) (by omega) (by omega) (by omega)]; exact h5
        · exact Img_of (by rw [eo 0 (by omega) (by omega) (by omega) (by omega) (by omega) (by omega)]) (e63 6 (by omega) (by omega)) (eo 29 (by omega) (by omega) (by omega) (by omega) (by omega) (by omega)) (eo 65 (by omega) (by omega) (by omega) (by omega) (by omega) (by omega)) (fun o q1 q2 => eo o (by omega) (by omega) (by omega) (by omega) (by omega) (by omega)) h6
        · exact Past_of ⟨by rw [eo 36 (by omega) (by omega) (by omega) (by omega) (by omega) (by omega)], by rw [eo 36 (by omega) (by omega) (by omega) (by omega) (by omega) (by omega)]⟩ (e63 7 (by omega) (by omega)) (fun i hi => eo _ (by omega) (by omega) (by omega) (by omega) (by omega) (by omega)) (eo 68 (by omega) (by omega) (by omega) (by omega) (by omega) (by omega)) (by rw [eo 64 (by omega) (by omega) (by omega) (by omega) (by omega) (by omega)]) h7
        · refine ⟨t + 20, g, by rw [e12 1 (by omega)]; exact e51, by rw [upS_s, upd_s], fun i hi => ?_⟩
          rw [e12 2 (by omega), upS_n (by omega), seS_s]
          by_cases gi : i < t
          · rw [rng_out (by omega), upS_n (by omega), upS_n (by omega), upS_n (by omega), upS_n (by omega), upS_n (by omega), eU 69 (by omega) (by omega) (by omega) (by omega), s5 i (by omega), s4 i (by omega), s3 i (by omega), s2 i (by omega), s1 i (by omega)]
            exact b4 i gi
          · rw [rng_in (by omega) (by omega), e70 (i - t) (by omega)]
            have hj : (i - t) % 4 < 4 := Nat.mod_lt _ (by omega)
            have hsp : ∃ z, S5 2 i = (z >>> (nI (24 - 8 * ((i - t) % 4)) &&& nI 31)) &&& nI 255 ∧ fdV (fun a => if a = 0 then p1 else if a = 1 then p2 else if a = 2 then p3 else if a = 3 then p4 else p5) (i - t) = ((z >>> (nI (24 - 8 * ((i - t) % 4)) &&& nI 31)).toInt8.toInt32).toInt8.toInt32 := by
              unfold fdV
              rcases Nat.lt_or_ge i (t + 4) with w1 | w1
              · refine ⟨p1, ?_, by rw [show (i - t) / 4 = 0 by omega]; rfl⟩
                rw [s5 i (by omega), s4 i (by omega), s3 i (by omega), s2 i (by omega), show i = t + (i - t) % 4 by omega, r1 _ (by omega)]
                unfold byF; congr 4; omega
              · rcases Nat.lt_or_ge i (t + 8) with w2 | w2
                · refine ⟨p2, ?_, by rw [show (i - t) / 4 = 1 by omega]; rfl⟩
                  rw [s5 i (by omega), s4 i (by omega), s3 i (by omega), show i = t + 4 + (i - t) % 4 by omega, r2 _ (by omega)]
                  unfold byF; congr 4; omega
                · rcases Nat.lt_or_ge i (t + 12) with w3 | w3
                  · refine ⟨p3, ?_, by rw [show (i - t) / 4 = 2 by omega]; rfl⟩
                    rw [s5 i (by omega), s4 i (by omega), show i = t + 4 + 4 + (i - t) % 4 by omega, r3 _ (by omega)]
                    unfold byF; congr 4; omega
                  · rcases Nat.lt_or_ge i (t + 16) with w4 | w4
                    · refine ⟨p4, ?_, by rw [show (i - t) / 4 = 3 by omega]; rfl⟩
                      rw [s5 i (by omega), show i = t + 4 + 4 + 4 + (i - t) % 4 by omega, r4 _ (by omega)]
                      unfold byF; congr 4; omega
                    · refine ⟨p5, ?_, by rw [show (i - t) / 4 = 4 by omega]; rfl⟩
                      rw [show i = t + 4 + 4 + 4 + 4 + (i - t) % 4 by omega, r5 _ (by omega)]
                      unfold byF; congr 4; omega
            obtain ⟨z, z1, z2⟩ := hsp
            obtain ⟨x, x1, x2, x3⟩ := byte_rel (z >>> (nI (24 - 8 * ((i - t) % 4)) &&& nI 31))
            exact ⟨x, x1, z1.trans x2, z2.trans x3⟩
        · refine ⟨?_, AzI_of (eo 25 (by omega) (by omega) (by omega) (by omega) (by omega) (by omega)) (eo 29 (by omega) (by omega) (by omega) (by omega) (by omega) (by omega)) (fun i hi => eo _ (by omega) (by omega) (by omega) (by omega) (by omega) (by omega)) h9.2⟩
          rw [e12 1 (by omega), e63 14 (by omega) (by omega), q5, upd_n (by omega), q4, upd_n (by omega), q3, upd_n (by omega), q2, upd_n (by omega), q1, upd_n (by omega)]; exact h9.1
      · rw [upS_s, upd_n (by omega), seS_n (by omega), upS_n (by omega), upS_n (by omega), upS_n (by omega), upS_n (by omega), upS_n (by omega), ← hU, upS_s, upd_s]
  · refine ag_ok0 (b := -nI 1) hI0 ?_ (fun T U hU h64 h63 => ?_)
    · unfold f_X9_feed f_X8_size
      simp (disch := omega) only [fa_lit, nI_ad, nI_mul, nI_cl, inb_nI, nI_ltE, nI_leE, nI_eqE, nI_m1, nI_m1', m1_lt, lt_m1, m1_le, le_m1, eq_self, not_true_eq_false, not_false_eq_true, ↓reduceIte, leT, leF, ltT, ltF, eqT, eqF, decide_true, decide_false, true_and, and_true, Nat.reduceAdd, bI0_i, bI_i, bI_x, bV0_v, bV_v, bV_x, ↓bnd_e, gd_t, b2]
    · have e9 : U 63 9 = nI t := by rw [h63, upd_n (by omega)]; exact b3
      unfold f_X10_feed; rw [bnd_e, show upS T 63 0 (0 : Int32) = U from hU.symm]
      simp (disch := omega) only [fa_lit, nI_ad, nI_mul, nI_cl, inb_nI, nI_ltE, nI_leE, nI_eqE, nI_m1, nI_m1', m1_lt, lt_m1, m1_le, le_m1, eq_self, not_true_eq_false, not_false_eq_true, ↓reduceIte, leT, leF, ltT, ltF, eqT, eqF, decide_true, decide_false, true_and, and_true, Nat.reduceAdd, bI0_i, bI_i, bI_x, bV0_v, bV_v, bV_x, ↓bnd_e, gd_t, e9]
end O
