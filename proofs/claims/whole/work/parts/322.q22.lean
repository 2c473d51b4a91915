/-! seed, undo, image, back, end, feed, turn, clear, rest -/
theorem pm_447 {i : Nat} (hi : i < 446) : pm i < 447 := by
  rcases Nat.lt_or_ge i 16 with q | q
  · have := pm_lo q; omega
  · rw [pm_hi q]; omega
theorem cM_congr {w w' : Nat → Int32} (h : ∀ k, k < 447 → w k = w' k) : cM w = cM w' := by
  funext i
  unfold cM
  split
  · rename_i hi; exact h _ (pm_447 hi)
  · rfl
theorem Past_of {S T : mS} (h36 : T 36 1 = S 36 1 ∧ T 36 2 = S 36 2) (h63 : T 63 7 = S 63 7) (hp : ∀ i, i < 12 → T (39 + 2 * i) = S (39 + 2 * i)) (h68 : T 68 = S 68) (h4 : T 64 4 = S 64 4) (h : PastR S) : PastR T := by
  obtain ⟨nx, sz, b1, b2, b3, b4, b5, b6, b7⟩ := h
  refine ⟨nx, sz, b1, b2, by rw [h36.1]; exact b3, by rw [h36.2]; exact b4, by rw [h63]; exact b5, fun i hi => by rw [hp i hi]; exact b6 i hi, fun j hj => ?_⟩
  rw [hp _ (by omega), h68, h4]; exact b7 j hj
theorem Past_none {S T : mS} (h36 : T 36 1 = S 36 1 ∧ T 36 2 = nI 0) (h63 : T 63 7 = nI 0) (hp : ∀ i, i < 12 → T (39 + 2 * i) = S (39 + 2 * i)) (h : PastR S) : PastR T := by
  obtain ⟨nx, sz, b1, b2, b3, b4, b5, b6, b7⟩ := h
  exact ⟨nx, 0, b1, by omega, by rw [h36.1]; exact b3, h36.2, h63, fun i hi => by rw [hp i hi]; exact b6 i hi, fun j hj => absurd hj (by omega)⟩
theorem Tape_of {S T : mS} (h1 : T 1 1 = S 1 1) (h2 : T 2 = S 2) (h9 : T 63 9 = S 63 9) (h69 : T 69 = S 69) (h : TapeR S) : TapeR T := by
  obtain ⟨t, b1, b2, b3, b4⟩ := h
  exact ⟨t, b1, by rw [h1]; exact b2, by rw [h9]; exact b3, fun i hi => by rw [h2, h69]; exact b4 i hi⟩
def ImgR (S : mS) : Prop := S 0 13 = S 63 6 ∧ (S 0 13 = nI 0 ∨ S 0 13 = nI 1 ∧ Rg (S 29) ∧ cM (S 65) = S 29 ∧ LR S 17 (S 65))
theorem Img_of {S T : mS} (h0 : T 0 13 = S 0 13) (h6 : T 63 6 = S 63 6) (h29 : T 29 = S 29) (h65 : T 65 = S 65) (ho : ∀ o, 17 ≤ o → o ≤ 21 → T o = S o) (h : ImgR S) : ImgR T := by
  unfold ImgR at *
  rw [h0, h6, h29, h65]
  refine ⟨h.1, ?_⟩
  rcases h.2 with q | ⟨q1, q2, q3, q4⟩
  · exact Or.inl q
  · exact Or.inr ⟨q1, q2, q3, LR_of (fun o a b => ho o (by omega) (by omega)) q4⟩
theorem dec1 : ∀ b, b < 10 → (if nI 0 < nI b - nI 1 then nI b - nI 1 else nI 0) = nI (b - 1) := by decide
section O
variable {F : Nat} {S : mS}
theorem ag_seed {p1 : Int32} (hI : Inv S) : Ag (f_X9_seed p1) (f_X10_seed p1) [] S := by
  obtain ⟨h1, h2, ⟨A, a1, a2, a3⟩, h4, h5, h6, h7, h8, h9⟩ := hI
  refine ⟨.inl (some (.int (S 25 10))), upS S 25 10 p1, ?_, fun T hT => ?_⟩
  · unfold f_X9_seed
    simp (disch := omega) only [fa_lit, nI_ad, nI_mul, nI_cl, inb_nI, nI_ltE, nI_leE, nI_eqE, nI_m1, nI_m1', m1_lt, lt_m1, m1_le, le_m1, eq_self, not_true_eq_false, not_false_eq_true, ↓reduceIte, leT, leF, ltT, ltF, eqT, eqF, decide_true, decide_false, true_and, and_true, Nat.reduceAdd, bI0_i, bI_i, bI_x, bV0_v, bV_v, bV_x, ↓bnd_e, gd_t, x_at, x_put]
  · have e64 : T 64 = S 64 := by rw [hT 64 (by omega), upS_n (by omega)]
    refine ⟨S 25 10, upS (upS T 63 0 (nI 0)) 64 16 p1, ?_, ?_, rfl, by rw [upS_n (by omega), upS_s, upd_s]⟩
    · unfold f_X10_seed
      simp (disch := omega) only [fa_lit, nI_ad, nI_mul, nI_cl, inb_nI, nI_ltE, nI_leE, nI_eqE, nI_m1, nI_m1', m1_lt, lt_m1, m1_le, le_m1, eq_self, not_true_eq_false, not_false_eq_true, ↓reduceIte, leT, leF, ltT, ltF, eqT, eqF, decide_true, decide_false, true_and, and_true, Nat.reduceAdd, bI0_i, bI_i, bI_x, bV0_v, bV_v, bV_x, ↓bnd_e, gd_t, upS_n, e64]
      rw [w16 (S 64), h2]
    · have hc : Rg (upd (S 25) 10 p1) := h1.up (by omega) (fun b hb => by cases hb)
      have eo : ∀ o, o < 75 → o ≠ 25 → o ≠ 63 → o ≠ 64 → (upS (upS T 63 0 (nI 0)) 64 16 p1) o = S o := by
        intro o q1 q2 q3 q4
        rw [upS_n q4, upS_n q3, hT o q1, upS_n q2]
      have e63 : ∀ k, k ≠ 0 → (upS (upS T 63 0 (nI 0)) 64 16 p1) 63 k = S 63 k := by
        intro k hk
        rw [upS_n (by omega), upS_s, upd_n hk, hT 63 (by omega), upS_n (by omega)]
      have ew : (upS (upS T 63 0 (nI 0)) 64 16 p1) 64 = wO (S 64) (upd (S 25) 10 p1) := by
        rw [upS_s, upS_n (by omega), e64]
        conv => lhs; rw [← wO_self (w := S 64)]
        rw [up_wO (by omega) (by omega), h2, pj_16]
      refine ⟨?_, ?_, ⟨A, a1, LX_of (fun o q1 q2 => eo o (by omega) (by omega) (by omega) (by omega)) a2, by rw [ew]; exact LM_wO a1 a3⟩, ?_, ?_, ?_, ?_, ?_, ?_⟩
      · rw [upS_n (by omega), upS_n (by omega), hT 25 (by omega), upS_s]; exact hc
      · rw [ew, cM_wO hc.2, upS_n (by omega), upS_n (by omega), hT 25 (by omega), upS_s]
      · rw [eo 27 (by omega) (by omega) (by omega) (by omega)]; exact h4
      · rw [eo 29 (by omega) (by omega) (by omega) (by omega)]; exact h5
      · exact Img_of (by rw [eo 0 (by omega) (by omega) (by omega) (by omega)]) (e63 6 (by omega)) (eo 29 (by omega) (by omega) (by omega) (by omega)) (eo 65 (by omega) (by omega) (by omega) (by omega)) (fun o q1 q2 => eo o (by omega) (by omega) (by omega) (by omega)) h6
      · exact Past_of ⟨by rw [eo 36 (by omega) (by omega) (by omega) (by omega)], by rw [eo 36 (by omega) (by omega) (by omega) (by omega)]⟩ (e63 7 (by omega)) (fun i hi => eo _ (by omega) (by omega) (by omega) (by omega)) (eo 68 (by omega) (by omega) (by omega) (by omega)) (by rw [ew, wO_out (Or.inl rfl)]) h7
      · exact Tape_of (by rw [eo 1 (by omega) (by omega) (by omega) (by omega)]) (eo 2 (by omega) (by omega) (by omega) (by omega)) (e63 9 (by omega)) (eo 69 (by omega) (by omega) (by omega) (by omega)) h8
      · rw [eo 1 (by omega) (by omega) (by omega) (by omega), e63 14 (by omega)]
        exact ⟨h9.1, by rw [upS_n (by omega), upS_n (by omega), hT 25 (by omega), upS_s]; exact Az_up (by omega) h9.2.1, by rw [eo 29 (by omega) (by omega) (by omega) (by omega)]; exact h9.2.2.1, fun i hi => by rw [eo _ (by omega) (by omega) (by omega) (by omega)]; exact h9.2.2.2 i hi⟩
theorem ag_end {p1 : Int32} (hI : Inv S) : Ag (f_X9_end p1) (f_X10_end p1) [] S := by
  have hI0 := hI
  obtain ⟨h1, h2, ⟨A, a1, a2, a3⟩, h4, h5, h6, h7, h8, h9⟩ := hI
  obtain ⟨t, b1, b2, b3, b4⟩ := h8
  by_cases g : ∃ m, m < t + 1 ∧ p1 = nI m
  · obtain ⟨m, hm, rfl⟩ := g
    refine ⟨.inl (some (.int (nI 1))), upS S 1 1 (nI m), ?_, fun T hT => ?_⟩
    · unfold f_X9_end f_X8_size f_X8_cut
      simp (disch := omega) only [fa_lit, nI_ad, nI_mul, nI_cl, inb_nI, nI_ltE, nI_leE, nI_eqE, nI_m1, nI_m1', m1_lt, lt_m1, m1_le, le_m1, eq_self, not_true_eq_false, not_false_eq_true, ↓reduceIte, leT, leF, ltT, ltF, eqT, eqF, decide_true, decide_false, true_and, and_true, Nat.reduceAdd, bI0_i, bI_i, bI_x, bV0_v, bV_v, bV_x, ↓bnd_e, gd_t, b2, and10]
    · refine ⟨nI 1, upS (upS T 63 0 (nI 0)) 63 9 (nI m), ?_, ?_, rfl, by rw [upS_s, upd_n (by omega), upS_s, upd_s]⟩
      · have e9 : (upS T 63 0 (nI 0)) 63 9 = nI t := by rw [upS_s, upd_n (by omega), hT 63 (by omega), upS_n (by omega)]; exact b3
        unfold f_X10_end
        simp (disch := omega) only [fa_lit, nI_ad, nI_mul, nI_cl, inb_nI, nI_ltE, nI_leE, nI_eqE, nI_m1, nI_m1', m1_lt, lt_m1, m1_le, le_m1, eq_self, not_true_eq_false, not_false_eq_true, ↓reduceIte, leT, leF, ltT, ltF, eqT, eqF, decide_true, decide_false, true_and, and_true, Nat.reduceAdd, bI0_i, bI_i, bI_x, bV0_v, bV_v, bV_x, ↓bnd_e, gd_t, e9, and10]
      · have eo : ∀ o, o < 75 → o ≠ 1 → o ≠ 63 → (upS (upS T 63 0 (nI 0)) 63 9 (nI m)) o = S o := by
          intro o q1 q2 q3
          rw [upS_n q3, upS_n q3, hT o q1, upS_n q2]
        have e63 : ∀ k, k ≠ 0 → k ≠ 9 → (upS (upS T 63 0 (nI 0)) 63 9 (nI m)) 63 k = S 63 k := by
          intro k hk hk2
          rw [upS_s, upd_n hk2, upS_s, upd_n hk, hT 63 (by omega), upS_n (by omega)]
        have e1 : (upS (upS T 63 0 (nI 0)) 63 9 (nI m)) 1 = upd (S 1) 1 (nI m) := by
          rw [upS_n (by omega), upS_n (by omega), hT 1 (by omega), upS_s]
        refine ⟨by rw [eo 25 (by omega) (by omega) (by omega)]; exact h1, by rw [eo 25 (by omega) (by omega) (by omega), eo 64 (by omega) (by omega) (by omega)]; exact h2, ⟨A, a1, LX_of (fun o q1 q2 => eo o (by omega) (by omega) (by omega)) a2, by rw [eo 64 (by omega) (by omega) (by omega)]; exact a3⟩, ?_, ?_, ?_, ?_, ?_, ?_⟩
        · rw [eo 27 (by omega) (by omega) (by omega)]; exact h4
        · rw [eo 29 (by omega) (by omega) (by omega)]; exact h5
        · exact Img_of (by rw [eo 0 (by omega) (by omega) (by omega)]) (e63 6 (by omega) (by omega)) (eo 29 (by omega) (by omega) (by omega)) (eo 65 (by omega) (by omega) (by omega)) (fun o q1 q2 => eo o (by omega) (by omega) (by omega)) h6
        · exact Past_of ⟨by rw [eo 36 (by omega) (by omega) (by omega)], by rw [eo 36 (by omega) (by omega) (by omega)]⟩ (e63 7 (by omega) (by omega)) (fun i hi => eo _ (by omega) (by omega) (by omega)) (eo 68 (by omega) (by omega) (by omega)) (by rw [eo 64 (by omega) (by omega) (by omega)]) h7
        · refine ⟨m, by omega, by rw [e1, upd_s], by rw [upS_s, upd_s], fun i hi => ?_⟩
          rw [eo 2 (by omega) (by omega) (by omega), eo 69 (by omega) (by omega) (by omega)]; exact b4 i (by omega)
        · exact ⟨by rw [e1, upd_n (by omega), e63 14 (by omega) (by omega)]; exact h9.1, AzI_of (eo 25 (by omega) (by omega) (by omega)) (eo 29 (by omega) (by omega) (by omega)) (fun i hi => eo _ (by omega) (by omega) (by omega)) h9.2⟩
  · refine ag_ok0 (b := nI 0) hI0 ?_ (fun T U hU h64 h63 => ?_)
    · unfold f_X9_end f_X9_end_b15 f_X8_size
      rcases bad_idx (by omega) g with g1 | g1
      · simp (disch := omega) only [fa_lit, nI_ad, nI_mul, nI_cl, inb_nI, nI_ltE, nI_leE, nI_eqE, nI_m1, nI_m1', m1_lt, lt_m1, m1_le, le_m1, eq_self, not_true_eq_false, not_false_eq_true, ↓reduceIte, leT, leF, ltT, ltF, eqT, eqF, decide_true, decide_false, true_and, and_true, Nat.reduceAdd, bI0_i, bI_i, bI_x, bV0_v, bV_v, bV_x, ↓bnd_e, gd_t, g1, and00]
      · have g2 : ¬ p1 ≤ nI t := fun q => g1 (by rw [Int32.lt_iff_toInt_lt, nI_toInt (by omega)]; rw [Int32.le_iff_toInt_le, nI_toInt (by omega)] at q; omega)
        simp (disch := omega) only [fa_lit, nI_ad, nI_mul, nI_cl, inb_nI, nI_ltE, nI_leE, nI_eqE, nI_m1, nI_m1', m1_lt, lt_m1, m1_le, le_m1, eq_self, not_true_eq_false, not_false_eq_true, ↓reduceIte, leT, leF, ltT, ltF, eqT, eqF, decide_true, decide_false, true_and, and_true, Nat.reduceAdd, bI0_i, bI_i, bI_x, bV0_v, bV_v, bV_x, ↓bnd_e, gd_t, b2, g2, and00, ite_self]
    · have e9 : U 63 9 = nI t := by rw [h63, upd_n (by omega)]; exact b3
      unfold f_X10_end f_X10_end_b17; rw [bnd_e, show upS T 63 0 (0 : Int32) = U from hU.symm]
      rcases bad_idx (by omega) g with g1 | g1
      · simp (disch := omega) only [fa_lit, nI_ad, nI_mul, nI_cl, inb_nI, nI_ltE, nI_leE, nI_eqE, nI_m1, nI_m1', m1_lt, lt_m1, m1_le, le_m1, eq_self, not_true_eq_false, not_false_eq_true, ↓reduceIte, leT, leF, ltT, ltF, eqT, eqF, decide_true, decide_false, true_and, and_true, Nat.reduceAdd, bI0_i, bI_i, bI_x, bV0_v, bV_v, bV_x, ↓bnd_e, gd_t, g1, and00]
      · have g2 : ¬ p1 ≤ nI t := fun q => g1 (by rw [Int32.lt_iff_toInt_lt, nI_toInt (by omega)]; rw [Int32.le_iff_toInt_le, nI_toInt (by omega)] at q; omega)
        simp (disch := omega) only [fa_lit, nI_ad, nI_mul, nI_cl, inb_nI, nI_ltE, nI_leE, nI_eqE, nI_m1, nI_m1', m1_lt, lt_m1, m1_le, le_m1, eq_self, not_true_eq_false, not_false_eq_true, ↓reduceIte, leT, leF, ltT, ltF, eqT, eqF, decide_true, decide_false, true_and, and_true, Nat.reduceAdd, bI0_i, bI_i, bI_x, bV0_v, bV_v, bV_x, ↓bnd_e, gd_t, e9, g2, and00, ite_self]
theorem ag_turn (hF : 6000 ≤ F) (hI : Inv S) : Ag f_X9_turn (f_X10_turn F) [] S := by
  have h1 := hI.1
  obtain ⟨f, hf, ef⟩ := h1.1 1 999 rfl
  refine ag_act2 (r := nI (f / 2)) (c' := upd (S 25) 1 (nI (f / 2))) hF hI (h1.up (by omega) (fun b hb => by cases hb; exact ⟨f / 2, by omega, rfl⟩)) (Az_up (by omega) hI.2.2.2.2.2.2.2.2.2.1) (by unfold f_X9_turn; rfl) (fun T U hU h64 => by subst hU; unfold f_X10_turn; rfl) (fun S1 p q _ => ⟨p, q, ?_⟩) (fun T1 a b q => ⟨a, b, q, ?_⟩)
  · simp (disch := omega) only [fa_lit, nI_ad, nI_mul, nI_cl, inb_nI, nI_ltE, nI_leE, nI_eqE, nI_m1, nI_m1', m1_lt, lt_m1, m1_le, le_m1, eq_self, not_true_eq_false, not_false_eq_true, ↓reduceIte, leT, leF, ltT, ltF, eqT, eqF, decide_true, decide_false, true_and, and_true, Nat.reduceAdd, bI0_i, bI_i, bI_x, bV0_v, bV_v, bV_x, ↓bnd_e, gd_t, x_at, x_put, at_x, up_x, ef, nI_div, upd_s]
  · simp (disch := omega) only [fa_lit, nI_ad, nI_mul, nI_cl, inb_nI, nI_ltE, nI_leE, nI_eqE, nI_m1, nI_m1', m1_lt, lt_m1, m1_le, le_m1, eq_self, not_true_eq_false, not_false_eq_true, ↓reduceIte, leT, leF, ltT, ltF, eqT, eqF, decide_true, decide_false, true_and, and_true, Nat.reduceAdd, bI0_i, bI_i, bI_x, bV0_v, bV_v, bV_x, ↓bnd_e, gd_t, at_m, cM_wOi, wO_at, up_m, pj_l, pj_h, pj_k, pj_0, pj_1, pj_2, pj_3, pj_5, pj_6, pj_7, pj_8, pj_9, pj_10, pj_11, pj_12, pj_13, pj_14, pj_15, pj_16, ef, nI_div, upd_s]
theorem ag_clear {p1 : Int32} (hF : 6000 ≤ F) (hI : Inv S) : Ag (f_X9_clear p1) (f_X10_clear F p1) [3] S := by
  obtain ⟨n, nh, nk, A, hn, en, hnh, enh, hnk, enk, hX, hW, hM, hR, hC⟩ := inv_b hI
  by_cases g1 : ∃ l, l < n ∧ p1 = nI l
  · obtain ⟨l, hl, rfl⟩ := g1
    obtain ⟨b, hb, eb⟩ := hR.birds (show l < 10 by omega)
    have hR2 : Rg (upd (upd (upd (S 25) (16 + l * 5 + 2) (nI 0)) (16 + l * 5 + 3) (nI 0)) (16 + l * 5 + 4) (nI (b - 1))) :=
      ((hR.up (by omega) (fun b hb => ⟨0, by omega, rfl⟩)).up (by omega) (fun b hb => ⟨0, by omega, rfl⟩)).up (by omega) (fun b' hb' => by rw [lim_ledge l (by omega) 4 (by omega)] at hb'; cases hb'; exact ⟨b - 1, by simp only [Nat.reduceEqDiff, ↓reduceIte]; omega, rfl⟩)
    have emx := dec1 b (by omega)
    have hz2 : Az (upd (upd (upd (S 25) (16 + l * 5 + 2) (nI 0)) (16 + l * 5 + 3) (nI 0)) (16 + l * 5 + 4) (nI (b - 1))) := by
      intro l' hl' e
      by_cases el : l' = l
      · subst el; rw [upd_n (by omega), upd_s]
      · rw [upd_n (by omega), upd_n (by omega), upd_n (by omega)] at e ⊢
        exact hI.2.2.2.2.2.2.2.2.2.1 l' hl' e
    refine ag_act2 (r := S 25 (16 + l * 5 + 2)) hF hI hR2 hz2 (gX := _) (gM := _) (by unfold f_X9_clear; rw [x_needLedge hn en hl, bV_v]) (fun T U hU h64 => by
      have en' : cM (U 64) 12 = nI n := by rw [h64, hC]; exact en
      unfold f_X10_clear; rw [bnd_e, show upS T 63 0 (0 : Int32) = U from hU.symm]
      simp (disch := omega) only [fa_lit, nI_ad, nI_mul, nI_cl, inb_nI, nI_ltE, nI_leE, nI_eqE, nI_m1, nI_m1', m1_lt, lt_m1, m1_le, le_m1, eq_self, not_true_eq_false, not_false_eq_true, ↓reduceIte, leT, leF, ltT, ltF, eqT, eqF, decide_true, decide_false, true_and, and_true, Nat.reduceAdd, bI0_i, bI_i, bI_x, bV0_v, bV_v, bV_x, ↓bnd_e, gd_t, m_noLedge hn en' hl, m_throw0]
      rfl) (fun S1 p q _ => ⟨p, q, ?_⟩) (fun T1 a b q => ⟨a, b, q, ?_⟩)
    · simp (disch := omega) only [fa_lit, nI_ad, nI_mul, nI_cl, inb_nI, nI_ltE, nI_leE, nI_eqE, nI_m1, nI_m1', m1_lt, lt_m1, m1_le, le_m1, eq_self, not_true_eq_false, not_false_eq_true, ↓reduceIte, leT, leF, ltT, ltF, eqT, eqF, decide_true, decide_false, true_and, and_true, Nat.reduceAdd, bI0_i, bI_i, bI_x, bV0_v, bV_v, bV_x, ↓bnd_e, gd_t, x_ofLedge, x_putLedge, at_x, up_x, upd_n, eb, emx]
    · simp (disch := omega) only [fa_lit, nI_ad, nI_mul, nI_cl, inb_nI, nI_ltE, nI_leE, nI_eqE, nI_m1, nI_m1', m1_lt, lt_m1, m1_le, le_m1, eq_self, not_true_eq_false, not_false_eq_true, ↓reduceIte, leT, leF, ltT, ltF, eqT, eqF, decide_true, decide_false, true_and, and_true, Nat.reduceAdd, bI0_i, bI_i, bI_x, bV0_v, bV_v, bV_x, ↓bnd_e, gd_t, m_of, m_at, at_m, cM_wOi, wO_at, up_m, pj_l, pj_h, pj_k, pj_0, pj_1, pj_2, pj_3, pj_5, pj_6, pj_7, pj_8, pj_9, pj_10, pj_11, pj_12, pj_13, pj_14, pj_15, pj_16, upd_n, eb, emx]
  · refine ag_exc (b := nI 0) hI 0 rfl (by omega) ?_ (fun T U hU h64 => ?_)
    · unfold f_X9_clear
      simp (disch := omega) only [fa_lit, nI_ad, nI_mul, nI_cl, inb_nI, nI_ltE, nI_leE, nI_eqE, nI_m1, nI_m1', m1_lt, lt_m1, m1_le, le_m1, eq_self, not_true_eq_false, not_false_eq_true, ↓reduceIte, leT, leF, ltT, ltF, eqT, eqF, decide_true, decide_false, true_and, and_true, Nat.reduceAdd, bI0_i, bI_i, bI_x, bV0_v, bV_v, bV_x, ↓bnd_e, gd_t, x_needLedge_x hn en g1]
    · have en' : cM (U 64) 12 = nI n := by rw [h64, hC]; exact en
      unfold f_X10_clear; rw [bnd_e, show upS T 63 0 (0 : Int32) = U from hU.symm]
      simp (disch := omega) only [fa_lit, nI_ad, nI_mul, nI_cl, inb_nI, nI_ltE, nI_leE, nI_eqE, nI_m1, nI_m1', m1_lt, lt_m1, m1_le, le_m1, eq_self, not_true_eq_false, not_false_eq_true, ↓reduceIte, leT, leF, ltT, ltF, eqT, eqF, decide_true, decide_false, true_and, and_true, Nat.reduceAdd, bI0_i, bI_i, bI_x, bV0_v, bV_v, bV_x, ↓bnd_e, gd_t, m_noLedge_x hn en' g1, m_throw]
theorem ag_rest {p1 : Int32} (hF : 6000 ≤ F) (hI : Inv S) : Ag (f_X9_rest p1) (f_X10_rest F p1) [3] S := by
  obtain ⟨n, nh, nk, A, hn, en, hnh, enh, hnk, enk, hX, hW, hM, hR, hC⟩ := inv_b hI
  by_cases g1 : ∃ l, l < nh ∧ p1 = nI l
  · obtain ⟨l, hl, rfl⟩ := g1
    have hR2 : Rg (upd (S 25) (66 + l * 2 + 1) (nI 0)) := hR.up (by omega) (fun b hb => ⟨0, by omega, rfl⟩)
    refine ag_act2 (r := S 25 (66 + l * 2 + 1)) hF hI hR2 (Az_up (by omega) hI.2.2.2.2.2.2.2.2.2.1) (gX := _) (gM := _) (by unfold f_X9_rest; rw [x_needHolder hnh enh hl, bV_v]) (fun T U hU h64 => by
      have en' : cM (U 64) 13 = nI nh := by rw [h64, hC]; exact enh
      unfold f_X10_rest; rw [bnd_e, show upS T 63 0 (0 : Int32) = U from hU.symm]
      simp (disch := omega) only [fa_lit, nI_ad, nI_mul, nI_cl, inb_nI, nI_ltE, nI_leE, nI_eqE, nI_m1, nI_m1', m1_lt, lt_m1, m1_le, le_m1, eq_self, not_true_eq_false, not_false_eq_true, ↓reduceIte, leT, leF, ltT, ltF, eqT, eqF, decide_true, decide_false, true_and, and_true, Nat.reduceAdd, bI0_i, bI_i, bI_x, bV0_v, bV_v, bV_x, ↓bnd_e, gd_t, m_noHolder hnh en' hl, m_throw0]
      rfl) (fun S1 p q _ => ⟨p, q, ?_⟩) (fun T1 a b q => ⟨a, b, q, ?_⟩)
    · simp (disch := omega) only [fa_lit, nI_ad, nI_mul, nI_cl, inb_nI, nI_ltE, nI_leE, nI_eqE, nI_m1, nI_m1', m1_lt, lt_m1, m1_le, le_m1, eq_self, not_true_eq_false, not_false_eq_true, ↓reduceIte, leT, leF, ltT, ltF, eqT, eqF, decide_true, decide_false, true_and, and_true, Nat.reduceAdd, bI0_i, bI_i, bI_x, bV0_v, bV_v, bV_x, ↓bnd_e, gd_t, x_ofHolder, x_putHolder, at_x, up_x, upd_n]
    · simp (disch := omega) only [fa_lit, nI_ad, nI_mul, nI_cl, inb_nI, nI_ltE, nI_leE, nI_eqE, nI_m1, nI_m1', m1_lt, lt_m1, m1_le, le_m1, eq_self, not_true_eq_false, not_false_eq_true, ↓reduceIte, leT, leF, ltT, ltF, eqT, eqF, decide_true, decide_false, true_and, and_true, Nat.reduceAdd, bI0_i, bI_i, bI_x, bV0_v, bV_v, bV_x, ↓bnd_e, gd_t, m_ofHolder, m_at, at_m, cM_wOi, wO_at, up_m, pj_l, pj_h, pj_k, pj_0, pj_1, pj_2, pj_3, pj_5, pj_6, pj_7, pj_8, pj_9, pj_10, pj_11, pj_12, pj_13, pj_14, pj_15, pj_16, upd_n]
  · refine ag_exc (b := nI 0) hI 0 rfl (by omega) ?_ (fun T U hU h64 => ?_)
    · unfold f_X9_rest
      simp (disch := omega) only [fa_lit, nI_ad, nI_mul, nI_cl, inb_nI, nI_ltE, nI_leE, nI_eqE, nI_m1, nI_m1', m1_lt, lt_m1, m1_le, le_m1, eq_self, not_true_eq_false, not_false_eq_true, ↓reduceIte, leT, leF, ltT, ltF, eqT, eqF, decide_true, decide_false, true_and, and_true, Nat.reduceAdd, bI0_i, bI_i, bI_x, bV0_v, bV_v, bV_x, ↓bnd_e, gd_t, x_needHolder_x hnh enh g1]
    · have en' : cM (U 64) 13 = nI nh := by rw [h64, hC]; exact enh
      unfold f_X10_rest; rw [bnd_e, show upS T 63 0 (0 : Int32) = U from hU.symm]
      simp (disch := omega) only [fa_lit, nI_ad, nI_mul, nI_cl, inb_nI, nI_ltE, nI_leE, nI_eqE, nI_m1, nI_m1', m1_lt, lt_m1, m1_le, le_m1, eq_self, not_true_eq_false, not_false_eq_true, ↓reduceIte, leT, leF, ltT, ltF, eqT, eqF, decide_true, decide_false, true_and, and_true, Nat.reduceAdd, bI0_i, bI_i, bI_x, bV0_v, bV_v, bV_x, ↓bnd_e, gd_t, m_noHolder_x hnh en' g1, m_throw]
end O
