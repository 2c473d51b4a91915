/-! isle -/
section T
variable {F : Nat} {S : mS}
theorem m_isleC : ∀ (m i f : Nat) (S : mS), i + m = 1296 → m < f → f_X10_isle_b2 F f (nI i) S = bI0 (f_X10_readAll F (nI 1) (seS S 66 (rngF i 1296 (S 64) (S 66)))) (fun r2 S1 => (if nI 0 ≤ r2 then f_X10_isle_b46 F r2 (-nI 1) S1 else f_X10_isle_b46 F r2 (S1 63 12) S1))
  | 0, i, f + 1, S, hi, hf => by
    have hie : i = 1296 := by omega
    rw [hie, f_X10_isle_b2]
    simp (disch := omega) only [fa_lit, nI_ad, nI_mul, nI_cl, inb_nI, nI_ltE, nI_leE, nI_eqE, nI_m1, nI_m1', m1_lt, lt_m1, m1_le, le_m1, eq_self, not_true_eq_false, not_false_eq_true, ↓reduceIte, leT, leF, ltT, ltF, eqT, eqF, decide_true, decide_false, true_and, and_true, Nat.reduceAdd, bI0_i, bI_i, bI_x, bV0_v, bV_v, bV_x, ↓bnd_e, gd_t, rng_end, se_id, Nat.le_refl]
  | m + 1, i, f + 1, S, hi, hf => by
    have ih := m_isleC m (i + 1) f (upS S 66 i (S 64 i)) (by omega) (by omega)
    rw [f_X10_isle_b2]
    have e : seS (upS S 66 i (S 64 i)) 66 (rngF (i + 1) 1296 ((upS S 66 i (S 64 i)) 64) ((upS S 66 i (S 64 i)) 66)) = seS S 66 (rngF i 1296 (S 64) (S 66)) := by
      rw [se_up, upS_n (by omega), upS_s, rng_step (by omega)]
    rw [e] at ih
    simp (disch := omega) only [fa_lit, nI_ad, nI_mul, nI_cl, inb_nI, nI_ltE, nI_leE, nI_eqE, nI_m1, nI_m1', m1_lt, lt_m1, m1_le, le_m1, eq_self, not_true_eq_false, not_false_eq_true, ↓reduceIte, leT, leF, ltT, ltF, eqT, eqF, decide_true, decide_false, true_and, and_true, Nat.reduceAdd, bI0_i, bI_i, bI_x, bV0_v, bV_v, bV_x, ↓bnd_e, gd_t]
    exact ih
theorem m_isleR : ∀ (m i f : Nat) (S : mS), i + m = 1296 → m < f → f_X10_isle_b92 F f (nI i) S = some (.inl (some (.int (nI 0))), seS S 64 (rngF i 1296 (S 66) (S 64)))
  | 0, i, f + 1, S, hi, hf => by
    have hie : i = 1296 := by omega
    rw [hie, f_X10_isle_b92]
    simp (disch := omega) only [fa_lit, nI_ad, nI_mul, nI_cl, inb_nI, nI_ltE, nI_leE, nI_eqE, nI_m1, nI_m1', m1_lt, lt_m1, m1_le, le_m1, eq_self, not_true_eq_false, not_false_eq_true, ↓reduceIte, leT, leF, ltT, ltF, eqT, eqF, decide_true, decide_false, true_and, and_true, Nat.reduceAdd, bI0_i, bI_i, bI_x, bV0_v, bV_v, bV_x, ↓bnd_e, gd_t, rng_end, se_id, Nat.le_refl]
  | m + 1, i, f + 1, S, hi, hf => by
    have ih := m_isleR m (i + 1) f (upS S 64 i (S 66 i)) (by omega) (by omega)
    rw [f_X10_isle_b92]
    simp (disch := omega) only [fa_lit, nI_ad, nI_mul, nI_cl, inb_nI, nI_ltE, nI_leE, nI_eqE, nI_m1, nI_m1', m1_lt, lt_m1, m1_le, le_m1, eq_self, not_true_eq_false, not_false_eq_true, ↓reduceIte, leT, leF, ltT, ltF, eqT, eqF, decide_true, decide_false, true_and, and_true, Nat.reduceAdd, bI0_i, bI_i, bI_x, bV0_v, bV_v, bV_x, ↓bnd_e, gd_t, ih, upS_n, upS_s, rng_step]
    simp (disch := omega) only [up_def, seS_seS]
theorem ag_isle (hF : 6000 ≤ F) (hI : Inv S) : Ag (f_X9_isle F) (f_X10_isle F) [1, 2] S := by
  have hI0 := hI
  obtain ⟨g1, g2, ⟨A, a1, a2, a3⟩, g4, g5, g6, g7, g8, g9⟩ := hI
  obtain ⟨B, t, hT, h9, h69⟩ := tape_B g8
  obtain ⟨x, hx12, ex⟩ := g1.1 11 12 rfl
  have hcp := x_copy (S := S) (u0 := 26) (u1 := 24) g4 g1.2
  generalize hS1 : seS S (26 + 1) (S (24 + 1)) = S1 at hcp
  have s27 : S1 27 = S 25 := by rw [← hS1]; exact seS_s
  have so : ∀ o, o ≠ 27 → S1 o = S o := fun o h => by rw [← hS1]; exact seS_n h
  have hT1 : TB S1 B t := TB_of (so 1 (by omega)) (so 2 (by omega)) hT
  have hx := x_isleAll (F := F) hF hT1 (by rw [s27]; exact g1) (by rw [s27]; exact g9.2.1)
  rw [s27] at hx
  have hcut : ∀ Y : mS, f_X8_cut (nI 0) Y = some (.inl none, upS Y 1 1 (nI 0)) := fun Y => by unfold f_X8_cut; rw [bnd_e]
  -- the class's state behind the reading
  have yo : ∀ (p' n' : Nat) (w : Int32) (c' : Nat → Int32), nI n' = S1 10 7 → ∀ o, o ≠ 1 → o ≠ 27 → (upS (yS S1 p' w c' n' (S1 14)) 1 1 (nI 0)) o = S o := by
    intro p' n' w c' hn o q1 q2
    rw [upS_n q1]
    by_cases e3 : o = 10
    · subst e3; rw [y_10, hn, upd_id rfl, so 10 (by omega)]
    · by_cases e4 : o = 14
      · subst e4; rw [y_14, so 14 (by omega)]
      · rw [y_o q1 q2 e3 e4, so o q2]
  -- the model up to the end of its reading
  have hM : ∀ T : mS, (∀ o, o < 75 → o ≠ 1 → o ≠ 27 → o ≠ 25 → o ≠ 36 → T o = S o) → ∃ V, V 64 = S 64 ∧ V 66 = rngF 0 1296 (S 64) (T 66) ∧ (∀ o, o ≠ 66 → V o = T o) ∧ f_X10_isle F T = bI0 (f_X10_readAll F (nI 1) V) (fun r2 S1 => (if nI 0 ≤ r2 then f_X10_isle_b46 F r2 (-nI 1) S1 else f_X10_isle_b46 F r2 (S1 63 12) S1)) ∧ TM (m_u V) B t := by
    intro T hTo
    have e64 : T 64 = S 64 := hTo 64 (by omega) (by omega) (by omega) (by omega) (by omega)
    refine ⟨seS T 66 (rngF 0 1296 (T 64) (T 66)), by rw [seS_n (by omega), e64], by rw [seS_s, e64], fun o h => seS_n h, m_isleC 1296 0 F T (by omega) (by omega), hT.1, ?_, fun i hi => ⟨?_, (hT.2.2 i hi).2⟩⟩
    · rw [m_u_11, seS_n (by omega), hTo 63 (by omega) (by omega) (by omega) (by omega) (by omega)]; exact h9
    · rw [m_u_o (by omega), seS_n (by omega), hTo 69 (by omega) (by omega) (by omega) (by omega) (by omega)]; exact h69 i hi
  -- a text that is thrown away
  have bad : ∀ (p' n' j : Nat) (w : Int32) (c' : Nat → Int32), nI n' = S1 10 7 → zb c' → j < 2 → ∀ (T : mS), (∀ o, o < 75 → T o = (upS (yS S1 p' w c' n' (S1 14)) 1 1 (nI 0)) o) →
      ∀ (V : mS) (q2 b2 d2 s2 : Nat) (c2 : Nat → Int32), V 64 = S 64 → V 66 = rngF 0 1296 (S 64) (T 66) → (∀ o, o ≠ 66 → V o = T o) →
      Inv (seS (upS (upS (zS (m_u V) q2 b2 d2 s2 (wO (V 64) c2)) 63 14 w) 63 0 (nI (j + 1))) 64 (rngF 0 1296 ((upS (upS (zS (m_u V) q2 b2 d2 s2 (wO (V 64) c2)) 63 14 w) 63 0 (nI (j + 1))) 66) ((upS (upS (zS (m_u V) q2 b2 d2 s2 (wO (V 64) c2)) 63 14 w) 63 0 (nI (j + 1))) 64)))
      ∧ (seS (upS (upS (zS (m_u V) q2 b2 d2 s2 (wO (V 64) c2)) 63 14 w) 63 0 (nI (j + 1))) 64 (rngF 0 1296 ((upS (upS (zS (m_u V) q2 b2 d2 s2 (wO (V 64) c2)) 63 14 w) 63 0 (nI (j + 1))) 66) ((upS (upS (zS (m_u V) q2 b2 d2 s2 (wO (V 64) c2)) 63 14 w) 63 0 (nI (j + 1))) 64))) 63 0 = nI (j + 1) := by
    intro p' n' j w c' hn zc hj T hTT V q2 b2 d2 s2 c2 v64 v66 vo
    generalize hR : seS (upS (upS (zS (m_u V) q2 b2 d2 s2 (wO (V 64) c2)) 63 14 w) 63 0 (nI (j + 1))) 64 (rngF 0 1296 ((upS (upS (zS (m_u V) q2 b2 d2 s2 (wO (V 64) c2)) 63 14 w) 63 0 (nI (j + 1))) 66) ((upS (upS (zS (m_u V) q2 b2 d2 s2 (wO (V 64) c2)) 63 14 w) 63 0 (nI (j + 1))) 64)) = R
    have ro : ∀ o, o ≠ 63 → o ≠ 64 → o ≠ 66 → R o = T o := by
      intro o k1 k2 k3
      rw [← hR, seS_n k2, upS_n k1, upS_n k1, z_o k1 k2, m_u_o k1, vo o k3]
    have rs : ∀ o, o < 75 → o ≠ 1 → o ≠ 27 → o ≠ 63 → o ≠ 64 → o ≠ 66 → R o = S o := by
      intro o k0 k1 k2 k3 k4 k5
      rw [ro o k3 k4 k5, hTT o k0, yo p' n' w c' hn o k1 k2]
    have r64 : ∀ k, k < 1296 → R 64 k = S 64 k := by
      intro k hk
      rw [← hR, seS_s, rng_in (by omega) hk, upS_n (by omega), upS_n (by omega), z_o (by omega) (by omega), m_u_o (by omega), v66, rng_in (by omega) hk]
    have rk : ∀ k, k ≠ 14 → k ≠ 0 → k ≠ 10 → k ≠ 12 → k ≠ 13 → k ≠ 16 → k ≠ 11 → k ≠ 9 → R 63 k = S 63 k := by
      intro k j1 j2 j3 j4 j5 j6 j7 j8
      rw [← hR, seS_n (by omega), upS_s, upd_n j2, upS_s, upd_n j1, z_k j3 j4 j5 j6, m_u_k j2 j7 j8, vo 63 (by omega), hTT 63 (by omega), yo p' n' w c' hn 63 (by omega) (by omega)]
    have r1 : R 1 = upd (yS S1 p' w c' n' (S1 14) 1) 1 (nI 0) := by rw [ro 1 (by omega) (by omega) (by omega), hTT 1 (by omega), upS_s]
    refine ⟨Inv_txt (e := w) hI0 ?_ ?_ ?_ ⟨A, a1, LX_of (fun o q1 q2 => rs o (by omega) (by omega) (by omega) (by omega) (by omega) (by omega)) a2, LM_of (r64 4 (by omega)) (fun k _ hk => r64 k hk) a1 a3⟩ ?_ ?_ ?_ (rk 6 (by omega) (by omega) (by omega) (by omega) (by omega) (by omega) (by omega) (by omega)) ?_ ?_ (Or.inr ⟨?_, ?_, rk 7 (by omega) (by omega) (by omega) (by omega) (by omega) (by omega) (by omega) (by omega), r64 4 (by omega), rs 68 (by omega) (by omega) (by omega) (by omega) (by omega) (by omega)⟩) (fun o ho => rs o (by omega) (by omega) (by omega) (by omega) (by omega) (by omega)), ?_⟩
    · rw [rs 25 (by omega) (by omega) (by omega) (by omega) (by omega) (by omega)]; exact g1
    · rw [rs 25 (by omega) (by omega) (by omega) (by omega) (by omega) (by omega)]; exact g9.2.1
    · rw [rs 25 (by omega) (by omega) (by omega) (by omega) (by omega) (by omega), ← g2]; exact cM_congr (fun k hk => r64 k (by omega))
    · rw [ro 27 (by omega) (by omega) (by omega), hTT 27 (by omega), upS_n (by omega), y_27]; exact zc
    · rw [r1, upd_s]
    · rw [r1, upd_n (by omega), y_13]
    · rw [← hR, seS_n (by omega), upS_s, upd_n (by omega), upS_s, upd_n (by omega), z_k (by omega) (by omega) (by omega) (by omega), m_u_9]
    · rw [← hR, seS_n (by omega), upS_s, upd_n (by omega), upS_s, upd_s]
    · rw [rs 36 (by omega) (by omega) (by omega) (by omega) (by omega) (by omega)]
    · rw [rs 36 (by omega) (by omega) (by omega) (by omega) (by omega) (by omega)]
    · rw [← hR, seS_n (by omega), upS_s, upd_s]
  have m0 : ¬ nI 0 ≤ -nI 1 := by decide
  cases ga : iAll B t (S 25) with
  | inl e =>
    rw [ga] at hx
    obtain ⟨p', n', c', zc, hr, hn⟩ := hx
    refine ⟨.inr 1, upS (yS S1 p' (nI e) c' n' (S1 14)) 1 1 (nI 0), ?_, fun T hTT => ?_⟩
    · unfold f_X9_isle
      simp (disch := omega) only [fa_lit, nI_ad, nI_mul, nI_cl, inb_nI, nI_ltE, nI_leE, nI_eqE, nI_m1, nI_m1', m1_lt, lt_m1, m1_le, le_m1, eq_self, not_true_eq_false, not_false_eq_true, ↓reduceIte, leT, leF, ltT, ltF, eqT, eqF, decide_true, decide_false, true_and, and_true, Nat.reduceAdd, bI0_i, bI_i, bI_x, bV0_v, bV_v, bV_x, ↓bnd_e, gd_t, hcp, hr, hcut]
    · obtain ⟨V, v64, v66, vo, hm, hTM⟩ := hM T (fun o k0 k1 k2 _ _ => by rw [hTT o k0, yo p' n' (nI e) c' hn o k1 k2])
      have hA := m_isleAll (F := F) (T := V) (c := S 25) hF hTM g1 g9.2.1 (by rw [v64]; exact g2)
      rw [ga] at hA
      obtain ⟨q2, d2, s2, c2, e4⟩ := hA
      have hb := bad p' n' 0 (nI e) c' hn zc (by omega) T hTT V q2 e d2 s2 c2 v64 v66 vo
      have hrr := m_isleR (F := F) 1296 0 F (upS (upS (zS (m_u V) q2 e d2 s2 (wO (V 64) c2)) 63 14 (nI e)) 63 0 (nI (0 + 1))) (by omega) (by omega)
      refine ⟨nI 0, _, Eq.trans ?_ hrr, hb.1, 0, rfl, by omega, hb.2⟩
      rw [hm, e4, bI0_i, if_neg m0, z_12]
      unfold f_X10_isle_b46 f_X10_isle_b59 f_X10_isle_b90
      simp (disch := omega) only [fa_lit, nI_ad, nI_mul, nI_cl, inb_nI, nI_ltE, nI_leE, nI_eqE, nI_m1, nI_m1', m1_lt, lt_m1, m1_le, le_m1, eq_self, not_true_eq_false, not_false_eq_true, ↓reduceIte, leT, leF, ltT, ltF, eqT, eqF, decide_true, decide_false, true_and, and_true, Nat.reduceAdd, bI0_i, bI_i, bI_x, bV0_v, bV_v, bV_x, ↓bnd_e, gd_t, le0_m1, m_throw]
  | inr c' =>
    rw [ga] at hx
    obtain ⟨p', n', hr, hn⟩ := hx
    have hc := iAll_p g1 g9.2.1 ga
    have c11 : c' 11 = nI x := by rw [hc.2.2]; exact ex
    have tx : ∀ (Y : mS), Y 25 = S 25 → f_X0_at 24 (nI 11) Y = some (.inl (some (.int (nI x))), Y) := fun Y h => by
      rw [x_at (by omega), show Y (24 + 1) 11 = nI x from by rw [show Y (24 + 1) = S 25 from h]; exact ex]
    by_cases gx : x = 12
    · refine ⟨.inr 2, upS (yS S1 p' (-nI 1) c' n' (S1 14)) 1 1 (nI 0), ?_, fun T hTT => ?_⟩
      · have ht := tx (upS (yS S1 p' (-nI 1) c' n' (S1 14)) 1 1 (nI 0)) (yo p' n' (-nI 1) c' hn 25 (by omega) (by omega))
        unfold f_X9_isle
        simp (disch := omega) only [fa_lit, nI_ad, nI_mul, nI_cl, inb_nI, nI_ltE, nI_leE, nI_eqE, nI_m1, nI_m1', m1_lt, lt_m1, m1_le, le_m1, eq_self, not_true_eq_false, not_false_eq_true, ↓reduceIte, leT, leF, ltT, ltF, eqT, eqF, decide_true, decide_false, true_and, and_true, Nat.reduceAdd, bI0_i, bI_i, bI_x, bV0_v, bV_v, bV_x, ↓bnd_e, gd_t, hcp, hr, hcut, ht]
      · obtain ⟨V, v64, v66, vo, hm, hTM⟩ := hM T (fun o k0 k1 k2 _ _ => by rw [hTT o k0, yo p' n' (-nI 1) c' hn o k1 k2])
        have hA := m_isleAll (F := F) (T := V) (c := S 25) hF hTM g1 g9.2.1 (by rw [v64]; exact g2)
        rw [ga] at hA
        obtain ⟨q2, b2, d2, s2, n2, hn2, e4⟩ := hA
        have hb := bad p' n' 1 (-nI 1) c' hn hc.1.2 (by omega) T hTT V q2 b2 d2 s2 c' v64 v66 vo
        have hrr := m_isleR (F := F) 1296 0 F (upS (upS (zS (m_u V) q2 b2 d2 s2 (wO (V 64) c')) 63 14 (-nI 1)) 63 0 (nI (1 + 1))) (by omega) (by omega)
        have e3 : (upS (zS (m_u V) q2 b2 d2 s2 (wO (V 64) c')) 63 14 (-nI 1)) 64 3 = nI x := by rw [upS_n (by omega), z_64, wO_at (by omega) (by omega), pj_3, c11]
        refine ⟨nI 0, _, Eq.trans ?_ hrr, hb.1, 1, rfl, by omega, hb.2⟩
        rw [hm, e4, bI0_i, if_pos (by rw [nI_leE (by omega) (by omega)]; omega)]
        unfold f_X10_isle_b46 f_X10_isle_b59 f_X10_isle_b83 f_X10_isle_b90
        simp (disch := omega) only [fa_lit, nI_ad, nI_mul, nI_cl, inb_nI, nI_ltE, nI_leE, nI_eqE, nI_m1, nI_m1', m1_lt, lt_m1, m1_le, le_m1, eq_self, not_true_eq_false, not_false_eq_true, ↓reduceIte, leT, leF, ltT, ltF, eqT, eqF, decide_true, decide_false, true_and, and_true, Nat.reduceAdd, bI0_i, bI_i, bI_x, bV0_v, bV_v, bV_x, ↓bnd_e, gd_t, m_throw0, m_throw, e3]
    · generalize hc2 : upd c' 11 (nI (x + 1)) = c2
      have c2R : Rg c2 := by rw [← hc2]; exact hc.1.up (by omega) (fun b hb => by cases hb; exact ⟨x + 1, by omega, rfl⟩)
      have c2A : Az c2 := by rw [← hc2]; exact Az_up (by omega) hc.2.1
      generalize hY : upS (yS S1 p' (-nI 1) c2 n' (S1 14)) 1 1 (nI 0) = Y
      have y27 : Y 27 = c2 := by rw [← hY, upS_n (by omega), y_27]
      have yO : ∀ o, o ≠ 1 → o ≠ 27 → Y o = S o := fun o k1 k2 => by rw [← hY]; exact yo p' n' (-nI 1) c2 hn o k1 k2
      refine ⟨.inl (some (.int (nI (x + 1)))), upS (seS Y 25 c2) 36 2 (nI 0), ?_, fun T hTT => ?_⟩
      · have ht := tx (upS (yS S1 p' (-nI 1) c' n' (S1 14)) 1 1 (nI 0)) (yo p' n' (-nI 1) c' hn 25 (by omega) (by omega))
        have ha : f_X0_add 26 (nI 11) (nI 1) (upS (yS S1 p' (-nI 1) c' n' (S1 14)) 1 1 (nI 0)) = some (.inl none, Y) := by
          rw [x_add (by omega)]
          have ec : (upS (yS S1 p' (-nI 1) c' n' (S1 14)) 1 1 (nI 0)) (26 + 1) 11 = nI x := by
            rw [show (upS (yS S1 p' (-nI 1) c' n' (S1 14)) 1 1 (nI 0)) (26 + 1) = c' from by rw [upS_n (by omega)]; rfl, c11]
          rw [ec, nI_ad]
          have : upS (upS (yS S1 p' (-nI 1) c' n' (S1 14)) 1 1 (nI 0)) 27 11 (nI (x + 1)) = Y := by
            rw [← hY, ← hc2, ← y_u27]
            funext o
            by_cases e1 : o = 1
            · subst e1; rw [upS_n (by omega), upS_s, upS_s, upS_n (by omega)]
            · rw [upS_n e1]
              by_cases e2 : o = 27
              · subst e2; rw [upS_s, upS_s, upS_n (by omega)]
              · rw [upS_n e2, upS_n e2, upS_n e1]
          exact congrArg (fun z => (some (.inl none, z) : Option mR)) this
        have hcc := x_copy (S := Y) (u0 := 24) (u1 := 26) (by rw [show Y (24 + 1) = S 25 from yO 25 (by omega) (by omega)]; exact g1.2) (by rw [show Y (26 + 1) = c2 from y27]; exact c2R.2)
        rw [show Y (26 + 1) = c2 from y27] at hcc
        have hcc : f_X0_copy 24 26 Y = some (.inl none, seS Y 25 c2) := hcc
        have hat : f_X0_at 24 (nI 11) (upS (seS Y 25 c2) 36 2 (nI 0)) = some (.inl (some (.int (nI (x + 1)))), upS (seS Y 25 c2) 36 2 (nI 0)) := by
          rw [x_at (by omega)]
          have : (upS (seS Y 25 c2) 36 2 (nI 0)) (24 + 1) 11 = nI (x + 1) := by
            rw [upS_n (by omega)]
            show (seS Y 25 c2) 25 11 = _
            rw [seS_s, ← hc2, upd_s]
          rw [this]
        unfold f_X9_isle f_X5_forget
        simp (disch := omega) only [fa_lit, nI_ad, nI_mul, nI_cl, inb_nI, nI_ltE, nI_leE, nI_eqE, nI_m1, nI_m1', m1_lt, lt_m1, m1_le, le_m1, eq_self, not_true_eq_false, not_false_eq_true, ↓reduceIte, leT, leF, ltT, ltF, eqT, eqF, decide_true, decide_false, true_and, and_true, Nat.reduceAdd, bI0_i, bI_i, bI_x, bV0_v, bV_v, bV_x, ↓bnd_e, gd_t, hcp, hr, hcut, ht, ha, hcc, hat]
      · have tO : ∀ o, o < 75 → o ≠ 1 → o ≠ 27 → o ≠ 25 → o ≠ 36 → T o = S o := fun o k0 k1 k2 k3 k4 => by rw [hTT o k0, upS_n k4, seS_n k3, yO o k1 k2]
        obtain ⟨V, v64, v66, vo, hm, hTM⟩ := hM T tO
        have hA := m_isleAll (F := F) (T := V) (c := S 25) hF hTM g1 g9.2.1 (by rw [v64]; exact g2)
        rw [ga] at hA
        obtain ⟨q2, b2, d2, s2, n2, hn2, e4⟩ := hA
        have e3 : (upS (zS (m_u V) q2 b2 d2 s2 (wO (V 64) c')) 63 14 (-nI 1)) 64 3 = nI x := by rw [upS_n (by omega), z_64, wO_at (by omega) (by omega), pj_3, c11]
        generalize hR : upS (upS (upS (zS (m_u V) q2 b2 d2 s2 (wO (V 64) c')) 63 14 (-nI 1)) 64 3 (nI (x + 1))) 63 7 (nI 0) = R
        have r64 : R 64 = wO (S 64) c2 := by
          rw [← hR, upS_n (by omega), upS_s, upS_n (by omega), z_64, up_wO (by omega) (by omega), pj_3, hc2, v64]
        have ro : ∀ o, o ≠ 63 → o ≠ 64 → o ≠ 66 → R o = T o := by
          intro o k1 k2 k3
          rw [← hR, upS_n k1, upS_n k2, upS_n k1, z_o k1 k2, m_u_o k1, vo o k3]
        have rs : ∀ o, o < 75 → o ≠ 1 → o ≠ 27 → o ≠ 25 → o ≠ 36 → o ≠ 63 → o ≠ 64 → o ≠ 66 → R o = S o := fun o k0 k1 k2 k3 k4 k5 k6 k7 => by rw [ro o k5 k6 k7, tO o k0 k1 k2 k3 k4]
        have rk : ∀ k, k ≠ 7 → k ≠ 14 → k ≠ 0 → k ≠ 10 → k ≠ 12 → k ≠ 13 → k ≠ 16 → k ≠ 11 → k ≠ 9 → R 63 k = S 63 k := by
          intro k j0 j1 j2 j3 j4 j5 j6 j7 j8
          rw [← hR, upS_s, upd_n j0, upS_n (by omega), upS_s, upd_n j1, z_k j3 j4 j5 j6, m_u_k j2 j7 j8, vo 63 (by omega), tO 63 (by omega) (by omega) (by omega) (by omega) (by omega)]
        have r36 : R 36 = upd (S 36) 2 (nI 0) := by rw [ro 36 (by omega) (by omega) (by omega), hTT 36 (by omega), upS_s, seS_n (by omega), yO 36 (by omega) (by omega)]
        have r25 : R 25 = c2 := by rw [ro 25 (by omega) (by omega) (by omega), hTT 25 (by omega), upS_n (by omega), seS_s]
        have r27 : R 27 = c2 := by rw [ro 27 (by omega) (by omega) (by omega), hTT 27 (by omega), upS_n (by omega), seS_n (by omega), y27]
        have r1 : R 1 = Y 1 := by rw [ro 1 (by omega) (by omega) (by omega), hTT 1 (by omega), upS_n (by omega), seS_n (by omega)]
        refine ⟨nI (x + 1), R, ?_, ?_, rfl, ?_⟩
        · rw [hm, e4, bI0_i, if_pos (by rw [nI_leE (by omega) (by omega)]; omega)]
          have eR : (upS (upS (upS (zS (m_u V) q2 b2 d2 s2 (wO (V 64) c')) 63 14 (-nI 1)) 64 3 (nI (x + 1))) 63 7 (nI 0)) 64 3 = nI (x + 1) := by rw [upS_n (by omega), upS_s, upd_s]
          unfold f_X10_isle_b46 f_X10_isle_b59 f_X10_isle_b83
          simp (disch := omega) only [fa_lit, nI_ad, nI_mul, nI_cl, inb_nI, nI_ltE, nI_leE, nI_eqE, nI_m1, nI_m1', m1_lt, lt_m1, m1_le, le_m1, eq_self, not_true_eq_false, not_false_eq_true, ↓reduceIte, leT, leF, ltT, ltF, eqT, eqF, decide_true, decide_false, true_and, and_true, Nat.reduceAdd, bI0_i, bI_i, bI_x, bV0_v, bV_v, bV_x, ↓bnd_e, gd_t, m_throw0, e3, gx, eR, hR]
        · refine Inv_txt (e := -nI 1) hI0 ?_ ?_ ?_ ⟨A, a1, LX_of (fun o q1 q2 => rs o (by omega) (by omega) (by omega) (by omega) (by omega) (by omega) (by omega) (by omega)) a2, by rw [r64]; exact LM_wO a1 a3⟩ ?_ ?_ ?_ (rk 6 (by omega) (by omega) (by omega) (by omega) (by omega) (by omega) (by omega) (by omega) (by omega)) ?_ ?_ (Or.inl ⟨?_, ?_, ?_⟩) (fun o ho => rs o (by omega) (by omega) (by omega) (by omega) (by omega) (by omega) (by omega) (by omega))
          · rw [r25]; exact c2R
          · rw [r25]; exact c2A
          · rw [r64, r25, cM_wO c2R.2]
          · rw [r27]; exact c2R.2
          · rw [r1, ← hY, upS_s, upd_s]
          · rw [r1, ← hY, upS_s, upd_n (by omega), y_13]
          · rw [← hR, upS_s, upd_n (by omega), upS_n (by omega), upS_s, upd_n (by omega), z_k (by omega) (by omega) (by omega) (by omega), m_u_9]
          · rw [← hR, upS_s, upd_n (by omega), upS_n (by omega), upS_s, upd_s]
          · rw [r36, upd_n (by omega)]
          · rw [r36, upd_s]
          · rw [← hR, upS_s, upd_s]
        · rw [← hR, upS_s, upd_n (by omega), upS_n (by omega), upS_s, upd_n (by omega), z_k (by omega) (by omega) (by omega) (by omega), m_u_0]
end T
