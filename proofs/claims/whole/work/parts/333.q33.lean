/-! let as a call; trips -/
theorem eg_up63 {U : mS} {a b : Int32} {q : Nat → Int32} {k : Nat} {v : Int32} (h1 : k ≠ 18) (h2 : k ≠ 19) : upS (sM U a b q) 63 k v = sM (upS U 63 k v) a b q := by
  funext o
  by_cases h : o = 63
  · subst h
    rw [upS_s, sM_63, sM_63, upS_s, upd_comm (k := k) (l := 18) h1, upd_comm (k := k) (l := 19) h2]
  · rw [upS_n h]
    by_cases g : o = 71
    · subst g; rw [sM_71, sM_71]
    · rw [sM_n g h, sM_n g h, upS_n h]
theorem eg_exc2 {S : mS} {fX fM : mS → Option mR} {cs : List Nat} {b : Int32} {e : Nat} (hI : Inv S) (j : Nat) (hj : cs[j]? = some e) (hj8 : j < 8) (hX : ∃ p q, fX S = some (.inr e, sX S p q))
    (hM : ∀ T U, U = upS T 63 0 (nI 0) → U 64 = S 64 → ∃ a b' q, fM T = some (.inl (some (.int b)), sM (upS U 63 0 (nI (j + 1))) a b' q)) : Ag fX fM cs S := by
  obtain ⟨p, q, hX⟩ := hX
  refine ⟨_, _, hX, fun T hT => ?_⟩
  obtain ⟨a, b', q', hm⟩ := hM T _ rfl (by rw [upS_n (by omega), hT 64 (by omega), sX_n (by omega) (by omega)])
  refine ⟨b, _, hm, ?_, j, hj, hj8, by rw [sM_63, upd_n (by omega), upd_n (by omega), upS_s, upd_s]⟩
  refine Inv_same hI ⟨fun o ho => ?_, fun k hk => ?_, ?_⟩
  · unfold keepO at ho
    rw [sM_n (by omega) (by omega), upS_n (by omega), upS_n (by omega), hT o (by omega), sX_n (by omega) (by omega)]
  · rw [sM_63, upd_n (by omega), upd_n (by omega), upS_s, upd_n (by omega), upS_s, upd_n (by omega), hT 63 (by omega), sX_n (by omega) (by omega)]
  · rw [sM_n (by omega) (by omega), upS_n (by omega), upS_n (by omega), hT 27 (by omega), sX_n (by omega) (by omega)]; exact hI.2.2.2.1
theorem eg_act3 {F : Nat} {S : mS} {fX fM gX gM : mS → Option mR} {cs : List Nat} {c' : Nat → Int32} {r : Int32} (hF : 6000 ≤ F) (hI : Inv S) (hc : Rg c') (hz : Az c')
    (hX : ∃ p q, fX S = bV0 (f_X5_remember (sX S p q)) gX)
    (hM : ∀ T U, U = upS T 63 0 (nI 0) → U 64 = S 64 → ∃ a b q, fM T = bV0 (f_X10_remembers F (sM U a b q)) gM)
    (gx : ∀ S1 p q, (∀ o, o < 8 → S1 o = S o) → ∃ p' q', gX (sX (seS S1 25 (S 25)) p q) = some (.inl (some (.int r)), sX (seS S1 25 c') p' q'))
    (gm : ∀ T1 a b q, ∃ a' b' q', gM (sM (seS T1 64 (wO (S 64) (S 25))) a b q) = some (.inl (some (.int r)), sM (seS T1 64 (wO (S 64) c')) a' b' q')) : Ag fX fM cs S := by
  have hI0 := hI
  obtain ⟨p0, q0, hX⟩ := hX
  obtain ⟨h1, h2, ⟨A, a1, a2, a3⟩, h4, h5, h6, ⟨nx, sz, b1, b2, b3, b4, b5, b6, b7⟩, h8, h9⟩ := hI
  have x0 : ∀ o, o ≠ 8 → o ≠ 9 → sX S p0 q0 o = S o := fun o g1 g2 => sX_n g1 g2
  have hr := x_remember (S := sX S p0 q0) b1 (by rw [x0 36 (by omega) (by omega)]; exact b3) b2 (by rw [x0 36 (by omega) (by omega)]; exact b4) (by rw [x0 (39 + 2 * nx) (by omega) (by omega)]; exact b6 nx b1) (by rw [x0 25 (by omega) (by omega)]; exact h1.2)
  rw [hr, bV0_v] at hX
  generalize hV : upS (upS (seS (sX S p0 q0) (39 + 2 * nx) (sX S p0 q0 25)) 36 1 (nI ((nx + 1) % 12))) 36 2 (nI (if sz < 12 then sz + 1 else 12)) = V at hX
  have v25 : V 25 = S 25 := by rw [← hV, upS_n (by omega), upS_n (by omega), seS_n (by omega), x0 25 (by omega) (by omega)]
  have vo : ∀ o, o ≠ 8 → o ≠ 9 → o ≠ 36 → o ≠ 39 + 2 * nx → V o = S o := by
    intro o g1 g2 g3 g4
    rw [← hV, upS_n g3, upS_n g3, seS_n g4, x0 o g1 g2]
  obtain ⟨p, q, hg⟩ := gx V (V 8) (V 9) (fun o ho => vo o (by omega) (by omega) (by omega) (by omega))
  rw [← v25, se_id, sX_id] at hg
  rw [hg] at hX
  refine ⟨_, _, hX, fun T hT => ?_⟩
  have eo : ∀ o, o < 75 → o ≠ 8 → o ≠ 9 → o ≠ 25 → o ≠ 36 → o ≠ 39 + 2 * nx → T o = S o := by
    intro o q1 q2 q3 q4 q5 q6
    rw [hT o q1, sX_n q2 q3, seS_n q4, vo o q2 q3 q5 q6]
  have e64 : (upS T 63 0 (nI 0)) 64 = S 64 := by rw [upS_n (by omega), eo 64 (by omega) (by omega) (by omega) (by omega) (by omega) (by omega)]
  obtain ⟨a0, b0, q0', hf⟩ := hM T _ rfl e64
  generalize hU : sM (upS T 63 0 (nI 0)) a0 b0 q0' = U at hf
  have u63 : ∀ k, k ≠ 0 → k ≠ 18 → k ≠ 19 → U 63 k = S 63 k := by
    intro k g1 g2 g3
    rw [← hU, sM_63, upd_n g3, upd_n g2, upS_s, upd_n g1, eo 63 (by omega) (by omega) (by omega) (by omega) (by omega) (by omega)]
  have u0 : U 63 0 = nI 0 := by rw [← hU, sM_63, upd_n (by omega), upd_n (by omega), upS_s, upd_s]
  have uo : ∀ o, o ≠ 63 → o ≠ 71 → U o = T o := by
    intro o g1 g2
    rw [← hU, sM_n g2 g1, upS_n g1]
  have u64 : U 64 = S 64 := by rw [uo 64 (by omega) (by omega), eo 64 (by omega) (by omega) (by omega) (by omega) (by omega) (by omega)]
  have u68 : U 68 = S 68 := by rw [uo 68 (by omega) (by omega), eo 68 (by omega) (by omega) (by omega) (by omega) (by omega) (by omega)]
  have hm := m_remembers (S := U) hF b2 (by rw [u63 7 (by omega) (by omega) (by omega)]; exact b5)
  rw [hm, bV0_v] at hf
  generalize hW : seS (upS U 63 7 (nI (if sz < 12 then sz + 1 else 12))) 68 (actF sz (U 64) (U 68)) = W at hf
  have w64 : W 64 = S 64 := by rw [← hW, seS_n (by omega), upS_n (by omega)]; exact u64
  obtain ⟨a, b, q', hg2⟩ := gm W (W 63 18) (W 63 19) (W 71)
  rw [← h2, wO_self, ← w64, se_id, sM_id] at hg2
  rw [hg2] at hf
  refine ⟨r, _, hf, ?_, rfl, ?_⟩
  · refine Inv_act hI0 b1 b2 b3 b4 hc hz ?_ ?_ ?_ ?_ ?_ ?_ ?_ ?_ ?_
    · rw [sM_n (by omega) (by omega), seS_n (by omega), ← hW, seS_n (by omega), upS_n (by omega), uo 25 (by omega) (by omega), hT 25 (by omega), sX_n (by omega) (by omega), seS_s]
    · rw [sM_n (by omega) (by omega), seS_s, w64]
    · rw [sM_n (by omega) (by omega), seS_n (by omega), ← hW, seS_n (by omega), upS_n (by omega), uo 36 (by omega) (by omega), hT 36 (by omega), sX_n (by omega) (by omega), seS_n (by omega), ← hV, upS_s, upd_n (by omega), upS_s, upd_s]
    · rw [sM_n (by omega) (by omega), seS_n (by omega), ← hW, seS_n (by omega), upS_n (by omega), uo 36 (by omega) (by omega), hT 36 (by omega), sX_n (by omega) (by omega), seS_n (by omega), ← hV, upS_s, upd_s]
    · rw [sM_n (by omega) (by omega), seS_n (by omega), ← hW, seS_n (by omega), upS_n (by omega), uo _ (by omega) (by omega), hT (39 + 2 * nx) (by omega), sX_n (by omega) (by omega), seS_n (by omega), ← hV, upS_n (by omega), upS_n (by omega), seS_s, x0 25 (by omega) (by omega)]
    · rw [sM_63, upd_n (by omega), upd_n (by omega), seS_n (by omega), ← hW, seS_n (by omega), upS_s, upd_s]
    · intro k hk
      rw [sM_63, upd_n (by omega), upd_n (by omega), seS_n (by omega), ← hW, seS_n (by omega), upS_s, upd_n (by omega), u63 k (by omega) (by omega) (by omega)]
    · rw [sM_n (by omega) (by omega), seS_n (by omega), ← hW, seS_s, u64, u68]
    · intro o q1 q2 q3 q4 q5 q6 q7 q8 q9 q10
      rw [sM_n q10 q7, seS_n q8, ← hW, seS_n q9, upS_n q7, uo o q7 q10, eo o q1 q2 q3 q4 q5 q6]
  · rw [sM_63, upd_n (by omega), upd_n (by omega), seS_n (by omega), ← hW, seS_n (by omega), upS_s, upd_n (by omega), u0]
section D
variable {F : Nat} {S : mS} {A : aL}
theorem eg_can {c : Nat → Int32} {k l n : Nat} (h : canV A c k l n = true) : ∃ j, j < 13 ∧ kicksV A c l (c 4) = nI j := by
  unfold canV at h
  rcases kicksV_cases (A := A) (c := c) (l := l) (wind := c 4) with g | g
  · rw [g] at h
    simp at h
  · exact g
theorem eg_ta_n {c : Nat → Int32} {l e m : Nat} (he : e ≤ 20) (hm : m ≤ 20) (ee : c (16 + l * 5 + 2) = nI e) : ∃ t, t ≤ e ∧ eg_ta c l (nI m) = nI t := by
  unfold eg_ta
  rw [ee, ifLt (by omega) (by omega)]
  split
  · exact ⟨e, by omega, rfl⟩
  · exact ⟨m, by omega, rfl⟩
theorem eg_hu01 {c : Nat → Int32} : eg_hu c = nI 0 ∨ eg_hu c = nI 1 := by
  unfold eg_hu; split
  · exact Or.inl rfl
  · exact Or.inr rfl
theorem m_letTail {k l e t nh : Nat} {w c q : Nat → Int32} {a b : Int32} (hF : 6000 ≤ F) (hk : k < 4) (hl : l < 10) (hW : LW A) (hA : LM A w) (hR : Rg c) (hnh : nh ≤ 6) (enh : c 13 = nI nh) (he : e ≤ 20) (ht : t ≤ e) (ee : c (16 + l * 5 + 2) = nI e) {m : Int32} (em : eg_ta c l m = nI t) :
    ∃ a' b' q', bI0 (f_X10_of (nI l) ((2 : Int32)) (sM (seS S 64 (wO w c)) a b q)) (fun r16 S15 => bnd (if r16 < m then r16 else m : Int32) (fun y17 => gd (inb ((6 : Int32)) 2145) (bI0 (f_X10_kicksTo F (nI l) (S15 64 ((6 : Int32)).toNatClampNeg) S15) (fun r19 S18 => bV0 (f_X10_frays F (nI l) S18) (fun S20 => bV0 (f_X10_takes (nI k) (nI l) y17 S20) (fun S21 => bV0 (f_X10_tires F S21) (fun S22 => bI0 (f_X10_draw ((100 : Int32)) S22) (fun r24 S23 => gd (inb ((14 : Int32)) 2145) ((if (S23 64 ((14 : Int32)).toNatClampNeg) ≤ r24 then f_X10_let_b134 F (nI k) (nI l) y17 r19 ((0 : Int32)) S23 else f_X10_let_b134 F (nI k) (nI l) y17 r19 ((1 : Int32)) S23))))))))))
      = some (.inl (some (.int (nI t))), sM (seS S 64 (wO w (eg_le A c k l nh (nI t)))) a' b' q') := by
  obtain ⟨a1, b1, q1, h1⟩ := m_kicksTo (F := F) (S := sM (seS S 64 (wO w c)) a b q) (wind := c 4) (by omega) hl (by rw [at_m]; exact LM_wO hW hA) hW
  rw [at_m, cM_wO hR.2, sM_sM] at h1
  obtain ⟨a2, b2, q2, h2⟩ := m_frays (F := F) (S := S) (l := l) (w := w) (c := c) (a := a1) (b := b1) (q := q1) (by omega) hl hR.2 hA hW
  have h3 := m_takes (S := S) (k := k) (l := l) (t := nI t) (w := w) (c := upd c 1 (eg_fr A c l)) (a := a2) (b := b2) (q := q2) hk hl
  rw [eg_mk_eq hk hl he ht ee] at h3
  have e13 : eg_l1 A c k l (nI t) 13 = nI nh := by
    unfold eg_l1; rw [upd_n (by omega), upd_n (by omega), eg_tk_out (by omega) (by omega) (by omega) (by omega)]; exact enh
  have h4 := m_tires (F := F) (S := S) (w := w) (c := eg_l1 A c k l (nI t)) (a := a2) (b := b2) (q := q2) (by omega) hnh e13
  have ht' : (if c (16 + l * 5 + 2) < m then c (16 + l * 5 + 2) else m) = nI t := em
  refine ⟨a2, b2, q2, ?_⟩
  have hle : eg_le A c k l nh (nI t) = eg_lg (upd (eg_ti (eg_l1 A c k l (nI t)) nh) 10 (drawV (eg_ti (eg_l1 A c k l (nI t)) nh))) k l (nI t) (kicksV A c l (c 4)) (eg_hu (eg_ti (eg_l1 A c k l (nI t)) nh)) := rfl
  rw [hle]
  generalize eg_ti (eg_l1 A c k l (nI t)) nh = d at *
  have key : ∀ h : Int32, h = nI 0 ∨ h = nI 1 → f_X10_let_b134 F (nI k) (nI l) (nI t) (kicksV A c l (c 4)) h (sM (seS S 64 (wO w (upd d 10 (drawV d)))) a2 b2 q2) = some (.inl (some (.int (nI t))), sM (seS S 64 (wO w (eg_lg (upd d 10 (drawV d)) k l (nI t) (kicksV A c l (c 4)) h))) a2 b2 q2) := by
    intro h hh
    generalize upd d 10 (drawV d) = g
    have h5 := m_tells (F := F) (S := S) (k := k) (l := l) (t := nI t) (kk := kicksV A c l (c 4)) (h := h) (w := w) (q := q2) (c := upd g 7 (g 7 + h)) (a := a2) (b := b2) hF hh
    rw [upd_n (show 3 ≠ 7 by omega), upd_n (show 15 ≠ 7 by omega), eg_lg_eq] at h5
    unfold f_X10_let_b134 f_X10_let_b154
    rcases hh with rfl | rfl
    · simp (disch := omega) only [fa_lit, nI_ad, nI_mul, nI_cl, inb_nI, nI_ltE, nI_leE, nI_eqE, nI_m1, nI_m1', m1_lt, lt_m1, m1_le, le_m1, eq_self, not_true_eq_false, not_false_eq_true, ↓reduceIte, leT, leF, ltT, ltF, eqT, eqF, decide_true, decide_false, true_and, and_true, Nat.reduceAdd, bI0_i, bI_i, bI_x, bV0_v, bV_v, bV_x, ↓bnd_e, gd_t, at_m, cM_wOi, wO_at, up_m, pj_l, pj_h, pj_k, pj_0, pj_1, pj_2, pj_3, pj_5, pj_6, pj_7, pj_8, pj_9, pj_10, pj_11, pj_12, pj_13, pj_14, pj_15, pj_16, h5]
    · simp (disch := omega) only [fa_lit, nI_ad, nI_mul, nI_cl, inb_nI, nI_ltE, nI_leE, nI_eqE, nI_m1, nI_m1', m1_lt, lt_m1, m1_le, le_m1, eq_self, not_true_eq_false, not_false_eq_true, ↓reduceIte, leT, leF, ltT, ltF, eqT, eqF, decide_true, decide_false, true_and, and_true, Nat.reduceAdd, bI0_i, bI_i, bI_x, bV0_v, bV_v, bV_x, ↓bnd_e, gd_t, at_m, cM_wOi, wO_at, up_m, pj_l, pj_h, pj_k, pj_0, pj_1, pj_2, pj_3, pj_5, pj_6, pj_7, pj_8, pj_9, pj_10, pj_11, pj_12, pj_13, pj_14, pj_15, pj_16, h5]
  have k0 := key (nI 0) (Or.inl rfl)
  have k1 := key (nI 1) (Or.inr rfl)
  unfold eg_hu
  by_cases g : d 6 ≤ remV (topV (drawV d)) 100
  · simp (disch := omega) only [fa_lit, nI_ad, nI_mul, nI_cl, inb_nI, nI_ltE, nI_leE, nI_eqE, nI_m1, nI_m1', m1_lt, lt_m1, m1_le, le_m1, eq_self, not_true_eq_false, not_false_eq_true, ↓reduceIte, leT, leF, ltT, ltF, eqT, eqF, decide_true, decide_false, true_and, and_true, Nat.reduceAdd, bI0_i, bI_i, bI_x, bV0_v, bV_v, bV_x, ↓bnd_e, gd_t, m_of, at_m, cM_wOi, wO_at, up_m, pj_l, pj_h, pj_k, pj_0, pj_1, pj_2, pj_3, pj_5, pj_6, pj_7, pj_8, pj_9, pj_10, pj_11, pj_12, pj_13, pj_14, pj_15, pj_16, ht', h1, h2, h3, h4, m_draw, upd_n, g]
    exact k0
  · simp (disch := omega) only [fa_lit, nI_ad, nI_mul, nI_cl, inb_nI, nI_ltE, nI_leE, nI_eqE, nI_m1, nI_m1', m1_lt, lt_m1, m1_le, le_m1, eq_self, not_true_eq_false, not_false_eq_true, ↓reduceIte, leT, leF, ltT, ltF, eqT, eqF, decide_true, decide_false, true_and, and_true, Nat.reduceAdd, bI0_i, bI_i, bI_x, bV0_v, bV_v, bV_x, ↓bnd_e, gd_t, m_of, at_m, cM_wOi, wO_at, up_m, pj_l, pj_h, pj_k, pj_0, pj_1, pj_2, pj_3, pj_5, pj_6, pj_7, pj_8, pj_9, pj_10, pj_11, pj_12, pj_13, pj_14, pj_15, pj_16, ht', h1, h2, h3, h4, m_draw, upd_n, g]
    exact k1
theorem ag_let {p1 p2 p3 : Int32} (hF : 6000 ≤ F) (hI : Inv S) : Ag (f_X9_let F p1 p2 p3) (f_X10_let F p1 p2 p3) [3, 1, 5] S := by
  obtain ⟨n, nh, nk, A, hn, en, hnh, enh, hnk, enk, hX, hW, hM, hR, hC⟩ := inv_b hI
  by_cases g1 : ∃ z, z < nk ∧ p1 = nI z
  · obtain ⟨k, hk, rfl⟩ := g1
    by_cases g2 : ∃ z, z < n ∧ p2 = nI z
    · obtain ⟨l, hl, rfl⟩ := g2
      by_cases g : nI 0 ≤ p3 ∧ p3 ≤ nI 20
      · have gd1 : decide (nI 0 ≤ p3 ∧ p3 ≤ nI 20) = true := decide_eq_true g
        have xn : f_X9_needWithin p3 (0 : Int32) (20 : Int32) S = some (.inl none, S) := x_need g
        obtain ⟨p0, q0, hcl⟩ := x_canLet (F := F) (S := S) (u := 24) (k := k) (l := l) (n := nh) (by omega) (by omega) (by omega) (by omega) enh hnh hX hW
        have hcm : ∀ U : mS, U 64 = S 64 → ∃ a b q, f_X10_canLet F (nI k) (nI l) U = some (.inl (some (.int (bV32 (canV A (S 25) k l nh)))), sM U a b q) := by
          intro U h64
          have h := m_canLet (F := F) (S := U) (k := k) (l := l) (n := nh) (A := A) (by omega) (by omega) (by omega) (by rw [h64, hC]; exact enh) hnh (by rw [h64]; exact hM) hW
          rw [h64, hC] at h
          exact h
        cases gc : canV A (S (24 + 1)) k l nh with
        | true =>
          obtain ⟨m, hm0, hm, rfl⟩ := withinN (by omega) g (by omega)
          obtain ⟨e, he, ee⟩ := hR.eggs (show l < 10 by omega)
          obtain ⟨t, ht, et⟩ := eg_ta_n he hm ee
          obtain ⟨j, hj, ej⟩ := eg_can (c := S 25) gc
          rw [gc] at hcl
          refine eg_act3 (r := nI t) (c' := eg_le A (S 25) k l nh (nI t)) (gX := fun S6 => bI0 (f_X7_letDown F 24 (nI k) (nI l) (nI m) S6) (fun r8 S7 => some (.inl (some (.int r8)), S7))) (gM := fun S14 => bI0 (f_X10_of (nI l) ((2 : Int32)) S14) (fun r16 S15 => bnd (if r16 < nI m then r16 else nI m : Int32) (fun y17 => gd (inb ((6 : Int32)) 2145) (bI0 (f_X10_kicksTo F (nI l) (S15 64 ((6 : Int32)).toNatClampNeg) S15) (fun r19 S18 => bV0 (f_X10_frays F (nI l) S18) (fun S20 => bV0 (f_X10_takes (nI k) (nI l) y17 S20) (fun S21 => bV0 (f_X10_tires F S21) (fun S22 => bI0 (f_X10_draw ((100 : Int32)) S22) (fun r24 S23 => gd (inb ((14 : Int32)) 2145) ((if (S23 64 ((14 : Int32)).toNatClampNeg) ≤ r24 then f_X10_let_b134 F (nI k) (nI l) y17 r19 ((0 : Int32)) S23 else f_X10_let_b134 F (nI k) (nI l) y17 r19 ((1 : Int32)) S23))))))))))) hF hI (eg_le_rg hW hR (by omega) (by omega) he ht ee hj ej hnh) (eg_le_az hI.2.2.2.2.2.2.2.2.2.1 (by omega) (by omega) he ht ee hnh) ⟨p0, q0, ?_⟩ (fun T U hU h64 => ?_) (fun S1 p q eo => ?_) (fun T1 a b q => ?_)
          · unfold f_X9_let
            simp (disch := omega) only [fa_lit, nI_ad, nI_mul, nI_cl, inb_nI, nI_ltE, nI_leE, nI_eqE, nI_m1, nI_m1', m1_lt, lt_m1, m1_le, le_m1, eq_self, not_true_eq_false, not_false_eq_true, ↓reduceIte, leT, leF, ltT, ltF, eqT, eqF, decide_true, decide_false, true_and, and_true, Nat.reduceAdd, bI0_i, bI_i, bI_x, bV0_v, bV_v, bV_x, ↓bnd_e, gd_t, x_needClimber hnk enk hk, x_needLedge hn en hl, x_need g, hcl, bT]
          · obtain ⟨a, b, q, h⟩ := hcm U h64
            rw [show canV A (S 25) k l nh = true from gc] at h
            refine ⟨a, b, q, ?_⟩
            have en' : cM (U 64) 12 = nI n := by rw [h64, hC]; exact en
            have enk' : cM (U 64) 14 = nI nk := by rw [h64, hC]; exact enk
            unfold f_X10_let f_X10_let_b35 f_X10_let_b57; rw [bnd_e, show upS T 63 0 (0 : Int32) = U from hU.symm]
            simp (disch := omega) only [fa_lit, nI_ad, nI_mul, nI_cl, inb_nI, nI_ltE, nI_leE, nI_eqE, nI_m1, nI_m1', m1_lt, lt_m1, m1_le, le_m1, eq_self, not_true_eq_false, not_false_eq_true, ↓reduceIte, leT, leF, ltT, ltF, eqT, eqF, decide_true, decide_false, true_and, and_true, Nat.reduceAdd, bI0_i, bI_i, bI_x, bV0_v, bV_v, bV_x, ↓bnd_e, gd_t, m_noBoth hn en' hl hnk enk' hk, m_in, gd1, bT, m_throw0, h]
          · obtain ⟨p', q', h⟩ := x_letDown (F := F) (S := S1) (u := 24) (k := k) (l := l) (nh := nh) (m := nI m) (c := S 25) (p := p) (q := q) (by omega) (by omega) (by omega) (by omega) (LX_of (fun o _ q2 => eo o (by omega)) hX) hW hnh enh
            rw [et] at h
            exact ⟨p', q', by rw [show f_X7_letDown F 24 (nI k) (nI l) (nI m) (sX (seS S1 25 (S 25)) p q) = _ from h, bI0_i]⟩
          · exact m_letTail (S := T1) hF (by omega) (by omega) hW hM hR hnh enh he ht ee et
        | false =>
          rw [gc] at hcl
          refine eg_exc2 (b := nI 0) hI 2 rfl (by omega) ⟨p0, q0, ?_⟩ (fun T U hU h64 => ?_)
          · unfold f_X9_let
            simp (disch := omega) only [fa_lit, nI_ad, nI_mul, nI_cl, inb_nI, nI_ltE, nI_leE, nI_eqE, nI_m1, nI_m1', m1_lt, lt_m1, m1_le, le_m1, eq_self, not_true_eq_false, not_false_eq_true, ↓reduceIte, leT, leF, ltT, ltF, eqT, eqF, decide_true, decide_false, true_and, and_true, Nat.reduceAdd, bI0_i, bI_i, bI_x, bV0_v, bV_v, bV_x, ↓bnd_e, gd_t, x_needClimber hnk enk hk, x_needLedge hn en hl, x_need g, hcl, bF]
          · obtain ⟨a, b, q, h⟩ := hcm U h64
            rw [show canV A (S 25) k l nh = false from gc] at h
            refine ⟨a, b, q, ?_⟩
            have en' : cM (U 64) 12 = nI n := by rw [h64, hC]; exact en
            have enk' : cM (U 64) 14 = nI nk := by rw [h64, hC]; exact enk
            unfold f_X10_let f_X10_let_b35 f_X10_let_b57 f_X10_let_b64; rw [bnd_e, show upS T 63 0 (0 : Int32) = U from hU.symm]
            simp (disch := omega) only [fa_lit, nI_ad, nI_mul, nI_cl, inb_nI, nI_ltE, nI_leE, nI_eqE, nI_m1, nI_m1', m1_lt, lt_m1, m1_le, le_m1, eq_self, not_true_eq_false, not_false_eq_true, ↓reduceIte, leT, leF, ltT, ltF, eqT, eqF, decide_true, decide_false, true_and, and_true, Nat.reduceAdd, bI0_i, bI_i, bI_x, bV0_v, bV_v, bV_x, ↓bnd_e, gd_t, m_noBoth hn en' hl hnk enk' hk, m_in, gd1, bT, bF, m_throw0, m_throw, h, eg_up63]
      · have gd1 : decide (nI 0 ≤ p3 ∧ p3 ≤ nI 20) = false := decide_eq_false g
        refine ag_exc (b := nI 0) hI 1 rfl (by omega) ?_ (fun T U hU h64 => ?_)
        · unfold f_X9_let
          simp (disch := omega) only [fa_lit, nI_ad, nI_mul, nI_cl, inb_nI, nI_ltE, nI_leE, nI_eqE, nI_m1, nI_m1', m1_lt, lt_m1, m1_le, le_m1, eq_self, not_true_eq_false, not_false_eq_true, ↓reduceIte, leT, leF, ltT, ltF, eqT, eqF, decide_true, decide_false, true_and, and_true, Nat.reduceAdd, bI0_i, bI_i, bI_x, bV0_v, bV_v, bV_x, ↓bnd_e, gd_t, x_needClimber hnk enk hk, x_needLedge hn en hl, x_need_x g]
        · have en' : cM (U 64) 12 = nI n := by rw [h64, hC]; exact en
          have enk' : cM (U 64) 14 = nI nk := by rw [h64, hC]; exact enk
          unfold f_X10_let f_X10_let_b35 f_X10_let_b64; rw [bnd_e, show upS T 63 0 (0 : Int32) = U from hU.symm]
          simp (disch := omega) only [fa_lit, nI_ad, nI_mul, nI_cl, inb_nI, nI_ltE, nI_leE, nI_eqE, nI_m1, nI_m1', m1_lt, lt_m1, m1_le, le_m1, eq_self, not_true_eq_false, not_false_eq_true, ↓reduceIte, leT, leF, ltT, ltF, eqT, eqF, decide_true, decide_false, true_and, and_true, Nat.reduceAdd, bI0_i, bI_i, bI_x, bV0_v, bV_v, bV_x, ↓bnd_e, gd_t, m_noBoth hn en' hl hnk enk' hk, m_in, gd1, bF, m_throw0, m_throw]
    · refine ag_exc (b := nI 0) hI 0 rfl (by omega) ?_ (fun T U hU h64 => ?_)
      · unfold f_X9_let
        simp (disch := omega) only [fa_lit, nI_ad, nI_mul, nI_cl, inb_nI, nI_ltE, nI_leE, nI_eqE, nI_m1, nI_m1', m1_lt, lt_m1, m1_le, le_m1, eq_self, not_true_eq_false, not_false_eq_true, ↓reduceIte, leT, leF, ltT, ltF, eqT, eqF, decide_true, decide_false, true_and, and_true, Nat.reduceAdd, bI0_i, bI_i, bI_x, bV0_v, bV_v, bV_x, ↓bnd_e, gd_t, x_needClimber hnk enk hk, x_needLedge_x hn en g2]
      · have en' : cM (U 64) 12 = nI n := by rw [h64, hC]; exact en
        have enk' : cM (U 64) 14 = nI nk := by rw [h64, hC]; exact enk
        unfold f_X10_let f_X10_let_b64; rw [bnd_e, show upS T 63 0 (0 : Int32) = U from hU.symm]
        simp (disch := omega) only [fa_lit, nI_ad, nI_mul, nI_cl, inb_nI, nI_ltE, nI_leE, nI_eqE, nI_m1, nI_m1', m1_lt, lt_m1, m1_le, le_m1, eq_self, not_true_eq_false, not_false_eq_true, ↓reduceIte, leT, leF, ltT, ltF, eqT, eqF, decide_true, decide_false, true_and, and_true, Nat.reduceAdd, bI0_i, bI_i, bI_x, bV0_v, bV_v, bV_x, ↓bnd_e, gd_t, m_noBoth_l hnk enk' hk hn en' g2, m_throw]
  · refine ag_exc (b := nI 0) hI 0 rfl (by omega) ?_ (fun T U hU h64 => ?_)
    · unfold f_X9_let
      simp (disch := omega) only [fa_lit, nI_ad, nI_mul, nI_cl, inb_nI, nI_ltE, nI_leE, nI_eqE, nI_m1, nI_m1', m1_lt, lt_m1, m1_le, le_m1, eq_self, not_true_eq_false, not_false_eq_true, ↓reduceIte, leT, leF, ltT, ltF, eqT, eqF, decide_true, decide_false, true_and, and_true, Nat.reduceAdd, bI0_i, bI_i, bI_x, bV0_v, bV_v, bV_x, ↓bnd_e, gd_t, x_needClimber_x hnk enk g1]
    · have enk' : cM (U 64) 14 = nI nk := by rw [h64, hC]; exact enk
      unfold f_X10_let f_X10_let_b64; rw [bnd_e, show upS T 63 0 (0 : Int32) = U from hU.symm]
      simp (disch := omega) only [fa_lit, nI_ad, nI_mul, nI_cl, inb_nI, nI_ltE, nI_leE, nI_eqE, nI_m1, nI_m1', m1_lt, lt_m1, m1_le, le_m1, eq_self, not_true_eq_false, not_false_eq_true, ↓reduceIte, leT, leF, ltT, ltF, eqT, eqF, decide_true, decide_false, true_and, and_true, Nat.reduceAdd, bI0_i, bI_i, bI_x, bV0_v, bV_v, bV_x, ↓bnd_e, gd_t, m_noBoth_k hnk enk' g1, m_throw]
end D
