/-! law -/
theorem gSplit : ∀ {ls : List gLn} {i : Nat}, i < ls.length → ls = ls.take i ++ gAt ls i :: ls.drop (i + 1) ∧ ls.take (i + 1) = ls.take i ++ [gAt ls i]
  | [], _, h => absurd h (by simp)
  | a :: ls, 0, _ => ⟨rfl, rfl⟩
  | a :: ls, i + 1, h => by
    obtain ⟨h1, h2⟩ := gSplit (ls := ls) (i := i) (by simpa using h)
    constructor
    · show a :: ls = a :: (ls.take i ++ gAt ls i :: ls.drop (i + 1))
      rw [← h1]
    · show a :: ls.take (i + 1) = a :: (ls.take i ++ [gAt ls i])
      rw [h2]
theorem gAt_mem {ls : List gLn} {i : Nat} (h : i < ls.length) : gAt ls i ∈ ls := by
  have e := (gSplit h).1
  have m : gAt ls i ∈ ls.take i ++ gAt ls i :: ls.drop (i + 1) := List.mem_append_right _ (List.mem_cons_self)
  rw [← e] at m; exact m
theorem gEn_St {ls : List gLn} {i : Nat} (h : i < ls.length) : gEn ls i = gSt ls i + (gAt ls i).2.2.length := by
  unfold gEn gSt
  rw [(gSplit h).2, gCs_1, List.length_append]
theorem gSt_sLn {ls : List gLn} {i : Nat} : sLn (gEn ls) i = gSt ls i := by
  cases i with
  | zero => rfl
  | succ i => rfl
theorem gEn_le {ls : List gLn} {i : Nat} : gEn ls i ≤ (gCs ls).length := by
  unfold gEn
  conv => rhs; rw [← List.take_append_drop (i + 1) ls]
  rw [gCs_app, List.length_append]; omega
theorem gCs_at {ls : List gLn} {i j : Nat} (h : i < ls.length) (hj : j < (gAt ls i).2.2.length) : (gCs ls).getD (gSt ls i + j) 0 = (gAt ls i).2.2.getD j 0 := by
  have e : gCs ls = gCs (ls.take i) ++ ((gAt ls i).2.2 ++ gCs (ls.drop (i + 1))) := by
    conv => lhs; rw [(gSplit h).1]
    rw [gCs_app]; rfl
  rw [e]
  unfold gSt
  rw [eg_getD_hi, eg_getD_lo hj]
theorem tyRun_L {cd : Nat → Nat} : ∀ {cs : List Nat} {s : Nat} {T : List Bool}, (∀ i, i < cs.length → cd (s + i) = cs.getD i 0) → tyRun cd s cs.length T = tyL cs T
  | [], _, _, _ => rfl
  | c :: cs, s, T, h => by
    show (tyStep (cd s) T).bind (tyRun cd (s + 1) cs.length) = (tyStep c T).bind (tyL cs)
    rw [show cd s = c from h 0 (by simp)]
    cases tyStep c T with
    | none => rfl
    | some T' =>
      show tyRun cd (s + 1) cs.length T' = tyL cs T'
      exact tyRun_L (fun i hi => by rw [show s + 1 + i = s + (i + 1) by omega]; exact h (i + 1) (by simpa using hi))
def gA (ls : List gLn) : aL := some (ls.length, fun i => (gAt ls i).1, fun i => (gAt ls i).2.1, gEn ls, fun j => (gCs ls).getD j 0)
theorem gA_W {ls : List gLn} (hl : ls.length ≤ 12) (ho : ∀ l ∈ ls, gOk l) (hc : (gCs ls).length ≤ 400) : LW (gA ls) := by
  refine ⟨hl, fun i hi => ?_⟩
  obtain ⟨o1, o2, o3⟩ := ho _ (gAt_mem hi)
  have e1 := gEn_St hi
  have e2 := gEn_le (ls := ls) (i := i)
  refine ⟨o1, o2, by rw [gSt_sLn]; omega, by omega, ?_⟩
  rw [gSt_sLn, e1, Nat.add_sub_cancel_left, tyRun_L (fun j hj => gCs_at hi hj)]
  rcases o3 with o3 | o3
  · exact ⟨[], by rw [o3]; rfl, Or.inl rfl⟩
  · exact ⟨[true], o3, Or.inr rfl⟩
theorem gA_X {S : mS} {ls : List gLn} (hP : PX S ls) (hC : PC (S 14) ls) : LX (gA ls) S 10 := by
  refine ⟨hP.1, fun i hi => hP.2 i hi, fun j hj i hi => hC i ?_⟩
  have := gEn_le (ls := ls) (i := j)
  omega
theorem gA_M {w w' : Nat → Int32} {ls : List gLn} (hl : ls.length ≤ 12) (hc : (gCs ls).length ≤ 400) (hP : PM w ls) (h4 : w' 4 = nI 1) (hn : w' 447 = nI ls.length) (hw : ∀ k, 448 ≤ k → k < 1296 → w' k = w (k + 849)) : LM (gA ls) w' := by
  refine ⟨h4, hn, fun i hi => ?_, fun j hj i hi => ?_⟩
  · obtain ⟨q1, q2, q3, q4⟩ := hP.1 i hi
    rw [hw _ (by omega) (by omega), hw _ (by omega) (by omega), hw _ (by omega) (by omega), hw _ (by omega) (by omega), gSt_sLn]
    rw [show 448 + 4 * i + 849 = 1297 + 4 * i by omega, show 448 + 4 * i + 1 + 849 = 1297 + 4 * i + 1 by omega, show 448 + 4 * i + 2 + 849 = 1297 + 4 * i + 2 by omega, show 448 + 4 * i + 3 + 849 = 1297 + 4 * i + 3 by omega]
    exact ⟨q1, q2, q3, q4⟩
  · have := gEn_le (ls := ls) (i := j)
    obtain ⟨q1, q2⟩ := hP.2 i (by omega)
    rw [hw _ (by omega) (by omega), hw _ (by omega) (by omega), show 496 + 2 * i + 849 = 1345 + 2 * i by omega, show 496 + 2 * i + 1 + 849 = 1345 + 2 * i + 1 by omega]
    exact ⟨q1, q2⟩
def gAll (B : Nat → Nat) (t : Nat) : Nat ⊕ List gLn := if tSk B t 0 = t then .inr [] else gLs B t 12 (tSk B t 0)
section T
variable {B : Nat → Nat} {t : Nat} {F : Nat} {S T : mS}
theorem gAll_p {ls : List gLn} (h : gAll B t = .inr ls) : (∀ l ∈ ls, gOk l) ∧ ls.length ≤ 12 ∧ (gCs ls).length ≤ t := by
  unfold gAll at h
  split at h
  · cases h; exact ⟨fun l hl => absurd hl (by simp), by simp, by simp [gCs]⟩
  · have := gLs_p (tSk_le (Nat.zero_le t)) h
    exact ⟨this.1, this.2.1, by omega⟩
theorem y_begin {h : Nat → Int32} : upS (upS (upS (upS S 10 6 (nI 0)) 10 7 (nI 0)) 1 3 (-nI 1)) 1 2 (nI 0) = yS (upS S 10 6 (nI 0)) 0 (-nI 1) (S 27) 0 (S 14) := by
  funext o
  by_cases e1 : o = 1
  · subst e1
    rw [upS_s, upS_s, upS_n (by omega), upS_n (by omega), y_1, upS_n (by omega), upd_comm (by omega)]
  · rw [upS_n e1, upS_n e1]
    by_cases e3 : o = 10
    · subst e3; rw [upS_s, y_10]
    · rw [upS_n e3, upS_n e3]
      by_cases e2 : o = 27
      · subst e2; rfl
      · by_cases e4 : o = 14
        · subst e4; rfl
        · rw [y_o e1 e2 e3 e4, upS_n e3]
theorem y_begin2 : upS (upS S 1 3 (-nI 1)) 1 2 (nI 0) = yS S 0 (-nI 1) (S 27) (S 10 7).toBitVec.toNat (S 14) := by
  have e7 : nI (S 10 7).toBitVec.toNat = S 10 7 := by
    apply Int32.toBitVec_inj.1
    show BitVec.ofNat 32 _ = _
    rw [BitVec.ofNat_toNat, BitVec.setWidth_eq]
  funext o
  by_cases e1 : o = 1
  · subst e1
    rw [upS_s, upS_s, y_1, upd_comm (by omega)]
  · rw [upS_n e1, upS_n e1]
    by_cases e3 : o = 10
    · subst e3; rw [y_10, e7, upd_id rfl]
    · by_cases e2 : o = 27
      · subst e2; rfl
      · by_cases e4 : o = 14
        · subst e4; rfl
        · rw [y_o e1 e2 e3 e4]
theorem x_lawAll (hF : 6000 ≤ F) (hT : TB S B t) : (match gAll B t with
    | .inr ls => ∃ S' p' n' h', FD S S' ∧ PX S' ls ∧ PC h' ls ∧ f_X4_readLines_31 F (nI 12) (upS (upS S 10 6 (nI 0)) 10 7 (nI 0)) = some (.inl (some (.int (nI 1))), yS S' p' (-nI 1) (S 27) n' h')
    | .inl e => ∃ S' p' n' h', FD S S' ∧ f_X4_readLines_31 F (nI 12) (upS (upS S 10 6 (nI 0)) 10 7 (nI 0)) = some (.inl (some (.int (nI 0))), yS S' p' (nI e) (S 27) n' h')) := by
  have ht := hT.1
  generalize hS0 : upS S 10 6 (nI 0) = S0
  have f0 : FD S S0 := fun o h1 _ _ _ => by rw [← hS0, upS_n h1]
  have hT0 : TB S0 B t := TB_of (f0 1 (by omega) (by omega) (by omega) (by omega)) (f0 2 (by omega) (by omega) (by omega) (by omega)) hT
  have hb : f_X8_begin F (upS S0 10 7 (nI 0)) = some (.inl none, yS S0 (tSk B t 0) (-nI 1) (S 27) 0 (S 14)) := by
    have h0 := x_moveL (F := F) (w := -nI 1) (c := S 27) (n := 0) (h := S 14) hT0 (t - 0) 0 F rfl (by omega) (by omega)
    unfold f_X8_begin f_X8_moveTo
    rw [bnd_e, bnd_e, show upS (upS (upS S0 10 7 (nI 0)) 1 3 (-1 : Int32)) 1 2 (0 : Int32) = yS S0 0 (-nI 1) (S 27) 0 (S 14) from by rw [← hS0]; exact y_begin (h := S 14), h0, bV0_v]
  have hp := tSk_le (B := B) (Nat.zero_le t)
  have hE := x_atEnd (w := -nI 1) (c := S 27) (n := 0) (h := S 14) hT0 hp
  unfold f_X4_readLines_31 gAll
  rw [hb, bV0_v]
  have hP0 : PX S0 [] := ⟨by rw [← hS0, upS_s, upd_s]; rfl, fun j hj => absurd hj (by simp)⟩
  have hC0 : PC (S 14) [] := fun j hj => absurd hj (by simp [gCs])
  by_cases g : tSk B t 0 = t
  · rw [if_pos g]
    rw [decide_eq_true g] at hE
    refine ⟨S0, tSk B t 0, 0, S 14, f0, hP0, hC0, ?_⟩
    simp (disch := omega) only [fa_lit, nI_ad, nI_mul, nI_cl, inb_nI, nI_ltE, nI_leE, nI_eqE, nI_m1, nI_m1', m1_lt, lt_m1, m1_le, le_m1, eq_self, not_true_eq_false, not_false_eq_true, ↓reduceIte, leT, leF, ltT, ltF, eqT, eqF, decide_true, decide_false, true_and, and_true, Nat.reduceAdd, bI0_i, bI_i, bI_x, bV0_v, bV_v, bV_x, ↓bnd_e, gd_t, hE, bT, and10]
  · rw [if_neg g]
    rw [decide_eq_false g] at hE
    have hl := x_lawLines (F := F) (B := B) (c := S 27) hF 12 (tSk B t 0) S0 [] (S 14) F hT0 hp (Nat.zero_le _) rfl (by omega) hP0 hC0
    have e1 : bI0 (f_X8_isAtEnd (yS S0 (tSk B t 0) (-nI 1) (S 27) 0 (S 14))) (fun r3 S2 => (if r3 = 0 then f_X4_readLines_31_b21 F F (nI 12) ((0 : Int32)) S2 else some (.inl (some (.int (((1 : Int32)) &&& 1))), S2))) = f_X4_readLines_31_b21 F F (nI 12) (nI ([] : List gLn).length) (yS S0 (tSk B t 0) (-nI 1) (S 27) (gCs []).length (S 14)) := by
      rw [hE, bF, bIz0]; rfl
    rw [e1]
    cases gs : gLs B t 12 (tSk B t 0) with
    | inl e =>
      rw [gs] at hl
      obtain ⟨S2, p2, n2, h2, f2, e3⟩ := hl
      exact ⟨S2, p2, n2, h2, fun o q1 q2 q3 q4 => by rw [f2 o q1 q2 q3 q4, f0 o q1 q2 q3 q4], e3⟩
    | inr ls =>
      rw [gs] at hl
      obtain ⟨S2, p2, h2, f2, P2, C2, e3⟩ := hl
      exact ⟨S2, p2, _, h2, fun o q1 q2 q3 q4 => by rw [f2 o q1 q2 q3 q4, f0 o q1 q2 q3 q4], P2, C2, e3⟩
def m_u (T : mS) : mS := upS (upS (upS T 63 0 (nI 0)) 63 11 (T 63 9)) 63 9 (nI 0)
theorem z_begin : ∃ b0 d0, upS (upS (m_u T) 63 10 (nI 0)) 63 16 (nI 0) = zS (m_u T) 0 b0 d0 0 (T 64) := by
  obtain ⟨b0, hb⟩ := nI_all (m_u T 63 12)
  obtain ⟨d0, hd⟩ := nI_all (m_u T 63 13)
  refine ⟨b0, d0, ?_⟩
  funext o
  by_cases e : o = 63
  · subst e
    rw [upS_s, upS_s, z_63]
    rw [upd_id (f := upd (m_u T 63) 10 (nI 0)) (k := 12) (by rw [upd_n (by omega)]; exact hb), upd_id (f := upd (m_u T 63) 10 (nI 0)) (k := 13) (by rw [upd_n (by omega)]; exact hd)]
  · rw [upS_n e, upS_n e]
    by_cases e2 : o = 64
    · subst e2; rw [z_64]; unfold m_u; rw [upS_n (by omega), upS_n (by omega), upS_n (by omega)]
    · rw [z_o e e2]
theorem m_u_o {o : Nat} (h : o ≠ 63) : m_u T o = T o := by unfold m_u; rw [upS_n h, upS_n h, upS_n h]
theorem m_u_k {k : Nat} (h0 : k ≠ 0) (h1 : k ≠ 11) (h2 : k ≠ 9) : m_u T 63 k = T 63 k := by unfold m_u; rw [upS_s, upd_n h2, upS_s, upd_n h1, upS_s, upd_n h0]
theorem m_u_0 : m_u T 63 0 = nI 0 := by unfold m_u; rw [upS_s, upd_n (by omega), upS_s, upd_n (by omega), upS_s, upd_s]
theorem m_u_9 : m_u T 63 9 = nI 0 := by unfold m_u; rw [upS_s, upd_s]
theorem m_u_11 : m_u T 63 11 = T 63 9 := by unfold m_u; rw [upS_s, upd_n (by omega), upS_s, upd_s]
theorem m_uses : f_X10_uses T = some (.inl none, upS (m_u T) 63 10 (nI 0)) := by
  unfold f_X10_uses m_u
  have e9 : (upS T 63 0 (nI 0)) 63 9 = T 63 9 := by rw [upS_s, upd_n (by omega)]
  simp only [fa_lit, bnd_e, e9]
theorem m_lawAll (hF : 6000 ≤ F) (hT : TM (m_u T) B t) : (match gAll B t with
    | .inr ls => ∃ q' b' d' s' w', (∀ k, k < 1296 → w' k = T 64 k) ∧ PM w' ls ∧ f_X10_readAll F (nI 0) T = some (.inl (some (.int (nI ls.length))), zS (m_u T) q' b' d' s' w')
    | .inl e => ∃ q' d' s' w', (∀ k, k < 1296 → w' k = T 64 k) ∧ f_X10_readAll F (nI 0) T = some (.inl (some (.int (-nI 1))), zS (m_u T) q' e d' s' w')) := by
  have ht := hT.1
  obtain ⟨b0, d0, hz⟩ := z_begin (T := T)
  have hp := tSk_le (B := B) (Nat.zero_le t)
  have hid := tSk_id (B := B) (Nat.zero_le t)
  have hB := m_blanks (F := F) (U := m_u T) (q := 0) (b := b0) (d := d0) (s := 0) (w := T 64) hF hT (Nat.zero_le t)
  have e1 : f_X10_readAll F (nI 0) T = (if ¬ nI (tSk B t 0) = nI t then f_X10_readAll_b28 F F (nI 0) (nI 0) (zS (m_u T) (tSk B t 0) (tSk B t 0) d0 0 (T 64)) else some (.inl (some (.int (nI 0))), zS (m_u T) (tSk B t 0) (tSk B t 0) d0 0 (T 64))) := by
    unfold f_X10_readAll
    simp only [fa_lit, m_uses, bV0_v, bnd_e, hz, hB, z_10, z_11, hT.2.1]
  have hP0 : PM (T 64) [] := ⟨fun j hj => absurd hj (by simp), fun j hj => absurd hj (by simp [gCs])⟩
  unfold gAll
  by_cases g : tSk B t 0 = t
  · rw [if_pos g]
    refine ⟨tSk B t 0, tSk B t 0, d0, 0, T 64, fun _ _ => rfl, hP0, ?_⟩
    rw [e1, if_neg (by rw [g]; simp)]; rfl
  · rw [if_neg g]
    have hl := m_lawLines (F := F) (U := m_u T) hF hT 12 (tSk B t 0) [] (tSk B t 0) (tSk B t 0) d0 (T 64) F hp hid (Nat.zero_le _) rfl (by omega) hP0
    rw [if_pos (by rw [nI_eqE (by omega) (by omega)]; exact g)] at e1
    cases gs : gLs B t 12 (tSk B t 0) with
    | inl e =>
      rw [gs] at hl
      obtain ⟨q2, d2, s2, w2, e3, e4⟩ := hl
      exact ⟨q2, d2, s2, w2, e3, e1.trans e4⟩
    | inr ls =>
      rw [gs] at hl
      obtain ⟨q2, b2, d2, s2, w2, e3, P2, e4⟩ := hl
      exact ⟨q2, b2, d2, s2, w2, e3, P2, e1.trans e4⟩
theorem m_lawC {x : Int32} : ∀ (m i f : Nat) (S : mS), i + m = 849 → m < f → f_X10_law_b52 F f x (nI i) S = some (.inl (some (.int x)), upS (upS (seS S 64 (rngF (447 + i) 1296 (fun j => S 64 (j + 849)) (S 64))) 64 4 (nI 1)) 63 7 (nI 0))
  | 0, i, f + 1, S, hi, hf => by
    have hie : i = 849 := by omega
    rw [hie, f_X10_law_b52]
    simp (disch := omega) only [fa_lit, nI_ad, nI_mul, nI_cl, inb_nI, nI_ltE, nI_leE, nI_eqE, nI_m1, nI_m1', m1_lt, lt_m1, m1_le, le_m1, eq_self, not_true_eq_false, not_false_eq_true, ↓reduceIte, leT, leF, ltT, ltF, eqT, eqF, decide_true, decide_false, true_and, and_true, Nat.reduceAdd, bI0_i, bI_i, bI_x, bV0_v, bV_v, bV_x, ↓bnd_e, gd_t, rng_end, se_id, Nat.le_refl]
  | m + 1, i, f + 1, S, hi, hf => by
    have ih := m_lawC (x := x) m (i + 1) f (upS S 64 (447 + i) (S 64 (1296 + i))) (by omega) (by omega)
    rw [f_X10_law_b52]
    simp (disch := omega) only [fa_lit, nI_ad, nI_mul, nI_cl, inb_nI, nI_ltE, nI_leE, nI_eqE, nI_m1, nI_m1', m1_lt, lt_m1, m1_le, le_m1, eq_self, not_true_eq_false, not_false_eq_true, ↓reduceIte, leT, leF, ltT, ltF, eqT, eqF, decide_true, decide_false, true_and, and_true, Nat.reduceAdd, bI0_i, bI_i, bI_x, bV0_v, bV_v, bV_x, ↓bnd_e, gd_t, ih]
    congr 4
    rw [up_def, seS_seS, seS_s]
    congr 1
    funext j
    unfold rngF
    by_cases e : j = 447 + i
    · subst e
      rw [if_neg (by omega), if_pos (by omega), upd_s]
      show S 64 (1296 + i) = S 64 (447 + i + 849)
      congr 1; omega
    · by_cases g1 : 447 + i ≤ j ∧ j < 1296
      · rw [if_pos (by omega), if_pos g1]
        show upd (S 64) (447 + i) (S 64 (1296 + i)) (j + 849) = S 64 (j + 849)
        rw [upd_n (by omega)]
      · rw [if_neg (by omega), if_neg g1, upd_n e]
/-- behind a text: what must be seen to -/
theorem Inv_txt {S T : mS} {e : Int32} (hI : Inv S) (h25 : Rg (T 25)) (a25 : Az (T 25)) (hc : cM (T 64) = T 25) (hL : LR T 3 (T 64)) (z27 : zb (T 27)) (h1 : T 1 1 = nI 0) (h13 : T 1 3 = e) (k6 : T 63 6 = S 63 6) (k9 : T 63 9 = nI 0) (k14 : T 63 14 = e)
    (hp : (T 36 1 = S 36 1 ∧ T 36 2 = nI 0 ∧ T 63 7 = nI 0) ∨ (T 36 1 = S 36 1 ∧ T 36 2 = S 36 2 ∧ T 63 7 = S 63 7 ∧ T 64 4 = S 64 4 ∧ T 68 = S 68))
    (ho : ∀ o, o = 0 ∨ (17 ≤ o ∧ o ≤ 21) ∨ o = 29 ∨ (39 ≤ o ∧ o ≤ 61) ∨ o = 65 → T o = S o) : Inv T := by
  obtain ⟨g1, g2, g3, g4, g5, g6, g7, g8, g9⟩ := hI
  refine ⟨h25, hc, hL, z27, by rw [ho 29 (by omega)]; exact g5, ?_, ?_, ?_, ?_⟩
  · exact Img_of (by rw [ho 0 (by omega)]) k6 (ho 29 (by omega)) (ho 65 (by omega)) (fun o q1 q2 => ho o (by omega)) g6
  · rcases hp with ⟨q1, q2, q3⟩ | ⟨q1, q2, q3, q4, q5⟩
    · exact Past_none ⟨q1, q2⟩ q3 (fun i hi => ho _ (by omega)) g7
    · exact Past_of ⟨q1, q2⟩ q3 (fun i hi => ho _ (by omega)) q5 q4 g7
  · exact ⟨0, by omega, h1, k9, fun i hi => absurd hi (by omega)⟩
  · exact ⟨by rw [h13, k14], a25, by rw [ho 29 (by omega)]; exact g9.2.2.1, fun i hi => by rw [ho _ (by omega)]; exact g9.2.2.2 i hi⟩
theorem tape_B {S : mS} (h : TapeR S) : ∃ B t, TB S B t ∧ S 63 9 = nI t ∧ ∀ i, i < t → S 69 i = (nI (B i)).toInt8.toInt32 := by
  obtain ⟨t, b1, b2, b3, b4⟩ := h
  refine ⟨fun i => (S 2 i).toNatClampNeg, t, ⟨b1, b2, fun i hi => ?_⟩, b3, fun i hi => ?_⟩
  · obtain ⟨x, h1, h2, h3⟩ := b4 i hi
    show S 2 i = nI (S 2 i).toNatClampNeg ∧ (S 2 i).toNatClampNeg < 256
    rw [h2, nI_cl (by omega)]; exact ⟨rfl, h1⟩
  · obtain ⟨x, h1, h2, h3⟩ := b4 i hi
    show S 69 i = (nI (S 2 i).toNatClampNeg).toInt8.toInt32
    rw [h2, nI_cl (by omega)]; exact h3
theorem ag_law (hF : 6000 ≤ F) (hI : Inv S) : Ag (f_X9_law F) (f_X10_law F) [1] S := by
  have hI0 := hI
  obtain ⟨g1, g2, ⟨A, a1, a2, a3⟩, g4, g5, g6, g7, g8, g9⟩ := hI
  obtain ⟨B, t, hT, h9, h69⟩ := tape_B g8
  have hx := x_lawAll (F := F) hF hT
  have hb : f_X2_begin S = some (.inl none, upS (upS S 10 6 (nI 0)) 10 7 (nI 0)) := by unfold f_X2_begin; simp only [fa_lit, bnd_e]
  have hM : ∀ T : mS, T 63 = S 63 → T 69 = S 69 → TM (m_u T) B t := fun T e1 e2 => ⟨hT.1, by rw [m_u_11, e1]; exact h9, fun i hi => ⟨by rw [m_u_o (by omega), e2]; exact h69 i hi, (hT.2.2 i hi).2⟩⟩
  have hcut : ∀ Y : mS, f_X8_cut (nI 0) Y = some (.inl none, upS Y 1 1 (nI 0)) := fun Y => by unfold f_X8_cut; rw [bnd_e]
  cases ga : gAll B t with
  | inl e =>
    rw [ga] at hx
    obtain ⟨S', p', n', h', fd, ex⟩ := hx
    refine ⟨.inr 1, upS (yS S' p' (nI e) (S 27) n' h') 1 1 (nI 0), ?_, fun T hTT => ?_⟩
    · unfold f_X9_law
      simp (disch := omega) only [fa_lit, nI_ad, nI_mul, nI_cl, inb_nI, nI_ltE, nI_leE, nI_eqE, nI_m1, nI_m1', m1_lt, lt_m1, m1_le, le_m1, eq_self, not_true_eq_false, not_false_eq_true, ↓reduceIte, leT, leF, ltT, ltF, eqT, eqF, decide_true, decide_false, true_and, and_true, Nat.reduceAdd, bI0_i, bI_i, bI_x, bV0_v, bV_v, bV_x, ↓bnd_e, gd_t, hb, ex, hcut]
    · have eo : ∀ o, o < 75 → o ≠ 1 → o ≠ 10 → o ≠ 11 → o ≠ 12 → o ≠ 13 → o ≠ 14 → T o = S o := by
        intro o q1 q2 q3 q4 q5 q6 q7
        rw [hTT o q1, upS_n q2]
        by_cases e27 : o = 27
        · subst e27; rw [y_27]
        · rw [y_o q2 e27 q3 q7, fd o q3 q4 q5 q6]
      have hm := m_lawAll (F := F) (T := T) hF (hM T (eo 63 (by omega) (by omega) (by omega) (by omega) (by omega) (by omega) (by omega)) (eo 69 (by omega) (by omega) (by omega) (by omega) (by omega) (by omega) (by omega)))
      rw [ga] at hm
      obtain ⟨q2, d2, s2, w2, e3, e4⟩ := hm
      have e14 : upS (zS (m_u T) q2 e d2 s2 w2) 63 14 (zS (m_u T) q2 e d2 s2 w2 63 12) = upS (zS (m_u T) q2 e d2 s2 w2) 63 14 (nI e) := by rw [z_12]
      refine ⟨nI 0, upS (upS (zS (m_u T) q2 e d2 s2 w2) 63 14 (nI e)) 63 0 (nI 1), ?_, ?_, 0, rfl, by omega, by rw [upS_s, upd_s]⟩
      · unfold f_X10_law f_X10_law_b19 f_X10_law_b32
        simp (disch := omega) only [fa_lit, nI_ad, nI_mul, nI_cl, inb_nI, nI_ltE, nI_leE, nI_eqE, nI_m1, nI_m1', m1_lt, lt_m1, m1_le, le_m1, eq_self, not_true_eq_false, not_false_eq_true, ↓reduceIte, leT, leF, ltT, ltF, eqT, eqF, decide_true, decide_false, true_and, and_true, Nat.reduceAdd, bI0_i, bI_i, bI_x, bV0_v, bV_v, bV_x, ↓bnd_e, gd_t, e4, le0_m1, z_12, m_throw]
      · have ez : ∀ o, o ≠ 63 → o ≠ 64 → (upS (upS (zS (m_u T) q2 e d2 s2 w2) 63 14 (nI e)) 63 0 (nI 1)) o = T o := by
          intro o q1 q2
          rw [upS_n q1, upS_n q1, z_o q1 q2, m_u_o q1]
        have ek : ∀ k, k ≠ 14 → k ≠ 0 → k ≠ 10 → k ≠ 12 → k ≠ 13 → k ≠ 16 → k ≠ 11 → k ≠ 9 → (upS (upS (zS (m_u T) q2 e d2 s2 w2) 63 14 (nI e)) 63 0 (nI 1)) 63 k = S 63 k := by
          intro k j1 j2 j3 j4 j5 j6 j7 j8
          rw [upS_s, upd_n j2, upS_s, upd_n j1, z_k j3 j4 j5 j6, m_u_k j2 j7 j8, eo 63 (by omega) (by omega) (by omega) (by omega) (by omega) (by omega) (by omega)]
        have e64 : (upS (upS (zS (m_u T) q2 e d2 s2 w2) 63 14 (nI e)) 63 0 (nI 1)) 64 = w2 := by rw [upS_n (by omega), upS_n (by omega), z_64]
        have ew : ∀ k, k < 1296 → w2 k = S 64 k := fun k hk => by rw [e3 k hk, eo 64 (by omega) (by omega) (by omega) (by omega) (by omega) (by omega) (by omega)]
        have es : ∀ o, o < 75 → o ≠ 1 → o ≠ 10 → o ≠ 11 → o ≠ 12 → o ≠ 13 → o ≠ 14 → o ≠ 63 → o ≠ 64 → (upS (upS (zS (m_u T) q2 e d2 s2 w2) 63 14 (nI e)) 63 0 (nI 1)) o = S o := by
          intro o q1 q2 q3 q4 q5 q6 q7 q8 q9
          rw [ez o q8 q9, eo o q1 q2 q3 q4 q5 q6 q7]
        have e1 : (upS (upS (zS (m_u T) q2 e d2 s2 w2) 63 14 (nI e)) 63 0 (nI 1)) 1 = upd (yS S' p' (nI e) (S 27) n' h' 1) 1 (nI 0) := by rw [ez 1 (by omega) (by omega), hTT 1 (by omega), upS_s]
        refine Inv_txt (e := nI e) hI0 ?_ ?_ ?_ ⟨A, a1, LX_of (fun o q1 q2 => es o (by omega) (by omega) (by omega) (by omega) (by omega) (by omega) (by omega) (by omega) (by omega)) a2, ?_⟩ ?_ ?_ ?_ (ek 6 (by omega) (by omega) (by omega) (by omega) (by omega) (by omega) (by omega) (by omega)) ?_ ?_ (Or.inr ⟨?_, ?_, ek 7 (by omega) (by omega) (by omega) (by omega) (by omega) (by omega) (by omega) (by omega), ?_, es 68 (by omega) (by omega) (by omega) (by omega) (by omega) (by omega) (by omega) (by omega) (by omega)⟩) (fun o ho => es o (by omega) (by omega) (by omega) (by omega) (by omega) (by omega) (by omega) (by omega) (by omega))
        · rw [es 25 (by omega) (by omega) (by omega) (by omega) (by omega) (by omega) (by omega) (by omega) (by omega)]; exact g1
        · rw [es 25 (by omega) (by omega) (by omega) (by omega) (by omega) (by omega) (by omega) (by omega) (by omega)]; exact g9.2.1
        · rw [e64, es 25 (by omega) (by omega) (by omega) (by omega) (by omega) (by omega) (by omega) (by omega) (by omega), ← g2]; exact cM_congr (fun k hk => ew k (by omega))
        · rw [e64]; exact LM_of (ew 4 (by omega)) (fun k _ hk => ew k hk) a1 a3
        · rw [es 27 (by omega) (by omega) (by omega) (by omega) (by omega) (by omega) (by omega) (by omega) (by omega)]; exact g4
        · rw [e1, upd_s]
        · rw [e1, upd_n (by omega), y_13]
        · rw [upS_s, upd_n (by omega), upS_s, upd_n (by omega), z_k (by omega) (by omega) (by omega) (by omega), m_u_9]
        · rw [upS_s, upd_n (by omega), upS_s, upd_s]
        · rw [es 36 (by omega) (by omega) (by omega) (by omega) (by omega) (by omega) (by omega) (by omega) (by omega)]
        · rw [es 36 (by omega) (by omega) (by omega) (by omega) (by omega) (by omega) (by omega) (by omega) (by omega)]
        · rw [e64, ew 4 (by omega)]
  | inr ls =>
    rw [ga] at hx
    obtain ⟨o1, o2, o3⟩ := gAll_p ga
    have ht := hT.1
    obtain ⟨S', p', n', h', fd, P, C, ex⟩ := hx
    have hW : LW (gA ls) := gA_W o2 o1 (by omega)
    generalize hY : upS (yS S' p' (-nI 1) (S 27) n' h') 1 1 (nI 0) = Y
    have yo : ∀ o, o ≠ 1 → o ≠ 10 → o ≠ 11 → o ≠ 12 → o ≠ 13 → o ≠ 14 → Y o = S o := by
      intro o q2 q3 q4 q5 q6 q7
      rw [← hY, upS_n q2]
      by_cases e27 : o = 27
      · subst e27; rw [y_27]
      · rw [y_o q2 e27 q3 q7, fd o q3 q4 q5 q6]
    have yX : LX (gA ls) Y 10 := by
      refine gA_X ⟨?_, fun j hj => ?_⟩ ?_
      · rw [← hY, upS_n (by omega), y_106]; exact P.1
      · rw [← hY, upS_n (by omega), upS_n (by omega), upS_n (by omega), y_o (by omega) (by omega) (by omega) (by omega), y_o (by omega) (by omega) (by omega) (by omega), y_o (by omega) (by omega) (by omega) (by omega)]
        exact P.2 j hj
      · rw [← hY, upS_n (by omega), y_14]; exact C
    have y1 : Y 1 1 = nI 0 := by rw [← hY, upS_s, upd_s]
    have y13 : Y 1 3 = -nI 1 := by rw [← hY, upS_s, upd_n (by omega), y_13]
    obtain ⟨Z, hc1, hc2, hc3⟩ := x_lawcopy (S := Y) (u0 := 3) (u1 := 10) (by omega)
    have zX := hc2 _ hW yX
    have z6 : Z 3 6 = nI ls.length := zX.1
    refine ⟨.inl (some (.int (nI ls.length))), upS Z 36 2 (nI 0), ?_, fun T hTT => ?_⟩
    · unfold f_X9_law f_X5_forget f_X2_size
      have hcY := hcut (yS S' p' (-nI 1) (S 27) n' h')
      rw [hY] at hcY
      have z6' : (upS Z 36 2 (nI 0)) 3 6 = nI ls.length := by rw [upS_n (by omega)]; exact z6
      simp (disch := omega) only [fa_lit, nI_ad, nI_mul, nI_cl, inb_nI, nI_ltE, nI_leE, nI_eqE, nI_m1, nI_m1', m1_lt, lt_m1, m1_le, le_m1, eq_self, not_true_eq_false, not_false_eq_true, ↓reduceIte, leT, leF, ltT, ltF, eqT, eqF, decide_true, decide_false, true_and, and_true, Nat.reduceAdd, bI0_i, bI_i, bI_x, bV0_v, bV_v, bV_x, ↓bnd_e, gd_t, hb, ex, hcY, hc1, z6']
    · have eo : ∀ o, o < 75 → o ≠ 1 → o < 3 ∨ 7 < o → o ≠ 10 → o ≠ 11 → o ≠ 12 → o ≠ 13 → o ≠ 14 → o ≠ 36 → T o = S o := by
        intro o q1 q2 q8 q3 q4 q5 q6 q7 q9
        rw [hTT o q1, upS_n q9, hc3 o (by omega), yo o q2 q3 q4 q5 q6 q7]
      have e36 : T 36 = upd (S 36) 2 (nI 0) := by rw [hTT 36 (by omega), upS_s, hc3 36 (by omega), yo 36 (by omega) (by omega) (by omega) (by omega) (by omega) (by omega)]
      have e3 : ∀ o, 3 ≤ o → o ≤ 7 → T o = Z o := fun o q1 q2 => by rw [hTT o (by omega), upS_n (by omega)]
      have e1 : T 1 = Y 1 := by rw [hTT 1 (by omega), upS_n (by omega), hc3 1 (by omega)]
      have t63 : T 63 = S 63 := eo 63 (by omega) (by omega) (by omega) (by omega) (by omega) (by omega) (by omega) (by omega) (by omega)
      have hm := m_lawAll (F := F) (T := T) hF (hM T t63 (eo 69 (by omega) (by omega) (by omega) (by omega) (by omega) (by omega) (by omega) (by omega) (by omega)))
      rw [ga] at hm
      obtain ⟨q2, b2, d2, s2, w2, em, PP, e4⟩ := hm
      generalize hV : upS (upS (zS (m_u T) q2 b2 d2 s2 w2) 63 14 (-nI 1)) 64 1296 (nI ls.length) = V
      have hcp := m_lawC (F := F) (x := nI ls.length) 849 0 F V (by omega) (by omega)
      have vo : ∀ o, o ≠ 63 → o ≠ 64 → V o = T o := by
        intro o j1 j2
        rw [← hV, upS_n j2, upS_n j1, z_o j1 j2, m_u_o j1]
      have v64 : V 64 = upd w2 1296 (nI ls.length) := by rw [← hV, upS_s, upS_n (by omega), z_64]
      have vk : ∀ k, k ≠ 14 → k ≠ 0 → k ≠ 10 → k ≠ 12 → k ≠ 13 → k ≠ 16 → k ≠ 11 → k ≠ 9 → V 63 k = S 63 k := by
        intro k j1 j2 j3 j4 j5 j6 j7 j8
        rw [← hV, upS_n (by omega), upS_s, upd_n j1, z_k j3 j4 j5 j6, m_u_k j2 j7 j8, t63]
      have v0 : V 63 0 = nI 0 := by rw [← hV, upS_n (by omega), upS_s, upd_n (by omega), z_k (by omega) (by omega) (by omega) (by omega), m_u_0]
      have v9 : V 63 9 = nI 0 := by rw [← hV, upS_n (by omega), upS_s, upd_n (by omega), z_k (by omega) (by omega) (by omega) (by omega), m_u_9]
      have v14 : V 63 14 = -nI 1 := by rw [← hV, upS_n (by omega), upS_s, upd_s]
      refine ⟨nI ls.length, _, Eq.trans ?_ hcp, ?_, rfl, ?_⟩
      · unfold f_X10_law f_X10_law_b19 f_X10_law_b32
        simp (disch := omega) only [fa_lit, nI_ad, nI_mul, nI_cl, inb_nI, nI_ltE, nI_leE, nI_eqE, nI_m1, nI_m1', m1_lt, lt_m1, m1_le, le_m1, eq_self, not_true_eq_false, not_false_eq_true, ↓reduceIte, leT, leF, ltT, ltF, eqT, eqF, decide_true, decide_false, true_and, and_true, Nat.reduceAdd, bI0_i, bI_i, bI_x, bV0_v, bV_v, bV_x, ↓bnd_e, gd_t, e4, m_throw0, hV]
      · have r64 : (upS (upS (seS V 64 (rngF (447 + 0) 1296 (fun j => V 64 (j + 849)) (V 64))) 64 4 (nI 1)) 63 7 (nI 0)) 64 = upd (rngF 447 1296 (fun j => V 64 (j + 849)) (V 64)) 4 (nI 1) := by
          rw [upS_n (by omega), upS_s, seS_s]
        have ro : ∀ o, o ≠ 63 → o ≠ 64 → (upS (upS (seS V 64 (rngF (447 + 0) 1296 (fun j => V 64 (j + 849)) (V 64))) 64 4 (nI 1)) 63 7 (nI 0)) o = T o := by
          intro o j1 j2
          rw [upS_n j1, upS_n j2, seS_n j2, vo o j1 j2]
        have rk : ∀ k, k ≠ 7 → (upS (upS (seS V 64 (rngF (447 + 0) 1296 (fun j => V 64 (j + 849)) (V 64))) 64 4 (nI 1)) 63 7 (nI 0)) 63 k = V 63 k := by
          intro k hk
          rw [upS_s, upd_n hk, upS_n (by omega), seS_n (by omega)]
        have rs : ∀ o, o < 75 → o ≠ 1 → o < 3 ∨ 7 < o → o ≠ 10 → o ≠ 11 → o ≠ 12 → o ≠ 13 → o ≠ 14 → o ≠ 36 → o ≠ 63 → o ≠ 64 → (upS (upS (seS V 64 (rngF (447 + 0) 1296 (fun j => V 64 (j + 849)) (V 64))) 64 4 (nI 1)) 63 7 (nI 0)) o = S o := by
          intro o j1 j2 j3 j4 j5 j6 j7 j8 j9 j10 j11
          rw [ro o j10 j11, eo o j1 j2 j3 j4 j5 j6 j7 j8 j9]
        have ew : ∀ k, k < 447 → rngF 447 1296 (fun j => V 64 (j + 849)) (V 64) k = S 64 k := by
          intro k hk
          rw [rng_out (by omega), v64, upd_n (by omega), em k (by omega), eo 64 (by omega) (by omega) (by omega) (by omega) (by omega) (by omega) (by omega) (by omega) (by omega)]
        have hi : ∀ k, 447 ≤ k → k < 1296 → upd (rngF 447 1296 (fun j => V 64 (j + 849)) (V 64)) 4 (nI 1) k = upd w2 1296 (nI ls.length) (k + 849) := by
          intro k h1 h2
          rw [upd_n (by omega), rng_in h1 h2, v64]
        refine Inv_txt (e := -nI 1) hI0 ?_ ?_ ?_ ⟨gA ls, hW, LX_of (fun o q1 q2 => by rw [ro o (by omega) (by omega), e3 o q1 (by omega)]) zX, ?_⟩ ?_ ?_ ?_ ?_ ?_ ?_ (Or.inl ⟨?_, ?_, ?_⟩) (fun o ho => rs o (by omega) (by omega) (by omega) (by omega) (by omega) (by omega) (by omega) (by omega) (by omega) (by omega) (by omega))
        · rw [rs 25 (by omega) (by omega) (by omega) (by omega) (by omega) (by omega) (by omega) (by omega) (by omega) (by omega) (by omega)]; exact g1
        · rw [rs 25 (by omega) (by omega) (by omega) (by omega) (by omega) (by omega) (by omega) (by omega) (by omega) (by omega) (by omega)]; exact g9.2.1
        · rw [r64, cM_out _ (Or.inl rfl), rs 25 (by omega) (by omega) (by omega) (by omega) (by omega) (by omega) (by omega) (by omega) (by omega) (by omega) (by omega), ← g2]
          exact cM_congr ew
        · rw [r64]
          refine gA_M o2 (by omega) PP (by rw [upd_s]) ?_ (fun k h1 h2 => ?_)
          · rw [hi 447 (by omega) (by omega), upd_s]
          · rw [hi k (by omega) h2, upd_n (by omega)]
        · rw [rs 27 (by omega) (by omega) (by omega) (by omega) (by omega) (by omega) (by omega) (by omega) (by omega) (by omega) (by omega)]; exact g4
        · rw [ro 1 (by omega) (by omega), e1]; exact y1
        · rw [ro 1 (by omega) (by omega), e1]; exact y13
        · rw [rk 6 (by omega), vk 6 (by omega) (by omega) (by omega) (by omega) (by omega) (by omega) (by omega) (by omega)]
        · rw [rk 9 (by omega)]; exact v9
        · rw [rk 14 (by omega)]; exact v14
        · rw [ro 36 (by omega) (by omega), e36, upd_n (by omega)]
        · rw [ro 36 (by omega) (by omega), e36, upd_s]
        · rw [upS_s, upd_s]
      · rw [upS_s, upd_n (by omega), upS_n (by omega), seS_n (by omega), v0]
end T
