/-! shifts -/
section O
variable {F : Nat} {S : mS}
theorem sb1 : ∀ s, s < 64 → ∀ p, p < 64 → (nI p &&& (nI s ^^^ (-nI 1)) = nI 0 ↔ s &&& p = p) := by decide +kernel
theorem sb2 : ∀ s, s < 64 → ∀ p, p < 64 → s &&& p = p → nI s &&& (nI p ^^^ (-nI 1)) = nI (s - p) := by decide +kernel
theorem sb3 : ∀ s, s < 64 → ∀ p, p < 63 → (nI (p + 1) - nI 1) &&& nI s = nI (p &&& s) := by decide +kernel
theorem sb4' : ∀ s, s < 64 → ∀ p, p < 63 → ∀ q, q < p + 1 → ¬ (s &&& (p + 1) = p + 1 ∧ p &&& s < q ∧ s &&& q = q) := by decide +kernel
theorem sb4 (s : Nat) (hs : s < 64) (p : Nat) (hp : p < 63) (h1 : s &&& (p + 1) = p + 1) (q : Nat) (hq : q < p + 1) (h2 : p &&& s < q) (h3 : s &&& q = q) : False := sb4' s hs p hp q hq ⟨h1, h2, h3⟩
theorem sb5 : ∀ s, s < 64 → ∀ p, p < 64 → s &&& p = p → p ≤ s := by decide +kernel
theorem sb6 : ∀ s, s < 64 → ∀ p, p < 63 → s &&& (p &&& s) = p &&& s := by decide +kernel
/-- what one crew more gives -/
def crF (H : Nat → Bool) (v : Nat → Nat) (s p : Nat) : Nat := if s &&& p = p ∧ H p = true then v (s - p) + 1 else 0
def mxV (H : Nat → Bool) (v : Nat → Nat) (s : Nat) : Nat → Nat
  | 0 => 0
  | p + 1 => max (mxV H v s p) (crF H v s (p + 1))
def mxD (H : Nat → Bool) (v : Nat → Nat) (s : Nat) : Nat → Nat
  | 0 => 0
  | d + 1 => max (mxD H v s d) (crF H v s (s - d))
theorem mxV_le {H : Nat → Bool} {v : Nat → Nat} {s p : Nat} : ∀ {n : Nat}, 1 ≤ p → p ≤ n → crF H v s p ≤ mxV H v s n
  | 0, h1, h2 => by omega
  | n + 1, h1, h2 => by
    rw [mxV]
    by_cases e : p = n + 1
    · subst e; omega
    · have := mxV_le (H := H) (v := v) (s := s) (p := p) (n := n) h1 (by omega); omega
theorem mxV_ex {H : Nat → Bool} {v : Nat → Nat} {s : Nat} : ∀ {n : Nat}, mxV H v s n = 0 ∨ ∃ p, 1 ≤ p ∧ p ≤ n ∧ mxV H v s n = crF H v s p
  | 0 => Or.inl rfl
  | n + 1 => by
    rw [mxV]
    rcases mxV_ex (H := H) (v := v) (s := s) (n := n) with h | ⟨p, h1, h2, h3⟩
    · by_cases g : crF H v s (n + 1) = 0
      · left; omega
      · right; exact ⟨n + 1, by omega, by omega, by omega⟩
    · right
      by_cases g : crF H v s (n + 1) ≤ mxV H v s n
      · exact ⟨p, h1, by omega, by omega⟩
      · exact ⟨n + 1, by omega, by omega, by omega⟩
theorem mxD_le {H : Nat → Bool} {v : Nat → Nat} {s p : Nat} : ∀ {n : Nat}, s - n < p → p ≤ s → crF H v s p ≤ mxD H v s n
  | 0, h1, h2 => by omega
  | n + 1, h1, h2 => by
    rw [mxD]
    by_cases e : p = s - n
    · subst e; omega
    · have := mxD_le (H := H) (v := v) (s := s) (p := p) (n := n) (by omega) h2; omega
theorem mxD_ex {H : Nat → Bool} {v : Nat → Nat} {s : Nat} : ∀ {n : Nat}, n ≤ s → mxD H v s n = 0 ∨ ∃ p, s - n < p ∧ p ≤ s ∧ mxD H v s n = crF H v s p
  | 0, _ => Or.inl rfl
  | n + 1, hn => by
    rw [mxD]
    rcases mxD_ex (H := H) (v := v) (s := s) (n := n) (by omega) with h | ⟨p, h1, h2, h3⟩
    · by_cases g : crF H v s (s - n) = 0
      · left; omega
      · right; exact ⟨s - n, by omega, by omega, by omega⟩
    · right
      by_cases g : crF H v s (s - n) ≤ mxD H v s n
      · exact ⟨p, by omega, by omega, by omega⟩
      · exact ⟨s - n, by omega, by omega, by omega⟩
theorem mxVD {H : Nat → Bool} {v : Nat → Nat} {s : Nat} : mxV H v s s = mxD H v s s := by
  have a : mxV H v s s ≤ mxD H v s s := by
    rcases mxV_ex (H := H) (v := v) (s := s) (n := s) with h | ⟨p, h1, h2, h3⟩
    · omega
    · rw [h3]; exact mxD_le (by omega) h2
  have b : mxD H v s s ≤ mxV H v s s := by
    rcases mxD_ex (H := H) (v := v) (s := s) (n := s) (Nat.le_refl _) with h | ⟨p, h1, h2, h3⟩
    · omega
    · rw [h3]; exact mxV_le (by omega) h2
  omega
/-- no part lies between -/
theorem mxD_gap {H : Nat → Bool} {v : Nat → Nat} {s : Nat} : ∀ (e d : Nat), d + e ≤ s → (∀ q, s - (d + e) < q → q ≤ s - d → ¬ s &&& q = q) → mxD H v s (d + e) = mxD H v s d
  | 0, d, _, _ => rfl
  | e + 1, d, hs, h => by
    rw [show d + (e + 1) = (d + e) + 1 by omega, mxD, mxD_gap e d (by omega) (fun q h1 h2 => h q (by omega) h2)]
    have : crF H v s (s - (d + e)) = 0 := by
      unfold crF
      rw [if_neg (fun g => h (s - (d + e)) (by omega) (by omega) g.1)]
    rw [this]; omega
def tabV (H : Nat → Bool) : Nat → Nat → Nat
  | 0 => fun _ => 0
  | s + 1 => fun t => if t = s then mxV H (tabV H s) s s else tabV H s t
theorem mx_bd {H : Nat → Bool} {v : Nat → Nat} {s : Nat} (hv : ∀ t, t < s → v t ≤ t) : ∀ {n : Nat}, n ≤ s → mxV H v s n ≤ s
  | 0, _ => Nat.zero_le _
  | n + 1, hn => by
    rw [mxV]
    have h1 := mx_bd (H := H) hv (n := n) (by omega)
    have h2 : crF H v s (n + 1) ≤ s := by
      unfold crF
      split
      · have := hv (s - (n + 1)) (by omega); omega
      · omega
    omega
theorem tab_bd {H : Nat → Bool} : ∀ s t, tabV H s t ≤ t
  | 0, t => Nat.zero_le _
  | s + 1, t => by
    show (if t = s then mxV H (tabV H s) s s else tabV H s t) ≤ t
    split
    · rename_i e; subst e; exact mx_bd (fun u _ => tab_bd t u) (Nat.le_refl _)
    · exact tab_bd s t
theorem mxV_bd {H : Nat → Bool} {s n : Nat} (hn : n ≤ s) : mxV H (tabV H s) s n ≤ s := mx_bd (fun t _ => tab_bd s t) hn
theorem mxD_bd {H : Nat → Bool} {s n : Nat} (hn : n ≤ s) : mxD H (tabV H s) s n ≤ s := by
  rcases mxD_ex (H := H) (v := tabV H s) (s := s) (n := n) hn with h | ⟨p, h1, h2, h3⟩
  · omega
  · rw [h3]
    have := mxV_le (H := H) (v := tabV H s) (s := s) (p := p) (n := s) (by omega) h2
    have := mxV_bd (H := H) (Nat.le_refl s)
    omega
theorem se62 {q : Nat → Int32} {o : Nat} (h : o ≠ 62) : seS S 62 q o = S o := seS_n h
theorem up62 {q : Nat → Int32} {k : Nat} {v : Int32} : upS (seS S 62 q) 62 k v = seS S 62 (upd q k v) := by
  unfold upS; rw [seS_seS, seS_s]
theorem up72 {q : Nat → Int32} {k : Nat} {v : Int32} : upS (seS S 72 q) 72 k v = seS S 72 (upd q k v) := by
  unfold upS; rw [seS_seS, seS_s]
theorem x_crew {j l nh s : Nat} {q : Nat → Int32} (hF : 6000 ≤ F) (hs : s < 64) (hh : S 25 13 = nI nh) (hh6 : nh ≤ 6) (hq : ∀ t, t < s → q t = nI (tabV (hH (S 25) j l nh) s t)) : ∀ (m p k : Nat), p + m = s → m < k →
    f_X9_mostCrews_b5 F k (nI s) (loadV (S 25) j l) (nI (mxV (hH (S 25) j l nh) (tabV (hH (S 25) j l nh) s) s p)) (nI (p + 1)) (seS S 62 q) = some (.inl (some (.int (nI (mxV (hH (S 25) j l nh) (tabV (hH (S 25) j l nh) s) s s)))), seS S 62 q)
  | 0, p, k + 1, hp, hk => by
    have hie : p = s := by omega
    subst hie
    rw [f_X9_mostCrews_b5]
    simp (disch := omega) only [fa_lit, nI_ad, nI_mul, nI_cl, inb_nI, nI_ltE, nI_leE, nI_eqE, nI_m1, nI_m1', m1_lt, lt_m1, m1_le, le_m1, eq_self, not_true_eq_false, not_false_eq_true, ↓reduceIte, leT, leF, ltT, ltF, eqT, eqF, decide_true, decide_false, true_and, and_true, Nat.reduceAdd, bI0_i, bI_i, bI_x, bV0_v, bV_v, bV_x, ↓bnd_e, gd_t]
  | m + 1, p, k + 1, hp, hk => by
    have ih := x_crew (j := j) (l := l) (q := q) hF hs hh hh6 hq m (p + 1) k (by omega) (by omega)
    rw [mxV] at ih
    rw [f_X9_mostCrews_b5]
    unfold f_X9_mostCrews_b42 f_X9_mostCrews_b43 f_X9_mostCrews_b88
    have z64 : Int32.ofNat 64 = nI 64 := rfl
    by_cases g1 : s &&& (p + 1) = p + 1
    · have e1 := (sb1 s hs (p + 1) (by omega)).2 g1
      have e2 := sb2 s hs (p + 1) (by omega) g1
      have hv := hq (s - (p + 1)) (by omega)
      have hb := tab_bd (H := hH (S 25) j l nh) s (s - (p + 1))
      have hm := mxV_bd (H := hH (S 25) j l nh) (s := s) (n := p) (by omega)
      have hst := x_strengthOf (F := F) (S := seS S 62 q) (u := 24) (set := nI (p + 1)) (by omega) (by rw [se62 (by omega)]; exact hh) hh6
      rw [se62 (by omega)] at hst
      by_cases g2 : strV (S 25) (nI (p + 1)) nh < loadV (S 25) j l
      · have e : hH (S 25) j l nh (p + 1) = false := decide_eq_false (by simpa using g2)
        have ec : crF (hH (S 25) j l nh) (tabV (hH (S 25) j l nh) s) s (p + 1) = 0 := by
          unfold crF; rw [if_neg (fun q => by rw [e] at q; exact absurd q.2 (by simp))]
        rw [ec, Nat.max_eq_left (Nat.zero_le _)] at ih
        by_cases g3 : tabV (hH (S 25) j l nh) s (s - (p + 1)) < mxV (hH (S 25) j l nh) (tabV (hH (S 25) j l nh) s) s p
        · simp (disch := omega) only [fa_lit, nI_ad, nI_mul, nI_cl, inb_nI, nI_ltE, nI_leE, nI_eqE, nI_m1, nI_m1', m1_lt, lt_m1, m1_le, le_m1, eq_self, not_true_eq_false, not_false_eq_true, ↓reduceIte, leT, leF, ltT, ltF, eqT, eqF, decide_true, decide_false, true_and, and_true, Nat.reduceAdd, bI0_i, bI_i, bI_x, bV0_v, bV_v, bV_x, ↓bnd_e, gd_t, e1, e2, z64, seS_s, hv, g3]
          exact ih
        · simp (disch := omega) only [fa_lit, nI_ad, nI_mul, nI_cl, inb_nI, nI_ltE, nI_leE, nI_eqE, nI_m1, nI_m1', m1_lt, lt_m1, m1_le, le_m1, eq_self, not_true_eq_false, not_false_eq_true, ↓reduceIte, leT, leF, ltT, ltF, eqT, eqF, decide_true, decide_false, true_and, and_true, Nat.reduceAdd, bI0_i, bI_i, bI_x, bV0_v, bV_v, bV_x, ↓bnd_e, gd_t, e1, e2, z64, seS_s, hv, g3, hst, g2]
          exact ih
      · have e : hH (S 25) j l nh (p + 1) = true := decide_eq_true g2
        have ec : crF (hH (S 25) j l nh) (tabV (hH (S 25) j l nh) s) s (p + 1) = tabV (hH (S 25) j l nh) s (s - (p + 1)) + 1 := by
          unfold crF; rw [if_pos ⟨g1, e⟩]
        rw [ec] at ih
        by_cases g3 : tabV (hH (S 25) j l nh) s (s - (p + 1)) < mxV (hH (S 25) j l nh) (tabV (hH (S 25) j l nh) s) s p
        · rw [Nat.max_eq_left (by omega)] at ih
          simp (disch := omega) only [fa_lit, nI_ad, nI_mul, nI_cl, inb_nI, nI_ltE, nI_leE, nI_eqE, nI_m1, nI_m1', m1_lt, lt_m1, m1_le, le_m1, eq_self, not_true_eq_false, not_false_eq_true, ↓reduceIte, leT, leF, ltT, ltF, eqT, eqF, decide_true, decide_false, true_and, and_true, Nat.reduceAdd, bI0_i, bI_i, bI_x, bV0_v, bV_v, bV_x, ↓bnd_e, gd_t, e1, e2, z64, seS_s, hv, g3]
          exact ih
        · rw [Nat.max_eq_right (by omega)] at ih
          simp (disch := omega) only [fa_lit, nI_ad, nI_mul, nI_cl, inb_nI, nI_ltE, nI_leE, nI_eqE, nI_m1, nI_m1', m1_lt, lt_m1, m1_le, le_m1, eq_self, not_true_eq_false, not_false_eq_true, ↓reduceIte, leT, leF, ltT, ltF, eqT, eqF, decide_true, decide_false, true_and, and_true, Nat.reduceAdd, bI0_i, bI_i, bI_x, bV0_v, bV_v, bV_x, ↓bnd_e, gd_t, e1, e2, z64, seS_s, hv, g3, hst, g2]
          exact ih
    · have e1 : ¬ nI (p + 1) &&& (nI s ^^^ (-nI 1)) = nI 0 := fun q => g1 ((sb1 s hs (p + 1) (by omega)).1 q)
      have ec : crF (hH (S 25) j l nh) (tabV (hH (S 25) j l nh) s) s (p + 1) = 0 := by
        unfold crF; rw [if_neg (fun q => g1 q.1)]
      rw [ec, Nat.max_eq_left (Nat.zero_le _)] at ih
      simp (disch := omega) only [fa_lit, nI_ad, nI_mul, nI_cl, inb_nI, nI_ltE, nI_leE, nI_eqE, nI_m1, nI_m1', m1_lt, lt_m1, m1_le, le_m1, eq_self, not_true_eq_false, not_false_eq_true, ↓reduceIte, leT, leF, ltT, ltF, eqT, eqF, decide_true, decide_false, true_and, and_true, Nat.reduceAdd, bI0_i, bI_i, bI_x, bV0_v, bV_v, bV_x, ↓bnd_e, gd_t, e1]
      exact ih
def lastT (H : Nat → Bool) (i : Nat) : Nat := match i with
  | 0 => 0
  | s + 1 => mxV H (tabV H s) s s
theorem x_shloop {j l nh N : Nat} (hF : 6000 ≤ F) (hN : N ≤ 64) (hh : S 25 13 = nI nh) (hh6 : nh ≤ 6) : ∀ (m i k : Nat) (q : Nat → Int32), i + m = N → m < k → (∀ t, t < i → q t = nI (tabV (hH (S 25) j l nh) i t)) →
    ∃ q', f_X9_shifts_b44 F k (loadV (S 25) j l) (nI N) (nI (lastT (hH (S 25) j l nh) i)) (nI i) (seS S 62 q) = some (.inl (some (.int (nI (lastT (hH (S 25) j l nh) N)))), seS S 62 q')
  | 0, i, k + 1, q, hi, hk, hq => by
    have hie : i = N := by omega
    subst hie
    refine ⟨q, ?_⟩
    rw [f_X9_shifts_b44]
    simp (disch := omega) only [fa_lit, nI_ad, nI_mul, nI_cl, inb_nI, nI_ltE, nI_leE, nI_eqE, nI_m1, nI_m1', m1_lt, lt_m1, m1_le, le_m1, eq_self, not_true_eq_false, not_false_eq_true, ↓reduceIte, leT, leF, ltT, ltF, eqT, eqF, decide_true, decide_false, true_and, and_true, Nat.reduceAdd, bI0_i, bI_i, bI_x, bV0_v, bV_v, bV_x, ↓bnd_e, gd_t]
  | m + 1, i, k + 1, q, hi, hk, hq => by
    have hc := x_crew (F := F) (j := j) (l := l) (q := q) (s := i) hF (by omega) hh hh6 hq i 0 F (by omega) (by omega)
    rw [mxV] at hc
    obtain ⟨q', ih⟩ := x_shloop (j := j) (l := l) hF hN hh hh6 m (i + 1) k (upd q i (nI (mxV (hH (S 25) j l nh) (tabV (hH (S 25) j l nh) i) i i))) (by omega) (by omega) (fun t ht => by
      show _ = nI (if t = i then mxV (hH (S 25) j l nh) (tabV (hH (S 25) j l nh) i) i i else tabV (hH (S 25) j l nh) i t)
      by_cases e : t = i
      · subst e; rw [upd_s, if_pos rfl]
      · rw [upd_n e, if_neg e, hq t (by omega)])
    refine ⟨q', ?_⟩
    rw [f_X9_shifts_b44]
    unfold f_X9_mostCrews
    simp (disch := omega) only [fa_lit, nI_ad, nI_mul, nI_cl, inb_nI, nI_ltE, nI_leE, nI_eqE, nI_m1, nI_m1', m1_lt, lt_m1, m1_le, le_m1, eq_self, not_true_eq_false, not_false_eq_true, ↓reduceIte, leT, leF, ltT, ltF, eqT, eqF, decide_true, decide_false, true_and, and_true, Nat.reduceAdd, bI0_i, bI_i, bI_x, bV0_v, bV_v, bV_x, ↓bnd_e, gd_t, show f_X9_mostCrews_b5 F F (nI i) (loadV (S 25) j l) (nI 0) (nI 1) (seS S 62 q) = _ from hc, up62]
    exact ih
/-- the model's parts, from the greatest down -/
theorem m_chain {K : Int32 → Int32 → Int32 → mS → Option mR} {j l nh s : Nat} (hF : 6000 ≤ F) (hj : j < 4) (hl : l < 10) (hs : s < 64) (hh : cM (S 64) 13 = nI nh) (hh6 : nh ≤ 6) : ∀ (k p : Nat) (q : Nat → Int32), p < k → s &&& p = p → (∀ t, t < s → q t = nI (tabV (hH (cM (S 64)) j l nh) s t)) → q s = nI (mxD (hH (cM (S 64)) j l nh) (tabV (hH (cM (S 64)) j l nh) s) s (s - p)) →
    ∃ q', (∀ t, t < s + 1 → q' t = nI (tabV (hH (cM (S 64)) j l nh) (s + 1) t)) ∧ f_X10_shifts_b41 K F k (nI j) (nI l) (nI s) (nI p) (seS S 72 q) = K (nI j) (nI l) (nI (s + 1)) (seS S 72 q')
  | k + 1, 0, q, hp, hsp, hq, hqs => by
    refine ⟨q, fun t ht => ?_, ?_⟩
    · show _ = nI (if t = s then mxV (hH (cM (S 64)) j l nh) (tabV (hH (cM (S 64)) j l nh) s) s s else tabV (hH (cM (S 64)) j l nh) s t)
      by_cases e : t = s
      · subst e; rw [if_pos rfl, hqs, Nat.sub_zero, mxVD]
      · rw [if_neg e, hq t (by omega)]
    · rw [f_X10_shifts_b41]
      simp (disch := omega) only [fa_lit, nI_ad, nI_mul, nI_cl, inb_nI, nI_ltE, nI_leE, nI_eqE, nI_m1, nI_m1', m1_lt, lt_m1, m1_le, le_m1, eq_self, not_true_eq_false, not_false_eq_true, ↓reduceIte, leT, leF, ltT, ltF, eqT, eqF, decide_true, decide_false, true_and, and_true, Nat.reduceAdd, bI0_i, bI_i, bI_x, bV0_v, bV_v, bV_x, ↓bnd_e, gd_t]
  | k + 1, p + 1, q, hp, hsp, hq, hqs => by
    have hps := sb5 s hs (p + 1) (by
      have : s &&& (p + 1) ≤ s := Nat.and_le_left
      omega) hsp
    have e3 := sb3 s hs p (by omega)
    have hlt : p &&& s ≤ p := Nat.and_le_left
    have gap : mxD (hH (cM (S 64)) j l nh) (tabV (hH (cM (S 64)) j l nh) s) s (s - (p &&& s)) = mxD (hH (cM (S 64)) j l nh) (tabV (hH (cM (S 64)) j l nh) s) s (s - (p + 1) + 1) := by
      have := mxD_gap (H := hH (cM (S 64)) j l nh) (v := tabV (hH (cM (S 64)) j l nh) s) (s := s) (p - (p &&& s)) (s - (p + 1) + 1) (by omega) (fun q h1 h2 h3 => sb4 s hs p (by omega) hsp q (by omega) (by omega) h3)
      rw [← this]; congr 1; omega
    rw [mxD, show s - (s - (p + 1)) = p + 1 by omega] at gap
    have hst := m_isHeld (F := F) (S := seS S 72 q) (set := nI (p + 1)) (by omega) hj hl (by rw [seS_n (by omega)]; exact hh) hh6
    rw [seS_n (by omega)] at hst
    have e2 := sb2 s hs (p + 1) (by omega) hsp
    have hv := hq (s - (p + 1)) (by omega)
    have hb := tab_bd (H := hH (cM (S 64)) j l nh) s (s - (p + 1))
    have hm := mxD_bd (H := hH (cM (S 64)) j l nh) (s := s) (n := s - (p + 1)) (by omega)
    cases g : hH (cM (S 64)) j l nh (p + 1) with
    | false =>
      have g' : heldV (cM (S 64)) j l (nI (p + 1)) nh = false := g
      have ec : crF (hH (cM (S 64)) j l nh) (tabV (hH (cM (S 64)) j l nh) s) s (p + 1) = 0 := by
        unfold crF; rw [if_neg (fun q => by rw [g] at q; exact absurd q.2 (by simp))]
      rw [ec, Nat.max_eq_left (Nat.zero_le _)] at gap
      obtain ⟨q', h1, h2⟩ := m_chain (K := K) (j := j) (l := l) hF hj hl hs hh hh6 k (p &&& s) q (by omega) (sb6 s hs p (by omega)) hq (by rw [gap]; exact hqs)
      refine ⟨q', h1, ?_⟩
      rw [f_X10_shifts_b41]
      unfold f_X10_shifts_b85
      simp (disch := omega) only [fa_lit, nI_ad, nI_mul, nI_cl, inb_nI, nI_ltE, nI_leE, nI_eqE, nI_m1, nI_m1', m1_lt, lt_m1, m1_le, le_m1, eq_self, not_true_eq_false, not_false_eq_true, ↓reduceIte, leT, leF, ltT, ltF, eqT, eqF, decide_true, decide_false, true_and, and_true, Nat.reduceAdd, bI0_i, bI_i, bI_x, bV0_v, bV_v, bV_x, ↓bnd_e, gd_t, hst, g', bF, e3]
      exact h2
    | true =>
      have g' : heldV (cM (S 64)) j l (nI (p + 1)) nh = true := g
      have ec : crF (hH (cM (S 64)) j l nh) (tabV (hH (cM (S 64)) j l nh) s) s (p + 1) = tabV (hH (cM (S 64)) j l nh) s (s - (p + 1)) + 1 := by
        unfold crF; rw [if_pos ⟨hsp, g⟩]
      rw [ec] at gap
      obtain ⟨q', h1, h2⟩ := m_chain (K := K) (j := j) (l := l) hF hj hl hs hh hh6 k (p &&& s) (upd q s (nI (mxD (hH (cM (S 64)) j l nh) (tabV (hH (cM (S 64)) j l nh) s) s (s - (p &&& s))))) (by omega) (sb6 s hs p (by omega)) (fun t ht => by rw [upd_n (by omega)]; exact hq t ht) (by rw [upd_s])
      refine ⟨q', h1, ?_⟩
      rw [f_X10_shifts_b41]
      unfold f_X10_shifts_b85
      by_cases g3 : mxD (hH (cM (S 64)) j l nh) (tabV (hH (cM (S 64)) j l nh) s) s (s - (p + 1)) < 1 + tabV (hH (cM (S 64)) j l nh) s (s - (p + 1))
      · rw [gap, Nat.max_eq_right (by omega), Nat.add_comm] at h2
        simp (disch := omega) only [fa_lit, nI_ad, nI_mul, nI_cl, inb_nI, nI_ltE, nI_leE, nI_eqE, nI_m1, nI_m1', m1_lt, lt_m1, m1_le, le_m1, eq_self, not_true_eq_false, not_false_eq_true, ↓reduceIte, leT, leF, ltT, ltF, eqT, eqF, decide_true, decide_false, true_and, and_true, Nat.reduceAdd, bI0_i, bI_i, bI_x, bV0_v, bV_v, bV_x, ↓bnd_e, gd_t, hst, g', bT, e3, e2, seS_s, hv, hqs, up72, g3]
        exact h2
      · rw [gap, Nat.max_eq_left (by omega)] at h2
        simp (disch := omega) only [fa_lit, nI_ad, nI_mul, nI_cl, inb_nI, nI_ltE, nI_leE, nI_eqE, nI_m1, nI_m1', m1_lt, lt_m1, m1_le, le_m1, eq_self, not_true_eq_false, not_false_eq_true, ↓reduceIte, leT, leF, ltT, ltF, eqT, eqF, decide_true, decide_false, true_and, and_true, Nat.reduceAdd, bI0_i, bI_i, bI_x, bV0_v, bV_v, bV_x, ↓bnd_e, gd_t, hst, g', bT, e3, e2, seS_s, hv, hqs, up72, g3]
        exact h2
theorem m_shloop {j l nh N : Nat} (hF : 6000 ≤ F) (hj : j < 4) (hl : l < 10) (hN : N = 2 ^ nh) (hN1 : 1 ≤ N) (hN2 : N ≤ 64) (hh : cM (S 64) 13 = nI nh) (hh6 : nh ≤ 6) : ∀ (m i k : Nat) (q : Nat → Int32), i + m = N → m < k → (∀ t, t < i → q t = nI (tabV (hH (cM (S 64)) j l nh) i t)) →
    ∃ q', f_X10_shifts_b23 F k (nI j) (nI l) (nI i) (seS S 72 q) = some (.inl (some (.int (nI (lastT (hH (cM (S 64)) j l nh) N)))), seS S 72 q')
  | 0, i, k + 1, q, hi, hk, hq => by
    have hie : i = N := by omega
    subst hie
    refine ⟨q, ?_⟩
    have ha := m_allHolders (S := seS S 72 q) (by rw [seS_n (by omega)]; exact hh) hh6
    rw [← hN] at ha
    have hl := hq (i - 1) (by omega)
    have e : tabV (hH (cM (S 64)) j l nh) i (i - 1) = lastT (hH (cM (S 64)) j l nh) i := by
      cases i with
      | zero => omega
      | succ i =>
        show (if i + 1 - 1 = i then _ else _) = _
        rw [if_pos (by omega)]; rfl
    rw [e] at hl
    rw [f_X10_shifts_b23]
    simp (disch := omega) only [fa_lit, nI_ad, nI_mul, nI_cl, inb_nI, nI_ltE, nI_leE, nI_eqE, nI_m1, nI_m1', m1_lt, lt_m1, m1_le, le_m1, eq_self, not_true_eq_false, not_false_eq_true, ↓reduceIte, leT, leF, ltT, ltF, eqT, eqF, decide_true, decide_false, true_and, and_true, Nat.reduceAdd, bI0_i, bI_i, bI_x, bV0_v, bV_v, bV_x, ↓bnd_e, gd_t, ha, seS_s, hl]
  | m + 1, i, k + 1, q, hi, hk, hq => by
    have ha := m_allHolders (S := seS S 72 q) (by rw [seS_n (by omega)]; exact hh) hh6
    rw [← hN] at ha
    obtain ⟨q1, h1, h2⟩ := m_chain (F := F) (S := S) (K := fun x1 x2 x3 S => f_X10_shifts_b23 F k x1 x2 x3 S) (j := j) (l := l) (s := i) hF hj hl (by omega) hh hh6 F i (upd q i (nI 0)) (by omega) (Nat.and_self i) (fun t ht => by rw [upd_n (by omega)]; exact hq t ht) (by rw [upd_s, Nat.sub_self]; rfl)
    obtain ⟨q', ih⟩ := m_shloop (j := j) (l := l) hF hj hl hN hN1 hN2 hh hh6 m (i + 1) k q1 (by omega) (by omega) h1
    refine ⟨q', ?_⟩
    rw [f_X10_shifts_b23]
    simp (disch := omega) only [fa_lit, nI_ad, nI_mul, nI_cl, inb_nI, nI_ltE, nI_leE, nI_eqE, nI_m1, nI_m1', m1_lt, lt_m1, m1_le, le_m1, eq_self, not_true_eq_false, not_false_eq_true, ↓reduceIte, leT, leF, ltT, ltF, eqT, eqF, decide_true, decide_false, true_and, and_true, Nat.reduceAdd, bI0_i, bI_i, bI_x, bV0_v, bV_v, bV_x, ↓bnd_e, gd_t, ha, up72, h2]
    exact ih
theorem seS_id {S : mS} {i : Nat} : seS S i (S i) = S := by
  funext o; unfold seS; split
  · rename_i h; rw [h]
  · rfl
theorem ag_shifts {p1 p2 : Int32} (hF : 6000 ≤ F) (hI : Inv S) : Ag (f_X9_shifts F p1 p2) (f_X10_shifts F p1 p2) [3] S := by
  refine ag_g hI (fun n nh nk A hn en hnh enh hnk enk hX hW hR hz => ?_)
  have hp := pow6 hnh
  have hp1 := pow_pos' (n := nh)
  have fx0 : FX S S := ⟨fun o _ _ _ _ _ _ _ => rfl, fun h => h⟩
  have fmx : ∀ T t, FM T (upS T 63 0 t) := fun T t => ⟨fun o h _ _ _ _ _ _ _ => upS_n h, fun k hk => by rw [upS_s, upd_n (by omega)]⟩
  have ex : ∀ T t, (upS T 63 0 t) 63 0 = t := fun T t => by rw [upS_s, upd_s]
  by_cases g1 : ∃ z, z < nk ∧ p1 = nI z
  · obtain ⟨j, hj, rfl⟩ := g1
    by_cases g2 : ∃ z, z < n ∧ p2 = nI z
    · obtain ⟨l, hl, rfl⟩ := g2
      obtain ⟨q', h⟩ := x_shloop (F := F) (S := S) (j := j) (l := l) hF hp enh hnh (2 ^ nh) 0 F (S 62) (by omega) (by omega) (fun t ht => absurd ht (by omega))
      rw [seS_id] at h
      have e64 : (if Int32.ofNat 64 < nI (2 ^ nh) then Int32.ofNat 64 else nI (2 ^ nh)) = nI (2 ^ nh) := by
        apply if_neg
        show ¬ nI 64 < nI (2 ^ nh)
        rw [nI_ltE (by omega) (by omega)]; omega
      refine ⟨.inl (some (.int (nI (lastT (hH (S 25) j l nh) (2 ^ nh))))), seS S 62 q', ?_, ⟨fun o _ _ _ _ _ _ h => seS_n h, fun h => by rw [seS_n (by omega)]; exact h⟩, fun T hC hM => ?_⟩
      · unfold f_X9_shifts
        simp (disch := omega) only [x_needClimber hnk enk hj, x_needLedge hn en hl, bV_v, x_loadOf, bI0_i, x_holderSets enh hnh, ↓bnd_e, e64]
        exact h
      · have eU : (upS T 63 0 (nI 0)) 64 = T 64 := upS_n (by omega)
        have en' : cM ((upS T 63 0 (nI 0)) 64) 12 = nI n := by rw [eU, hC]; exact en
        have enh' : cM ((upS T 63 0 (nI 0)) 64) 13 = nI nh := by rw [eU, hC]; exact enh
        have enk' : cM ((upS T 63 0 (nI 0)) 64) 14 = nI nk := by rw [eU, hC]; exact enk
        obtain ⟨q', h⟩ := m_shloop (F := F) (S := upS T 63 0 (nI 0)) (j := j) (l := l) hF (by omega) (by omega) rfl hp1 hp enh' hnh (2 ^ nh) 0 F ((upS T 63 0 (nI 0)) 72) (by omega) (by omega) (fun t ht => absurd ht (by omega))
        rw [seS_id, eU, hC] at h
        refine ⟨nI (lastT (hH (S 25) j l nh) (2 ^ nh)), seS (upS T 63 0 (nI 0)) 72 q', ?_, ⟨fun o h _ _ _ _ h7 _ _ => ?_, fun k hk => ?_⟩, rfl, ?_⟩
        · unfold f_X10_shifts
          simp (disch := omega) only [fa_lit, nI_ad, nI_mul, nI_cl, inb_nI, nI_ltE, nI_leE, nI_eqE, nI_m1, nI_m1', m1_lt, lt_m1, m1_le, le_m1, eq_self, not_true_eq_false, not_false_eq_true, ↓reduceIte, leT, leF, ltT, ltF, eqT, eqF, decide_true, decide_false, true_and, and_true, Nat.reduceAdd, bI0_i, bI_i, bI_x, bV0_v, bV_v, bV_x, ↓bnd_e, gd_t, m_noBoth hn en' hl hnk enk' hj, m_throw0, h]
        · rw [seS_n (by omega), upS_n (by omega)]
        · rw [seS_n (by omega), upS_s, upd_n (by omega)]
        · rw [seS_n (by omega), upS_s, upd_s]
    · refine ⟨.inr 3, S, ?_, fx0, fun T hC hM => ?_⟩
      · unfold f_X9_shifts
        simp (disch := omega) only [fa_lit, nI_ad, nI_mul, nI_cl, inb_nI, nI_ltE, nI_leE, nI_eqE, nI_m1, nI_m1', m1_lt, lt_m1, m1_le, le_m1, eq_self, not_true_eq_false, not_false_eq_true, ↓reduceIte, leT, leF, ltT, ltF, eqT, eqF, decide_true, decide_false, true_and, and_true, Nat.reduceAdd, bI0_i, bI_i, bI_x, bV0_v, bV_v, bV_x, ↓bnd_e, gd_t, x_needClimber hnk enk hj, x_needLedge_x hn en g2]
      · have eU : (upS T 63 0 (nI 0)) 64 = T 64 := upS_n (by omega)
        have en' : cM ((upS T 63 0 (nI 0)) 64) 12 = nI n := by rw [eU, hC]; exact en
        have enk' : cM ((upS T 63 0 (nI 0)) 64) 14 = nI nk := by rw [eU, hC]; exact enk
        refine ⟨nI 0, upS (upS T 63 0 (nI 0)) 63 0 (nI 1), ?_, ?_, 0, rfl, by omega, ex _ _⟩
        · unfold f_X10_shifts
          simp (disch := omega) only [fa_lit, nI_ad, nI_mul, nI_cl, inb_nI, nI_ltE, nI_leE, nI_eqE, nI_m1, nI_m1', m1_lt, lt_m1, m1_le, le_m1, eq_self, not_true_eq_false, not_false_eq_true, ↓reduceIte, leT, leF, ltT, ltF, eqT, eqF, decide_true, decide_false, true_and, and_true, Nat.reduceAdd, bI0_i, bI_i, bI_x, bV0_v, bV_v, bV_x, ↓bnd_e, gd_t, m_noBoth_l hnk enk' hj hn en' g2, m_throw]
        · have e2 : upS (upS T 63 0 (nI 0)) 63 0 (nI 1) = upS T 63 0 (nI 1) := by unfold upS; rw [seS_seS, seS_s, upd_upd]
          rw [e2]; exact fmx T _
  · refine ⟨.inr 3, S, ?_, fx0, fun T hC hM => ?_⟩
    · unfold f_X9_shifts
      simp (disch := omega) only [fa_lit, nI_ad, nI_mul, nI_cl, inb_nI, nI_ltE, nI_leE, nI_eqE, nI_m1, nI_m1', m1_lt, lt_m1, m1_le, le_m1, eq_self, not_true_eq_false, not_false_eq_true, ↓reduceIte, leT, leF, ltT, ltF, eqT, eqF, decide_true, decide_false, true_and, and_true, Nat.reduceAdd, bI0_i, bI_i, bI_x, bV0_v, bV_v, bV_x, ↓bnd_e, gd_t, x_needClimber_x hnk enk g1]
    · have eU : (upS T 63 0 (nI 0)) 64 = T 64 := upS_n (by omega)
      have enk' : cM ((upS T 63 0 (nI 0)) 64) 14 = nI nk := by rw [eU, hC]; exact enk
      refine ⟨nI 0, upS (upS T 63 0 (nI 0)) 63 0 (nI 1), ?_, ?_, 0, rfl, by omega, ex _ _⟩
      · unfold f_X10_shifts
        simp (disch := omega) only [fa_lit, nI_ad, nI_mul, nI_cl, inb_nI, nI_ltE, nI_leE, nI_eqE, nI_m1, nI_m1', m1_lt, lt_m1, m1_le, le_m1, eq_self, not_true_eq_false, not_false_eq_true, ↓reduceIte, leT, leF, ltT, ltF, eqT, eqF, decide_true, decide_false, true_and, and_true, Nat.reduceAdd, bI0_i, bI_i, bI_x, bV0_v, bV_v, bV_x, ↓bnd_e, gd_t, m_noBoth_k hnk enk' g1, m_throw]
      · have e2 : upS (upS T 63 0 (nI 0)) 63 0 (nI 1) = upS T 63 0 (nI 1) := by unfold upS; rw [seS_seS, seS_s, upd_upd]
        rw [e2]; exact fmx T _
end O
