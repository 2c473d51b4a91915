/-! harvest, loss: the plan, of the class -/
theorem nI_or (a b : Nat) : nI a ||| nI b = nI (a ||| b) := by
  unfold nI
  apply Int32.toBitVec_inj.1
  rw [Int32.toBitVec_or, Int32.toBitVec_ofNat', Int32.toBitVec_ofNat', Int32.toBitVec_ofNat', BitVec.ofNat_or]
def eg_pc : Nat → Nat → Nat
  | 0, _ => 0
  | f + 1, s => s % 2 + eg_pc f (s / 2)
theorem eg_pc_t : (List.range 1024).all (fun s => decide (bcV (nI s) = nI (eg_pc 10 s))) = true := by decide +kernel
theorem eg_pc_u : (List.range 1024).all (fun s => (List.range 10).all (fun l => Nat.ble (eg_pc 10 (s ||| 2 ^ l)) (eg_pc 10 s + 1))) = true := by decide +kernel
theorem eg_pc_e {s : Nat} (h : s < 1024) : bcV (nI s) = nI (eg_pc 10 s) := of_decide_eq_true (List.all_eq_true.1 eg_pc_t s (List.mem_range.2 h))
theorem eg_pc_s {s l : Nat} (h : s < 1024) (hl : l < 10) : eg_pc 10 (s ||| 2 ^ l) ≤ eg_pc 10 s + 1 :=
  Nat.le_of_ble_eq_true (List.all_eq_true.1 (List.all_eq_true.1 eg_pc_u s (List.mem_range.2 h)) l (List.mem_range.2 hl))
theorem eg_pc_le : ∀ {f s : Nat}, eg_pc f s ≤ f
  | 0, _ => Nat.le_refl _
  | f + 1, s => by
    have := eg_pc_le (f := f) (s := s / 2)
    rw [eg_pc]; omega
theorem eg_bit {s l : Nat} (hl : l < 11) : nI s ||| (nI 1 <<< (nI l &&& nI 31)) = nI (s ||| 2 ^ l) := by rw [shl_pow l hl, nI_or]
theorem eg_or_lt {s l L : Nat} (hs : s < 2 ^ L) (hl : l < L) : s ||| 2 ^ l < 2 ^ L := Nat.or_lt_two_pow hs (Nat.pow_lt_pow_right (by omega) hl)
def eg_hb (f : Nat → Int32) (s : Nat) (b : Int32) : Nat → Int32
  | 0 => b
  | i + 1 => if hasV (nI s) i = true then eg_hb f s b i else if eg_hb f s b i < f i then f i else eg_hb f s b i
def eg_hm (w : Nat → Nat → Int32) (L : Nat) : Nat → Nat → Nat → Int32
  | 0, _, _ => nI 0
  | r + 1, d, s => eg_hb (fun l => w d l + eg_hm w L r (d + 1) (s ||| 2 ^ l)) s (eg_hm w L r (d + 1) s) L
def eg_hv (w : Nat → Nat → Int32) (L D d s : Nat) : Int32 := eg_hm w L (D - d) d s
theorem eg_hv_e {w : Nat → Nat → Int32} {L D s : Nat} : eg_hv w L D D s = nI 0 := by unfold eg_hv; rw [Nat.sub_self, eg_hm]
theorem eg_hv_s {w : Nat → Nat → Int32} {L D d s : Nat} (h : d < D) : eg_hv w L D d s = eg_hb (fun l => w d l + eg_hv w L D (d + 1) (s ||| 2 ^ l)) s (eg_hv w L D (d + 1) s) L := by
  unfold eg_hv
  rw [show D - d = (D - (d + 1)) + 1 by omega, eg_hm]
theorem eg_hb_mem {f : Nat → Int32} {s : Nat} {b : Int32} : ∀ {n : Nat}, eg_hb f s b n = b ∨ ∃ i, i < n ∧ hasV (nI s) i = false ∧ eg_hb f s b n = f i
  | 0 => Or.inl rfl
  | n + 1 => by
    rw [eg_hb]
    have ih := eg_hb_mem (f := f) (s := s) (b := b) (n := n)
    cases g : hasV (nI s) n with
    | true =>
      rw [if_pos rfl]
      rcases ih with h | ⟨i, h1, h2, h3⟩
      · exact Or.inl h
      · exact Or.inr ⟨i, by omega, h2, h3⟩
    | false =>
      rw [if_neg (by simp)]
      split
      · exact Or.inr ⟨n, by omega, g, rfl⟩
      · rcases ih with h | ⟨i, h1, h2, h3⟩
        · exact Or.inl h
        · exact Or.inr ⟨i, by omega, h2, h3⟩
def eg_fd (P : Nat → Bool) : Nat → Nat → Option Nat
  | 0, _ => none
  | m + 1, i => if P i = true then some i else eg_fd P m (i + 1)
theorem eg_fd_lt {P : Nat → Bool} : ∀ {m i l : Nat}, eg_fd P m i = some l → l < i + m
  | 0, _, _, h => by cases h
  | m + 1, i, l, h => by
    rw [eg_fd] at h
    split at h
    · cases h; omega
    · have := eg_fd_lt h; omega
theorem eg_fd_ex {P : Nat → Bool} : ∀ {m i j : Nat}, i ≤ j → j < i + m → P j = true → ∃ l, eg_fd P m i = some l
  | 0, i, j, h1, h2, _ => absurd h2 (by omega)
  | m + 1, i, j, h1, h2, h3 => by
    rw [eg_fd]
    split
    · exact ⟨i, rfl⟩
    · rename_i g
      by_cases e : j = i
      · subst e; exact absurd h3 g
      · exact eg_fd_ex (j := j) (by omega) (by omega) h3
def eg_fp (w : Nat → Nat → Int32) (L D d s : Nat) (l : Nat) : Bool := !hasV (nI s) l && decide (w d l + eg_hv w L D (d + 1) (s ||| 2 ^ l) = eg_hv w L D d s)
def eg_fo (w : Nat → Nat → Int32) (L D d s : Nat) : Option Nat := if eg_hv w L D (d + 1) s = eg_hv w L D d s then none else eg_fd (eg_fp w L D d s) L 0
theorem eg_fo_lt {w : Nat → Nat → Int32} {L D d s l : Nat} (h : eg_fo w L D d s = some l) : l < L := by
  unfold eg_fo at h
  split at h
  · cases h
  · have := eg_fd_lt h; omega
theorem eg_fo_ex {w : Nat → Nat → Int32} {L D d s : Nat} (hd : d < D) (h : ¬ eg_hv w L D (d + 1) s = eg_hv w L D d s) : ∃ l, eg_fd (eg_fp w L D d s) L 0 = some l := by
  have e := eg_hv_s (w := w) (L := L) (s := s) hd
  rcases eg_hb_mem (f := fun l => w d l + eg_hv w L D (d + 1) (s ||| 2 ^ l)) (s := s) (b := eg_hv w L D (d + 1) s) (n := L) with g | ⟨i, h1, h2, h3⟩
  · exact absurd (by rw [e, g]) h
  · refine eg_fd_ex (j := i) (by omega) (by omega) ?_
    unfold eg_fp
    rw [h2, e, h3, decide_eq_true rfl]; rfl
def eg_nx (s : Nat) (o : Option Nat) : Nat := match o with
  | none => s
  | some l => s ||| 2 ^ l
def eg_hs (w : Nat → Nat → Int32) (L D : Nat) : Nat → Nat × Option Nat
  | 0 => (0, none)
  | d + 1 => (eg_nx (eg_hs w L D d).1 (eg_fo w L D d (eg_hs w L D d).1), eg_fo w L D d (eg_hs w L D d).1)
theorem eg_pc0 : eg_pc 10 0 = 0 := by decide
theorem eg_nx_ok {s L d : Nat} {o : Option Nat} (hL : L ≤ 10) (hs : s < 2 ^ L) (hp : eg_pc 10 s ≤ d) (ho : ∀ l, o = some l → l < L) : eg_nx s o < 2 ^ L ∧ eg_pc 10 (eg_nx s o) ≤ d + 1 := by
  have := pow10 hL
  cases o with
  | none => exact ⟨hs, by show eg_pc 10 s ≤ _; omega⟩
  | some l =>
    have hl := ho l rfl
    have := eg_pc_s (s := s) (l := l) (by omega) (by omega)
    exact ⟨eg_or_lt hs hl, by show eg_pc 10 (s ||| 2 ^ l) ≤ _; omega⟩
theorem eg_hs_ok {w : Nat → Nat → Int32} {L D : Nat} (hL : L ≤ 10) : ∀ {d : Nat}, (eg_hs w L D d).1 < 2 ^ L ∧ eg_pc 10 (eg_hs w L D d).1 ≤ d
  | 0 => ⟨Nat.two_pow_pos L, by show eg_pc 10 0 ≤ 0; rw [eg_pc0]; omega⟩
  | d + 1 => by
    have h := eg_hs_ok (w := w) (D := D) hL (d := d)
    rw [eg_hs]
    exact eg_nx_ok hL h.1 h.2 (fun l hl => eg_fo_lt hl)
/-- greed -/
def eg_gv (w : Nat → Nat → Int32) (d : Nat) (o : Option Nat) : Int32 := match o with
  | none => nI 0
  | some b => w d b
def eg_gb (w : Nat → Nat → Int32) (d s : Nat) : Nat → Option Nat
  | 0 => none
  | i + 1 => if hasV (nI s) i = true then eg_gb w d s i else if eg_gv w d (eg_gb w d s i) < w d i then some i else eg_gb w d s i
theorem eg_gb_lt {w : Nat → Nat → Int32} {d s : Nat} : ∀ {i l : Nat}, eg_gb w d s i = some l → l < i
  | 0, _, h => by cases h
  | i + 1, l, h => by
    rw [eg_gb] at h
    split at h
    · have := eg_gb_lt h; omega
    · split at h
      · cases h; omega
      · have := eg_gb_lt h; omega
def eg_gs (w : Nat → Nat → Int32) (L : Nat) : Nat → Nat × Int32
  | 0 => (0, nI 0)
  | d + 1 => (eg_nx (eg_gs w L d).1 (eg_gb w d (eg_gs w L d).1 L), (eg_gs w L d).2 + eg_gv w d (eg_gb w d (eg_gs w L d).1 L))
theorem eg_gs_ok {w : Nat → Nat → Int32} {L : Nat} (hL : L ≤ 10) : ∀ {d : Nat}, (eg_gs w L d).1 < 2 ^ L ∧ eg_pc 10 (eg_gs w L d).1 ≤ d
  | 0 => ⟨Nat.two_pow_pos L, by show eg_pc 10 0 ≤ 0; rw [eg_pc0]; omega⟩
  | d + 1 => by
    have h := eg_gs_ok (w := w) hL (d := d)
    rw [eg_gs]
    exact eg_nx_ok hL h.1 h.2 (fun l hl => eg_gb_lt hl)
section H
variable {F D L : Nat} {w : Nat → Nat → Int32} {V S : mS} {A : aL}
def eg_HX (V : mS) (D L : Nat) (w : Nat → Nat → Int32) : Prop := D ≤ 10 ∧ L ≤ 10 ∧ V 33 4 = nI D ∧ V 33 5 = nI L ∧ ∀ d, d < D → ∀ l, l < L → V 34 (d * 10 + l) = w d l
theorem x_bestFrom {d s : Nat} {h : Nat → Int32} (hV : eg_HX V D L w) (hd : d ≤ D) (hs : s < 1024) : f_X6_bestFrom (nI d) (nI s) (seS V 35 h) = some (.inl (some (.int (if d < D then h (d * 1024 + s) else nI 0))), seS V 35 h) := by
  obtain ⟨h1, h2, h3, h4, h5⟩ := hV
  unfold f_X6_bestFrom f_X6_bestFrom_b27 f_X6_bestFrom_b28 f_X6_bestFrom_b49
  have e4 : (seS V 35 h) 33 4 = nI D := by rw [seS_n (by omega)]; exact h3
  by_cases g : d < D
  · simp (disch := omega) only [fa_lit, nI_ad, nI_mul, nI_cl, inb_nI, nI_ltE, nI_leE, nI_eqE, nI_m1, nI_m1', m1_lt, lt_m1, m1_le, le_m1, eq_self, not_true_eq_false, not_false_eq_true, ↓reduceIte, leT, leF, ltT, ltF, eqT, eqF, decide_true, decide_false, true_and, and_true, Nat.reduceAdd, bI0_i, bI_i, bI_x, bV0_v, bV_v, bV_x, ↓bnd_e, gd_t, e4, seS_s, g]
  · simp (disch := omega) only [fa_lit, nI_ad, nI_mul, nI_cl, inb_nI, nI_ltE, nI_leE, nI_eqE, nI_m1, nI_m1', m1_lt, lt_m1, m1_le, le_m1, eq_self, not_true_eq_false, not_false_eq_true, ↓reduceIte, leT, leF, ltT, ltF, eqT, eqF, decide_true, decide_false, true_and, and_true, Nat.reduceAdd, bI0_i, bI_i, bI_x, bV0_v, bV_v, bV_x, ↓bnd_e, gd_t, e4, g]
theorem x_worthOf {d l : Nat} {h : Nat → Int32} (hV : eg_HX V D L w) (hd : d < D) (hl : l < L) : f_X6_worthOf (nI d) (nI l) (seS V 35 h) = some (.inl (some (.int (w d l))), seS V 35 h) := by
  obtain ⟨h1, h2, h3, h4, h5⟩ := hV
  unfold f_X6_worthOf f_X6_worthOf_b28 f_X6_worthOf_b29 f_X6_worthOf_b49
  have e4 : (seS V 35 h) 33 4 = nI D := by rw [seS_n (by omega)]; exact h3
  have e5 : (seS V 35 h) 33 5 = nI L := by rw [seS_n (by omega)]; exact h4
  have e6 : (seS V 35 h) 34 (d * 10 + l) = w d l := by rw [seS_n (by omega)]; exact h5 d hd l hl
  simp (disch := omega) only [fa_lit, nI_ad, nI_mul, nI_cl, inb_nI, nI_ltE, nI_leE, nI_eqE, nI_m1, nI_m1', m1_lt, lt_m1, m1_le, le_m1, eq_self, not_true_eq_false, not_false_eq_true, ↓reduceIte, leT, leF, ltT, ltF, eqT, eqF, decide_true, decide_false, true_and, and_true, Nat.reduceAdd, bI0_i, bI_i, bI_x, bV0_v, bV_v, bV_x, ↓bnd_e, gd_t, e4, e5, e6]
theorem x_bestWith {d s l : Nat} {h : Nat → Int32} (hV : eg_HX V D L w) (hd : d < D) (hs : s < 2 ^ L) (hl : l < L) :
    f_X6_bestWith (nI d) (nI s) (nI l) (seS V 35 h) = some (.inl (some (.int (w d l + (if d + 1 < D then h ((d + 1) * 1024 + (s ||| 2 ^ l)) else nI 0)))), seS V 35 h) := by
  have hL := hV.2.1
  have := pow10 hL
  have ho := eg_or_lt hs hl
  have h1 := x_bestFrom (h := h) (d := d + 1) (s := s ||| 2 ^ l) hV (by omega) (by omega)
  have eb := eg_bit (s := s) (l := l) (by omega)
  unfold f_X6_bestWith
  simp (disch := omega) only [fa_lit, nI_ad, nI_mul, nI_cl, inb_nI, nI_ltE, nI_leE, nI_eqE, nI_m1, nI_m1', m1_lt, lt_m1, m1_le, le_m1, eq_self, not_true_eq_false, not_false_eq_true, ↓reduceIte, leT, leF, ltT, ltF, eqT, eqF, decide_true, decide_false, true_and, and_true, Nat.reduceAdd, bI0_i, bI_i, bI_x, bV0_v, bV_v, bV_x, ↓bnd_e, gd_t, x_worthOf hV hd hl, eb, h1]
def eg_GX (w : Nat → Nat → Int32) (L D : Nat) (h : Nat → Int32) (d : Nat) : Prop := ∀ d', d ≤ d' → d' < D → ∀ s, s < 2 ^ L → eg_pc 10 s ≤ d' → h (d' * 1024 + s) = eg_hv w L D d' s
theorem eg_GX_at {h : Nat → Int32} {d d' s : Nat} (hG : eg_GX w L D h d) (h1 : d ≤ d') (h2 : d' ≤ D) (hs : s < 2 ^ L) (hp : eg_pc 10 s ≤ d') : (if d' < D then h (d' * 1024 + s) else nI 0) = eg_hv w L D d' s := by
  by_cases g : d' < D
  · rw [if_pos g, hG d' h1 g s hs hp]
  · rw [if_neg g, show d' = D by omega, eg_hv_e]
theorem x_bestL {d s : Nat} {b : Int32} {h : Nat → Int32} (hV : eg_HX V D L w) (hd : d < D) (hs : s < 2 ^ L) (hp : eg_pc 10 s ≤ d) (hG : eg_GX w L D h (d + 1)) : ∀ (m i f : Nat), i + m = L → m < f →
    f_X6_bestOf_b12 F f (nI d) (nI s) (eg_hb (fun l => w d l + eg_hv w L D (d + 1) (s ||| 2 ^ l)) s b i) (nI i) (seS V 35 h) = some (.inl (some (.int (eg_hb (fun l => w d l + eg_hv w L D (d + 1) (s ||| 2 ^ l)) s b L))), seS V 35 h)
  | 0, i, f + 1, hi, hf => by
    have hie : i = L := by omega
    subst hie
    have hL := hV.2.1
    have e5 : (seS V 35 h) 33 5 = nI i := by rw [seS_n (by omega)]; exact hV.2.2.2.1
    rw [f_X6_bestOf_b12]
    simp (disch := omega) only [fa_lit, nI_ad, nI_mul, nI_cl, inb_nI, nI_ltE, nI_leE, nI_eqE, nI_m1, nI_m1', m1_lt, lt_m1, m1_le, le_m1, eq_self, not_true_eq_false, not_false_eq_true, ↓reduceIte, leT, leF, ltT, ltF, eqT, eqF, decide_true, decide_false, true_and, and_true, Nat.reduceAdd, bI0_i, bI_i, bI_x, bV0_v, bV_v, bV_x, ↓bnd_e, gd_t, e5, Nat.le_refl]
  | m + 1, i, f + 1, hi, hf => by
    have hL := hV.2.1
    have h10 := pow10 hL
    have e5 : (seS V 35 h) 33 5 = nI L := by rw [seS_n (by omega)]; exact hV.2.2.2.1
    have ih := x_bestL (b := b) hV hd hs hp hG m (i + 1) f (by omega) (by omega)
    have hw := x_bestWith (h := h) (d := d) (s := s) (l := i) hV hd hs (by omega)
    have hp' := eg_pc_s (s := s) (l := i) (by omega) (by omega)
    rw [eg_GX_at hG (Nat.le_refl (d + 1)) (by omega) (eg_or_lt hs (by omega)) (by omega)] at hw
    rw [eg_hb] at ih
    rw [f_X6_bestOf_b12]
    unfold f_X6_bestOf_b43
    cases g : hasV (nI s) i with
    | true =>
      rw [g, if_pos rfl] at ih
      simp (disch := omega) only [fa_lit, nI_ad, nI_mul, nI_cl, inb_nI, nI_ltE, nI_leE, nI_eqE, nI_m1, nI_m1', m1_lt, lt_m1, m1_le, le_m1, eq_self, not_true_eq_false, not_false_eq_true, ↓reduceIte, leT, leF, ltT, ltF, eqT, eqF, decide_true, decide_false, true_and, and_true, Nat.reduceAdd, bI0_i, bI_i, bI_x, bV0_v, bV_v, bV_x, ↓bnd_e, gd_t, e5, x_hasBit, g, bT]
      exact ih
    | false =>
      rw [g, if_neg (by simp)] at ih
      simp (disch := omega) only [fa_lit, nI_ad, nI_mul, nI_cl, inb_nI, nI_ltE, nI_leE, nI_eqE, nI_m1, nI_m1', m1_lt, lt_m1, m1_le, le_m1, eq_self, not_true_eq_false, not_false_eq_true, ↓reduceIte, leT, leF, ltT, ltF, eqT, eqF, decide_true, decide_false, true_and, and_true, Nat.reduceAdd, bI0_i, bI_i, bI_x, bV0_v, bV_v, bV_x, ↓bnd_e, gd_t, e5, x_hasBit, g, bF, hw]
      exact ih
theorem x_bestOf {d s : Nat} {h : Nat → Int32} (hF : 6000 ≤ F) (hV : eg_HX V D L w) (hd : d < D) (hs : s < 2 ^ L) (hp : eg_pc 10 s ≤ d) (hG : eg_GX w L D h (d + 1)) :
    f_X6_bestOf F (nI d) (nI s) (seS V 35 h) = some (.inl (some (.int (eg_hv w L D d s))), seS V 35 h) := by
  have hL := hV.2.1
  have h10 := pow10 hL
  have h1 := x_bestFrom (h := h) (d := d + 1) (s := s) hV (by omega) (by omega)
  rw [eg_GX_at hG (Nat.le_refl (d + 1)) (by omega) hs (by omega)] at h1
  have h2 := x_bestL (F := F) (b := eg_hv w L D (d + 1) s) hV hd hs hp hG L 0 F (by omega) (by omega)
  rw [← eg_hv_s hd] at h2
  unfold f_X6_bestOf
  simp (disch := omega) only [fa_lit, nI_ad, nI_mul, nI_cl, inb_nI, nI_ltE, nI_leE, nI_eqE, nI_m1, nI_m1', m1_lt, lt_m1, m1_le, le_m1, eq_self, not_true_eq_false, not_false_eq_true, ↓reduceIte, leT, leF, ltT, ltF, eqT, eqF, decide_true, decide_false, true_and, and_true, Nat.reduceAdd, bI0_i, bI_i, bI_x, bV0_v, bV_v, bV_x, ↓bnd_e, gd_t, h1]
  exact h2
theorem up35 {k : Nat} {v : Int32} {h : Nat → Int32} : upS (seS V 35 h) 35 k v = seS V 35 (upd h k v) := up_se
theorem x_srchI {d : Nat} {K : Int32 → mS → Option mR} (hF : 6000 ≤ F) (hV : eg_HX V D L w) (hd : d < D) : ∀ (m s f : Nat) (h : Nat → Int32), s + m = 2 ^ L → m < f → eg_GX w L D h (d + 1) → (∀ s', s' < s → eg_pc 10 s' ≤ d → h (d * 1024 + s') = eg_hv w L D d s') →
    ∃ h', eg_GX w L D h' d ∧ f_X6_search_b13 K F f (nI d) (nI s) (seS V 35 h) = K (nI d + -nI 1) (seS V 35 h')
  | 0, s, f + 1, h, hs, hf, hG, hN => by
    have hL := hV.2.1
    have h10 := pow10 hL
    have e5 : (seS V 35 h) 33 5 = nI L := by rw [seS_n (by omega)]; exact hV.2.2.2.1
    refine ⟨h, fun d' g1 g2 s' g3 g4 => ?_, ?_⟩
    · by_cases e : d' = d
      · subst e; exact hN s' (by omega) g4
      · exact hG d' (by omega) g2 s' g3 g4
    · have hs2 : s = 2 ^ L := by omega
      rw [f_X6_search_b13]
      simp (disch := omega) only [fa_lit, nI_ad, nI_mul, nI_cl, inb_nI, nI_ltE, nI_leE, nI_eqE, nI_m1, nI_m1', m1_lt, lt_m1, m1_le, le_m1, eq_self, not_true_eq_false, not_false_eq_true, ↓reduceIte, leT, leF, ltT, ltF, eqT, eqF, decide_true, decide_false, true_and, and_true, Nat.reduceAdd, bI0_i, bI_i, bI_x, bV0_v, bV_v, bV_x, ↓bnd_e, gd_t, e5, shl_pow]
  | m + 1, s, f + 1, h, hs, hf, hG, hN => by
    have hD := hV.1
    have hL := hV.2.1
    have h10 := pow10 hL
    have e5 : (seS V 35 h) 33 5 = nI L := by rw [seS_n (by omega)]; exact hV.2.2.2.1
    have ebc := eg_pc_e (s := s) (by omega)
    have hpl := eg_pc_le (f := 10) (s := s)
    rw [f_X6_search_b13]
    unfold f_X6_search_b49
    by_cases g : eg_pc 10 s ≤ d
    · have hb := x_bestOf (F := F) (h := h) hF hV hd (show s < 2 ^ L by omega) g hG
      obtain ⟨h', hG', ih⟩ := x_srchI (K := K) hF hV hd m (s + 1) f (upd h (d * 1024 + s) (eg_hv w L D d s)) (by omega) (by omega) (fun d' g1 g2 s' g3 g4 => by
        rw [upd_n (by omega)]; exact hG d' g1 g2 s' g3 g4) (fun s' g1 g2 => by
        by_cases e : s' = s
        · subst e; rw [upd_s]
        · rw [upd_n (by omega)]; exact hN s' (by omega) g2)
      refine ⟨h', hG', ?_⟩
      simp (disch := omega) only [fa_lit, nI_ad, nI_mul, nI_cl, inb_nI, nI_ltE, nI_leE, nI_eqE, nI_m1, nI_m1', m1_lt, lt_m1, m1_le, le_m1, eq_self, not_true_eq_false, not_false_eq_true, ↓reduceIte, leT, leF, ltT, ltF, eqT, eqF, decide_true, decide_false, true_and, and_true, Nat.reduceAdd, bI0_i, bI_i, bI_x, bV0_v, bV_v, bV_x, ↓bnd_e, gd_t, e5, shl_pow, bc_eq, ebc, hb, up35]
      exact ih
    · obtain ⟨h', hG', ih⟩ := x_srchI (K := K) hF hV hd m (s + 1) f h (by omega) (by omega) hG (fun s' g1 g2 => by
        by_cases e : s' = s
        · subst e; exact absurd g2 g
        · exact hN s' (by omega) g2)
      refine ⟨h', hG', ?_⟩
      simp (disch := omega) only [fa_lit, nI_ad, nI_mul, nI_cl, inb_nI, nI_ltE, nI_leE, nI_eqE, nI_m1, nI_m1', m1_lt, lt_m1, m1_le, le_m1, eq_self, not_true_eq_false, not_false_eq_true, ↓reduceIte, leT, leF, ltT, ltF, eqT, eqF, decide_true, decide_false, true_and, and_true, Nat.reduceAdd, bI0_i, bI_i, bI_x, bV0_v, bV_v, bV_x, ↓bnd_e, gd_t, e5, shl_pow, bc_eq, ebc]
      exact ih
theorem x_srchO (hF : 6000 ≤ F) (hV : eg_HX V D L w) : ∀ (d f : Nat) (h : Nat → Int32), d < D → d + 1 < f → eg_GX w L D h (d + 1) →
    ∃ h', eg_GX w L D h' 0 ∧ f_X6_search_b7 F f (nI d) (seS V 35 h) = some (.inl none, seS V 35 h')
  | 0, f + 2, h, hd, hf, hG => by
    have h10 := pow10 hV.2.1
    obtain ⟨h1, hG1, e1⟩ := x_srchI (F := F) (K := fun x1 S => f_X6_search_b7 F (f + 1) x1 S) hF hV hd (2 ^ L) 0 F h (by omega) (by omega) hG (fun s' g _ => absurd g (by omega))
    refine ⟨h1, hG1, ?_⟩
    rw [f_X6_search_b7]
    simp (disch := omega) only [fa_lit, nI_ad, nI_mul, nI_cl, inb_nI, nI_ltE, nI_leE, nI_eqE, nI_m1, nI_m1', m1_lt, lt_m1, m1_le, le_m1, eq_self, not_true_eq_false, not_false_eq_true, ↓reduceIte, leT, leF, ltT, ltF, eqT, eqF, decide_true, decide_false, true_and, and_true, Nat.reduceAdd, bI0_i, bI_i, bI_x, bV0_v, bV_v, bV_x, ↓bnd_e, gd_t]
    refine Eq.trans e1 ?_
    show f_X6_search_b7 F (f + 1) (nI 0 + -nI 1) (seS V 35 h1) = _
    rw [show nI 0 + -nI 1 = -nI 1 by decide, f_X6_search_b7]
    simp (disch := omega) only [fa_lit, nI_ad, nI_mul, nI_cl, inb_nI, nI_ltE, nI_leE, nI_eqE, nI_m1, nI_m1', m1_lt, lt_m1, m1_le, le_m1, eq_self, not_true_eq_false, not_false_eq_true, ↓reduceIte, leT, leF, ltT, ltF, eqT, eqF, decide_true, decide_false, true_and, and_true, Nat.reduceAdd, bI0_i, bI_i, bI_x, bV0_v, bV_v, bV_x, ↓bnd_e, gd_t, m1_lt0]
  | d + 1, f + 1, h, hd, hf, hG => by
    have hD := hV.1
    have h10 := pow10 hV.2.1
    obtain ⟨h1, hG1, e1⟩ := x_srchI (F := F) (K := fun x1 S => f_X6_search_b7 F f x1 S) hF hV hd (2 ^ L) 0 F h (by omega) (by omega) hG (fun s' g _ => absurd g (by omega))
    obtain ⟨h2, hG2, e2⟩ := x_srchO hF hV d f h1 (by omega) (by omega) hG1
    refine ⟨h2, hG2, ?_⟩
    rw [f_X6_search_b7]
    simp (disch := omega) only [fa_lit, nI_ad, nI_mul, nI_cl, inb_nI, nI_ltE, nI_leE, nI_eqE, nI_m1, nI_m1', m1_lt, lt_m1, m1_le, le_m1, eq_self, not_true_eq_false, not_false_eq_true, ↓reduceIte, leT, leF, ltT, ltF, eqT, eqF, decide_true, decide_false, true_and, and_true, Nat.reduceAdd, bI0_i, bI_i, bI_x, bV0_v, bV_v, bV_x, ↓bnd_e, gd_t]
    refine Eq.trans e1 ?_
    show f_X6_search_b7 F f (nI (d + 1) + -nI 1) (seS V 35 h1) = _
    rw [subm1]; exact e2
theorem x_search (hF : 6000 ≤ F) (hV : eg_HX V D L w) (hD : 1 ≤ D) : ∃ h', eg_GX w L D h' 0 ∧ f_X6_search F V = some (.inl none, seS V 35 h') := by
  have h1 := hV.1
  obtain ⟨h', hG, e⟩ := x_srchO (F := F) hF hV (D - 1) F (V 35) (by omega) (by omega) (fun d' g1 g2 => absurd g1 (by omega))
  refine ⟨h', hG, ?_⟩
  rw [se_id] at e
  unfold f_X6_search
  simp (disch := omega) only [fa_lit, nI_ad, nI_mul, nI_cl, inb_nI, nI_ltE, nI_leE, nI_eqE, nI_m1, nI_m1', m1_lt, lt_m1, m1_le, le_m1, eq_self, not_true_eq_false, not_false_eq_true, ↓reduceIte, leT, leF, ltT, ltF, eqT, eqF, decide_true, decide_false, true_and, and_true, Nat.reduceAdd, bI0_i, bI_i, bI_x, bV0_v, bV_v, bV_x, ↓bnd_e, gd_t, hV.2.2.1, nI_sub]
  exact e
theorem x_most {h : Nat → Int32} (hV : eg_HX V D L w) (hD : 1 ≤ D) (hG : eg_GX w L D h 0) : f_X6_most (seS V 35 h) = some (.inl (some (.int (eg_hv w L D 0 0))), seS V 35 h) := by
  have h1 := x_bestFrom (h := h) (d := 0) (s := 0) hV (by omega) (by omega)
  rw [eg_GX_at hG (Nat.le_refl 0) (by omega) (Nat.two_pow_pos L) (by rw [eg_pc0]; omega)] at h1
  unfold f_X6_most
  simp (disch := omega) only [fa_lit, nI_ad, nI_mul, nI_cl, inb_nI, nI_ltE, nI_leE, nI_eqE, nI_m1, nI_m1', m1_lt, lt_m1, m1_le, le_m1, eq_self, not_true_eq_false, not_false_eq_true, ↓reduceIte, leT, leF, ltT, ltF, eqT, eqF, decide_true, decide_false, true_and, and_true, Nat.reduceAdd, bI0_i, bI_i, bI_x, bV0_v, bV_v, bV_x, ↓bnd_e, gd_t, h1]
theorem x_firstL {d s : Nat} {h : Nat → Int32} (hV : eg_HX V D L w) (hd : d < D) (hs : s < 2 ^ L) (hp : eg_pc 10 s ≤ d) (hG : eg_GX w L D h 0) : ∀ (m i f : Nat), i + m = L → m < f →
    f_X6_firstOf_b24 F f (nI d) (nI s) (eg_hv w L D d s) (nI i) (seS V 35 h) = some (.inl (some (.int (encO (eg_fd (eg_fp w L D d s) m i)))), seS V 35 h)
  | 0, i, f + 1, hi, hf => by
    have hie : i = L := by omega
    subst hie
    have hL := hV.2.1
    have e5 : (seS V 35 h) 33 5 = nI i := by rw [seS_n (by omega)]; exact hV.2.2.2.1
    rw [f_X6_firstOf_b24]
    simp (disch := omega) only [fa_lit, nI_ad, nI_mul, nI_cl, inb_nI, nI_ltE, nI_leE, nI_eqE, nI_m1, nI_m1', m1_lt, lt_m1, m1_le, le_m1, eq_self, not_true_eq_false, not_false_eq_true, ↓reduceIte, leT, leF, ltT, ltF, eqT, eqF, decide_true, decide_false, true_and, and_true, Nat.reduceAdd, bI0_i, bI_i, bI_x, bV0_v, bV_v, bV_x, ↓bnd_e, gd_t, e5, Nat.le_refl]
    rfl
  | m + 1, i, f + 1, hi, hf => by
    have hL := hV.2.1
    have h10 := pow10 hL
    have e5 : (seS V 35 h) 33 5 = nI L := by rw [seS_n (by omega)]; exact hV.2.2.2.1
    have ih := x_firstL hV hd hs hp hG m (i + 1) f (by omega) (by omega)
    have hw := x_bestWith (h := h) (d := d) (s := s) (l := i) hV hd hs (by omega)
    have hp' := eg_pc_s (s := s) (l := i) (by omega) (by omega)
    rw [eg_GX_at hG (Nat.zero_le (d + 1)) (by omega) (eg_or_lt hs (by omega)) (by omega)] at hw
    rw [f_X6_firstOf_b24, eg_fd]
    unfold f_X6_firstOf_b57
    cases g : hasV (nI s) i with
    | true =>
      have ef : eg_fp w L D d s i = false := by unfold eg_fp; rw [g]; rfl
      simp (disch := omega) only [fa_lit, nI_ad, nI_mul, nI_cl, inb_nI, nI_ltE, nI_leE, nI_eqE, nI_m1, nI_m1', m1_lt, lt_m1, m1_le, le_m1, eq_self, not_true_eq_false, not_false_eq_true, ↓reduceIte, leT, leF, ltT, ltF, eqT, eqF, decide_true, decide_false, true_and, and_true, Nat.reduceAdd, bI0_i, bI_i, bI_x, bV0_v, bV_v, bV_x, ↓bnd_e, gd_t, e5, x_hasBit, g, bT, ef, Bool.false_eq_true]
      exact ih
    | false =>
      by_cases g2 : w d i + eg_hv w L D (d + 1) (s ||| 2 ^ i) = eg_hv w L D d s
      · have ef : eg_fp w L D d s i = true := by unfold eg_fp; rw [g, decide_eq_true g2]; rfl
        simp (disch := omega) only [fa_lit, nI_ad, nI_mul, nI_cl, inb_nI, nI_ltE, nI_leE, nI_eqE, nI_m1, nI_m1', m1_lt, lt_m1, m1_le, le_m1, eq_self, not_true_eq_false, not_false_eq_true, ↓reduceIte, leT, leF, ltT, ltF, eqT, eqF, decide_true, decide_false, true_and, and_true, Nat.reduceAdd, bI0_i, bI_i, bI_x, bV0_v, bV_v, bV_x, ↓bnd_e, gd_t, e5, x_hasBit, g, bF, hw, g2, ef, enc_some]
      · have ef : eg_fp w L D d s i = false := by unfold eg_fp; rw [g, decide_eq_false g2]; rfl
        simp (disch := omega) only [fa_lit, nI_ad, nI_mul, nI_cl, inb_nI, nI_ltE, nI_leE, nI_eqE, nI_m1, nI_m1', m1_lt, lt_m1, m1_le, le_m1, eq_self, not_true_eq_false, not_false_eq_true, ↓reduceIte, leT, leF, ltT, ltF, eqT, eqF, decide_true, decide_false, true_and, and_true, Nat.reduceAdd, bI0_i, bI_i, bI_x, bV0_v, bV_v, bV_x, ↓bnd_e, gd_t, e5, x_hasBit, g, bF, hw, g2, ef, Bool.false_eq_true]
        exact ih
theorem x_firstOf {d s : Nat} {h : Nat → Int32} (hF : 6000 ≤ F) (hV : eg_HX V D L w) (hd : d < D) (hs : s < 2 ^ L) (hp : eg_pc 10 s ≤ d) (hG : eg_GX w L D h 0) :
    f_X6_firstOf F (nI d) (nI s) (seS V 35 h) = some (.inl (some (.int (encO (eg_fo w L D d s)))), seS V 35 h) := by
  have h10 := pow10 hV.2.1
  have hL := hV.2.1
  have h1 := x_bestFrom (h := h) (d := d) (s := s) hV (by omega) (by omega)
  rw [eg_GX_at hG (Nat.zero_le d) (by omega) hs hp] at h1
  have h2 := x_bestFrom (h := h) (d := d + 1) (s := s) hV (by omega) (by omega)
  rw [eg_GX_at hG (Nat.zero_le (d + 1)) (by omega) hs (by omega)] at h2
  have h3 := x_firstL (F := F) (h := h) hV hd hs hp hG L 0 F (by omega) (by omega)
  unfold f_X6_firstOf eg_fo
  by_cases g : eg_hv w L D (d + 1) s = eg_hv w L D d s
  · rw [if_pos g]
    simp (disch := omega) only [fa_lit, nI_ad, nI_mul, nI_cl, inb_nI, nI_ltE, nI_leE, nI_eqE, nI_m1, nI_m1', m1_lt, lt_m1, m1_le, le_m1, eq_self, not_true_eq_false, not_false_eq_true, ↓reduceIte, leT, leF, ltT, ltF, eqT, eqF, decide_true, decide_false, true_and, and_true, Nat.reduceAdd, bI0_i, bI_i, bI_x, bV0_v, bV_v, bV_x, ↓bnd_e, gd_t, h1, h2, g, enc_none]
  · rw [if_neg g]
    simp (disch := omega) only [fa_lit, nI_ad, nI_mul, nI_cl, inb_nI, nI_ltE, nI_leE, nI_eqE, nI_m1, nI_m1', m1_lt, lt_m1, m1_le, le_m1, eq_self, not_true_eq_false, not_false_eq_true, ↓reduceIte, leT, leF, ltT, ltF, eqT, eqF, decide_true, decide_false, true_and, and_true, Nat.reduceAdd, bI0_i, bI_i, bI_x, bV0_v, bV_v, bV_x, ↓bnd_e, gd_t, h1, h2, g]
    exact h3
theorem x_ledL {j e : Nat} {h : Nat → Int32} (hF : 6000 ≤ F) (hj : j < 2147483648) (he : e = if j + 1 ≤ D then j + 1 else D) (hV : eg_HX V D L w) (hG : eg_GX w L D h 0) : ∀ (m d f : Nat), d + m = e → m < f →
    f_X6_ledgeOf_b7 F f (nI j) (nI (eg_hs w L D d).1) (encO (eg_hs w L D d).2) (nI d) (seS V 35 h) = some (.inl (some (.int (if j < D then encO (eg_hs w L D e).2 else -nI 1))), seS V 35 h)
  | 0, d, f + 1, hi, hf => by
    have hie : d = e := by omega
    have hD := hV.1
    have e4 : (seS V 35 h) 33 4 = nI D := by rw [seS_n (by omega)]; exact hV.2.2.1
    rw [f_X6_ledgeOf_b7]
    unfold f_X6_ledgeOf_b47 f_X6_ledgeOf_b59 f_X6_ledgeOf_b64
    by_cases g : j < D
    · rw [if_pos (by omega)] at he
      subst hie
      have hjd : j < d := by omega
      simp (disch := omega) only [fa_lit, nI_ad, nI_mul, nI_cl, inb_nI, nI_ltE, nI_leE, nI_eqE, nI_m1, nI_m1', m1_lt, lt_m1, m1_le, le_m1, eq_self, not_true_eq_false, not_false_eq_true, ↓reduceIte, leT, leF, ltT, ltF, eqT, eqF, decide_true, decide_false, true_and, and_true, Nat.reduceAdd, bI0_i, bI_i, bI_x, bV0_v, bV_v, bV_x, ↓bnd_e, gd_t, e4, g]
    · rw [if_neg (by omega)] at he
      have hDd : D ≤ d := by omega
      simp (disch := omega) only [fa_lit, nI_ad, nI_mul, nI_cl, inb_nI, nI_ltE, nI_leE, nI_eqE, nI_m1, nI_m1', m1_lt, lt_m1, m1_le, le_m1, eq_self, not_true_eq_false, not_false_eq_true, ↓reduceIte, leT, leF, ltT, ltF, eqT, eqF, decide_true, decide_false, true_and, and_true, Nat.reduceAdd, bI0_i, bI_i, bI_x, bV0_v, bV_v, bV_x, ↓bnd_e, gd_t, e4, g]
  | m + 1, d, f + 1, hi, hf => by
    have hD := hV.1
    have hL := hV.2.1
    have hde : d < D ∧ d ≤ j := by
      split at he <;> omega
    have e4 : (seS V 35 h) 33 4 = nI D := by rw [seS_n (by omega)]; exact hV.2.2.1
    have ok := eg_hs_ok (w := w) (D := D) hL (d := d)
    have h1 := x_firstOf (F := F) (h := h) hF hV hde.1 ok.1 ok.2 hG
    have ih := x_ledL hF hj he hV hG m (d + 1) f (by omega) (by omega)
    rw [eg_hs] at ih
    rw [f_X6_ledgeOf_b7]
    unfold f_X6_ledgeOf_b41
    cases g : eg_fo w L D d (eg_hs w L D d).1 with
    | none =>
      rw [g] at h1 ih
      simp (disch := omega) only [fa_lit, nI_ad, nI_mul, nI_cl, inb_nI, nI_ltE, nI_leE, nI_eqE, nI_m1, nI_m1', m1_lt, lt_m1, m1_le, le_m1, eq_self, not_true_eq_false, not_false_eq_true, ↓reduceIte, leT, leF, ltT, ltF, eqT, eqF, decide_true, decide_false, true_and, and_true, Nat.reduceAdd, bI0_i, bI_i, bI_x, bV0_v, bV_v, bV_x, ↓bnd_e, gd_t, e4, h1, enc_none]
      exact ih
    | some l =>
      have hl := eg_fo_lt g
      rw [g] at h1 ih
      have eb := eg_bit (s := (eg_hs w L D d).1) (l := l) (by omega)
      simp (disch := omega) only [fa_lit, nI_ad, nI_mul, nI_cl, inb_nI, nI_ltE, nI_leE, nI_eqE, nI_m1, nI_m1', m1_lt, lt_m1, m1_le, le_m1, eq_self, not_true_eq_false, not_false_eq_true, ↓reduceIte, leT, leF, ltT, ltF, eqT, eqF, decide_true, decide_false, true_and, and_true, Nat.reduceAdd, bI0_i, bI_i, bI_x, bV0_v, bV_v, bV_x, ↓bnd_e, gd_t, e4, h1, enc_some, eb]
      exact ih
theorem x_ledgeOf {j : Nat} {h : Nat → Int32} (hF : 6000 ≤ F) (hj : j < 2147483648) (hV : eg_HX V D L w) (hG : eg_GX w L D h 0) :
    f_X6_ledgeOf F (nI j) (seS V 35 h) = some (.inl (some (.int (if j < D then encO (eg_hs w L D (j + 1)).2 else -nI 1))), seS V 35 h) := by
  have hD := hV.1
  have h1 := x_ledL (F := F) (h := h) (j := j) hF hj rfl hV hG (if j + 1 ≤ D then j + 1 else D) 0 F (by omega) (by split <;> omega)
  unfold f_X6_ledgeOf
  refine Eq.trans h1 ?_
  by_cases g : j < D
  · rw [if_pos g, if_pos (show j + 1 ≤ D by omega), if_pos g]
  · rw [if_neg g, if_neg g]
theorem x_ledgeOf_n {x : Int32} (hF : 6000 ≤ F) (hx : x < nI 0) : f_X6_ledgeOf F x S = some (.inl (some (.int (-nI 1))), S) := by
  obtain ⟨G, rfl⟩ : ∃ G, F = G + 1 := ⟨F - 1, by omega⟩
  unfold f_X6_ledgeOf
  rw [f_X6_ledgeOf_b7]
  unfold f_X6_ledgeOf_b47 f_X6_ledgeOf_b59 f_X6_ledgeOf_b64
  simp (disch := omega) only [fa_lit, nI_ad, nI_mul, nI_cl, inb_nI, nI_ltE, nI_leE, nI_eqE, nI_m1, nI_m1', m1_lt, lt_m1, m1_le, le_m1, eq_self, not_true_eq_false, not_false_eq_true, ↓reduceIte, leT, leF, ltT, ltF, eqT, eqF, decide_true, decide_false, true_and, and_true, Nat.reduceAdd, bI0_i, bI_i, bI_x, bV0_v, bV_v, bV_x, ↓bnd_e, gd_t, hx]
end H
