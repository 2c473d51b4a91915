/-! sets of ledges, sums, logs -/
theorem or_n0 {x : Int32} : x ||| nI 0 = x := Int32.or_zero
theorem pow10 {n : Nat} (h : n ≤ 10) : 2 ^ n ≤ 1024 := by
  have : n < 11 := by omega
  revert this; revert n; decide
theorem pow_pos' {n : Nat} : 1 ≤ 2 ^ n := Nat.one_le_two_pow
section L
variable {F : Nat} {S : mS}
def sumSV (c : Nat → Int32) (set : Int32) (w : Nat) : Nat → Int32
  | 0 => nI 0
  | l + 1 => sumSV c set w l + (if hasV set l = true then c (16 + l * 5 + w) else nI 0)
def totV (c : Nat → Int32) (w : Nat) : Nat → Int32
  | 0 => nI 0
  | l + 1 => totV c w l + c (16 + l * 5 + w)
theorem sum_all {c : Nat → Int32} {w N : Nat} {n : Nat} (hN : N ≤ 10) (hs : n ≤ N) : sumSV c (nI (2 ^ N - 1)) w n = totV c w n := by
  induction n with
  | zero => rfl
  | succ n ih => rw [sumSV, totV, ih (by omega), has_all10 N (by omega) n (by omega), if_pos rfl]
theorem x_sumSV {set : Int32} {w n : Nat} (hw : w < 5) (hn : S 25 12 = nI n) (hn10 : n ≤ 10) : ∀ (m i k : Nat) , i + m = n → m < k →
    f_X9_sumOf_b5 F k set (nI w) (sumSV (S 25) set w i) (nI (i)) S = some (.inl (some (.int (sumSV (S 25) set w n))), S)
  | 0, i, k + 1, hi, hk => by
    have hie : i = n := by omega
    subst hie
    rw [f_X9_sumOf_b5]
    unfold f_X9_sumOf_b41
    simp (disch := omega) only [fa_lit, nI_ad, nI_mul, nI_cl, inb_nI, nI_ltE, nI_leE, nI_eqE, nI_m1, nI_m1', m1_lt, lt_m1, m1_le, le_m1, eq_self, not_true_eq_false, not_false_eq_true, ↓reduceIte, leT, leF, ltT, ltF, eqT, eqF, decide_true, decide_false, true_and, and_true, Nat.reduceAdd, bI0_i, bI_i, bI_x, bV0_v, bV_v, bV_x, ↓bnd_e, gd_t, x_at, hn, x_hasBit, x_ofLedge]
  | m + 1, i, k + 1, hi, hk => by
    have ih := x_sumSV (set := set) (w := w) (n := n) hw hn hn10 m (i + 1) k (by omega) (by omega)
    rw [sumSV] at ih
    rw [f_X9_sumOf_b5]
    unfold f_X9_sumOf_b41
    cases g0 : hasV set i with
    | false =>
      try simp only [g0, ↓reduceIte, add_n0, or_n0, not_true_eq_false, not_false_eq_true, reduceCtorEq] at ih
      simp (disch := omega) only [fa_lit, nI_ad, nI_mul, nI_cl, inb_nI, nI_ltE, nI_leE, nI_eqE, nI_m1, nI_m1', m1_lt, lt_m1, m1_le, le_m1, eq_self, not_true_eq_false, not_false_eq_true, ↓reduceIte, leT, leF, ltT, ltF, eqT, eqF, decide_true, decide_false, true_and, and_true, Nat.reduceAdd, bI0_i, bI_i, bI_x, bV0_v, bV_v, bV_x, ↓bnd_e, gd_t, x_at, hn, x_hasBit, x_ofLedge, g0, bT, bF]
      exact ih
    | true =>
      try simp only [g0, ↓reduceIte, add_n0, or_n0, not_true_eq_false, not_false_eq_true, reduceCtorEq] at ih
      simp (disch := omega) only [fa_lit, nI_ad, nI_mul, nI_cl, inb_nI, nI_ltE, nI_leE, nI_eqE, nI_m1, nI_m1', m1_lt, lt_m1, m1_le, le_m1, eq_self, not_true_eq_false, not_false_eq_true, ↓reduceIte, leT, leF, ltT, ltF, eqT, eqF, decide_true, decide_false, true_and, and_true, Nat.reduceAdd, bI0_i, bI_i, bI_x, bV0_v, bV_v, bV_x, ↓bnd_e, gd_t, x_at, hn, x_hasBit, x_ofLedge, g0, bT, bF]
      exact ih
theorem m_sumSV {set : Int32} {w n : Nat} (hw : w < 5) (hn : cM (S 64) 12 = nI n) (hn10 : n ≤ 10) : ∀ (m i k : Nat) , i + m = n → m < k →
    f_X10_sumIn_b5 F k set (nI w) (sumSV (cM (S 64)) set w i) (nI (i)) S = some (.inl (some (.int (sumSV (cM (S 64)) set w n))), S)
  | 0, i, k + 1, hi, hk => by
    have hie : i = n := by omega
    subst hie
    rw [f_X10_sumIn_b5]
    unfold f_X10_sumIn_b35
    simp (disch := omega) only [fa_lit, nI_ad, nI_mul, nI_cl, inb_nI, nI_ltE, nI_leE, nI_eqE, nI_m1, nI_m1', m1_lt, lt_m1, m1_le, le_m1, eq_self, not_true_eq_false, not_false_eq_true, ↓reduceIte, leT, leF, ltT, ltF, eqT, eqF, decide_true, decide_false, true_and, and_true, Nat.reduceAdd, bI0_i, bI_i, bI_x, bV0_v, bV_v, bV_x, ↓bnd_e, gd_t, m_ledges, hn, m_has, m_of, add_n0]
  | m + 1, i, k + 1, hi, hk => by
    have ih := m_sumSV (set := set) (w := w) (n := n) hw hn hn10 m (i + 1) k (by omega) (by omega)
    rw [sumSV] at ih
    rw [f_X10_sumIn_b5]
    unfold f_X10_sumIn_b35
    cases g0 : hasV set i with
    | false =>
      try simp only [g0, ↓reduceIte, add_n0, or_n0, not_true_eq_false, not_false_eq_true, reduceCtorEq] at ih
      simp (disch := omega) only [fa_lit, nI_ad, nI_mul, nI_cl, inb_nI, nI_ltE, nI_leE, nI_eqE, nI_m1, nI_m1', m1_lt, lt_m1, m1_le, le_m1, eq_self, not_true_eq_false, not_false_eq_true, ↓reduceIte, leT, leF, ltT, ltF, eqT, eqF, decide_true, decide_false, true_and, and_true, Nat.reduceAdd, bI0_i, bI_i, bI_x, bV0_v, bV_v, bV_x, ↓bnd_e, gd_t, m_ledges, hn, m_has, m_of, add_n0, g0, bT, bF]
      exact ih
    | true =>
      try simp only [g0, ↓reduceIte, add_n0, or_n0, not_true_eq_false, not_false_eq_true, reduceCtorEq] at ih
      simp (disch := omega) only [fa_lit, nI_ad, nI_mul, nI_cl, inb_nI, nI_ltE, nI_leE, nI_eqE, nI_m1, nI_m1', m1_lt, lt_m1, m1_le, le_m1, eq_self, not_true_eq_false, not_false_eq_true, ↓reduceIte, leT, leF, ltT, ltF, eqT, eqF, decide_true, decide_false, true_and, and_true, Nat.reduceAdd, bI0_i, bI_i, bI_x, bV0_v, bV_v, bV_x, ↓bnd_e, gd_t, m_ledges, hn, m_has, m_of, add_n0, g0, bT, bF]
      exact ih
theorem x_totV {w n u : Nat} (hw : w < 5) (hn : S (u + 1) 12 = nI n) (hn10 : n ≤ 10) : ∀ (m i k : Nat) , i + m = n → m < k →
    f_X0_totalOf_b4 F u k (nI w) (totV (S (u + 1)) w i) (nI (i)) S = some (.inl (some (.int (totV (S (u + 1)) w n))), S)
  | 0, i, k + 1, hi, hk => by
    have hie : i = n := by omega
    subst hie
    rw [f_X0_totalOf_b4]
    simp (disch := omega) only [fa_lit, nI_ad, nI_mul, nI_cl, inb_nI, nI_ltE, nI_leE, nI_eqE, nI_m1, nI_m1', m1_lt, lt_m1, m1_le, le_m1, eq_self, not_true_eq_false, not_false_eq_true, ↓reduceIte, leT, leF, ltT, ltF, eqT, eqF, decide_true, decide_false, true_and, and_true, Nat.reduceAdd, bI0_i, bI_i, bI_x, bV0_v, bV_v, bV_x, ↓bnd_e, gd_t, hn, x_ofLedge]
  | m + 1, i, k + 1, hi, hk => by
    have ih := x_totV (w := w) (n := n) (u := u) hw hn hn10 m (i + 1) k (by omega) (by omega)
    rw [totV] at ih
    rw [f_X0_totalOf_b4]
    simp (disch := omega) only [fa_lit, nI_ad, nI_mul, nI_cl, inb_nI, nI_ltE, nI_leE, nI_eqE, nI_m1, nI_m1', m1_lt, lt_m1, m1_le, le_m1, eq_self, not_true_eq_false, not_false_eq_true, ↓reduceIte, leT, leF, ltT, ltF, eqT, eqF, decide_true, decide_false, true_and, and_true, Nat.reduceAdd, bI0_i, bI_i, bI_x, bV0_v, bV_v, bV_x, ↓bnd_e, gd_t, hn, x_ofLedge]
    exact ih
theorem x_sumOf {set : Int32} {w n : Nat} (hF : 6000 ≤ F) (hw : w < 5) (hn : S 25 12 = nI n) (hn10 : n ≤ 10) : f_X9_sumOf F set (nI w) S = some (.inl (some (.int (sumSV (S 25) set w n))), S) := x_sumSV hw hn hn10 n 0 F (by omega) (by omega)
theorem m_sumIn {set : Int32} {w n : Nat} (hF : 6000 ≤ F) (hw : w < 5) (hn : cM (S 64) 12 = nI n) (hn10 : n ≤ 10) : f_X10_sumIn F set (nI w) S = some (.inl (some (.int (sumSV (cM (S 64)) set w n))), S) := m_sumSV hw hn hn10 n 0 F (by omega) (by omega)
theorem x_totalOf {w n u : Nat} (hF : 6000 ≤ F) (hw : w < 5) (hn : S (u + 1) 12 = nI n) (hn10 : n ≤ 10) : f_X0_totalOf F u (nI w) S = some (.inl (some (.int (totV (S (u + 1)) w n))), S) := x_totV hw hn hn10 n 0 F (by omega) (by omega)
theorem x_ledgeSets {n : Nat} (hn : S 25 12 = nI n) (hn10 : n ≤ 10) : f_X9_ledgeSets S = some (.inl (some (.int (nI (2 ^ n)))), S) := by
  unfold f_X9_ledgeSets
  simp (disch := omega) only [fa_lit, nI_ad, nI_mul, nI_cl, inb_nI, nI_ltE, nI_leE, nI_eqE, nI_m1, nI_m1', m1_lt, lt_m1, m1_le, le_m1, eq_self, not_true_eq_false, not_false_eq_true, ↓reduceIte, leT, leF, ltT, ltF, eqT, eqF, decide_true, decide_false, true_and, and_true, Nat.reduceAdd, bI0_i, bI_i, bI_x, bV0_v, bV_v, bV_x, ↓bnd_e, gd_t, x_at, hn, shl_pow]
def freshS (c : Nat → Int32) : Nat → Int32
  | 0 => nI 0
  | l + 1 => freshS c l ||| (if isF c l = true then nI 1 <<< (nI l &&& nI 31) else nI 0)
theorem x_freshS {n : Nat} (hn : S 25 12 = nI n) (hn10 : n ≤ 10) : ∀ (m i k : Nat) , i + m = n → m < k →
    f_X9_fresh_b4 F k (freshS (S 25) i) (nI (i)) S = some (.inl (some (.int (freshS (S 25) n))), S)
  | 0, i, k + 1, hi, hk => by
    have hie : i = n := by omega
    subst hie
    rw [f_X9_fresh_b4]
    unfold f_X9_fresh_b34
    simp (disch := omega) only [fa_lit, nI_ad, nI_mul, nI_cl, inb_nI, nI_ltE, nI_leE, nI_eqE, nI_m1, nI_m1', m1_lt, lt_m1, m1_le, le_m1, eq_self, not_true_eq_false, not_false_eq_true, ↓reduceIte, leT, leF, ltT, ltF, eqT, eqF, decide_true, decide_false, true_and, and_true, Nat.reduceAdd, bI0_i, bI_i, bI_x, bV0_v, bV_v, bV_x, ↓bnd_e, gd_t, x_at, hn, x_isFresh]
  | m + 1, i, k + 1, hi, hk => by
    have ih := x_freshS (n := n) hn hn10 m (i + 1) k (by omega) (by omega)
    rw [freshS] at ih
    rw [f_X9_fresh_b4]
    unfold f_X9_fresh_b34
    cases g0 : isF (S 25) i with
    | false =>
      try simp only [g0, ↓reduceIte, add_n0, or_n0, not_true_eq_false, not_false_eq_true, reduceCtorEq] at ih
      simp (disch := omega) only [fa_lit, nI_ad, nI_mul, nI_cl, inb_nI, nI_ltE, nI_leE, nI_eqE, nI_m1, nI_m1', m1_lt, lt_m1, m1_le, le_m1, eq_self, not_true_eq_false, not_false_eq_true, ↓reduceIte, leT, leF, ltT, ltF, eqT, eqF, decide_true, decide_false, true_and, and_true, Nat.reduceAdd, bI0_i, bI_i, bI_x, bV0_v, bV_v, bV_x, ↓bnd_e, gd_t, x_at, hn, x_isFresh, g0, bT, bF]
      exact ih
    | true =>
      try simp only [g0, ↓reduceIte, add_n0, or_n0, not_true_eq_false, not_false_eq_true, reduceCtorEq] at ih
      simp (disch := omega) only [fa_lit, nI_ad, nI_mul, nI_cl, inb_nI, nI_ltE, nI_leE, nI_eqE, nI_m1, nI_m1', m1_lt, lt_m1, m1_le, le_m1, eq_self, not_true_eq_false, not_false_eq_true, ↓reduceIte, leT, leF, ltT, ltF, eqT, eqF, decide_true, decide_false, true_and, and_true, Nat.reduceAdd, bI0_i, bI_i, bI_x, bV0_v, bV_v, bV_x, ↓bnd_e, gd_t, x_at, hn, x_isFresh, g0, bT, bF]
      exact ih
theorem m_freshS {n : Nat} (hn : cM (S 64) 12 = nI n) (hn10 : n ≤ 10) : ∀ (m i k : Nat) , i + m = n → m < k →
    f_X10_fresh_b9 F k (freshS (cM (S 64)) i) (nI (i)) S = some (.inl (some (.int (freshS (cM (S 64)) n))), S)
  | 0, i, k + 1, hi, hk => by
    have hie : i = n := by omega
    subst hie
    rw [f_X10_fresh_b9]
    unfold f_X10_fresh_b33
    simp (disch := omega) only [fa_lit, nI_ad, nI_mul, nI_cl, inb_nI, nI_ltE, nI_leE, nI_eqE, nI_m1, nI_m1', m1_lt, lt_m1, m1_le, le_m1, eq_self, not_true_eq_false, not_false_eq_true, ↓reduceIte, leT, leF, ltT, ltF, eqT, eqF, decide_true, decide_false, true_and, and_true, Nat.reduceAdd, bI0_i, bI_i, bI_x, bV0_v, bV_v, bV_x, ↓bnd_e, gd_t, m_ledges, hn, m_isFresh, or_n0]
  | m + 1, i, k + 1, hi, hk => by
    have ih := m_freshS (n := n) hn hn10 m (i + 1) k (by omega) (by omega)
    rw [freshS] at ih
    rw [f_X10_fresh_b9]
    unfold f_X10_fresh_b33
    cases g0 : isF (cM (S 64)) i with
    | false =>
      try simp only [g0, ↓reduceIte, add_n0, or_n0, not_true_eq_false, not_false_eq_true, reduceCtorEq] at ih
      simp (disch := omega) only [fa_lit, nI_ad, nI_mul, nI_cl, inb_nI, nI_ltE, nI_leE, nI_eqE, nI_m1, nI_m1', m1_lt, lt_m1, m1_le, le_m1, eq_self, not_true_eq_false, not_false_eq_true, ↓reduceIte, leT, leF, ltT, ltF, eqT, eqF, decide_true, decide_false, true_and, and_true, Nat.reduceAdd, bI0_i, bI_i, bI_x, bV0_v, bV_v, bV_x, ↓bnd_e, gd_t, m_ledges, hn, m_isFresh, or_n0, g0, bT, bF]
      exact ih
    | true =>
      try simp only [g0, ↓reduceIte, add_n0, or_n0, not_true_eq_false, not_false_eq_true, reduceCtorEq] at ih
      simp (disch := omega) only [fa_lit, nI_ad, nI_mul, nI_cl, inb_nI, nI_ltE, nI_leE, nI_eqE, nI_m1, nI_m1', m1_lt, lt_m1, m1_le, le_m1, eq_self, not_true_eq_false, not_false_eq_true, ↓reduceIte, leT, leF, ltT, ltF, eqT, eqF, decide_true, decide_false, true_and, and_true, Nat.reduceAdd, bI0_i, bI_i, bI_x, bV0_v, bV_v, bV_x, ↓bnd_e, gd_t, m_ledges, hn, m_isFresh, or_n0, g0, bT, bF]
      exact ih
def logV (c : Nat → Int32) (w : Nat) (v : Int32) (eggs : Bool) : Nat → Int32
  | 0 => nI 0
  | r + 1 => logV c w v eggs r + (if c (86 + r * 6 + w) = v then (if eggs = true then c (86 + r * 6 + 3) else nI 1) else nI 0)
theorem x_logE {v : Int32} {w n : Nat} (hw : w < 6) (hn : S 25 15 = nI n) (hn60 : n ≤ 60) : ∀ (m i k : Nat) , i + m = n → m < k →
    f_X0_loggedEggs_b5 F k (nI w) v (logV (S 25) w v true i) (nI (i)) S = some (.inl (some (.int (logV (S 25) w v true n))), S)
  | 0, i, k + 1, hi, hk => by
    have hie : i = n := by omega
    subst hie
    rw [f_X0_loggedEggs_b5]
    unfold f_X0_loggedEggs_b38
    simp (disch := omega) only [fa_lit, nI_ad, nI_mul, nI_cl, inb_nI, nI_ltE, nI_leE, nI_eqE, nI_m1, nI_m1', m1_lt, lt_m1, m1_le, le_m1, eq_self, not_true_eq_false, not_false_eq_true, ↓reduceIte, leT, leF, ltT, ltF, eqT, eqF, decide_true, decide_false, true_and, and_true, Nat.reduceAdd, bI0_i, bI_i, bI_x, bV0_v, bV_v, bV_x, ↓bnd_e, gd_t, hn, x_ofRow]
  | m + 1, i, k + 1, hi, hk => by
    have ih := x_logE (v := v) (w := w) (n := n) hw hn hn60 m (i + 1) k (by omega) (by omega)
    rw [logV] at ih
    rw [f_X0_loggedEggs_b5]
    unfold f_X0_loggedEggs_b38
    by_cases g0 : S 25 (86 + i * 6 + w) = v
    · skip
      try simp only [g0, ↓reduceIte, add_n0, or_n0, not_true_eq_false, not_false_eq_true, reduceCtorEq] at ih
      simp (disch := omega) only [fa_lit, nI_ad, nI_mul, nI_cl, inb_nI, nI_ltE, nI_leE, nI_eqE, nI_m1, nI_m1', m1_lt, lt_m1, m1_le, le_m1, eq_self, not_true_eq_false, not_false_eq_true, ↓reduceIte, leT, leF, ltT, ltF, eqT, eqF, decide_true, decide_false, true_and, and_true, Nat.reduceAdd, bI0_i, bI_i, bI_x, bV0_v, bV_v, bV_x, ↓bnd_e, gd_t, hn, x_ofRow, g0, bT, bF]
      exact ih
    · skip
      try simp only [g0, ↓reduceIte, add_n0, or_n0, not_true_eq_false, not_false_eq_true, reduceCtorEq] at ih
      simp (disch := omega) only [fa_lit, nI_ad, nI_mul, nI_cl, inb_nI, nI_ltE, nI_leE, nI_eqE, nI_m1, nI_m1', m1_lt, lt_m1, m1_le, le_m1, eq_self, not_true_eq_false, not_false_eq_true, ↓reduceIte, leT, leF, ltT, ltF, eqT, eqF, decide_true, decide_false, true_and, and_true, Nat.reduceAdd, bI0_i, bI_i, bI_x, bV0_v, bV_v, bV_x, ↓bnd_e, gd_t, hn, x_ofRow, g0, bT, bF]
      exact ih
theorem x_logR {v : Int32} {n : Nat} (hn : S 25 15 = nI n) (hn60 : n ≤ 60) : ∀ (m i k : Nat) , i + m = n → m < k →
    f_X0_loggedRows_b4 F k v (logV (S 25) 2 v false i) (nI (i)) S = some (.inl (some (.int (logV (S 25) 2 v false n))), S)
  | 0, i, k + 1, hi, hk => by
    have hie : i = n := by omega
    subst hie
    rw [f_X0_loggedRows_b4]
    unfold f_X0_loggedRows_b28
    simp (disch := omega) only [fa_lit, nI_ad, nI_mul, nI_cl, inb_nI, nI_ltE, nI_leE, nI_eqE, nI_m1, nI_m1', m1_lt, lt_m1, m1_le, le_m1, eq_self, not_true_eq_false, not_false_eq_true, ↓reduceIte, leT, leF, ltT, ltF, eqT, eqF, decide_true, decide_false, true_and, and_true, Nat.reduceAdd, bI0_i, bI_i, bI_x, bV0_v, bV_v, bV_x, ↓bnd_e, gd_t, hn, x_ofRow]
  | m + 1, i, k + 1, hi, hk => by
    have ih := x_logR (v := v) (n := n) hn hn60 m (i + 1) k (by omega) (by omega)
    rw [logV] at ih
    rw [f_X0_loggedRows_b4]
    unfold f_X0_loggedRows_b28
    by_cases g0 : S 25 (86 + i * 6 + 2) = v
    · skip
      try simp only [g0, ↓reduceIte, add_n0, or_n0, not_true_eq_false, not_false_eq_true, reduceCtorEq] at ih
      simp (disch := omega) only [fa_lit, nI_ad, nI_mul, nI_cl, inb_nI, nI_ltE, nI_leE, nI_eqE, nI_m1, nI_m1', m1_lt, lt_m1, m1_le, le_m1, eq_self, not_true_eq_false, not_false_eq_true, ↓reduceIte, leT, leF, ltT, ltF, eqT, eqF, decide_true, decide_false, true_and, and_true, Nat.reduceAdd, bI0_i, bI_i, bI_x, bV0_v, bV_v, bV_x, ↓bnd_e, gd_t, hn, x_ofRow, g0, bT, bF]
      exact ih
    · skip
      try simp only [g0, ↓reduceIte, add_n0, or_n0, not_true_eq_false, not_false_eq_true, reduceCtorEq] at ih
      simp (disch := omega) only [fa_lit, nI_ad, nI_mul, nI_cl, inb_nI, nI_ltE, nI_leE, nI_eqE, nI_m1, nI_m1', m1_lt, lt_m1, m1_le, le_m1, eq_self, not_true_eq_false, not_false_eq_true, ↓reduceIte, leT, leF, ltT, ltF, eqT, eqF, decide_true, decide_false, true_and, and_true, Nat.reduceAdd, bI0_i, bI_i, bI_x, bV0_v, bV_v, bV_x, ↓bnd_e, gd_t, hn, x_ofRow, g0, bT, bF]
      exact ih
theorem m_logE {v x : Int32} {w n : Nat} (hw : w < 6) (hn : cM (S 64) 15 = nI n) (hn60 : n ≤ 60) (hx : ¬ x = nI 0) : ∀ (m i k : Nat) , i + m = n → m < k →
    f_X10_loggedOf_b6 F k (nI w) v x (logV (cM (S 64)) w v true i) (nI (i)) S = some (.inl (some (.int (logV (cM (S 64)) w v true n))), S)
  | 0, i, k + 1, hi, hk => by
    have hie : i = n := by omega
    subst hie
    have e15 := w15 (S 64)
    rw [f_X10_loggedOf_b6]
    unfold f_X10_loggedOf_b50
    simp (disch := omega) only [fa_lit, nI_ad, nI_mul, nI_cl, inb_nI, nI_ltE, nI_leE, nI_eqE, nI_m1, nI_m1', m1_lt, lt_m1, m1_le, le_m1, eq_self, not_true_eq_false, not_false_eq_true, ↓reduceIte, leT, leF, ltT, ltF, eqT, eqF, decide_true, decide_false, true_and, and_true, Nat.reduceAdd, bI0_i, bI_i, bI_x, bV0_v, bV_v, bV_x, ↓bnd_e, gd_t, hn, e15, m_ofLog, add_n0, hx]
  | m + 1, i, k + 1, hi, hk => by
    have e15 := w15 (S 64)
    have ih := m_logE (v := v) (x := x) (w := w) (n := n) hw hn hn60 hx m (i + 1) k (by omega) (by omega)
    rw [logV] at ih
    rw [f_X10_loggedOf_b6]
    unfold f_X10_loggedOf_b50
    by_cases g0 : cM (S 64) (86 + i * 6 + w) = v
    · skip
      try simp only [g0, ↓reduceIte, add_n0, or_n0, not_true_eq_false, not_false_eq_true, reduceCtorEq] at ih
      simp (disch := omega) only [fa_lit, nI_ad, nI_mul, nI_cl, inb_nI, nI_ltE, nI_leE, nI_eqE, nI_m1, nI_m1', m1_lt, lt_m1, m1_le, le_m1, eq_self, not_true_eq_false, not_false_eq_true, ↓reduceIte, leT, leF, ltT, ltF, eqT, eqF, decide_true, decide_false, true_and, and_true, Nat.reduceAdd, bI0_i, bI_i, bI_x, bV0_v, bV_v, bV_x, ↓bnd_e, gd_t, hn, e15, m_ofLog, add_n0, hx, g0, bT, bF]
      exact ih
    · skip
      try simp only [g0, ↓reduceIte, add_n0, or_n0, not_true_eq_false, not_false_eq_true, reduceCtorEq] at ih
      simp (disch := omega) only [fa_lit, nI_ad, nI_mul, nI_cl, inb_nI, nI_ltE, nI_leE, nI_eqE, nI_m1, nI_m1', m1_lt, lt_m1, m1_le, le_m1, eq_self, not_true_eq_false, not_false_eq_true, ↓reduceIte, leT, leF, ltT, ltF, eqT, eqF, decide_true, decide_false, true_and, and_true, Nat.reduceAdd, bI0_i, bI_i, bI_x, bV0_v, bV_v, bV_x, ↓bnd_e, gd_t, hn, e15, m_ofLog, add_n0, hx, g0, bT, bF]
      exact ih
theorem m_logR {v : Int32} {w n : Nat} (hw : w < 6) (hn : cM (S 64) 15 = nI n) (hn60 : n ≤ 60) : ∀ (m i k : Nat) , i + m = n → m < k →
    f_X10_loggedOf_b6 F k (nI w) v (nI 0) (logV (cM (S 64)) w v false i) (nI (i)) S = some (.inl (some (.int (logV (cM (S 64)) w v false n))), S)
  | 0, i, k + 1, hi, hk => by
    have hie : i = n := by omega
    subst hie
    have e15 := w15 (S 64)
    rw [f_X10_loggedOf_b6]
    unfold f_X10_loggedOf_b50
    simp (disch := omega) only [fa_lit, nI_ad, nI_mul, nI_cl, inb_nI, nI_ltE, nI_leE, nI_eqE, nI_m1, nI_m1', m1_lt, lt_m1, m1_le, le_m1, eq_self, not_true_eq_false, not_false_eq_true, ↓reduceIte, leT, leF, ltT, ltF, eqT, eqF, decide_true, decide_false, true_and, and_true, Nat.reduceAdd, bI0_i, bI_i, bI_x, bV0_v, bV_v, bV_x, ↓bnd_e, gd_t, hn, e15, m_ofLog, add_n0]
  | m + 1, i, k + 1, hi, hk => by
    have e15 := w15 (S 64)
    have ih := m_logR (v := v) (w := w) (n := n) hw hn hn60 m (i + 1) k (by omega) (by omega)
    rw [logV] at ih
    rw [f_X10_loggedOf_b6]
    unfold f_X10_loggedOf_b50
    by_cases g0 : cM (S 64) (86 + i * 6 + w) = v
    · skip
      try simp only [g0, ↓reduceIte, add_n0, or_n0, not_true_eq_false, not_false_eq_true, reduceCtorEq] at ih
      simp (disch := omega) only [fa_lit, nI_ad, nI_mul, nI_cl, inb_nI, nI_ltE, nI_leE, nI_eqE, nI_m1, nI_m1', m1_lt, lt_m1, m1_le, le_m1, eq_self, not_true_eq_false, not_false_eq_true, ↓reduceIte, leT, leF, ltT, ltF, eqT, eqF, decide_true, decide_false, true_and, and_true, Nat.reduceAdd, bI0_i, bI_i, bI_x, bV0_v, bV_v, bV_x, ↓bnd_e, gd_t, hn, e15, m_ofLog, add_n0, g0, bT, bF]
      exact ih
    · skip
      try simp only [g0, ↓reduceIte, add_n0, or_n0, not_true_eq_false, not_false_eq_true, reduceCtorEq] at ih
      simp (disch := omega) only [fa_lit, nI_ad, nI_mul, nI_cl, inb_nI, nI_ltE, nI_leE, nI_eqE, nI_m1, nI_m1', m1_lt, lt_m1, m1_le, le_m1, eq_self, not_true_eq_false, not_false_eq_true, ↓reduceIte, leT, leF, ltT, ltF, eqT, eqF, decide_true, decide_false, true_and, and_true, Nat.reduceAdd, bI0_i, bI_i, bI_x, bV0_v, bV_v, bV_x, ↓bnd_e, gd_t, hn, e15, m_ofLog, add_n0, g0, bT, bF]
      exact ih
def deepV (c : Nat → Int32) (set : Int32) : Nat → Int32
  | 0 => nI 0
  | l + 1 => if hasV set l = true then (if deepV c set l < c (16 + l * 5 + 0) then c (16 + l * 5 + 0) else deepV c set l) else deepV c set l
theorem x_deep {set : Int32} {n : Nat} (hn : S 25 12 = nI n) (hn10 : n ≤ 10) : ∀ (m i k : Nat) , i + m = n → m < k →
    f_X9_round_b4 F k set (deepV (S 25) set i) (nI (i)) S = some (.inl (some (.int (if deepV (S 25) set n ≤ S 25 0 then nI 2 * deepV (S 25) set n else -nI 1))), S)
  | 0, i, k + 1, hi, hk => by
    have hie : i = n := by omega
    subst hie
    rw [f_X9_round_b4]
    unfold f_X9_round_b39 f_X9_round_b64
    simp (disch := omega) only [fa_lit, nI_ad, nI_mul, nI_cl, inb_nI, nI_ltE, nI_leE, nI_eqE, nI_m1, nI_m1', m1_lt, lt_m1, m1_le, le_m1, eq_self, not_true_eq_false, not_false_eq_true, ↓reduceIte, leT, leF, ltT, ltF, eqT, eqF, decide_true, decide_false, true_and, and_true, Nat.reduceAdd, bI0_i, bI_i, bI_x, bV0_v, bV_v, bV_x, ↓bnd_e, gd_t, x_at, hn, x_hasBit, x_ofLedge]
    split <;> rfl
  | m + 1, i, k + 1, hi, hk => by
    have ih := x_deep (set := set) (n := n) hn hn10 m (i + 1) k (by omega) (by omega)
    rw [deepV] at ih
    rw [f_X9_round_b4]
    unfold f_X9_round_b39 f_X9_round_b64
    cases g0 : hasV set i with
    | false =>
      try simp only [g0, ↓reduceIte, add_n0, or_n0, not_true_eq_false, not_false_eq_true, reduceCtorEq] at ih
      simp (disch := omega) only [fa_lit, nI_ad, nI_mul, nI_cl, inb_nI, nI_ltE, nI_leE, nI_eqE, nI_m1, nI_m1', m1_lt, lt_m1, m1_le, le_m1, eq_self, not_true_eq_false, not_false_eq_true, ↓reduceIte, leT, leF, ltT, ltF, eqT, eqF, decide_true, decide_false, true_and, and_true, Nat.reduceAdd, bI0_i, bI_i, bI_x, bV0_v, bV_v, bV_x, ↓bnd_e, gd_t, x_at, hn, x_hasBit, x_ofLedge, g0, bT, bF]
      exact ih
    | true =>
      try simp only [g0, ↓reduceIte, add_n0, or_n0, not_true_eq_false, not_false_eq_true, reduceCtorEq] at ih
      simp (disch := omega) only [fa_lit, nI_ad, nI_mul, nI_cl, inb_nI, nI_ltE, nI_leE, nI_eqE, nI_m1, nI_m1', m1_lt, lt_m1, m1_le, le_m1, eq_self, not_true_eq_false, not_false_eq_true, ↓reduceIte, leT, leF, ltT, ltF, eqT, eqF, decide_true, decide_false, true_and, and_true, Nat.reduceAdd, bI0_i, bI_i, bI_x, bV0_v, bV_v, bV_x, ↓bnd_e, gd_t, x_at, hn, x_hasBit, x_ofLedge, g0, bT, bF]
      exact ih
theorem m_deep {set : Int32} {n : Nat} (hn : cM (S 64) 12 = nI n) (hn10 : n ≤ 10) : ∀ (m i k : Nat) , i + m = n → m < k →
    f_X10_round_b9 F k set (deepV (cM (S 64)) set i) (nI (i)) S = some (.inl (some (.int (if deepV (cM (S 64)) set n ≤ cM (S 64) 0 then nI 2 * deepV (cM (S 64)) set n else -nI 1))), S)
  | 0, i, k + 1, hi, hk => by
    have hie : i = n := by omega
    subst hie
    have e7 := w7 (S 64)
    rw [f_X10_round_b9]
    unfold f_X10_round_b39 f_X10_round_b64
    simp (disch := omega) only [fa_lit, nI_ad, nI_mul, nI_cl, inb_nI, nI_ltE, nI_leE, nI_eqE, nI_m1, nI_m1', m1_lt, lt_m1, m1_le, le_m1, eq_self, not_true_eq_false, not_false_eq_true, ↓reduceIte, leT, leF, ltT, ltF, eqT, eqF, decide_true, decide_false, true_and, and_true, Nat.reduceAdd, bI0_i, bI_i, bI_x, bV0_v, bV_v, bV_x, ↓bnd_e, gd_t, m_ledges, hn, m_has, m_of, e7]
    split <;> rfl
  | m + 1, i, k + 1, hi, hk => by
    have e7 := w7 (S 64)
    have ih := m_deep (set := set) (n := n) hn hn10 m (i + 1) k (by omega) (by omega)
    rw [deepV] at ih
    rw [f_X10_round_b9]
    unfold f_X10_round_b39 f_X10_round_b64
    cases g0 : hasV set i with
    | false =>
      try simp only [g0, ↓reduceIte, add_n0, or_n0, not_true_eq_false, not_false_eq_true, reduceCtorEq] at ih
      simp (disch := omega) only [fa_lit, nI_ad, nI_mul, nI_cl, inb_nI, nI_ltE, nI_leE, nI_eqE, nI_m1, nI_m1', m1_lt, lt_m1, m1_le, le_m1, eq_self, not_true_eq_false, not_false_eq_true, ↓reduceIte, leT, leF, ltT, ltF, eqT, eqF, decide_true, decide_false, true_and, and_true, Nat.reduceAdd, bI0_i, bI_i, bI_x, bV0_v, bV_v, bV_x, ↓bnd_e, gd_t, m_ledges, hn, m_has, m_of, e7, g0, bT, bF]
      exact ih
    | true =>
      try simp only [g0, ↓reduceIte, add_n0, or_n0, not_true_eq_false, not_false_eq_true, reduceCtorEq] at ih
      simp (disch := omega) only [fa_lit, nI_ad, nI_mul, nI_cl, inb_nI, nI_ltE, nI_leE, nI_eqE, nI_m1, nI_m1', m1_lt, lt_m1, m1_le, le_m1, eq_self, not_true_eq_false, not_false_eq_true, ↓reduceIte, leT, leF, ltT, ltF, eqT, eqF, decide_true, decide_false, true_and, and_true, Nat.reduceAdd, bI0_i, bI_i, bI_x, bV0_v, bV_v, bV_x, ↓bnd_e, gd_t, m_ledges, hn, m_has, m_of, e7, g0, bT, bF]
      exact ih
def howV (c : Nat → Int32) (n : Nat) (eggs : Int32) : Nat → Int32 × Int32
  | 0 => (nI 0, nI (2 ^ n - 1))
  | s + 1 => if sumSV c (nI s) 2 n = eggs then ((howV c n eggs s).1 + nI 1, (howV c n eggs s).2 &&& nI s) else howV c n eggs s
def howR (c : Nat → Int32) (n : Nat) (eggs sure : Int32) : Int32 := if ¬ sure = nI 0 then (if ¬ (howV c n eggs (2 ^ n)).1 = nI 0 then (howV c n eggs (2 ^ n)).2 else nI 0) else (howV c n eggs (2 ^ n)).1
theorem x_how {e s : Int32} {n N : Nat} (hF : 6000 ≤ F) (hn : S 25 12 = nI n) (hn10 : n ≤ 10) (hN : N = 2 ^ n) (hN2 : N ≤ 1024) : ∀ (m i k : Nat) , i + m = N → m < k →
    f_X9_how_b13 F k e s (howV (S 25) n e (i)).1 (howV (S 25) n e (i)).2 (nI (i)) S = some (.inl (some (.int (howR (S 25) n e s))), S)
  | 0, i, k + 1, hi, hk => by
    have hie : i = N := by omega
    subst hie
    rw [f_X9_how_b13]
    unfold f_X9_how_b43 f_X9_how_b65
    simp (disch := omega) only [fa_lit, nI_ad, nI_mul, nI_cl, inb_nI, nI_ltE, nI_leE, nI_eqE, nI_m1, nI_m1', m1_lt, lt_m1, m1_le, le_m1, eq_self, not_true_eq_false, not_false_eq_true, ↓reduceIte, leT, leF, ltT, ltF, eqT, eqF, decide_true, decide_false, true_and, and_true, Nat.reduceAdd, bI0_i, bI_i, bI_x, bV0_v, bV_v, bV_x, ↓bnd_e, gd_t, x_ledgeSets hn hn10, ← hN, x_sumOf hF (by omega : 2 < 5) hn hn10]
    unfold howR
    rw [hN]
    split
    · split <;> rfl
    · rfl
  | m + 1, i, k + 1, hi, hk => by
    have ih := x_how (e := e) (s := s) (n := n) (N := N) hF hn hn10 hN hN2 m (i + 1) k (by omega) (by omega)
    rw [howV] at ih
    rw [f_X9_how_b13]
    unfold f_X9_how_b43 f_X9_how_b65
    by_cases g0 : sumSV (S 25) (nI i) 2 n = e
    · skip
      try simp only [g0, ↓reduceIte, add_n0, or_n0, not_true_eq_false, not_false_eq_true, reduceCtorEq] at ih
      simp (disch := omega) only [fa_lit, nI_ad, nI_mul, nI_cl, inb_nI, nI_ltE, nI_leE, nI_eqE, nI_m1, nI_m1', m1_lt, lt_m1, m1_le, le_m1, eq_self, not_true_eq_false, not_false_eq_true, ↓reduceIte, leT, leF, ltT, ltF, eqT, eqF, decide_true, decide_false, true_and, and_true, Nat.reduceAdd, bI0_i, bI_i, bI_x, bV0_v, bV_v, bV_x, ↓bnd_e, gd_t, x_ledgeSets hn hn10, ← hN, x_sumOf hF (by omega : 2 < 5) hn hn10, g0, bT, bF]
      exact ih
    · skip
      try simp only [g0, ↓reduceIte, add_n0, or_n0, not_true_eq_false, not_false_eq_true, reduceCtorEq] at ih
      simp (disch := omega) only [fa_lit, nI_ad, nI_mul, nI_cl, inb_nI, nI_ltE, nI_leE, nI_eqE, nI_m1, nI_m1', m1_lt, lt_m1, m1_le, le_m1, eq_self, not_true_eq_false, not_false_eq_true, ↓reduceIte, leT, leF, ltT, ltF, eqT, eqF, decide_true, decide_false, true_and, and_true, Nat.reduceAdd, bI0_i, bI_i, bI_x, bV0_v, bV_v, bV_x, ↓bnd_e, gd_t, x_ledgeSets hn hn10, ← hN, x_sumOf hF (by omega : 2 < 5) hn hn10, g0, bT, bF]
      exact ih
theorem m_how {e s : Int32} {n N : Nat} (hF : 6000 ≤ F) (hn : cM (S 64) 12 = nI n) (hn10 : n ≤ 10) (hN : N = 2 ^ n) (hN1 : 1 ≤ N) (hN2 : N ≤ 1024) : ∀ (m i k : Nat) , i + m = N → m < k →
    f_X10_how_b16 F k e s (howV (cM (S 64)) n e (i)).1 (howV (cM (S 64)) n e (i)).2 (nI (i)) S = some (.inl (some (.int (howR (cM (S 64)) n e s))), S)
  | 0, i, k + 1, hi, hk => by
    have hie : i = N := by omega
    subst hie
    rw [f_X10_how_b16]
    unfold f_X10_how_b49 f_X10_how_b73
    simp (disch := omega) only [fa_lit, nI_ad, nI_mul, nI_cl, inb_nI, nI_ltE, nI_leE, nI_eqE, nI_m1, nI_m1', m1_lt, lt_m1, m1_le, le_m1, eq_self, not_true_eq_false, not_false_eq_true, ↓reduceIte, leT, leF, ltT, ltF, eqT, eqF, decide_true, decide_false, true_and, and_true, Nat.reduceAdd, bI0_i, bI_i, bI_x, bV0_v, bV_v, bV_x, ↓bnd_e, gd_t, m_allLedges hn hn10, ← hN, m_sumIn hF (by omega : 2 < 5) hn hn10]
    unfold howR
    rw [hN]
    split
    · split <;> rfl
    · rfl
  | m + 1, i, k + 1, hi, hk => by
    have ih := m_how (e := e) (s := s) (n := n) (N := N) hF hn hn10 hN hN1 hN2 m (i + 1) k (by omega) (by omega)
    rw [howV] at ih
    rw [f_X10_how_b16]
    unfold f_X10_how_b49 f_X10_how_b73
    by_cases g0 : sumSV (cM (S 64)) (nI i) 2 n = e
    · skip
      try simp only [g0, ↓reduceIte, add_n0, or_n0, not_true_eq_false, not_false_eq_true, reduceCtorEq] at ih
      simp (disch := omega) only [fa_lit, nI_ad, nI_mul, nI_cl, inb_nI, nI_ltE, nI_leE, nI_eqE, nI_m1, nI_m1', m1_lt, lt_m1, m1_le, le_m1, eq_self, not_true_eq_false, not_false_eq_true, ↓reduceIte, leT, leF, ltT, ltF, eqT, eqF, decide_true, decide_false, true_and, and_true, Nat.reduceAdd, bI0_i, bI_i, bI_x, bV0_v, bV_v, bV_x, ↓bnd_e, gd_t, m_allLedges hn hn10, ← hN, m_sumIn hF (by omega : 2 < 5) hn hn10, g0, bT, bF]
      exact ih
    · skip
      try simp only [g0, ↓reduceIte, add_n0, or_n0, not_true_eq_false, not_false_eq_true, reduceCtorEq] at ih
      simp (disch := omega) only [fa_lit, nI_ad, nI_mul, nI_cl, inb_nI, nI_ltE, nI_leE, nI_eqE, nI_m1, nI_m1', m1_lt, lt_m1, m1_le, le_m1, eq_self, not_true_eq_false, not_false_eq_true, ↓reduceIte, leT, leF, ltT, ltF, eqT, eqF, decide_true, decide_false, true_and, and_true, Nat.reduceAdd, bI0_i, bI_i, bI_x, bV0_v, bV_v, bV_x, ↓bnd_e, gd_t, m_allLedges hn hn10, ← hN, m_sumIn hF (by omega : 2 < 5) hn hn10, g0, bT, bF]
      exact ih
def absV (x : Int32) : Int32 := if nI 0 ≤ x then x else nI 0 - x
def splV (c : Nat → Int32) (n : Nat) (all : Int32) : Nat → Int32 × Int32
  | 0 => (nI 0, all)
  | s + 1 => if (splV c n all s).2 ≤ absV (all - nI 2 * sumSV c (nI s) 2 n) then splV c n all s else (nI s, absV (all - nI 2 * sumSV c (nI s) 2 n))
theorem x_spl {p all : Int32} {n N : Nat} (hF : 6000 ≤ F) (hn : S 25 12 = nI n) (hn10 : n ≤ 10) (hN : N = 2 ^ n) (hN2 : N ≤ 1024) : ∀ (m i k : Nat) , i + m = N → m < k →
    f_X9_split_b17 F k p all (splV (S 25) n all (i)).1 (splV (S 25) n all (i)).2 (nI (i)) S = some (.inl (some (.int (if p = nI 0 then (splV (S 25) n all N).2 else (splV (S 25) n all N).1))), S)
  | 0, i, k + 1, hi, hk => by
    have hie : i = N := by omega
    subst hie
    rw [f_X9_split_b17]
    unfold f_X9_split_b56 f_X9_split_b72
    simp (disch := omega) only [fa_lit, nI_ad, nI_mul, nI_cl, inb_nI, nI_ltE, nI_leE, nI_eqE, nI_m1, nI_m1', m1_lt, lt_m1, m1_le, le_m1, eq_self, not_true_eq_false, not_false_eq_true, ↓reduceIte, leT, leF, ltT, ltF, eqT, eqF, decide_true, decide_false, true_and, and_true, Nat.reduceAdd, bI0_i, bI_i, bI_x, bV0_v, bV_v, bV_x, ↓bnd_e, gd_t, x_ledgeSets hn hn10, ← hN, x_sumOf hF (by omega : 2 < 5) hn hn10]
    split <;> rfl
  | m + 1, i, k + 1, hi, hk => by
    have ih := x_spl (p := p) (all := all) (n := n) (N := N) hF hn hn10 hN hN2 m (i + 1) k (by omega) (by omega)
    rw [splV, absV] at ih
    rw [f_X9_split_b17]
    unfold f_X9_split_b56 f_X9_split_b72
    by_cases g0 : (splV (S 25) n all i).2 ≤ (if nI 0 ≤ all - nI 2 * sumSV (S 25) (nI i) 2 n then all - nI 2 * sumSV (S 25) (nI i) 2 n else nI 0 - (all - nI 2 * sumSV (S 25) (nI i) 2 n))
    · skip
      try simp only [g0, ↓reduceIte, add_n0, or_n0, not_true_eq_false, not_false_eq_true, reduceCtorEq] at ih
      simp (disch := omega) only [fa_lit, nI_ad, nI_mul, nI_cl, inb_nI, nI_ltE, nI_leE, nI_eqE, nI_m1, nI_m1', m1_lt, lt_m1, m1_le, le_m1, eq_self, not_true_eq_false, not_false_eq_true, ↓reduceIte, leT, leF, ltT, ltF, eqT, eqF, decide_true, decide_false, true_and, and_true, Nat.reduceAdd, bI0_i, bI_i, bI_x, bV0_v, bV_v, bV_x, ↓bnd_e, gd_t, x_ledgeSets hn hn10, ← hN, x_sumOf hF (by omega : 2 < 5) hn hn10, g0, bT, bF]
      exact ih
    · skip
      try simp only [g0, ↓reduceIte, add_n0, or_n0, not_true_eq_false, not_false_eq_true, reduceCtorEq] at ih
      simp (disch := omega) only [fa_lit, nI_ad, nI_mul, nI_cl, inb_nI, nI_ltE, nI_leE, nI_eqE, nI_m1, nI_m1', m1_lt, lt_m1, m1_le, le_m1, eq_self, not_true_eq_false, not_false_eq_true, ↓reduceIte, leT, leF, ltT, ltF, eqT, eqF, decide_true, decide_false, true_and, and_true, Nat.reduceAdd, bI0_i, bI_i, bI_x, bV0_v, bV_v, bV_x, ↓bnd_e, gd_t, x_ledgeSets hn hn10, ← hN, x_sumOf hF (by omega : 2 < 5) hn hn10, g0, bT, bF]
      exact ih
theorem lt_nle {a b : Int32} : (a < b) = ¬ (b ≤ a) := by
  rw [nle_lt]; simp
theorem m_spl {p all : Int32} {n N : Nat} (hF : 6000 ≤ F) (hn : cM (S 64) 12 = nI n) (hn10 : n ≤ 10) (hN : N = 2 ^ n) (hN1 : 1 ≤ N) (hN2 : N ≤ 1024) : ∀ (m i k : Nat) , i + m = N → m < k →
    f_X10_split_b23 F k p all (splV (cM (S 64)) n all (i)).1 (splV (cM (S 64)) n all (i)).2 (nI (i)) S = some (.inl (some (.int (if p = nI 0 then (splV (cM (S 64)) n all N).2 else (splV (cM (S 64)) n all N).1))), S)
  | 0, i, k + 1, hi, hk => by
    have hie : i = N := by omega
    subst hie
    rw [f_X10_split_b23]
    unfold f_X10_split_b65 f_X10_split_b81
    simp (disch := omega) only [fa_lit, nI_ad, nI_mul, nI_cl, inb_nI, nI_ltE, nI_leE, nI_eqE, nI_m1, nI_m1', m1_lt, lt_m1, m1_le, le_m1, eq_self, not_true_eq_false, not_false_eq_true, ↓reduceIte, leT, leF, ltT, ltF, eqT, eqF, decide_true, decide_false, true_and, and_true, Nat.reduceAdd, bI0_i, bI_i, bI_x, bV0_v, bV_v, bV_x, ↓bnd_e, gd_t, m_allLedges hn hn10, ← hN, m_sumIn hF (by omega : 2 < 5) hn hn10]
    split <;> rfl
  | m + 1, i, k + 1, hi, hk => by
    have ih := m_spl (p := p) (all := all) (n := n) (N := N) hF hn hn10 hN hN1 hN2 m (i + 1) k (by omega) (by omega)
    rw [splV, absV] at ih
    rw [f_X10_split_b23]
    unfold f_X10_split_b65 f_X10_split_b81
    by_cases g0 : (splV (cM (S 64)) n all i).2 ≤ (if nI 0 ≤ all - nI 2 * sumSV (cM (S 64)) (nI i) 2 n then all - nI 2 * sumSV (cM (S 64)) (nI i) 2 n else nI 0 - (all - nI 2 * sumSV (cM (S 64)) (nI i) 2 n))
    · skip
      try simp only [g0, ↓reduceIte, add_n0, or_n0, not_true_eq_false, not_false_eq_true, reduceCtorEq] at ih
      simp (disch := omega) only [fa_lit, nI_ad, nI_mul, nI_cl, inb_nI, nI_ltE, nI_leE, nI_eqE, nI_m1, nI_m1', m1_lt, lt_m1, m1_le, le_m1, eq_self, not_true_eq_false, not_false_eq_true, ↓reduceIte, leT, leF, ltT, ltF, eqT, eqF, decide_true, decide_false, true_and, and_true, Nat.reduceAdd, bI0_i, bI_i, bI_x, bV0_v, bV_v, bV_x, ↓bnd_e, gd_t, m_allLedges hn hn10, ← hN, m_sumIn hF (by omega : 2 < 5) hn hn10, lt_nle, g0, bT, bF]
      exact ih
    · skip
      try simp only [g0, ↓reduceIte, add_n0, or_n0, not_true_eq_false, not_false_eq_true, reduceCtorEq] at ih
      simp (disch := omega) only [fa_lit, nI_ad, nI_mul, nI_cl, inb_nI, nI_ltE, nI_leE, nI_eqE, nI_m1, nI_m1', m1_lt, lt_m1, m1_le, le_m1, eq_self, not_true_eq_false, not_false_eq_true, ↓reduceIte, leT, leF, ltT, ltF, eqT, eqF, decide_true, decide_false, true_and, and_true, Nat.reduceAdd, bI0_i, bI_i, bI_x, bV0_v, bV_v, bV_x, ↓bnd_e, gd_t, m_allLedges hn hn10, ← hN, m_sumIn hF (by omega : 2 < 5) hn hn10, lt_nle, g0, bT, bF]
      exact ih
end L
