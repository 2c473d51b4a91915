theorem mIx_v {a : Nat} (h : a < 4) : ((mIx a : Fin 4) : Nat) = a := Nat.mod_eq_of_lt h
theorem mV_int (ad : Nat → Nat) (x : Int32) : mV ad (.int x) = .int x := rfl
theorem mV_ref (ad : Nat → Nat) (x : Nat) : mV ad (.ref x) = .ref (ad x) := rfl
theorem mV_long (ad : Nat → Nat) (x : Int64) : mV ad (.long x) = .long x := rfl
section ST
variable {p : Program} {lau : Launch} {e : Env} {R : Room} {s : State} {m : MethodId} {args : Array Value} {below : List Frame} {meth : Method} {c : Code} {Q : State → Prop} {z : Nat} {D : va_G} {ad : Nat → Nat} {cy : Nat → ClassId} {M : mM}
variable {n a b e0 pc k : Nat} {v : Int32} {l st : List Value} {S : mS} {g : Bool} {c1 : mC} {c2 : Option mC} {ps : List Nat}
theorem nx_eq {pc' : Nat} {l' st' : List Value} {S' : mS} {k' : Nat} (h : gx g M pc' l' st' S' k' = some (.inl (g, c1, c2))) : c1 = (pc', mkM M.2.2.2.2.2.2 pc' l', st', S', k') := by
  unfold gx at h
  simp only [Option.some.injEq, Sum.inl.injEq, Prod.mk.injEq] at h
  exact h.2.1.symm
/-- on to the next: the locals may be masked there -/
theorem Wt.on {pc' : Nat} {l' st' : List Value} {S' : mS} {k' : Nat} {g' : Bool} (h : gx g' M pc' l' st' S' k' = some (.inl (g, c1, c2))) (hg : g' = true) (h1 : g = true → Wt p lau e R s m args below meth c Q z D ad cy M c1)
    {H : Heap} {locs : List Loc} {ls : Array Slot} (hl : mHas ad ls M.2.2.1 l') (hP : va_P D vwCl (mW ad cy S') H) (hD : va_D (mAz z) (mW ad cy S')) (hS : va_S (mAz z) s.heap H locs) :
    W p lau e R s m args below meth c H locs k' (6 * k') Q (F0 m pc' ls (st'.map (mV ad))) := by
  unfold gx at h
  simp only [Option.some.injEq, Sum.inl.injEq, Prod.mk.injEq] at h
  obtain ⟨rfl, rfl, -⟩ := h
  exact h1 hg H locs ls (hl.mask _ _) hP hD hS
theorem gx_bad {pc' : Nat} {l' st' : List Value} {S' : mS} {k' : Nat} {g' : Bool} (h : gx g' M pc' l' st' S' k' = some (.inl (g, c1, c2))) (hg : g' = false) (h2 : g = false → ∃ c3, c2 = some c3 ∧ Wt p lau e R s m args below meth c Q z D ad cy M c3) : False := by
  unfold gx at h
  simp only [Option.some.injEq, Sum.inl.injEq, Prod.mk.injEq] at h
  obtain ⟨rfl, -, rfl⟩ := h
  obtain ⟨c3, q, -⟩ := h2 hg
  cases q
set_option maxRecDepth 40000 in
theorem st_0 (F : Fr D cy M p s m args meth c) (hd : decode M.2.1 pc = .ok (insOf pc (0, n, a, b, e0, v), n)) (hk : okX M (0, n, a, b, e0, v) ps = true) (h : mx1 M (0, n, a, b, e0, v) pc l st S k = some (.inl (g, c1, c2)))
    (h1 : g = true → Wt p lau e R s m args below meth c Q z D ad cy M c1) : Wt p lau e R s m args below meth c Q z D ad cy M (pc, l, st, S, k) := by
  obtain ⟨hx, hb, -, -, -, -, -, -, -⟩ := F
  intro H locs ls hl hP hD hS
  replace h : gx true M (pc + n) l (.int v :: st) S k = some (.inl (g, c1, c2)) := h
  have K := Wt.on h rfl h1 hl hP hD hS
  simp only [okX] at hk
  split at hk
  · obtain rfl : n = 1 := by simpa using hk
    exact lv_iconst hx hb hd (Int32.ofInt_toInt v) K
  · simp only [Bool.and_eq_true, beq_iff_eq, decide_eq_true_eq] at hk
    obtain ⟨rfl, hv⟩ := hk
    exact lv_bipush hx hb hd hv K
  · rename_i h0 h1'
    simp only [Bool.and_eq_true, beq_iff_eq, decide_eq_true_eq] at hk
    obtain ⟨rfl, hv⟩ := hk
    refine lv_sipush (n := v.toInt) hx hb ?_ hv K
    rw [hd]
    simp only [insOf]
set_option maxRecDepth 40000 in
theorem st_1 (F : Fr D cy M p s m args meth c) (hd : decode M.2.1 pc = .ok (insOf pc (1, n, a, b, e0, v), n)) (hk : okX M (1, n, a, b, e0, v) ps = true) (h : mx1 M (1, n, a, b, e0, v) pc l st S k = some (.inl (g, c1, c2)))
    (h1 : g = true → Wt p lau e R s m args below meth c Q z D ad cy M c1) : Wt p lau e R s m args below meth c Q z D ad cy M (pc, l, st, S, k) := by
  obtain ⟨hx, hb, hml, hr, hown, hts, hlocks, hexc, hK⟩ := F
  intro H locs ls hl hP hD hS
  replace hl : mHas ad ls M.2.2.1 l := hl
  replace hP : va_P D vwCl (mW ad cy S) H := hP
  replace hD : va_D (mAz z) (mW ad cy S) := hD
  show W p lau e R s m args below meth c H locs k (6 * k) Q (F0 m pc ls (st.map (mV ad)))
  replace h : hh1 M n a b e0 v pc l st S k = some (.inl (g, c1, c2)) := h
  simp only [hh1, ldI] at h
  split at h
  all_goals first | (cases h; done) | skip
  rename_i x hw
  have hla := hl.at hw (by intro q; cases q)
  simp only [nx] at h
  have K := Wt.on h rfl h1 hl hP hD hS
  simp only [okX, Bool.and_eq_true, decide_eq_true_eq] at hk
  obtain ⟨ha, hk⟩ := hk
  split at hk
  · simp only [Bool.and_eq_true, beq_iff_eq, decide_eq_true_eq] at hk
    obtain ⟨rfl, h4⟩ := hk
    exact lv_iload_n hx hb hd (mIx_v h4) hla K
  · obtain rfl : n = 2 := by simpa using hk
    exact lv_iload hx hb (by rw [hd]; simp only [insOf]) hla K
set_option maxRecDepth 40000 in
theorem st_2 (F : Fr D cy M p s m args meth c) (hd : decode M.2.1 pc = .ok (insOf pc (2, n, a, b, e0, v), n)) (hk : okX M (2, n, a, b, e0, v) ps = true) (h : mx1 M (2, n, a, b, e0, v) pc l st S k = some (.inl (g, c1, c2)))
    (h1 : g = true → Wt p lau e R s m args below meth c Q z D ad cy M c1) : Wt p lau e R s m args below meth c Q z D ad cy M (pc, l, st, S, k) := by
  obtain ⟨hx, hb, hml, hr, hown, hts, hlocks, hexc, hK⟩ := F
  intro H locs ls hl hP hD hS
  replace hl : mHas ad ls M.2.2.1 l := hl
  replace hP : va_P D vwCl (mW ad cy S) H := hP
  replace hD : va_D (mAz z) (mW ad cy S) := hD
  show W p lau e R s m args below meth c H locs k (6 * k) Q (F0 m pc ls (st.map (mV ad)))
  replace h : hh2 M n a b e0 v pc l st S k = some (.inl (g, c1, c2)) := h
  simp only [hh2, ldA] at h
  split at h
  all_goals first | (cases h; done) | skip
  rename_i x hw
  have hla := hl.at hw (by intro q; cases q)
  simp only [nx] at h
  have K := Wt.on h rfl h1 hl hP hD hS
  simp only [okX, Bool.and_eq_true, decide_eq_true_eq] at hk
  obtain ⟨ha, hk⟩ := hk
  split at hk
  · simp only [Bool.and_eq_true, beq_iff_eq, decide_eq_true_eq] at hk
    obtain ⟨rfl, h4⟩ := hk
    exact lv_aload_n hx hb hd (mIx_v h4) hla K
  · obtain rfl : n = 2 := by simpa using hk
    exact lv_aload hx hb (by rw [hd]; simp only [insOf]) hla K
set_option maxRecDepth 40000 in
theorem st_3 (F : Fr D cy M p s m args meth c) (hd : decode M.2.1 pc = .ok (insOf pc (3, n, a, b, e0, v), n)) (hk : okX M (3, n, a, b, e0, v) ps = true) (h : mx1 M (3, n, a, b, e0, v) pc l st S k = some (.inl (g, c1, c2)))
    (h1 : g = true → Wt p lau e R s m args below meth c Q z D ad cy M c1) : Wt p lau e R s m args below meth c Q z D ad cy M (pc, l, st, S, k) := by
  obtain ⟨hx, hb, hml, hr, hown, hts, hlocks, hexc, hK⟩ := F
  intro H locs ls hl hP hD hS
  replace hl : mHas ad ls M.2.2.1 l := hl
  replace hP : va_P D vwCl (mW ad cy S) H := hP
  replace hD : va_D (mAz z) (mW ad cy S) := hD
  show W p lau e R s m args below meth c H locs k (6 * k) Q (F0 m pc ls (st.map (mV ad)))
  replace h : hh3 M n a b e0 v pc l st S k = some (.inl (g, c1, c2)) := h
  simp only [hh3, ldL] at h
  split at h
  all_goals first | (cases h; done) | skip
  rename_i x hw
  have hla := hl.at hw (by intro q; cases q)
  simp only [nx] at h
  have K := Wt.on h rfl h1 hl hP hD hS
  simp only [okX, Bool.and_eq_true, decide_eq_true_eq] at hk
  obtain ⟨ha, hk⟩ := hk
  split at hk
  · simp only [Bool.and_eq_true, beq_iff_eq, decide_eq_true_eq] at hk
    obtain ⟨rfl, h4⟩ := hk
    exact lv_lload_n hx hb hd (mIx_v h4) hla K
  · obtain rfl : n = 2 := by simpa using hk
    exact lv_lload hx hb (by rw [hd]; simp only [insOf]) hla K
set_option maxRecDepth 40000 in
theorem st_4 (F : Fr D cy M p s m args meth c) (hd : decode M.2.1 pc = .ok (insOf pc (4, n, a, b, e0, v), n)) (hk : okX M (4, n, a, b, e0, v) ps = true) (h : mx1 M (4, n, a, b, e0, v) pc l st S k = some (.inl (g, c1, c2)))
    (h1 : g = true → Wt p lau e R s m args below meth c Q z D ad cy M c1) : Wt p lau e R s m args below meth c Q z D ad cy M (pc, l, st, S, k) := by
  obtain ⟨hx, hb, hml, hr, hown, hts, hlocks, hexc, hK⟩ := F
  intro H locs ls hl hP hD hS
  replace hl : mHas ad ls M.2.2.1 l := hl
  replace hP : va_P D vwCl (mW ad cy S) H := hP
  replace hD : va_D (mAz z) (mW ad cy S) := hD
  show W p lau e R s m args below meth c H locs k (6 * k) Q (F0 m pc ls (st.map (mV ad)))
  replace h : hh4 M n a b e0 v pc l st S k = some (.inl (g, c1, c2)) := h
  simp only [hh4, stI] at h
  split at h
  all_goals first | (cases h; done) | skip
  rename_i x r hg
  simp only [okX, Bool.and_eq_true, decide_eq_true_eq] at hk
  obtain ⟨ha, hk⟩ := hk
  simp only [nx] at h
  have K := fun ls' hl' => Wt.on (ls := ls') h rfl h1 (mHas.set1 (v := .int x) hg hl') hP hD hS
  split at hk
  · simp only [Bool.and_eq_true, beq_iff_eq, decide_eq_true_eq] at hk
    obtain ⟨rfl, h4⟩ := hk
    exact lv_istore_n hx hb hd (mIx_v h4) hl.lv ha rfl K
  · obtain rfl : n = 2 := by simpa using hk
    exact lv_istore hx hb (by rw [hd]; simp only [insOf]) hl.lv ha rfl K
set_option maxRecDepth 40000 in
theorem st_5 (F : Fr D cy M p s m args meth c) (hd : decode M.2.1 pc = .ok (insOf pc (5, n, a, b, e0, v), n)) (hk : okX M (5, n, a, b, e0, v) ps = true) (h : mx1 M (5, n, a, b, e0, v) pc l st S k = some (.inl (g, c1, c2)))
    (h1 : g = true → Wt p lau e R s m args below meth c Q z D ad cy M c1) : Wt p lau e R s m args below meth c Q z D ad cy M (pc, l, st, S, k) := by
  obtain ⟨hx, hb, hml, hr, hown, hts, hlocks, hexc, hK⟩ := F
  intro H locs ls hl hP hD hS
  replace hl : mHas ad ls M.2.2.1 l := hl
  replace hP : va_P D vwCl (mW ad cy S) H := hP
  replace hD : va_D (mAz z) (mW ad cy S) := hD
  show W p lau e R s m args below meth c H locs k (6 * k) Q (F0 m pc ls (st.map (mV ad)))
  replace h : hh5 M n a b e0 v pc l st S k = some (.inl (g, c1, c2)) := h
  simp only [hh5, stA] at h
  split at h
  all_goals first | (cases h; done) | skip
  rename_i x r hg
  simp only [okX, Bool.and_eq_true, decide_eq_true_eq] at hk
  obtain ⟨ha, hk⟩ := hk
  simp only [nx] at h
  have K := fun ls' hl' => Wt.on (ls := ls') h rfl h1 (mHas.set1 (v := .ref x) hg hl') hP hD hS
  split at hk
  · simp only [Bool.and_eq_true, beq_iff_eq, decide_eq_true_eq] at hk
    obtain ⟨rfl, h4⟩ := hk
    exact lv_astore_n hx hb hd (mIx_v h4) hl.lv ha rfl K
  · obtain rfl : n = 2 := by simpa using hk
    exact lv_astore hx hb (by rw [hd]; simp only [insOf]) hl.lv ha rfl K
set_option maxRecDepth 40000 in
theorem st_6 (F : Fr D cy M p s m args meth c) (hd : decode M.2.1 pc = .ok (insOf pc (6, n, a, b, e0, v), n)) (hk : okX M (6, n, a, b, e0, v) ps = true) (h : mx1 M (6, n, a, b, e0, v) pc l st S k = some (.inl (g, c1, c2)))
    (h1 : g = true → Wt p lau e R s m args below meth c Q z D ad cy M c1) : Wt p lau e R s m args below meth c Q z D ad cy M (pc, l, st, S, k) := by
  obtain ⟨hx, hb, hml, hr, hown, hts, hlocks, hexc, hK⟩ := F
  intro H locs ls hl hP hD hS
  replace hl : mHas ad ls M.2.2.1 l := hl
  replace hP : va_P D vwCl (mW ad cy S) H := hP
  replace hD : va_D (mAz z) (mW ad cy S) := hD
  show W p lau e R s m args below meth c H locs k (6 * k) Q (F0 m pc ls (st.map (mV ad)))
  replace h : hh6 M n a b e0 v pc l st S k = some (.inl (g, c1, c2)) := h
  simp only [hh6, stL] at h
  split at h
  all_goals first | (cases h; done) | skip
  rename_i x r hg
  simp only [okX, Bool.and_eq_true, decide_eq_true_eq] at hk
  obtain ⟨ha, hk⟩ := hk
  simp only [nx] at h
  have K := fun ls' hl' => Wt.on (ls := ls') h rfl h1 (mHas.set2 (v := .long x) hg hl') hP hD hS
  split at hk
  · simp only [Bool.and_eq_true, beq_iff_eq, decide_eq_true_eq] at hk
    obtain ⟨rfl, h4⟩ := hk
    exact lv_lstore_n hx hb hd (mIx_v h4) hl.lv ha rfl K
  · obtain rfl : n = 2 := by simpa using hk
    exact lv_lstore hx hb (by rw [hd]; simp only [insOf]) hl.lv ha rfl K
set_option maxRecDepth 40000 in
theorem st_7 (F : Fr D cy M p s m args meth c) (hd : decode M.2.1 pc = .ok (insOf pc (7, n, a, b, e0, v), n)) (hk : okX M (7, n, a, b, e0, v) ps = true) (h : mx1 M (7, n, a, b, e0, v) pc l st S k = some (.inl (g, c1, c2)))
    (h1 : g = true → Wt p lau e R s m args below meth c Q z D ad cy M c1) : Wt p lau e R s m args below meth c Q z D ad cy M (pc, l, st, S, k) := by
  obtain ⟨hx, hb, hml, hr, hown, hts, hlocks, hexc, hK⟩ := F
  intro H locs ls hl hP hD hS
  replace hl : mHas ad ls M.2.2.1 l := hl
  replace hP : va_P D vwCl (mW ad cy S) H := hP
  replace hD : va_D (mAz z) (mW ad cy S) := hD
  show W p lau e R s m args below meth c H locs k (6 * k) Q (F0 m pc ls (st.map (mV ad)))
  replace h : hh7 M n a b e0 v pc l st S k = some (.inl (g, c1, c2)) := h
  simp only [hh7] at h
  split at h
  all_goals first | (cases h; done) | skip
  rename_i x hg hw
  simp only [okX, Bool.and_eq_true, beq_iff_eq, decide_eq_true_eq] at hk
  obtain ⟨ha, rfl⟩ := hk
  simp only [nx] at h
  have K := fun ls' hl' => Wt.on (ls := ls') h rfl h1 (mHas.set1 (v := .int (x + v)) hg hl') hP hD hS
  obtain ⟨i9, hi9⟩ := List.getElem?_of_mem (mA_mem (ad := ad) (l := l) (q := (a, .int x)) |>.mpr ⟨.int x, hw, (by intro q; cases q), rfl⟩)
  exact lv_iinc (v := x + v) hx hb hd hl.lv hi9 (by rw [Int32.ofInt_toInt]) ha rfl K
set_option maxRecDepth 40000 in
theorem st_8 (F : Fr D cy M p s m args meth c) (hd : decode M.2.1 pc = .ok (insOf pc (8, n, a, b, e0, v), n)) (hk : okX M (8, n, a, b, e0, v) ps = true) (h : mx1 M (8, n, a, b, e0, v) pc l st S k = some (.inl (g, c1, c2)))
    (h1 : g = true → Wt p lau e R s m args below meth c Q z D ad cy M c1) : Wt p lau e R s m args below meth c Q z D ad cy M (pc, l, st, S, k) := by
  obtain ⟨hx, hb, hml, hr, hown, hts, hlocks, hexc, hK⟩ := F
  intro H locs ls hl hP hD hS
  replace hl : mHas ad ls M.2.2.1 l := hl
  replace hP : va_P D vwCl (mW ad cy S) H := hP
  replace hD : va_D (mAz z) (mW ad cy S) := hD
  show W p lau e R s m args below meth c H locs k (6 * k) Q (F0 m pc ls (st.map (mV ad)))
  replace h : hh8 M n a b e0 v pc l st S k = some (.inl (g, c1, c2)) := h
  simp only [hh8] at h
  split at h
  all_goals first | (cases h; done) | skip
  rename_i y x r
  simp only [okX, beq_iff_eq] at hk
  subst hk
  simp only [nx] at h
  have K := Wt.on h rfl h1 hl hP hD hS
  match a, hd, K with
  | 0, hd, K => exact lv_iadd hx hb hd K
  | 1, hd, K => exact lv_isub hx hb hd K
  | 2, hd, K => exact lv_imul hx hb hd K
  | 3, hd, K => exact lv_iand hx hb hd K
  | 4, hd, K => exact lv_ior hx hb hd K
  | 5, hd, K => exact lv_ixor hx hb hd K
  | 6, hd, K => exact lv_ishl hx hb hd K
  | 7, hd, K => exact lv_ishr hx hb hd K
  | a + 8, hd, K => exact lv_iushr hx hb hd rfl K
set_option maxRecDepth 40000 in
theorem st_9 (F : Fr D cy M p s m args meth c) (hd : decode M.2.1 pc = .ok (insOf pc (9, n, a, b, e0, v), n)) (hk : okX M (9, n, a, b, e0, v) ps = true) (h : mx1 M (9, n, a, b, e0, v) pc l st S k = some (.inl (g, c1, c2)))
    (h1 : g = true → Wt p lau e R s m args below meth c Q z D ad cy M c1) (h2 : g = false → ∃ c3, c2 = some c3 ∧ Wt p lau e R s m args below meth c Q z D ad cy M c3) : Wt p lau e R s m args below meth c Q z D ad cy M (pc, l, st, S, k) := by
  obtain ⟨hx, hb, hml, hr, hown, hts, hlocks, hexc, hK⟩ := F
  intro H locs ls hl hP hD hS
  replace hl : mHas ad ls M.2.2.1 l := hl
  replace hP : va_P D vwCl (mW ad cy S) H := hP
  replace hD : va_D (mAz z) (mW ad cy S) := hD
  show W p lau e R s m args below meth c H locs k (6 * k) Q (F0 m pc ls (st.map (mV ad)))
  replace h : hh9 M n a b e0 v pc l st S k = some (.inl (g, c1, c2)) := h
  simp only [hh9] at h
  simp only [okX, beq_iff_eq] at hk
  subst hk
  split at h
  · rename_i y x r
    by_cases hy : y = 0
    · subst hy
      simp [gx] at h
      exact absurd (h2 h.1) (by rintro ⟨c3, q, -⟩; rw [← h.2.2] at q; cases q)
    · have K := Wt.on h (by simpa using hy) h1 hl hP hD hS
      exact lv_idiv hx hb hd hy K
  · rename_i y x r
    by_cases hy : y = 0
    · subst hy
      simp [gx] at h
      exact absurd (h2 h.1) (by rintro ⟨c3, q, -⟩; rw [← h.2.2] at q; cases q)
    · have K := Wt.on h (by simpa using hy) h1 hl hP hD hS
      exact lv_irem hx hb hd hy K
  · cases h
set_option maxRecDepth 40000 in
theorem st_10 (F : Fr D cy M p s m args meth c) (hd : decode M.2.1 pc = .ok (insOf pc (10, n, a, b, e0, v), n)) (hk : okX M (10, n, a, b, e0, v) ps = true) (h : mx1 M (10, n, a, b, e0, v) pc l st S k = some (.inl (g, c1, c2)))
    (h1 : g = true → Wt p lau e R s m args below meth c Q z D ad cy M c1) (h2 : g = false → ∃ c3, c2 = some c3 ∧ Wt p lau e R s m args below meth c Q z D ad cy M c3) : Wt p lau e R s m args below meth c Q z D ad cy M (pc, l, st, S, k) := by
  obtain ⟨hx, hb, hml, hr, hown, hts, hlocks, hexc, hK⟩ := F
  intro H locs ls hl hP hD hS
  replace hl : mHas ad ls M.2.2.1 l := hl
  replace hP : va_P D vwCl (mW ad cy S) H := hP
  replace hD : va_D (mAz z) (mW ad cy S) := hD
  show W p lau e R s m args below meth c H locs k (6 * k) Q (F0 m pc ls (st.map (mV ad)))
  replace h : hh10 M n a b e0 v pc l st S k = some (.inl (g, c1, c2)) := h
  simp only [hh10] at h
  split at h
  all_goals first | (cases h; done) | skip
  rename_i x r
  simp only [okX, beq_iff_eq] at hk
  subst hk
  simp only [Option.some.injEq, Sum.inl.injEq, Prod.mk.injEq] at h
  obtain ⟨hg, rfl, rfl⟩ := h
  have K1 : cnd b x 0 = true → W p lau e R s m args below meth c H locs k (6 * k) Q (F0 m a ls (r.map (mV ad))) := fun q => h1 (hg.symm.trans q) H locs ls (hl.mask _ _) hP hD hS
  have K2 : cnd b x 0 = false → W p lau e R s m args below meth c H locs k (6 * k) Q (F0 m (pc + 3) ls (r.map (mV ad))) := fun q => by
    obtain ⟨c3, e3, h3⟩ := h2 (hg.symm.trans q)
    cases e3
    exact h3 H locs ls (hl.mask _ _) hP hD hS
  have ht : (pc : Int) + ((a : Int) - (pc : Int)) = (a : Int) := by omega
  match b, hd, K1, K2 with
  | 0, hd, K1, K2 => exact lv_if_eq hx hb hd ht (fun q => K1 (decide_eq_true q)) (fun q => K2 (decide_eq_false q))
  | 1, hd, K1, K2 => exact lv_if_ne hx hb hd ht (fun q => K1 (decide_eq_true q)) (fun q => K2 (decide_eq_false (fun r => r q)))
  | 2, hd, K1, K2 => exact lv_if_lt hx hb hd ht (fun q => K1 (decide_eq_true q)) (fun q => K2 (decide_eq_false q))
  | 3, hd, K1, K2 => exact lv_if_ge hx hb hd ht (fun q => K1 (decide_eq_true q)) (fun q => K2 (decide_eq_false q))
  | 4, hd, K1, K2 => exact lv_if_gt hx hb hd ht (fun q => K1 (decide_eq_true q)) (fun q => K2 (decide_eq_false q))
  | b + 5, hd, K1, K2 => exact lv_if_le hx hb hd ht (fun q => K1 (decide_eq_true q)) (fun q => K2 (decide_eq_false q))
set_option maxRecDepth 40000 in
theorem st_11 (F : Fr D cy M p s m args meth c) (hd : decode M.2.1 pc = .ok (insOf pc (11, n, a, b, e0, v), n)) (hk : okX M (11, n, a, b, e0, v) ps = true) (h : mx1 M (11, n, a, b, e0, v) pc l st S k = some (.inl (g, c1, c2)))
    (h1 : g = true → Wt p lau e R s m args below meth c Q z D ad cy M c1) (h2 : g = false → ∃ c3, c2 = some c3 ∧ Wt p lau e R s m args below meth c Q z D ad cy M c3) : Wt p lau e R s m args below meth c Q z D ad cy M (pc, l, st, S, k) := by
  obtain ⟨hx, hb, hml, hr, hown, hts, hlocks, hexc, hK⟩ := F
  intro H locs ls hl hP hD hS
  replace hl : mHas ad ls M.2.2.1 l := hl
  replace hP : va_P D vwCl (mW ad cy S) H := hP
  replace hD : va_D (mAz z) (mW ad cy S) := hD
  show W p lau e R s m args below meth c H locs k (6 * k) Q (F0 m pc ls (st.map (mV ad)))
  replace h : hh11 M n a b e0 v pc l st S k = some (.inl (g, c1, c2)) := h
  simp only [hh11] at h
  split at h
  all_goals first | (cases h; done) | skip
  rename_i y x r
  simp only [okX, beq_iff_eq] at hk
  subst hk
  simp only [Option.some.injEq, Sum.inl.injEq, Prod.mk.injEq] at h
  obtain ⟨hg, rfl, rfl⟩ := h
  have K1 : cnd b x y = true → W p lau e R s m args below meth c H locs k (6 * k) Q (F0 m a ls (r.map (mV ad))) := fun q => h1 (hg.symm.trans q) H locs ls (hl.mask _ _) hP hD hS
  have K2 : cnd b x y = false → W p lau e R s m args below meth c H locs k (6 * k) Q (F0 m (pc + 3) ls (r.map (mV ad))) := fun q => by
    obtain ⟨c3, e3, h3⟩ := h2 (hg.symm.trans q)
    cases e3
    exact h3 H locs ls (hl.mask _ _) hP hD hS
  have ht : (pc : Int) + ((a : Int) - (pc : Int)) = (a : Int) := by omega
  match b, hd, K1, K2 with
  | 0, hd, K1, K2 => exact lv_icmp_eq hx hb hd ht (fun q => K1 (decide_eq_true q)) (fun q => K2 (decide_eq_false q))
  | 1, hd, K1, K2 => exact lv_icmp_ne hx hb hd ht (fun q => K1 (decide_eq_true q)) (fun q => K2 (decide_eq_false (fun r => r q)))
  | 2, hd, K1, K2 => exact lv_icmp_lt hx hb hd ht (fun q => K1 (decide_eq_true q)) (fun q => K2 (decide_eq_false q))
  | 3, hd, K1, K2 => exact lv_icmp_ge hx hb hd ht (fun q => K1 (decide_eq_true q)) (fun q => K2 (decide_eq_false q))
  | 4, hd, K1, K2 => exact lv_icmp_gt hx hb hd ht (fun q => K1 (decide_eq_true q)) (fun q => K2 (decide_eq_false q))
  | b + 5, hd, K1, K2 => exact lv_icmp_le hx hb hd ht (fun q => K1 (decide_eq_true q)) (fun q => K2 (decide_eq_false q))
set_option maxRecDepth 40000 in
theorem st_12 (F : Fr D cy M p s m args meth c) (hd : decode M.2.1 pc = .ok (insOf pc (12, n, a, b, e0, v), n)) (hk : okX M (12, n, a, b, e0, v) ps = true) (h : mx1 M (12, n, a, b, e0, v) pc l st S k = some (.inl (g, c1, c2)))
    (h1 : g = true → Wt p lau e R s m args below meth c Q z D ad cy M c1) : Wt p lau e R s m args below meth c Q z D ad cy M (pc, l, st, S, k) := by
  obtain ⟨hx, hb, hml, hr, hown, hts, hlocks, hexc, hK⟩ := F
  intro H locs ls hl hP hD hS
  replace hl : mHas ad ls M.2.2.1 l := hl
  replace hP : va_P D vwCl (mW ad cy S) H := hP
  replace hD : va_D (mAz z) (mW ad cy S) := hD
  show W p lau e R s m args below meth c H locs k (6 * k) Q (F0 m pc ls (st.map (mV ad)))
  replace h : hh12 M n a b e0 v pc l st S k = some (.inl (g, c1, c2)) := h
  simp only [hh12, nx] at h
  simp only [okX, beq_iff_eq] at hk
  subst hk
  have K := Wt.on h rfl h1 hl hP hD hS
  exact lv_goto hx hb hd (by omega) K
set_option maxRecDepth 40000 in
theorem st_20 (F : Fr D cy M p s m args meth c) (hd : decode M.2.1 pc = .ok (insOf pc (20, n, a, b, e0, v), n)) (hk : okX M (20, n, a, b, e0, v) ps = true) (h : mx1 M (20, n, a, b, e0, v) pc l st S k = some (.inl (g, c1, c2)))
    (h1 : g = true → Wt p lau e R s m args below meth c Q z D ad cy M c1) : Wt p lau e R s m args below meth c Q z D ad cy M (pc, l, st, S, k) := by
  obtain ⟨hx, hb, hml, hr, hown, hts, hlocks, hexc, hK⟩ := F
  intro H locs ls hl hP hD hS
  replace hl : mHas ad ls M.2.2.1 l := hl
  replace hP : va_P D vwCl (mW ad cy S) H := hP
  replace hD : va_D (mAz z) (mW ad cy S) := hD
  show W p lau e R s m args below meth c H locs k (6 * k) Q (F0 m pc ls (st.map (mV ad)))
  replace h : hh20 M n a b e0 v pc l st S k = some (.inl (g, c1, c2)) := h
  simp only [hh20] at h
  simp only [okX, beq_iff_eq] at hk
  subst hk
  split at h
  · simp only [nx] at h
    have K := Wt.on h rfl h1 hl hP hD hS
    exact lv_dup hx hb hd rfl K
  · simp only [nx] at h
    have K := Wt.on h rfl h1 hl hP hD hS
    exact lv_dup hx hb hd rfl K
  · cases h
set_option maxRecDepth 40000 in
theorem st_21 (F : Fr D cy M p s m args meth c) (hd : decode M.2.1 pc = .ok (insOf pc (21, n, a, b, e0, v), n)) (hk : okX M (21, n, a, b, e0, v) ps = true) (h : mx1 M (21, n, a, b, e0, v) pc l st S k = some (.inl (g, c1, c2)))
    (h1 : g = true → Wt p lau e R s m args below meth c Q z D ad cy M c1) : Wt p lau e R s m args below meth c Q z D ad cy M (pc, l, st, S, k) := by
  obtain ⟨hx, hb, hml, hr, hown, hts, hlocks, hexc, hK⟩ := F
  intro H locs ls hl hP hD hS
  replace hl : mHas ad ls M.2.2.1 l := hl
  replace hP : va_P D vwCl (mW ad cy S) H := hP
  replace hD : va_D (mAz z) (mW ad cy S) := hD
  show W p lau e R s m args below meth c H locs k (6 * k) Q (F0 m pc ls (st.map (mV ad)))
  replace h : hh21 M n a b e0 v pc l st S k = some (.inl (g, c1, c2)) := h
  simp only [hh21] at h
  simp only [okX, beq_iff_eq] at hk
  subst hk
  split at h
  · simp only [nx] at h
    have K := Wt.on h rfl h1 hl hP hD hS
    exact lv_dup2_11 hx hb hd rfl rfl K
  · cases h
set_option maxRecDepth 40000 in
theorem st_22 (F : Fr D cy M p s m args meth c) (hd : decode M.2.1 pc = .ok (insOf pc (22, n, a, b, e0, v), n)) (hk : okX M (22, n, a, b, e0, v) ps = true) (h : mx1 M (22, n, a, b, e0, v) pc l st S k = some (.inl (g, c1, c2)))
    (h1 : g = true → Wt p lau e R s m args below meth c Q z D ad cy M c1) : Wt p lau e R s m args below meth c Q z D ad cy M (pc, l, st, S, k) := by
  obtain ⟨hx, hb, hml, hr, hown, hts, hlocks, hexc, hK⟩ := F
  intro H locs ls hl hP hD hS
  replace hl : mHas ad ls M.2.2.1 l := hl
  replace hP : va_P D vwCl (mW ad cy S) H := hP
  replace hD : va_D (mAz z) (mW ad cy S) := hD
  show W p lau e R s m args below meth c H locs k (6 * k) Q (F0 m pc ls (st.map (mV ad)))
  replace h : hh22 M n a b e0 v pc l st S k = some (.inl (g, c1, c2)) := h
  simp only [hh22] at h
  simp only [okX, beq_iff_eq] at hk
  subst hk
  split at h
  · simp only [nx] at h
    have K := Wt.on h rfl h1 hl hP hD hS
    exact lv_pop hx hb hd rfl K
  · simp only [nx] at h
    have K := Wt.on h rfl h1 hl hP hD hS
    exact lv_pop hx hb hd rfl K
  · cases h
set_option maxRecDepth 40000 in
theorem st_26 (F : Fr D cy M p s m args meth c) (hd : decode M.2.1 pc = .ok (insOf pc (26, n, a, b, e0, v), n)) (hk : okX M (26, n, a, b, e0, v) ps = true) (h : mx1 M (26, n, a, b, e0, v) pc l st S k = some (.inl (g, c1, c2)))
    (h1 : g = true → Wt p lau e R s m args below meth c Q z D ad cy M c1) : Wt p lau e R s m args below meth c Q z D ad cy M (pc, l, st, S, k) := by
  obtain ⟨hx, hb, hml, hr, hown, hts, hlocks, hexc, hK⟩ := F
  intro H locs ls hl hP hD hS
  replace hl : mHas ad ls M.2.2.1 l := hl
  replace hP : va_P D vwCl (mW ad cy S) H := hP
  replace hD : va_D (mAz z) (mW ad cy S) := hD
  show W p lau e R s m args below meth c H locs k (6 * k) Q (F0 m pc ls (st.map (mV ad)))
  replace h : hh26 M n a b e0 v pc l st S k = some (.inl (g, c1, c2)) := h
  simp only [hh26, nx] at h
  simp only [okX, beq_iff_eq] at hk
  subst hk
  have K := Wt.on h rfl h1 hl hP hD hS
  exact lv_null hx hb hd K
set_option maxRecDepth 40000 in
theorem st_27 (F : Fr D cy M p s m args meth c) (hd : decode M.2.1 pc = .ok (insOf pc (27, n, a, b, e0, v), n)) (hk : okX M (27, n, a, b, e0, v) ps = true) (h : mx1 M (27, n, a, b, e0, v) pc l st S k = some (.inl (g, c1, c2)))
    (h1 : g = true → Wt p lau e R s m args below meth c Q z D ad cy M c1) : Wt p lau e R s m args below meth c Q z D ad cy M (pc, l, st, S, k) := by
  obtain ⟨hx, hb, hml, hr, hown, hts, hlocks, hexc, hK⟩ := F
  intro H locs ls hl hP hD hS
  replace hl : mHas ad ls M.2.2.1 l := hl
  replace hP : va_P D vwCl (mW ad cy S) H := hP
  replace hD : va_D (mAz z) (mW ad cy S) := hD
  show W p lau e R s m args below meth c H locs k (6 * k) Q (F0 m pc ls (st.map (mV ad)))
  replace h : hh27 M n a b e0 v pc l st S k = some (.inl (g, c1, c2)) := h
  simp only [hh27] at h
  simp only [okX, beq_iff_eq] at hk
  subst hk
  split at h
  · simp only [nx] at h
    have K := Wt.on h rfl h1 hl hP hD hS
    exact lv_ifnull hx hb hd K
  · simp only [nx] at h
    have K := Wt.on h rfl h1 hl hP hD hS
    exact lv_ifnullN hx hb hd (by omega) K
  · simp only [nx] at h
    have K := Wt.on h rfl h1 hl hP hD hS
    exact lv_ifnonnull hx hb hd (by omega) K
  · simp only [nx] at h
    have K := Wt.on h rfl h1 hl hP hD hS
    exact lv_ifnonnullN hx hb hd K
  · cases h
set_option maxRecDepth 40000 in
theorem st_36 (F : Fr D cy M p s m args meth c) (hd : decode M.2.1 pc = .ok (insOf pc (36, n, a, b, e0, v), n)) (hk : okX M (36, n, a, b, e0, v) ps = true) (h : mx1 M (36, n, a, b, e0, v) pc l st S k = some (.inl (g, c1, c2)))
    (h1 : g = true → Wt p lau e R s m args below meth c Q z D ad cy M c1) : Wt p lau e R s m args below meth c Q z D ad cy M (pc, l, st, S, k) := by
  obtain ⟨hx, hb, hml, hr, hown, hts, hlocks, hexc, hK⟩ := F
  intro H locs ls hl hP hD hS
  replace hl : mHas ad ls M.2.2.1 l := hl
  replace hP : va_P D vwCl (mW ad cy S) H := hP
  replace hD : va_D (mAz z) (mW ad cy S) := hD
  show W p lau e R s m args below meth c H locs k (6 * k) Q (F0 m pc ls (st.map (mV ad)))
  replace h : hh36 M n a b e0 v pc l st S k = some (.inl (g, c1, c2)) := h
  simp only [hh36] at h
  simp only [okX, beq_iff_eq] at hk
  subst hk
  split at h
  · simp only [nx] at h
    have K := Wt.on h rfl h1 hl hP hD hS
    exact lv_i2b hx hb hd rfl K
  · cases h
set_option maxRecDepth 40000 in
theorem st_37 (F : Fr D cy M p s m args meth c) (hd : decode M.2.1 pc = .ok (insOf pc (37, n, a, b, e0, v), n)) (hk : okX M (37, n, a, b, e0, v) ps = true) (h : mx1 M (37, n, a, b, e0, v) pc l st S k = some (.inl (g, c1, c2)))
    (h1 : g = true → Wt p lau e R s m args below meth c Q z D ad cy M c1) : Wt p lau e R s m args below meth c Q z D ad cy M (pc, l, st, S, k) := by
  obtain ⟨hx, hb, hml, hr, hown, hts, hlocks, hexc, hK⟩ := F
  intro H locs ls hl hP hD hS
  replace hl : mHas ad ls M.2.2.1 l := hl
  replace hP : va_P D vwCl (mW ad cy S) H := hP
  replace hD : va_D (mAz z) (mW ad cy S) := hD
  show W p lau e R s m args below meth c H locs k (6 * k) Q (F0 m pc ls (st.map (mV ad)))
  replace h : hh37 M n a b e0 v pc l st S k = some (.inl (g, c1, c2)) := h
  simp only [hh37] at h
  simp only [okX, beq_iff_eq] at hk
  subst hk
  split at h
  · simp only [nx] at h
    have K := Wt.on h rfl h1 hl hP hD hS
    exact lv_i2l hx hb hd rfl K
  · cases h
set_option maxRecDepth 40000 in
theorem st_38 (F : Fr D cy M p s m args meth c) (hd : decode M.2.1 pc = .ok (insOf pc (38, n, a, b, e0, v), n)) (hk : okX M (38, n, a, b, e0, v) ps = true) (h : mx1 M (38, n, a, b, e0, v) pc l st S k = some (.inl (g, c1, c2)))
    (h1 : g = true → Wt p lau e R s m args below meth c Q z D ad cy M c1) : Wt p lau e R s m args below meth c Q z D ad cy M (pc, l, st, S, k) := by
  obtain ⟨hx, hb, hml, hr, hown, hts, hlocks, hexc, hK⟩ := F
  intro H locs ls hl hP hD hS
  replace hl : mHas ad ls M.2.2.1 l := hl
  replace hP : va_P D vwCl (mW ad cy S) H := hP
  replace hD : va_D (mAz z) (mW ad cy S) := hD
  show W p lau e R s m args below meth c H locs k (6 * k) Q (F0 m pc ls (st.map (mV ad)))
  replace h : hh38 M n a b e0 v pc l st S k = some (.inl (g, c1, c2)) := h
  simp only [hh38] at h
  simp only [okX, beq_iff_eq] at hk
  subst hk
  split at h
  · simp only [nx] at h
    have K := Wt.on h rfl h1 hl hP hD hS
    exact lv_ladd hx hb hd K
  · simp only [nx] at h
    have K := Wt.on h rfl h1 hl hP hD hS
    exact lv_lsub hx hb hd K
  · cases h
set_option maxRecDepth 40000 in
theorem st_39 (F : Fr D cy M p s m args meth c) (hd : decode M.2.1 pc = .ok (insOf pc (39, n, a, b, e0, v), n)) (hk : okX M (39, n, a, b, e0, v) ps = true) (h : mx1 M (39, n, a, b, e0, v) pc l st S k = some (.inl (g, c1, c2)))
    (h1 : g = true → Wt p lau e R s m args below meth c Q z D ad cy M c1) : Wt p lau e R s m args below meth c Q z D ad cy M (pc, l, st, S, k) := by
  obtain ⟨hx, hb, hml, hr, hown, hts, hlocks, hexc, hK⟩ := F
  intro H locs ls hl hP hD hS
  replace hl : mHas ad ls M.2.2.1 l := hl
  replace hP : va_P D vwCl (mW ad cy S) H := hP
  replace hD : va_D (mAz z) (mW ad cy S) := hD
  show W p lau e R s m args below meth c H locs k (6 * k) Q (F0 m pc ls (st.map (mV ad)))
  replace h : hh39 M n a b e0 v pc l st S k = some (.inl (g, c1, c2)) := h
  simp only [hh39] at h
  simp only [okX, beq_iff_eq] at hk
  subst hk
  split at h
  · simp only [nx] at h
    have K := Wt.on h rfl h1 hl hP hD hS
    exact lv_lneg hx hb hd K
  · cases h
set_option maxRecDepth 40000 in
theorem st_40 (F : Fr D cy M p s m args meth c) (hd : decode M.2.1 pc = .ok (insOf pc (40, n, a, b, e0, v), n)) (hk : okX M (40, n, a, b, e0, v) ps = true) (h : mx1 M (40, n, a, b, e0, v) pc l st S k = some (.inl (g, c1, c2)))
    (h1 : g = true → Wt p lau e R s m args below meth c Q z D ad cy M c1) : Wt p lau e R s m args below meth c Q z D ad cy M (pc, l, st, S, k) := by
  obtain ⟨hx, hb, hml, hr, hown, hts, hlocks, hexc, hK⟩ := F
  intro H locs ls hl hP hD hS
  replace hl : mHas ad ls M.2.2.1 l := hl
  replace hP : va_P D vwCl (mW ad cy S) H := hP
  replace hD : va_D (mAz z) (mW ad cy S) := hD
  show W p lau e R s m args below meth c H locs k (6 * k) Q (F0 m pc ls (st.map (mV ad)))
  replace h : hh40 M n a b e0 v pc l st S k = some (.inl (g, c1, c2)) := h
  simp only [hh40] at h
  simp only [okX, beq_iff_eq] at hk
  subst hk
  split at h
  · simp only [nx] at h
    have K := Wt.on h rfl h1 hl hP hD hS
    exact W.lcmp hx hb hd K
  · cases h
set_option maxRecDepth 40000 in
theorem st_42 (F : Fr D cy M p s m args meth c) (hd : decode M.2.1 pc = .ok (insOf pc (42, n, a, b, e0, v), n)) (hk : okX M (42, n, a, b, e0, v) ps = true) (h : mx1 M (42, n, a, b, e0, v) pc l st S k = some (.inl (g, c1, c2)))
    (h1 : g = true → Wt p lau e R s m args below meth c Q z D ad cy M c1) : Wt p lau e R s m args below meth c Q z D ad cy M (pc, l, st, S, k) := by
  obtain ⟨hx, hb, hml, hr, hown, hts, hlocks, hexc, hK⟩ := F
  intro H locs ls hl hP hD hS
  replace hl : mHas ad ls M.2.2.1 l := hl
  replace hP : va_P D vwCl (mW ad cy S) H := hP
  replace hD : va_D (mAz z) (mW ad cy S) := hD
  show W p lau e R s m args below meth c H locs k (6 * k) Q (F0 m pc ls (st.map (mV ad)))
  replace h : hh42 M n a b e0 v pc l st S k = some (.inl (g, c1, c2)) := h
  simp only [hh42, nx] at h
  have K := Wt.on h rfl h1 hl hP hD hS
  simp only [okX, Bool.and_eq_true] at hk
  obtain ⟨hk, hm⟩ := hk
  have hw := hts _ (mIp_mem hm)
  split at hk
  · obtain rfl : n = 2 := by simpa using hk
    exact lv_ldc hx hb hown hw hd K
  · obtain rfl : n = 3 := by simpa using hk
    exact lv_ldcw hx hb hown hw (by rw [hd]; simp only [insOf]) K
set_option maxRecDepth 40000 in
theorem st_13 (F : Fr D cy M p s m args meth c) (hd : decode M.2.1 pc = .ok (insOf pc (13, n, a, b, e0, v), n)) (hk : okX M (13, n, a, b, e0, v) ps = true) (h : mx1 M (13, n, a, b, e0, v) pc l st S k = some (.inl (g, c1, c2)))
    (h1 : g = true → Wt p lau e R s m args below meth c Q z D ad cy M c1) : Wt p lau e R s m args below meth c Q z D ad cy M (pc, l, st, S, k) := by
  obtain ⟨hx, hb, hml, hr, hown, hts, hlocks, hexc, hK⟩ := F
  intro H locs ls hl hP hD hS
  replace hl : mHas ad ls M.2.2.1 l := hl
  replace hP : va_P D vwCl (mW ad cy S) H := hP
  replace hD : va_D (mAz z) (mW ad cy S) := hD
  show W p lau e R s m args below meth c H locs k (6 * k) Q (F0 m pc ls (st.map (mV ad)))
  replace h : hh13 M n a b e0 v pc l st S k = some (.inl (g, c1, c2)) := h
  simp only [hh13, gf] at h
  simp only [okX, Bool.and_eq_true, beq_iff_eq] at hk
  obtain ⟨rfl, hf⟩ := hk
  obtain ⟨⟨C, T, N⟩, ref, hq, ha, hlink, hsame⟩ := fOK_spec hf
  split at h
  all_goals first | (cases h; done) | skip
  rename_i i r
  split at h
  all_goals first | (cases h; done) | skip
  rename_i ci fs hsh
  have hg := mW_get (ad := ad) (cy := cy) (S := S) (shO_of hsh (by decide : (0 : Nat) ≠ 9))
  split at h
  all_goals first | (cases h; done) | skip
  · rename_i j hcb hfa
    obtain rfl : ci = b := by simpa using hcb
    simp only [nx] at h
    have K := Wt.on h rfl h1 hl hP hD hS
    exact va_get (C := C) (T := T) (N := N) (ref := ref) hx hb hts (vw_in hq) hown hK hP i hg hq a ha (hts _ hlink) (hsame args s hts) (v := .ref (ad j)) (by rw [List.getElem?_mapIdx, hfa]; rfl) hd K
  · rename_i hcb hfa
    obtain rfl : ci = b := by simpa using hcb
    simp only [nx] at h
    have K := Wt.on h rfl h1 hl hP hD hS
    exact va_get (C := C) (T := T) (N := N) (ref := ref) hx hb hts (vw_in hq) hown hK hP i hg hq a ha (hts _ hlink) (hsame args s hts) (v := .int (S i a)) (by rw [List.getElem?_mapIdx, hfa]; rfl) hd K
theorem mE_put {ad : Nat → Nat} {cy : Nat → ClassId} {S : mS} {i ci a : Nat} {fs : List (Option Nat)} {x : Int32} (h : fs[a]? = some none) :
    (Sum.inr (ci, (fs.mapIdx (fun k f => match f with | some j => Value.ref (ad j) | none => .int (S i k))).set a (.int x)) : va_E) = mE ad cy (upS S i a x) i (0, ci, fs) := by
  have e : upS S i a x i = upd (S i) a x := by simp [upS, seS]
  show _ = Sum.inr (ci, fs.mapIdx (fun k f => match f with | some j => Value.ref (ad j) | none => .int (upS S i a x i k)))
  rw [e]
  refine congrArg (fun y => Sum.inr (ci, y)) ?_
  apply List.ext_getElem?
  intro j
  rw [List.getElem?_set, List.getElem?_mapIdx]
  by_cases hj : a = j
  · subst hj
    have hlt : a < fs.length := (List.getElem?_eq_some_iff.mp h).1
    rw [if_pos rfl, if_pos (by rw [List.length_mapIdx]; exact hlt), List.getElem?_mapIdx, h]
    show some (Value.int x) = some (Value.int (upd (S i) a x a))
    rw [pk_us]
  · rw [if_neg hj, List.getElem?_mapIdx]
    cases hf : fs[j]? with
    | none => rw [Option.map_none, Option.map_none]
    | some f =>
      rw [Option.map_some, Option.map_some]
      cases f with
      | some q => rfl
      | none =>
        show some (Value.int (S i j)) = some (Value.int (upd (S i) a x j))
        rw [pk_un (Ne.symm hj)]
set_option maxRecDepth 40000 in
theorem st_14 (F : Fr D cy M p s m args meth c) (hd : decode M.2.1 pc = .ok (insOf pc (14, n, a, b, e0, v), n)) (hk : okX M (14, n, a, b, e0, v) ps = true) (h : mx1 M (14, n, a, b, e0, v) pc l st S k = some (.inl (g, c1, c2)))
    (h1 : g = true → Wt p lau e R s m args below meth c Q z D ad cy M c1) (h2 : g = false → ∃ c3, c2 = some c3 ∧ Wt p lau e R s m args below meth c Q z D ad cy M c3) : Wt p lau e R s m args below meth c Q z D ad cy M (pc, l, st, S, k) := by
  obtain ⟨hx, hb, hml, hr, hown, hts, hlocks, hexc, hK⟩ := F
  intro H locs ls hl hP hD hS
  replace hl : mHas ad ls M.2.2.1 l := hl
  replace hP : va_P D vwCl (mW ad cy S) H := hP
  replace hD : va_D (mAz z) (mW ad cy S) := hD
  show W p lau e R s m args below meth c H locs k (6 * k) Q (F0 m pc ls (st.map (mV ad)))
  replace h : hh14 M n a b e0 v pc l st S k = some (.inl (g, c1, c2)) := h
  simp only [hh14, pf] at h
  simp only [okX, Bool.and_eq_true, beq_iff_eq] at hk
  obtain ⟨⟨rfl, hf⟩, hpo⟩ := hk
  obtain ⟨⟨C, T, N⟩, ref, hq, ha, hlink, hsame⟩ := fOK_spec hf
  simp only [pOK, hq, Bool.and_eq_true, Bool.not_eq_true'] at hpo
  obtain ⟨hfin, hty⟩ := hpo
  obtain ⟨⟨ty0, ht0⟩, hnm⟩ := vw_ty hq
  split at h
  all_goals first | (cases h; done) | skip
  rename_i x i r
  split at h
  all_goals first | (cases h; done) | skip
  rename_i ci fs hsh
  have hsi := shO_of hsh (by decide : (0 : Nat) ≠ 9)
  have hg := mW_get (ad := ad) (cy := cy) (S := S) hsi
  split at h
  all_goals first | (cases h; done) | skip
  · rename_i hcb hfa hv
    obtain rfl : ci = b := by simpa using hcb
    simp only [nx] at h
    rw [hv] at hty
    have hty : parseFieldDescriptor (T a).2.2.1 = some .int := by simpa using hty
    have hlt : a < fs.length := (List.getElem?_eq_some_iff.mp hfa).1
    refine va_put (C := C) (T := T) (N := N) (ref := ref) hx hb hts (vw_in hq) ty0 ht0 hnm hown hK hP hD hS i hg hq a ha (hts _ hlink) (hsame args s hts) hfin (v := .int x) hty rfl rfl (by rw [List.length_mapIdx]; exact hlt) hd ?_
    intro H1 locs1 hP1 hD1 hS1
    have e : (mW ad cy S).set i (ad i, Sum.inr (ci, (fs.mapIdx (fun k f => match f with | some j => Value.ref (ad j) | none => .int (S i k))).set a (.int x))) = mW ad cy (upS S i a x) := by
      rw [mE_put (cy := cy) hfa]
      exact mW_set hsi
    have hP2 : va_P D vwCl (mW ad cy (upS S i a x)) H1 := by rw [← e]; exact hP1
    have hD2 : va_D (mAz z) (mW ad cy (upS S i a x)) := by rw [← e]; exact hD1
    exact Wt.on h rfl h1 hl hP2 hD2 hS1
  · rename_i hcb hfa hv
    obtain rfl : ci = b := by simpa using hcb
    rw [hv] at hty
    have hty : parseFieldDescriptor (T a).2.2.1 = some .boolean := by simpa using hty
    have hlt : a < fs.length := (List.getElem?_eq_some_iff.mp hfa).1
    by_cases hx1 : x = 1
    · subst hx1
      refine va_put (C := C) (T := T) (N := N) (ref := ref) hx hb hts (vw_in hq) ty0 ht0 hnm hown hK hP hD hS i hg hq a ha (hts _ hlink) (hsame args s hts) hfin (v := .int 1) hty (by decide +kernel) (by decide +kernel) (by rw [List.length_mapIdx]; exact hlt) hd ?_
      intro H1 locs1 hP1 hD1 hS1
      have e : (mW ad cy S).set i (ad i, Sum.inr (ci, (fs.mapIdx (fun k f => match f with | some j => Value.ref (ad j) | none => .int (S i k))).set a (.int 1))) = mW ad cy (upS S i a 1) := by
        rw [mE_put (cy := cy) hfa]
        exact mW_set hsi
      have hP2 : va_P D vwCl (mW ad cy (upS S i a 1)) H1 := by rw [← e]; exact hP1
      have hD2 : va_D (mAz z) (mW ad cy (upS S i a 1)) := by rw [← e]; exact hD1
      exact Wt.on h (by decide) h1 hl hP2 hD2 hS1
    · exact (gx_bad h (decide_eq_false hx1) h2).elim
theorem inb_in {i : Int32} {n : Nat} (h : inb i n = true) : vp_in i n := by simpa [inb, vp_in] using h
theorem mE_arr {ad : Nat → Nat} {cy : Nat → ClassId} {S : mS} {i n j : Nat} {r : List (Option Nat)} {x : Int32} : (Sum.inl (cy 0, n, .inl (upd (S i) j x)) : va_E) = mE ad cy (upS S i j x) i (1, n, r) := by
  have e : upS S i j x i = upd (S i) j x := by simp [upS, seS]
  show _ = Sum.inl (cy 0, n, Sum.inl (upS S i j x i))
  rw [e]
theorem mE_arrB {ad : Nat → Nat} {cy : Nat → ClassId} {S : mS} {i n j : Nat} {r : List (Option Nat)} {x : Int32} : (Sum.inl (cy 1, n, .inl (upd (S i) j x)) : va_E) = mE ad cy (upS S i j x) i (2, n, r) := by
  have e : upS S i j x i = upd (S i) j x := by simp [upS, seS]
  show _ = Sum.inl (cy 1, n, Sum.inl (upS S i j x i))
  rw [e]
set_option maxRecDepth 40000 in
theorem st_15 (F : Fr D cy M p s m args meth c) (hd : decode M.2.1 pc = .ok (insOf pc (15, n, a, b, e0, v), n)) (hk : okX M (15, n, a, b, e0, v) ps = true) (h : mx1 M (15, n, a, b, e0, v) pc l st S k = some (.inl (g, c1, c2)))
    (h1 : g = true → Wt p lau e R s m args below meth c Q z D ad cy M c1) (h2 : g = false → ∃ c3, c2 = some c3 ∧ Wt p lau e R s m args below meth c Q z D ad cy M c3) : Wt p lau e R s m args below meth c Q z D ad cy M (pc, l, st, S, k) := by
  obtain ⟨hx, hb, hml, hr, hown, hts, hlocks, hexc, hK⟩ := F
  intro H locs ls hl hP hD hS
  replace hl : mHas ad ls M.2.2.1 l := hl
  replace hP : va_P D vwCl (mW ad cy S) H := hP
  replace hD : va_D (mAz z) (mW ad cy S) := hD
  show W p lau e R s m args below meth c H locs k (6 * k) Q (F0 m pc ls (st.map (mV ad)))
  replace h : hh15 M n a b e0 v pc l st S k = some (.inl (g, c1, c2)) := h
  simp only [hh15, alI] at h
  simp only [okX, beq_iff_eq] at hk
  subst hk
  split at h
  all_goals first | (cases h; done) | skip
  rename_i i a r
  split at h
  all_goals first | (cases h; done) | skip
  rename_i n x hsh
  have hsi := shO_of hsh (by decide : (1 : Nat) ≠ 9)
  have hg := mW_get (ad := ad) (cy := cy) (S := S) hsi
  cases hin : inb i n with
  | false => exact (gx_bad h hin h2).elim
  | true =>
    have K := Wt.on h hin h1 hl hP hD hS
    exact va_iald hx hb hK hP a 0 hg rfl (inb_in hin) hd K
set_option maxRecDepth 40000 in
theorem st_17 (F : Fr D cy M p s m args meth c) (hd : decode M.2.1 pc = .ok (insOf pc (17, n, a, b, e0, v), n)) (hk : okX M (17, n, a, b, e0, v) ps = true) (h : mx1 M (17, n, a, b, e0, v) pc l st S k = some (.inl (g, c1, c2)))
    (h1 : g = true → Wt p lau e R s m args below meth c Q z D ad cy M c1) (h2 : g = false → ∃ c3, c2 = some c3 ∧ Wt p lau e R s m args below meth c Q z D ad cy M c3) : Wt p lau e R s m args below meth c Q z D ad cy M (pc, l, st, S, k) := by
  obtain ⟨hx, hb, hml, hr, hown, hts, hlocks, hexc, hK⟩ := F
  intro H locs ls hl hP hD hS
  replace hl : mHas ad ls M.2.2.1 l := hl
  replace hP : va_P D vwCl (mW ad cy S) H := hP
  replace hD : va_D (mAz z) (mW ad cy S) := hD
  show W p lau e R s m args below meth c H locs k (6 * k) Q (F0 m pc ls (st.map (mV ad)))
  replace h : hh17 M n a b e0 v pc l st S k = some (.inl (g, c1, c2)) := h
  simp only [hh17, alB] at h
  simp only [okX, beq_iff_eq] at hk
  subst hk
  split at h
  all_goals first | (cases h; done) | skip
  rename_i i a r
  split at h
  all_goals first | (cases h; done) | skip
  rename_i n x hsh
  have hsi := shO_of hsh (by decide : (2 : Nat) ≠ 9)
  have hg := mW_get (ad := ad) (cy := cy) (S := S) hsi
  cases hin : inb i n with
  | false => exact (gx_bad h hin h2).elim
  | true =>
    have K := Wt.on h hin h1 hl hP hD hS
    exact va_bald hx hb hK hP a 1 hg rfl (inb_in hin) hd K
set_option maxRecDepth 40000 in
theorem st_16 (F : Fr D cy M p s m args meth c) (hd : decode M.2.1 pc = .ok (insOf pc (16, n, a, b, e0, v), n)) (hk : okX M (16, n, a, b, e0, v) ps = true) (h : mx1 M (16, n, a, b, e0, v) pc l st S k = some (.inl (g, c1, c2)))
    (h1 : g = true → Wt p lau e R s m args below meth c Q z D ad cy M c1) (h2 : g = false → ∃ c3, c2 = some c3 ∧ Wt p lau e R s m args below meth c Q z D ad cy M c3) : Wt p lau e R s m args below meth c Q z D ad cy M (pc, l, st, S, k) := by
  obtain ⟨hx, hb, hml, hr, hown, hts, hlocks, hexc, hK⟩ := F
  intro H locs ls hl hP hD hS
  replace hl : mHas ad ls M.2.2.1 l := hl
  replace hP : va_P D vwCl (mW ad cy S) H := hP
  replace hD : va_D (mAz z) (mW ad cy S) := hD
  show W p lau e R s m args below meth c H locs k (6 * k) Q (F0 m pc ls (st.map (mV ad)))
  replace h : hh16 M n a b e0 v pc l st S k = some (.inl (g, c1, c2)) := h
  simp only [hh16, asI] at h
  simp only [okX, beq_iff_eq] at hk
  subst hk
  split at h
  all_goals first | (cases h; done) | skip
  rename_i x i a r
  split at h
  all_goals first | (cases h; done) | skip
  rename_i n w hsh
  have hsi := shO_of hsh (by decide : (1 : Nat) ≠ 9)
  have hg := mW_get (ad := ad) (cy := cy) (S := S) hsi
  cases hin : inb i n with
  | false => exact (gx_bad h hin h2).elim
  | true =>
    refine va_iast hx hb hK hP hD hS a 0 hg rfl (inb_in hin) hd ?_
    intro H1 locs1 hP1 hD1 hS1
    have e : (mW ad cy S).set a (ad a, Sum.inl (cy 0, n, .inl (upd (S a) i.toNatClampNeg (x)))) = mW ad cy (upS S a i.toNatClampNeg (x)) := by
      rw [mE_arr (ad := ad) (r := w)]
      exact mW_set hsi
    rw [e] at hP1 hD1
    exact Wt.on h hin h1 hl hP1 hD1 hS1
set_option maxRecDepth 40000 in
theorem st_18 (F : Fr D cy M p s m args meth c) (hd : decode M.2.1 pc = .ok (insOf pc (18, n, a, b, e0, v), n)) (hk : okX M (18, n, a, b, e0, v) ps = true) (h : mx1 M (18, n, a, b, e0, v) pc l st S k = some (.inl (g, c1, c2)))
    (h1 : g = true → Wt p lau e R s m args below meth c Q z D ad cy M c1) (h2 : g = false → ∃ c3, c2 = some c3 ∧ Wt p lau e R s m args below meth c Q z D ad cy M c3) : Wt p lau e R s m args below meth c Q z D ad cy M (pc, l, st, S, k) := by
  obtain ⟨hx, hb, hml, hr, hown, hts, hlocks, hexc, hK⟩ := F
  intro H locs ls hl hP hD hS
  replace hl : mHas ad ls M.2.2.1 l := hl
  replace hP : va_P D vwCl (mW ad cy S) H := hP
  replace hD : va_D (mAz z) (mW ad cy S) := hD
  show W p lau e R s m args below meth c H locs k (6 * k) Q (F0 m pc ls (st.map (mV ad)))
  replace h : hh18 M n a b e0 v pc l st S k = some (.inl (g, c1, c2)) := h
  simp only [hh18, asB] at h
  simp only [okX, beq_iff_eq] at hk
  subst hk
  split at h
  all_goals first | (cases h; done) | skip
  rename_i x i a r
  split at h
  all_goals first | (cases h; done) | skip
  rename_i n w hsh
  have hsi := shO_of hsh (by decide : (2 : Nat) ≠ 9)
  have hg := mW_get (ad := ad) (cy := cy) (S := S) hsi
  cases hin : inb i n with
  | false => exact (gx_bad h hin h2).elim
  | true =>
    refine va_bast hx hb hK hP hD hS a 1 hg rfl (inb_in hin) hd ?_
    intro H1 locs1 hP1 hD1 hS1
    rw [vp_nar_byte] at hP1 hD1
    have e : (mW ad cy S).set a (ad a, Sum.inl (cy 1, n, .inl (upd (S a) i.toNatClampNeg (x.toInt8.toInt32)))) = mW ad cy (upS S a i.toNatClampNeg (x.toInt8.toInt32)) := by
      rw [mE_arrB (ad := ad) (r := w)]
      exact mW_set hsi
    rw [e] at hP1 hD1
    exact Wt.on h hin h1 hl hP1 hD1 hS1
set_option maxRecDepth 40000 in
theorem st_19 (F : Fr D cy M p s m args meth c) (hd : decode M.2.1 pc = .ok (insOf pc (19, n, a, b, e0, v), n)) (hk : okX M (19, n, a, b, e0, v) ps = true) (h : mx1 M (19, n, a, b, e0, v) pc l st S k = some (.inl (g, c1, c2)))
    (h1 : g = true → Wt p lau e R s m args below meth c Q z D ad cy M c1) : Wt p lau e R s m args below meth c Q z D ad cy M (pc, l, st, S, k) := by
  obtain ⟨hx, hb, hml, hr, hown, hts, hlocks, hexc, hK⟩ := F
  intro H locs ls hl hP hD hS
  replace hl : mHas ad ls M.2.2.1 l := hl
  replace hP : va_P D vwCl (mW ad cy S) H := hP
  replace hD : va_D (mAz z) (mW ad cy S) := hD
  show W p lau e R s m args below meth c H locs k (6 * k) Q (F0 m pc ls (st.map (mV ad)))
  replace h : hh19 M n a b e0 v pc l st S k = some (.inl (g, c1, c2)) := h
  simp only [hh19, len] at h
  simp only [okX, beq_iff_eq] at hk
  subst hk
  split at h
  all_goals first | (cases h; done) | skip
  rename_i a r
  split at h
  all_goals first | (cases h; done) | skip
  rename_i n w hsh
  have hsi := shO_of hsh (by decide : (1 : Nat) ≠ 9)
  have hg := mW_get (ad := ad) (cy := cy) (S := S) hsi
  simp only [nx] at h
  have K := Wt.on h rfl h1 hl hP hD hS
  exact va_alen hx hb hK hP a 0 hg (ty := .int) rfl rfl hd K
set_option maxRecDepth 40000 in
theorem st_28 (F : Fr D cy M p s m args meth c) (hd : decode M.2.1 pc = .ok (insOf pc (28, n, a, b, e0, v), n)) (hk : okX M (28, n, a, b, e0, v) ps = true) (h : mx1 M (28, n, a, b, e0, v) pc l st S k = some (.inl (g, c1, c2)))
    (h1 : g = true → Wt p lau e R s m args below meth c Q z D ad cy M c1) (h2 : g = false → ∃ c3, c2 = some c3 ∧ Wt p lau e R s m args below meth c Q z D ad cy M c3) : Wt p lau e R s m args below meth c Q z D ad cy M (pc, l, st, S, k) := by
  obtain ⟨hx, hb, hml, hr, hown, hts, hlocks, hexc, hK⟩ := F
  intro H locs ls hl hP hD hS
  replace hl : mHas ad ls M.2.2.1 l := hl
  replace hP : va_P D vwCl (mW ad cy S) H := hP
  replace hD : va_D (mAz z) (mW ad cy S) := hD
  show W p lau e R s m args below meth c H locs k (6 * k) Q (F0 m pc ls (st.map (mV ad)))
  replace h : hh28 M n a b e0 v pc l st S k = some (.inl (g, c1, c2)) := h
  simp only [hh28, alA] at h
  simp only [okX, beq_iff_eq] at hk
  subst hk
  split at h
  all_goals first | (cases h; done) | skip
  rename_i i a r
  split at h
  all_goals first | (cases h; done) | skip
  rename_i n b0 hsh
  have hsi := shO_of hsh (by decide : (3 : Nat) ≠ 9)
  have hg := mW_get (ad := ad) (cy := cy) (S := S) hsi
  cases hin : inb i n with
  | false => exact (gx_bad h hin h2).elim
  | true =>
    have K := Wt.on h hin h1 hl hP hD hS
    exact va_aldq hx hb hK hP a 2 hg rfl (inb_in hin) hd K
theorem sm_le {ad : Nat → Nat} {st : List Value} (h : sm st = true) : ((st.map (mV ad)).map fun v => v.category).sum ≤ 8 := by
  have h1 : (st.map fun v => v.category).sum ≤ 8 := by simpa [sm] using h
  have e : (st.map (mV ad)).map (fun v => v.category) = st.map fun v => v.category := by
    rw [List.map_map]
    exact List.map_congr_left fun v _ => mV_cat ad v
  rw [e]; exact h1
theorem sm_tl {v : Value} {st : List Value} (h : sm (v :: st) = true) : sm st = true := by
  simp only [sm, List.map_cons, List.sum_cons, decide_eq_true_eq] at h ⊢
  omega
set_option maxRecDepth 40000 in
theorem st_33 (F : Fr D cy M p s m args meth c) (hd : decode M.2.1 pc = .ok (insOf pc (33, n, a, b, e0, v), n)) (hk : okX M (33, n, a, b, e0, v) ps = true) (hRf : 8 ≤ R.frames) (hRl : 200 ≤ R.locals) (hRc : k ≤ R.cells) (hRs : 6 * k ≤ R.slots) (h : mx1 M (33, n, a, b, e0, v) pc l st S k = some (.inl (g, c1, c2)))
    (h1 : g = true → Wt p lau e R s m args below meth c Q z D ad cy M c1) : Wt p lau e R s m args below meth c Q z D ad cy M (pc, l, st, S, k) := by
  obtain ⟨hx, hb, hml, hr, hown, hts, hlocks, hexc, hK⟩ := F
  intro H locs ls hl hP hD hS
  replace hl : mHas ad ls M.2.2.1 l := hl
  replace hP : va_P D vwCl (mW ad cy S) H := hP
  replace hD : va_D (mAz z) (mW ad cy S) := hD
  show W p lau e R s m args below meth c H locs k (6 * k) Q (F0 m pc ls (st.map (mV ad)))
  replace h : hh33 M n a b e0 v pc l st S k = some (.inl (g, c1, c2)) := h
  simp only [hh33, mth] at h
  simp only [okX, Bool.and_eq_true, beq_iff_eq] at hk
  obtain ⟨⟨rfl, hi⟩, hk⟩ := hk
  have hi := hts _ (mIp_mem hi)
  split at h
  · rename_i y x r hsm
    simp only [Bool.and_eq_true] at hk
    have hs8 := sm_le (ad := ad) (sm_tl (sm_tl hsm))
    simp only [nx] at h
    have K := Wt.on h rfl h1 hl hP hD hS
    exact va_mmax hx hb (by rw [hml, hl.1]) hown (hts _ (mIp_mem hk.1.1)) (hts _ (mIp_mem hk.1.2)) hi (hts _ (mIp_mem hk.2)) (by omega) (by omega) hRc hRs hd K
  · rename_i y x r hsm
    simp only [Bool.and_eq_true] at hk
    have hs8 := sm_le (ad := ad) (sm_tl (sm_tl hsm))
    simp only [nx] at h
    have K := Wt.on h rfl h1 hl hP hD hS
    exact va_mmin hx hb (by rw [hml, hl.1]) hown (hts _ (mIp_mem hk.1.1)) (hts _ (mIp_mem hk.1.2)) hi (hts _ (mIp_mem hk.2)) (by omega) (by omega) hRc hRs hd K
  · rename_i x r hsm
    simp only [Bool.and_eq_true] at hk
    have hs8 := sm_le (ad := ad) (sm_tl hsm)
    simp only [nx] at h
    have K := Wt.on h rfl h1 hl hP hD hS
    exact va_mabs hx hb (by rw [hml, hl.1]) hown (hts _ (mIp_mem hk.1.1)) (hts _ (mIp_mem hk.1.2)) hi (hts _ (mIp_mem hk.2)) (by omega) (by omega) hRc hRs hd K
  · cases h
set_option maxRecDepth 40000 in
theorem st_34 (F : Fr D cy M p s m args meth c) (hd : decode M.2.1 pc = .ok (insOf pc (34, n, a, b, e0, v), n)) (hk : okX M (34, n, a, b, e0, v) ps = true) (hRf : 8 ≤ R.frames) (hRl : 200 ≤ R.locals) (hRc : k ≤ R.cells) (hRs : 6 * k ≤ R.slots) (h : mx1 M (34, n, a, b, e0, v) pc l st S k = some (.inl (g, c1, c2)))
    (h1 : g = true → Wt p lau e R s m args below meth c Q z D ad cy M c1) (h2 : g = false → ∃ c3, c2 = some c3 ∧ Wt p lau e R s m args below meth c Q z D ad cy M c3) : Wt p lau e R s m args below meth c Q z D ad cy M (pc, l, st, S, k) := by
  obtain ⟨hx, hb, hml, hr, hown, hts, hlocks, hexc, hK⟩ := F
  intro H locs ls hl hP hD hS
  replace hl : mHas ad ls M.2.2.1 l := hl
  replace hP : va_P D vwCl (mW ad cy S) H := hP
  replace hD : va_D (mAz z) (mW ad cy S) := hD
  show W p lau e R s m args below meth c H locs k (6 * k) Q (F0 m pc ls (st.map (mV ad)))
  replace h : hh34 M n a b e0 v pc l st S k = some (.inl (g, c1, c2)) := h
  simp only [hh34, cpy] at h
  simp only [okX, Bool.and_eq_true, beq_iff_eq] at hk
  obtain ⟨⟨⟨⟨rfl, hi⟩, hm1⟩, hm2⟩, hm3⟩ := hk
  split at h
  all_goals first | (cases h; done) | skip
  rename_i n dp a sp a0 r
  split at h
  all_goals first | (cases h; done) | skip
  rename_i n1 w1 n0 w0 hsm hsh hsh0
  have hsi := shO_of hsh (by decide : (1 : Nat) ≠ 9)
  have hsi0 := shO_of hsh0 (by decide : (1 : Nat) ≠ 9)
  have hg := mW_get (ad := ad) (cy := cy) (S := S) hsi
  have hg0 := mW_get (ad := ad) (cy := cy) (S := S) hsi0
  have hs8 := sm_le (ad := ad) hsm
  by_cases hG : (¬ sp < 0 ∧ ¬ dp < 0 ∧ ¬ n < 0 ∧ sp.toNatClampNeg + n.toNatClampNeg ≤ n0 ∧ dp.toNatClampNeg + n.toNatClampNeg ≤ n1)
  · obtain ⟨g1, g2, g3, g4, g5⟩ := id hG
    refine va_copyi (ty := .int) hx hb (by rw [hml, hl.1]) hown (hts _ (mIp_mem hm1)) (hts _ (mIp_mem hm2)) (hts _ (mIp_mem hm3)) (hts _ (mIp_mem hi)) hK hP hD hS a0 a 0 0 hg0 hg rfl rfl rfl g1 g2 g3 g4 g5 (fun _ _ => rfl) (by omega) (by
      have hw : nativeFrameWords "java/lang/System" "arraycopy" 5 + 11 ≤ 100 := by decide +kernel
      omega) hd ?_
    intro H1 locs1 hP1 hD1 hS1
    have e : (mW ad cy S).set a (ad a, Sum.inl (cy 0, n1, .inl (va_cpy (S a0) (S a) sp.toNatClampNeg dp.toNatClampNeg n.toNatClampNeg))) = mW ad cy (seS S a (va_cpy (S a0) (S a) sp.toNatClampNeg dp.toNatClampNeg n.toNatClampNeg)) := by
      have e2 : (Sum.inl (cy 0, n1, .inl (va_cpy (S a0) (S a) sp.toNatClampNeg dp.toNatClampNeg n.toNatClampNeg)) : va_E) = mE ad cy (seS S a (va_cpy (S a0) (S a) sp.toNatClampNeg dp.toNatClampNeg n.toNatClampNeg)) a (1, n1, w1) := by
        show _ = Sum.inl (cy 0, n1, Sum.inl (seS S a _ a))
        rw [show seS S a (va_cpy (S a0) (S a) sp.toNatClampNeg dp.toNatClampNeg n.toNatClampNeg) a = va_cpy (S a0) (S a) sp.toNatClampNeg dp.toNatClampNeg n.toNatClampNeg by simp [seS]]
      rw [e2]
      exact mW_set hsi
    rw [e] at hP1 hD1
    exact Wt.on h (decide_eq_true hG) h1 hl hP1 hD1 hS1
  · exact (gx_bad h (decide_eq_false hG) h2).elim
set_option maxRecDepth 40000 in
theorem st_47 (F : Fr D cy M p s m args meth c) (hd : decode M.2.1 pc = .ok (insOf pc (47, n, a, b, e0, v), n)) (hk : okX M (47, n, a, b, e0, v) ps = true) (h : mx1 M (47, n, a, b, e0, v) pc l st S k = some (.inl (g, c1, c2)))
    (h1 : g = true → Wt p lau e R s m args below meth c Q z D ad cy M c1) : Wt p lau e R s m args below meth c Q z D ad cy M (pc, l, st, S, k) := by
  obtain ⟨hx, hb, hml, hr, hown, hts, hlocks, hexc, hK⟩ := F
  intro H locs ls hl hP hD hS
  replace hl : mHas ad ls M.2.2.1 l := hl
  replace hP : va_P D vwCl (mW ad cy S) H := hP
  replace hD : va_D (mAz z) (mW ad cy S) := hD
  show W p lau e R s m args below meth c H locs k (6 * k) Q (F0 m pc ls (st.map (mV ad)))
  replace h : hh47 M n a b e0 v pc l st S k = some (.inl (g, c1, c2)) := h
  simp only [hh47, nx] at h
  simp only [okX, Bool.and_eq_true, beq_iff_eq, decide_eq_true_eq] at hk
  obtain ⟨rfl, ha⟩ := hk
  have K := Wt.on h rfl h1 hl hP hD hS
  exact lv_lconst hx hb hd (by rw [show ((Fin.ofNat 2 a : Fin 2) : Nat) = a from Nat.mod_eq_of_lt ha]) K
theorem st_48 (F : Fr D cy M p s m args meth c) (hd : decode M.2.1 pc = .ok (insOf pc (48, n, a, b, e0, v), n)) (hk : okX M (48, n, a, b, e0, v) ps = true) (h : mx1 M (48, n, a, b, e0, v) pc l st S k = some (.inl (g, c1, c2)))
    (h1 : g = true → Wt p lau e R s m args below meth c Q z D ad cy M c1) : Wt p lau e R s m args below meth c Q z D ad cy M (pc, l, st, S, k) := by
  simp only [okX, Bool.and_eq_true, beq_iff_eq] at hk
  obtain ⟨⟨rfl, hf1⟩, hf3⟩ := hk
  replace h : hh48 M 3 a b e0 v pc l st S k = some (.inl (g, c1, c2)) := h
  simp only [hh48] at h
  split at h
  all_goals first | (cases h; done) | skip
  split at h
  · exact st_13 (b := 1) (v := v) (ps := ps) F hd (by simp only [okX, Bool.and_eq_true, beq_iff_eq]; exact ⟨trivial, hf1⟩) h h1
  · exact st_13 (b := 3) (v := v) (ps := ps) F hd (by simp only [okX, Bool.and_eq_true, beq_iff_eq]; exact ⟨trivial, hf3⟩) h h1
end ST
