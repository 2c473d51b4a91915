section MN3
variable {p : Program} {lau : Launch} {e : Env} {s : State} {m : MethodId} {args : Array Value} {below : List Frame} {meth : Method} {c : Code} {Q : State → Prop} {z : Nat} {D : va_G} {ad : Nat → Nat} {cy : Nat → ClassId} {M M' : mM} {tab : Nat → Option mM}
variable {code n a b e0 pc k d mc' n' : Nat} {v : Int32} {l st as : List Value} {S : mS} {ps : List Nat} {r r' : mR} {R : Room}
theorem call_fin (F : Fr D cy M p s m args meth c) {H : Heap} {locs : List Loc} {ls : Array Slot} {a0 : Array Value} {st0 : List Value} (hl : mHas ad ls M.2.2.1 l) (hS : va_S (mAz z) s.heap H locs)
    (hr : vx_Run p lau e R s m args below meth c H locs k (6 * k) mc' (6 * mc') (F0 m pc ls st0) ((st.drop n').map (mV ad)) (mQc z D ad cy r' a0) (mXc z D ad cy r') (mAz z)) (hkm : k + mc' ≤ M.2.2.2.2.1)
    (kk : ∀ w, r'.1 = .inl w → Wt p lau e R s m args below meth c (mQQ below z D ad cy M r args s) z D ad cy M (mPu w (pc + 3, mkM M.2.2.2.2.2.2 (pc + 3) l, st.drop n', S, k + mc') r'.2)) (kx : ∀ x, r'.1 = .inr x → r = r') :
    W p lau e R s m args below meth c H locs k (6 * k) (mQQ below z D ad cy M r args s) (F0 m pc ls st0) := by
  obtain ⟨hx, hb, hml, hrt, hown, hts, hlocks, hexc, hK⟩ := F
  refine mBack hr hS ?_ ?_
  · intro w hw H1 locs1 hP1 hD1 hS1
    have K := kk w hw H1 locs1 ls (hl.mask _ _) hP1 hD1 hS1
    refine W.widen (k := k + mc') (n := 6 * (k + mc')) (Nat.le_refl _) (by omega) ?_
    have e1 : ((w.toList ++ st.drop n').map (mV ad)) = (w.map (mV ad)).toList ++ (st.drop n').map (mV ad) := by
      rw [List.map_append]
      cases w <;> rfl
    have K2 : W p lau e R s m args below meth c H1 locs1 (k + mc') (6 * (k + mc')) (mQQ below z D ad cy M r args s) (F0 m (pc + 3) ls ((w.toList ++ st.drop n').map (mV ad))) := K
    rw [e1] at K2
    exact K2
  · intro x hxr H1 locs1 q ce hP1 hD1 hS1 hq hcv hcl
    have hrr := kx x hxr
    subst hrr
    exact vx_out (fun y hy => (hexc y hy).elim) hlocks hq hcv hcl (fun t ht _ => ⟨x, hxr, rfl, mPost_end hP1 hD1 hS1 ht⟩) hS1.2.2 hkm (by omega)
theorem call_30 (F : Fr D cy M p s m args meth c) (hz : z ≤ s.heap.size) (hX : mX z ad s) (hR : R = mRm (d + 1) M) (hd : decode M.2.1 pc = .ok (.invokevirtual e0, 3)) {j : Nat} {ct : mC}
    (hk : okV tab M (30, n, a, b, e0, v) ps = true) (h : cal M (pc + n) a b (v.toNatClampNeg / 64) (v.toNatClampNeg % 64) l st S k = some (.inr (.inl (j, as, ct)))) (hM' : tab j = some M')
    (hcon : mCon lau z D ad cy (mX z ad) d M' as S r') (kk : ∀ w, r'.1 = .inl w → Wt p lau e R s m args below meth c (mQQ below z D ad cy M r args s) z D ad cy M (mPu w ct r'.2)) (kx : ∀ x, r'.1 = .inr x → r = r') :
    Wt p lau e R s m args below meth c (mQQ below z D ad cy M r args s) z D ad cy M (pc, l, st, S, k) := by
  obtain ⟨rfl, has, hct, hlen, hsm, hkm, hrec⟩ := cal_inv h
  intro H locs ls hl hP hD hS
  replace hP : va_P D vwCl (mW ad cy S) H := hP
  replace hD : va_D (mAz z) (mW ad cy S) := hD
  simp only [okV, hM'] at hk
  split at hk
  · rename_i q1 q2 M9 q hq9 hq
    cases hq9
    simp only [Bool.and_eq_true, beq_iff_eq, decide_eq_true_eq] at hk
    obtain ⟨⟨⟨⟨⟨⟨⟨⟨⟨⟨⟨⟨⟨rfl, hb1⟩, hv1⟩, hcl⟩, hn1⟩, hn2⟩, hpm⟩, hmc⟩, h80⟩, w1⟩, w2⟩, w3⟩, w4⟩, w5⟩ := hk
    obtain ⟨ci, hci⟩ : ∃ ci, v.toNatClampNeg / 64 = ci + 1 := ⟨v.toNatClampNeg / 64 - 1, by omega⟩
    rw [hci, Nat.add_sub_cancel] at hq
    obtain ⟨i, rr, fs, hae, hsh⟩ := hrec ci hci
    obtain ⟨C, T, N⟩ := q
    have hal : rr.length = b - 1 := by
      have h9 : as.length = b := by rw [has, List.length_reverse, List.length_take]; omega
      rw [hae] at h9
      simp at h9; omega
    have hs8 := sm_le (ad := ad) hsm
    subst hct
    rw [← hmc] at kk hkm
    show W p lau e R s m args below meth c H locs k (6 * k) _ (F0 m pc ls (st.map (mV ad)))
    rw [st_split (ad := ad) hlen, ← has, hae]
    rw [hae] at hcon
    have hrun := mRunV (C := C) (T := T) (N := N) (idx := e0) (cells := k) (pc := pc) (rest := (st.drop b).map (mV ad)) (below := below) (e := e) F (mX_m z ad) hz hX hR hcon hP hD hS hl (shO_of hsh (by decide : (0 : Nat) ≠ 9)) hq hcl hn1 hn2 (by rw [hal]; exact hpm) h80 (mIp_mem w1) (mIp_mem w2) (mIp_mem w3) (mIp_mem w4) (mIp_mem w5) hs8 hd hkm
    simp only [List.map_cons, List.reverse_cons, List.append_assoc, List.cons_append, List.nil_append]
    exact call_fin (st := st) (n' := b) F hl hS hrun hkm kk kx
  · cases hk
theorem call_31 (F : Fr D cy M p s m args meth c) (hz : z ≤ s.heap.size) (hX : mX z ad s) (hR : R = mRm (d + 1) M) (hd : decode M.2.1 pc = .ok (.invokestatic e0, 3)) {j : Nat} {ct : mC}
    (hk : okS tab M (31, n, a, b, e0, v) ps = true) (h : cal M (pc + n) a b 0 (v.toNatClampNeg % 64) l st S k = some (.inr (.inl (j, as, ct)))) (hM' : tab j = some M')
    (hcon : mCon lau z D ad cy (mX z ad) d M' as S r') (kk : ∀ w, r'.1 = .inl w → Wt p lau e R s m args below meth c (mQQ below z D ad cy M r args s) z D ad cy M (mPu w ct r'.2)) (kx : ∀ x, r'.1 = .inr x → r = r') :
    Wt p lau e R s m args below meth c (mQQ below z D ad cy M r args s) z D ad cy M (pc, l, st, S, k) := by
  obtain ⟨rfl, has, hct, hlen, hsm, hkm, hrec⟩ := cal_inv h
  intro H locs ls hl hP hD hS
  replace hP : va_P D vwCl (mW ad cy S) H := hP
  replace hD : va_D (mAz z) (mW ad cy S) := hD
  simp only [okS, hM', Bool.and_eq_true, beq_iff_eq, decide_eq_true_eq] at hk
  obtain ⟨⟨⟨⟨⟨⟨⟨⟨⟨rfl, hn1⟩, hn2⟩, hpm⟩, hmc⟩, h80⟩, w1⟩, w2⟩, w3⟩, w4⟩ := hk
  have hal : as.length = b := by rw [has, List.length_reverse, List.length_take]; omega
  have hs8 := sm_le (ad := ad) hsm
  subst hct
  rw [← hmc] at kk hkm
  show W p lau e R s m args below meth c H locs k (6 * k) _ (F0 m pc ls (st.map (mV ad)))
  rw [st_split (ad := ad) hlen, ← has]
  exact call_fin (st := st) (n' := b) F hl hS (mRunS (idx := e0) (cells := k) (pc := pc) (rest := (st.drop b).map (mV ad)) (below := below) (e := e) F (mX_m z ad) hz hX hR hcon hP hD hS hl hn1 hn2 (by rw [hal]; exact hpm) h80 (mIp_mem w1) (mIp_mem w2) (mIp_mem w3) (mIp_mem w4) hs8 hd hkm) hkm kk kx
theorem call_32 (F : Fr D cy M p s m args meth c) (hz : z ≤ s.heap.size) (hX : mX z ad s) (hR : R = mRm (d + 1) M) (hd : decode M.2.1 pc = .ok (.invokestatic e0, 3)) {j : Nat} {ct : mC}
    (hk : okN tab M (32, n, a, b, e0, v) ps = true) (h : cal M (pc + n) a b 0 (v.toNatClampNeg % 64) l st S k = some (.inr (.inl (j, as, ct)))) (hM' : tab j = some M')
    (hcon : mCon lau z D ad cy (mX z ad) d M' as S r') {w : Option Value} (hw : r'.1 = .inl w) (kk : Wt p lau e R s m args below meth c (mQQ below z D ad cy M r args s) z D ad cy M (mPu w ct r'.2)) :
    Wt p lau e R s m args below meth c (mQQ below z D ad cy M r args s) z D ad cy M (pc, l, st, S, k) := by
  obtain ⟨rfl, has, hct, hlen, hsm, hkm, hrec⟩ := cal_inv h
  intro H locs ls hl hP hD hS
  replace hP : va_P D vwCl (mW ad cy S) H := hP
  replace hD : va_D (mAz z) (mW ad cy S) := hD
  simp only [okN, hM', Bool.and_eq_true, beq_iff_eq, decide_eq_true_eq] at hk
  obtain ⟨⟨⟨⟨⟨⟨⟨⟨⟨⟨rfl, hn1⟩, hn2⟩, hpm⟩, hmc⟩, hm0⟩, h80⟩, w1⟩, w2⟩, w3⟩, w4⟩ := hk
  have hal : as.length = b := by rw [has, List.length_reverse, List.length_take]; omega
  have hs8 := sm_le (ad := ad) hsm
  subst hct
  rw [← hmc] at kk hkm
  show W p lau e R s m args below meth c H locs k (6 * k) _ (F0 m pc ls (st.map (mV ad)))
  rw [st_split (ad := ad) hlen, ← has]
  exact call_fin (st := st) (n' := b) F hl hS (mRunN (idx := e0) (cells := k) (pc := pc) (rest := (st.drop b).map (mV ad)) (below := below) (e := e) F hz hX hR hcon hw hP hD hS hl hn1 hn2 (by rw [hal]; exact hpm) h80 (List.mem_of_getElem? w1) (mIp_mem w2) (mIp_mem w3) (mIp_mem w4) hs8 hd hkm) hkm (fun w' hw' => by rw [hw] at hw'; cases hw'; exact kk) (fun x hx => by rw [hw] at hx; cases hx)
theorem call_45 (F : Fr D cy M p s m args meth c) (hz : z ≤ s.heap.size) (hX : mX z ad s) (hR : R = mRm (d + 1) M) (hd : decode M.2.1 pc = .ok (.invokevirtual e0, 3)) {j : Nat} {ct : mC}
    (hk : okU tab M (45, n, a, b, e0, v) ps = true) (h : cal M (pc + n) a b (v.toNatClampNeg / 64) (v.toNatClampNeg % 64) l st S k = some (.inr (.inl (j, as, ct)))) (hM' : tab j = some M')
    (hcon : mCon lau z D ad cy (mX z ad) d M' as S r') {w : Option Value} (hw : r'.1 = .inl w) (kk : Wt p lau e R s m args below meth c (mQQ below z D ad cy M r args s) z D ad cy M (mPu w ct r'.2)) :
    Wt p lau e R s m args below meth c (mQQ below z D ad cy M r args s) z D ad cy M (pc, l, st, S, k) := by
  obtain ⟨rfl, has, hct, hlen, hsm, hkm, hrec⟩ := cal_inv h
  intro H locs ls hl hP hD hS
  replace hP : va_P D vwCl (mW ad cy S) H := hP
  replace hD : va_D (mAz z) (mW ad cy S) := hD
  simp only [okU, hM'] at hk
  split at hk
  · rename_i q1 q2 M9 q hq9 hq
    cases hq9
    simp only [Bool.and_eq_true, beq_iff_eq, decide_eq_true_eq] at hk
    obtain ⟨⟨⟨⟨⟨⟨⟨⟨⟨⟨⟨⟨⟨⟨rfl, hb1⟩, hv1⟩, hn1⟩, hn2⟩, hpm⟩, hmc⟩, hm0⟩, h80⟩, w1⟩, w2⟩, w3⟩, w4⟩, w5⟩, w6⟩ := hk
    obtain ⟨ci, hci⟩ : ∃ ci, v.toNatClampNeg / 64 = ci + 1 := ⟨v.toNatClampNeg / 64 - 1, by omega⟩
    rw [hci, Nat.add_sub_cancel] at hq
    obtain ⟨i, rr, fs, hae, hsh⟩ := hrec ci hci
    obtain ⟨C, T, N⟩ := q
    have hal : rr.length = b - 1 := by
      have h9 : as.length = b := by rw [has, List.length_reverse, List.length_take]; omega
      rw [hae] at h9
      simp at h9; omega
    have hs8 := sm_le (ad := ad) hsm
    subst hct
    rw [← hmc] at kk hkm
    show W p lau e R s m args below meth c H locs k (6 * k) _ (F0 m pc ls (st.map (mV ad)))
    rw [st_split (ad := ad) hlen, ← has, hae]
    rw [hae] at hcon
    have hrun := mRunU (C := C) (T := T) (N := N) (owner := M'.1.cls) (x := ⟨C, M'.1.name, M'.1.desc⟩) (idx := e0) (cells := k) (pc := pc) (rest := (st.drop b).map (mV ad)) (below := below) (e := e) F hz hX hR hcon hw hP hD hS hl (shO_of hsh (by decide : (0 : Nat) ≠ 9)) hq hn1 hn2 (by rw [hal]; exact hpm) h80 (mIp_mem w1) (mIp_mem w2) (mIp_mem w3) (mIp_mem w4) (mIp_mem w5) (mIp_mem w6) (Or.inl rfl) hs8 hd hkm
    simp only [List.map_cons, List.reverse_cons, List.append_assoc, List.cons_append, List.nil_append]
    exact call_fin (st := st) (n' := b) F hl hS hrun hkm (fun w' hw' => by rw [hw] at hw'; cases hw'; exact kk) (fun x hx => by rw [hw] at hx; cases hx)
  · cases hk
theorem call_46 (F : Fr D cy M p s m args meth c) (hz : z ≤ s.heap.size) (hX : mX z ad s) (hR : R = mRm (d + 1) M) (hd : decode M.2.1 pc = .ok (.invokevirtual e0, 3)) {j j0 ci p0 : Nat} {ct : mC}
    (hk : okA1 tab M n j0 ci e0 mc' ps p0 = true) (h : cal M (pc + n) j0 1 (ci + 1) mc' l st S k = some (.inr (.inl (j, as, ct)))) (hM' : tab j = some M')
    (hcon : mCon lau z D ad cy (mX z ad) d M' as S r') {w : Option Value} (hw : r'.1 = .inl w) (kk : Wt p lau e R s m args below meth c (mQQ below z D ad cy M r args s) z D ad cy M (mPu w ct r'.2)) :
    Wt p lau e R s m args below meth c (mQQ below z D ad cy M r args s) z D ad cy M (pc, l, st, S, k) := by
  obtain ⟨rfl, has, hct, hlen, hsm, hkm, hrec⟩ := cal_inv h
  intro H locs ls hl hP hD hS
  replace hP : va_P D vwCl (mW ad cy S) H := hP
  replace hD : va_D (mAz z) (mW ad cy S) := hD
  simp only [okA1, hM'] at hk
  split at hk
  · rename_i q1 q2 M9 q hq9 hq
    cases hq9
    simp only [Bool.and_eq_true, beq_iff_eq, decide_eq_true_eq] at hk
    obtain ⟨⟨⟨⟨⟨⟨⟨⟨⟨⟨rfl, hmc⟩, hm0⟩, h80⟩, w1⟩, w2⟩, w3⟩, w4⟩, w5⟩, w6⟩, w7⟩ := hk
    obtain ⟨i, rr, fs, hae, hsh⟩ := hrec ci rfl
    obtain ⟨C, T, N⟩ := q
    have hal : rr.length = 0 := by
      have h9 : as.length = 1 := by rw [has, List.length_reverse, List.length_take]; omega
      rw [hae] at h9
      simpa using h9
    have hs8 := sm_le (ad := ad) hsm
    subst hct
    rw [← hmc] at kk hkm
    show W p lau e R s m args below meth c H locs k (6 * k) _ (F0 m pc ls (st.map (mV ad)))
    rw [st_split (ad := ad) hlen, ← has, hae]
    rw [hae] at hcon
    have hrun := mRunU (C := C) (T := T) (N := N) (owner := mRL.cls) (x := mRL) (idx := e0) (cells := k) (pc := pc) (rest := (st.drop 1).map (mV ad)) (below := below) (e := e) F hz hX hR hcon hw hP hD hS hl (shO_of hsh (by decide : (0 : Nat) ≠ 9)) hq (by decide) (by decide) (by rw [hal]; decide +kernel) h80 (mIp_mem w1) (mIp_mem w2) (mIp_mem w3) (mIp_mem w4) (mIp_mem w5) (mIp_mem w6) (Or.inr (List.mem_of_getElem? w7)) hs8 hd hkm
    simp only [List.map_cons, List.reverse_cons, List.append_assoc, List.cons_append, List.nil_append]
    exact call_fin (st := st) (n' := 1) F hl hS hrun hkm (fun w' hw' => by rw [hw] at hw'; cases hw'; exact kk) (fun x hx => by rw [hw] at hx; cases hx)
  · cases hk
theorem okN_0 (hk : okN tab M (32, n, a, b, e0, v) ps = true) (hM' : tab a = some M') : M'.2.2.2.2.1 = 0 := by
  simp only [okN, hM', Bool.and_eq_true, beq_iff_eq, decide_eq_true_eq] at hk
  exact hk.1.1.1.1.1.2
theorem okU_0 (hk : okU tab M (45, n, a, b, e0, v) ps = true) (hM' : tab a = some M') : M'.2.2.2.2.1 = 0 := by
  simp only [okU, hM'] at hk
  split at hk
  · rename_i q1 q2 M9 q hq9 hq
    cases hq9
    simp only [Bool.and_eq_true, beq_iff_eq, decide_eq_true_eq] at hk
    exact hk.1.1.1.1.1.1.1.2
  · cases hk
theorem okA1_0 {j0 ci p0 : Nat} (hk : okA1 tab M n j0 ci e0 mc' ps p0 = true) (hM' : tab j0 = some M') : M'.2.2.2.2.1 = 0 := by
  simp only [okA1, hM'] at hk
  split at hk
  · rename_i q1 q2 M9 q hq9 hq
    cases hq9
    simp only [Bool.and_eq_true, beq_iff_eq, decide_eq_true_eq] at hk
    exact hk.1.1.1.1.1.1.1.1.2
  · cases hk
end MN3
