/-! the machine's side: contracts out of the functions, calls of them from the law and its helpers -/
section MS
variable {p : Program} {lau : Launch} {e : Env} {R : Room} {s : State} {m : MethodId} {args : Array Value} {below : List Frame} {meth : Method} {c : Code} {Q : State → Prop} {z : Nat} {D : va_G} {ad : Nat → Nat} {cy : Nat → ClassId} {M' : mM} {X : State → Prop}
variable {H : Heap} {locs : List Loc} {ls : Array Slot} {cells slots pc d nL : Nat} {st0 rest : List Value} {r : mR} {S : mS} {cc : ByteArray} {own : String}
theorem con_of (hst : lau.stackTraces = false) {j : Nat} {as : List Value} (hj : mTab j = some M') (hn : as.length ≤ M'.2.2.1) (hc : ∀ w ∈ as, w.category = 1) (h : Ev d M' (entry M' as S) r) : mCon lau z D ad cy (mX z ad) d M' as S r := by
  obtain ⟨n, hn2⟩ := h
  exact snd_con strOK mTab_ok hst hj hn hc hn2
def gOK (own : String) (idx : Nat) (M' : mM) (q : vw_C) (np : Nat) (ps : List Nat) : Bool :=
  decide (M'.1.cls = q.1) && decide (M'.1.cls ≠ "java/lang/invoke/MethodHandle") && decide (M'.1.cls ≠ "java/lang/invoke/VarHandle") &&
    decide ((parseMethodDescriptor M'.1.desc).map (fun d => d.parameters.length) = some np) && decide (M'.2.2.1 ≤ 80) && decide (M'.2.2.2.2.1 ≤ 16) &&
    mIp (.methodLink own idx M'.1) (ps.getD 0 0) && mIp (.instanceMethod M'.1) (ps.getD 1 0) && mIp (.selects q.1 M'.1 M'.1) (ps.getD 2 0) && mIp (.initialized q.1) (ps.getD 3 0) && mIp (.code M'.1 M'.2.1 M'.2.2.1 M'.2.2.2.1) (ps.getD 4 0)
theorem gRunV (F : CallFix p m c cc nL s args mTs own) {idx i : Nat} {as : List Value} {q : vw_C} {ps : List Nat} (hok : gOK own idx M' q as.length ps = true) (hXm : mXm z X) (hz : z ≤ s.heap.size) (hX : X s) (hK : va_K D vwCl (mT cy) s)
    (hM : mCon lau z D ad cy X d M' (.ref i :: as) S r) (hP : va_P D vwCl (mW ad cy S) H) (hD : va_D (mAz z) (mW ad cy S)) (hS : va_S (mAz z) s.heap H locs) (hl : ls.size = nL)
    {ci : Nat} {fs : List (Option Nat)} (hsh : sh[i]? = some (0, ci, fs)) (hC : vwCl[ci]? = some q)
    (hs8 : (rest.map fun v => v.category).sum ≤ 8) (hd : decode cc pc = .ok (.invokevirtual idx, 3)) (hR : d + 9 ≤ R.frames ∧ 100 * d + 300 ≤ R.locals) (hk : cells + 16 ≤ R.cells ∧ slots + 96 ≤ R.slots) :
    vx_Run p lau e R s m args below meth c H locs cells slots M'.2.2.2.2.1 (6 * M'.2.2.2.2.1) (F0 m pc ls ((as.map (mV ad)).reverse ++ .ref (ad i) :: rest)) rest (mQc z D ad cy r (Value.ref (ad i) :: as.map (mV ad)).toArray) (mXc z D ad cy r) (mAz z) := by
  obtain ⟨C, T, N⟩ := q
  simp only [gOK, Bool.and_eq_true, decide_eq_true_eq] at hok
  obtain ⟨⟨⟨⟨⟨⟨⟨⟨⟨⟨hcl, hn1⟩, hn2⟩, hpm⟩, h80⟩, h16⟩, w1⟩, w2⟩, w3⟩, w4⟩, w5⟩ := hok
  have hg := mW_get (ad := ad) (cy := cy) (S := S) hsh
  refine vx_runV (Ts := mTs) (C := C) (As := as.map (mV ad)) (ws := mWs M') (rm := mRm d M') (bytes := M'.2.1) (maxL := M'.2.2.1) (ret := M'.2.2.2.1) F hM
    (cwV as.length F.2.2.2.2 (goodIn_c (mIp_mem w1) (goodIn_c (mIp_mem w2) (goodIn_c (mIp_mem w3) (goodIn_c (mIp_mem w4) (mWs_good (mIp_mem w5)))))) rfl rfl rfl ⟨hcl, hn1, hn2, hpm⟩ ⟨by show d + 8 + 1 ≤ R.frames; omega, by show 8 + (M'.2.2.1 + 11) + (100 * d + 200) ≤ R.locals; omega⟩)
    ⟨mPre_blind hXm, va_recv hK hP hC hg, fun U hU hW => mPre_at (as := (Value.ref i :: as).map (mV ad)) hXm hz hX hK hP hD hS U hU hW⟩ rfl (by rw [List.length_map]) hl rfl ?_ hd ⟨by omega, by omega⟩
  show 2 * (F0 m pc ls _).monitorRoom + _ ≤ 8
  exact lv_room hs8
/-- a call of a method of the table: it returns or throws; 16 cells are taken for it in any case -/
theorem gCall (F : CallFix p m c cc nL s args mTs own) {idx i : Nat} {as : List Value} {q : vw_C} {ps : List Nat} (hok : gOK own idx M' q as.length ps = true) (hXm : mXm z X) (hz : z ≤ s.heap.size) (hX : X s) (hK : va_K D vwCl (mT cy) s)
    (hM : mCon lau z D ad cy X d M' (.ref i :: as) S r) (hP : va_P D vwCl (mW ad cy S) H) (hD : va_D (mAz z) (mW ad cy S)) (hS : va_S (mAz z) s.heap H locs) (hl : ls.size = nL)
    {ci : Nat} {fs : List (Option Nat)} (hsh : sh[i]? = some (0, ci, fs)) (hC : vwCl[ci]? = some q)
    (hs8 : (rest.map fun v => v.category).sum ≤ 8) (hd : decode cc pc = .ok (.invokevirtual idx, 3)) (hR : d + 9 ≤ R.frames ∧ 100 * d + 300 ≤ R.locals) (hk : cells + 16 ≤ R.cells ∧ slots + 96 ≤ R.slots)
    (kk : ∀ v, r.1 = .inl v → ∀ (H1 : Heap) (locs1 : List Loc), va_P D vwCl (mW ad cy r.2) H1 → va_D (mAz z) (mW ad cy r.2) → va_S (mAz z) s.heap H1 locs1 → W p lau e R s m args below meth c H1 locs1 (cells + 16) (slots + 96) Q (F0 m (pc + 3) ls ((v.map (mV ad)).toList ++ rest)))
    (kx : ∀ k, r.1 = .inr k → ∀ (H1 : Heap) (locs1 : List Loc) (q : Addr) (ce : Cell), va_P D vwCl (mW ad cy r.2) H1 → va_D (mAz z) (mW ad cy r.2) → va_S (mAz z) s.heap H1 locs1 → H1[q]? = some ce → ce.vm = .none → s.vm.findClass (exN k) = some ce.cls → vx_W p lau e R s m args below meth c H1 locs1 (cells + 16) (slots + 96) Q (F0 m pc ls rest) q) :
    W p lau e R s m args below meth c H locs cells slots Q (F0 m pc ls ((as.map (mV ad)).reverse ++ .ref (ad i) :: rest)) := by
  have h16 : M'.2.2.2.2.1 ≤ 16 := by
    have := hok
    simp only [gOK, Bool.and_eq_true, decide_eq_true_eq] at this
    exact this.1.1.1.1.1.2
  exact mBack (gRunV F hok hXm hz hX hK hM hP hD hS hl hsh hC hs8 hd hR hk) hS
    (fun v hv H1 l1 a1 a2 a3 => W.widen (by omega) (by omega) (kk v hv H1 l1 a1 a2 a3))
    (fun k hk2 H1 l1 q ce a1 a2 a3 a4 a5 a6 => vx_widen (by omega) (by omega) (kx k hk2 H1 l1 q ce a1 a2 a3 a4 a5 a6))
end MS
