/-! calls: a method's contract over the whole world; how it is called -/
def exN (k : Nat) : String := match k with
  | 1 => "java/lang/IllegalArgumentException"
  | 2 => "java/lang/UnsupportedOperationException"
  | 3 => "java/lang/IndexOutOfBoundsException"
  | 4 => "java/util/NoSuchElementException"
  | _ => "java/lang/IllegalStateException"
def mRm (d : Nat) (M : mM) : Room := { frames := d + 8, cells := M.2.2.2.2.1, slots := 6 * M.2.2.2.2.1, locals := 100 * d + 200 }
def mWs (M : mM) : List Cond := .code M.1 M.2.1 M.2.2.1 M.2.2.2.1 :: mTs
def mPre (z : Nat) (D : va_G) (ad : Nat → Nat) (cy : Nat → ClassId) (X : State → Prop) (S : mS) (U : State) : Prop :=
  z ≤ U.heap.size ∧ va_P D vwCl (mW ad cy S) U.heap ∧ va_K D vwCl (mT cy) U ∧ va_D (mAz z) (mW ad cy S) ∧ X U
def mPost (z : Nat) (D : va_G) (ad : Nat → Nat) (cy : Nat → ClassId) (S : mS) (st t : State) : Prop :=
  va_P D vwCl (mW ad cy S) t.heap ∧ va_D (mAz z) (mW ad cy S) ∧ va_F (mAz z) st t
def mQc (z : Nat) (D : va_G) (ad : Nat → Nat) (cy : Nat → ClassId) (r : mR) : Array Value → State → Outcome → State → Prop := fun _ st o t =>
  ∃ v, r.1 = .inl v ∧ o = .returned (v.map (mV ad)) ∧ mPost z D ad cy r.2 st t
def mXc (z : Nat) (D : va_G) (ad : Nat → Nat) (cy : Nat → ClassId) (r : mR) : String → State → State → Prop := fun E st t =>
  ∃ k, r.1 = .inr k ∧ E = exN k ∧ mPost z D ad cy r.2 st t
def mCon (lau : Launch) (z : Nat) (D : va_G) (ad : Nat → Nat) (cy : Nat → ClassId) (X : State → Prop) (d : Nat) (M : mM) (as : List Value) (S : mS) (r : mR) : Prop :=
  vx_Met lau M.1 (mWs M) (mRm d M) (va_Pc (as.map (mV ad)) (mPre z D ad cy X S)) (mQc z D ad cy r) (mXc z D ad cy r) M.2.2.2.2.1 (6 * M.2.2.2.2.1) (mAz z)
/-- what is said beside the cells stays true while the machine goes on, where old cells are not written -/
def mXm (z : Nat) (X : State → Prop) : Prop := ∀ (u U : State), X u → u.WarmedH U.vm → (∀ a : Nat, a < u.heap.size → ¬ z ≤ a → U.heap[a]? = u.heap[a]?) → X U
theorem mWs_good {M : mM} (h : Cond.code M.1 M.2.1 M.2.2.1 M.2.2.2.1 ∈ mTs) : GoodIn mTs (mWs M) := fun w hw => by
  rcases List.mem_cons.mp hw with rfl | hw
  · exact ⟨h, mTs_good h⟩
  · exact ⟨hw, mTs_good hw⟩
theorem goodIn_c {a : Cond} {ws : List Cond} (h : a ∈ mTs) (hw : GoodIn mTs ws) : GoodIn mTs (a :: ws) := fun w h9 => by
  rcases List.mem_cons.mp h9 with rfl | h9
  · exact ⟨h, mTs_good h⟩
  · exact hw w h9
section CL
variable {p : Program} {lau : Launch} {e : Env} {R : Room} {s : State} {m : MethodId} {args : Array Value} {below : List Frame} {meth : Method} {c : Code} {Q : State → Prop} {z : Nat} {D : va_G} {ad : Nat → Nat} {cy : Nat → ClassId} {M M' : mM} {X : State → Prop}
variable {H : Heap} {locs : List Loc} {ls : Array Slot} {cells slots mc ms pc d : Nat} {st0 rest : List Value} {r : mR} {a0 : Array Value} {S : mS}
theorem mPre_blind (hXm : mXm z X) {as : List Value} : FrameBlind (va_Pc as (mPre z D ad cy X S)) := by
  intro a U g mk h
  obtain ⟨h0, h1, h2, h3, h4, h5⟩ := h
  exact ⟨h0, h1, h2, va_K.moved (u := U) (U := U.calling g mk a) (Vm.Alike.refl U.vm) h3, h4, hXm U _ h5 (State.WarmedH.refl U) (fun _ _ _ => rfl)⟩
theorem mPre_at (hXm : mXm z X) (hz : z ≤ s.heap.size) (hX : X s) (hK : va_K D vwCl (mT cy) s) (hP : va_P D vwCl (mW ad cy S) H) (hD : va_D (mAz z) (mW ad cy S)) (hS : va_S (mAz z) s.heap H locs) {as : List Value} :
    ∀ U : State, U.heap = H → s.WarmedH U.vm → va_Pc as (mPre z D ad cy X S) as.toArray U := by
  intro U hU hW
  subst hU
  exact ⟨rfl, Nat.le_trans hz hS.1, hP, va_K.moved hW.alike hK, hD, hXm s U hX hW (fun a h1 h2 => hS.2.1 a h1 h2)⟩
/-- behind a call: it has returned, or thrown -/
theorem mBack (hr : vx_Run p lau e R s m args below meth c H locs cells slots mc ms (F0 m pc ls st0) rest (mQc z D ad cy r a0) (mXc z D ad cy r) (mAz z)) (hS : va_S (mAz z) s.heap H locs)
    (kk : ∀ v, r.1 = .inl v → ∀ (H1 : Heap) (locs1 : List Loc), va_P D vwCl (mW ad cy r.2) H1 → va_D (mAz z) (mW ad cy r.2) → va_S (mAz z) s.heap H1 locs1 → W p lau e R s m args below meth c H1 locs1 (cells + mc) (slots + ms) Q (F0 m (pc + 3) ls ((v.map (mV ad)).toList ++ rest)))
    (kx : ∀ k, r.1 = .inr k → ∀ (H1 : Heap) (locs1 : List Loc) (q : Addr) (ce : Cell), va_P D vwCl (mW ad cy r.2) H1 → va_D (mAz z) (mW ad cy r.2) → va_S (mAz z) s.heap H1 locs1 → H1[q]? = some ce → ce.vm = .none → s.vm.findClass (exN k) = some ce.cls → vx_W p lau e R s m args below meth c H1 locs1 (cells + mc) (slots + ms) Q (F0 m pc ls rest) q) :
    W p lau e R s m args below meth c H locs cells slots Q (F0 m pc ls st0) := by
  intro T hT X9
  rcases hr T hT X9 with ⟨v, st₀, t, T', L, h0, X', hL, e1, e2, ⟨v', hv, ho, hP, hD, hF⟩, st⟩ | ⟨q, st₀, t, T', L, E, ce, h0, X', hL, e1, e2, ⟨k, hk, rfl, hP, hD, hF⟩, hce, hcv, hcl, st⟩
  · cases ho
    obtain ⟨k1, k2, k3⟩ := vx_keep h0 e1 hS (fun _ _ h => h) (fun _ h => h) hL hF
    obtain ⟨t2, a1, b1⟩ := kk v' hv T'.heap (locs ++ L) (by rw [e1]; exact hP) hD k3 T' rfl X'
    exact ⟨t2, st t2 a1, b1⟩
  · obtain ⟨k1, k2, k3⟩ := vx_keep h0 e1 hS (fun _ _ h => h) (fun _ h => h) hL hF
    obtain ⟨t2, a1, b1⟩ := kx k hk T'.heap (locs ++ L) q ce (by rw [e1]; exact hP) hD k3 (by rw [e1]; exact hce) hcv hcl T' rfl X'
    exact ⟨t2, st.trans a1, b1⟩
theorem mRun_of (hr : va_Run p lau e R s m args below meth c H locs cells slots mc ms (F0 m pc ls st0) rest (mQc z D ad cy r a0) (mAz z)) :
    vx_Run p lau e R s m args below meth c H locs cells slots mc ms (F0 m pc ls st0) rest (mQc z D ad cy r a0) (mXc z D ad cy r) (mAz z) := fun T hT X9 => Or.inl (hr T hT X9)
/-- a contract that returns, in the plain form -/
theorem mCon.met {as : List Value} (h : mCon lau z D ad cy X d M as S r) {v : Option Value} (hv : r.1 = .inl v) :
    Met lau M.1 (mWs M) (mRm d M) (va_Pc (as.map (mV ad)) (mPre z D ad cy X S)) (mQc z D ad cy r) M.2.2.2.2.1 (6 * M.2.2.2.2.1) (mAz z) := by
  refine MetFree.mono h (fun _ _ h => h) (fun _ _ _ _ _ h => h) (fun a st o t _ hq => ?_)
  rcases hq with hq | ⟨q, -, E, ce, L, ⟨k, hk, -⟩, -⟩
  · exact hq
  · rw [hv] at hk; cases hk
def okV (tab : Nat → Option mM) (M : mM) (o : mOp) (ps : List Nat) : Bool := match o with
  | (_, n, a, b, e, v) => match tab a, vwCl[v.toNatClampNeg / 64 - 1]? with
    | some M', some q => n == 3 && decide (1 ≤ b) && decide (1 ≤ v.toNatClampNeg / 64) && decide (M'.1.cls = q.1) && decide (M'.1.cls ≠ "java/lang/invoke/MethodHandle") && decide (M'.1.cls ≠ "java/lang/invoke/VarHandle") &&
        decide ((parseMethodDescriptor M'.1.desc).map (fun d => d.parameters.length) = some (b - 1)) && decide (M'.2.2.2.2.1 = v.toNatClampNeg % 64) && decide (M'.2.2.1 ≤ 80) &&
        mIp (.methodLink M.1.cls e M'.1) (ps.getD 0 0) && mIp (.instanceMethod M'.1) (ps.getD 1 0) && mIp (.selects q.1 M'.1 M'.1) (ps.getD 2 0) && mIp (.initialized q.1) (ps.getD 3 0) && mIp (.code M'.1 M'.2.1 M'.2.2.1 M'.2.2.2.1) (ps.getD 4 0)
    | _, _ => false
def okS (tab : Nat → Option mM) (M : mM) (o : mOp) (ps : List Nat) : Bool := match o with
  | (_, n, a, b, e, v) => match tab a with
    | some M' => n == 3 && decide (M'.1.cls ≠ "java/lang/invoke/MethodHandle") && decide (M'.1.cls ≠ "java/lang/invoke/VarHandle") &&
        decide ((parseMethodDescriptor M'.1.desc).map (fun d => d.parameters.length) = some b) && decide (M'.2.2.2.2.1 = v.toNatClampNeg % 64) && decide (M'.2.2.1 ≤ 80) &&
        mIp (.methodLink M.1.cls e M'.1) (ps.getD 0 0) && mIp (.static M'.1) (ps.getD 1 0) && mIp (.initialized M'.1.cls) (ps.getD 2 0) && mIp (.code M'.1 M'.2.1 M'.2.2.1 M'.2.2.2.1) (ps.getD 3 0)
    | none => false
theorem mRunV (F : Fr D cy M p s m args meth c) {C : String} {idx i : Nat} {as : List Value} (hXm : mXm z X) (hz : z ≤ s.heap.size) (hX : X s) (hR : R = mRm (d + 1) M)
    (hM : mCon lau z D ad cy X d M' (.ref i :: as) S r) (hP : va_P D vwCl (mW ad cy S) H) (hD : va_D (mAz z) (mW ad cy S)) (hS : va_S (mAz z) s.heap H locs) (hl : mHas ad ls M.2.2.1 st0)
    {ci : Nat} {fs : List (Option Nat)} (hsh : sh[i]? = some (0, ci, fs)) {T : u_T} {N : Nat} (hC : vwCl[ci]? = some (C, T, N)) (hcl : M'.1.cls = C) (hn1 : M'.1.cls ≠ "java/lang/invoke/MethodHandle") (hn2 : M'.1.cls ≠ "java/lang/invoke/VarHandle")
    (hpm : (parseMethodDescriptor M'.1.desc).map (fun d => d.parameters.length) = some as.length) (h80 : M'.2.2.1 ≤ 80)
    (w1 : Cond.methodLink M.1.cls idx M'.1 ∈ mTs) (w2 : Cond.instanceMethod M'.1 ∈ mTs) (w3 : Cond.selects C M'.1 M'.1 ∈ mTs) (w4 : Cond.initialized C ∈ mTs) (w5 : Cond.code M'.1 M'.2.1 M'.2.2.1 M'.2.2.2.1 ∈ mTs)
    (hs8 : (rest.map fun v => v.category).sum ≤ 8) (hd : decode M.2.1 pc = .ok (.invokevirtual idx, 3)) (hk : cells + M'.2.2.2.2.1 ≤ M.2.2.2.2.1) :
    vx_Run p lau e R s m args below meth c H locs cells (6 * cells) M'.2.2.2.2.1 (6 * M'.2.2.2.2.1) (F0 m pc ls ((as.map (mV ad)).reverse ++ .ref (ad i) :: rest)) rest (mQc z D ad cy r (Value.ref (ad i) :: as.map (mV ad)).toArray) (mXc z D ad cy r) (mAz z) := by
  obtain ⟨hx, hb, hml, hr, hown, hts, hlocks, hexc, hK⟩ := F
  have hg := mW_get (ad := ad) (cy := cy) (S := S) hsh
  subst hR
  refine vx_runV (Ts := mTs) (C := C) (As := as.map (mV ad)) (ws := mWs M') (rm := mRm d M') (bytes := M'.2.1) (maxL := M'.2.2.1) (ret := M'.2.2.2.1) ⟨hx, hb, hml, hown, hts⟩ hM
    (cwV as.length hts (goodIn_c w1 (goodIn_c w2 (goodIn_c w3 (goodIn_c w4 (mWs_good w5))))) rfl rfl rfl ⟨hcl, hn1, hn2, hpm⟩ ⟨Nat.le_refl _, by show 8 + (M'.2.2.1 + 11) + (100 * d + 200) ≤ 100 * (d + 1) + 200; omega⟩)
    ⟨mPre_blind hXm, va_recv hK hP hC hg, fun U hU hW => mPre_at (as := (Value.ref i :: as).map (mV ad)) hXm hz hX hK hP hD hS U hU hW⟩ rfl (by rw [List.length_map]) (hl.1) rfl ?_ hd ⟨hk, by show 6 * cells + 6 * M'.2.2.2.2.1 ≤ 6 * M.2.2.2.2.1; omega⟩
  show 2 * (F0 m pc ls _).monitorRoom + _ ≤ 8
  exact lv_room hs8
theorem mRunS (F : Fr D cy M p s m args meth c) {idx : Nat} {as : List Value} (hXm : mXm z X) (hz : z ≤ s.heap.size) (hX : X s) (hR : R = mRm (d + 1) M)
    (hM : mCon lau z D ad cy X d M' as S r) (hP : va_P D vwCl (mW ad cy S) H) (hD : va_D (mAz z) (mW ad cy S)) (hS : va_S (mAz z) s.heap H locs) (hl : mHas ad ls M.2.2.1 st0)
    (hn1 : M'.1.cls ≠ "java/lang/invoke/MethodHandle") (hn2 : M'.1.cls ≠ "java/lang/invoke/VarHandle")
    (hpm : (parseMethodDescriptor M'.1.desc).map (fun d => d.parameters.length) = some as.length) (h80 : M'.2.2.1 ≤ 80)
    (w1 : Cond.methodLink M.1.cls idx M'.1 ∈ mTs) (w2 : Cond.static M'.1 ∈ mTs) (w4 : Cond.initialized M'.1.cls ∈ mTs) (w5 : Cond.code M'.1 M'.2.1 M'.2.2.1 M'.2.2.2.1 ∈ mTs)
    (hs8 : (rest.map fun v => v.category).sum ≤ 8) (hd : decode M.2.1 pc = .ok (.invokestatic idx, 3)) (hk : cells + M'.2.2.2.2.1 ≤ M.2.2.2.2.1) :
    vx_Run p lau e R s m args below meth c H locs cells (6 * cells) M'.2.2.2.2.1 (6 * M'.2.2.2.2.1) (F0 m pc ls ((as.map (mV ad)).reverse ++ rest)) rest (mQc z D ad cy r (as.map (mV ad)).toArray) (mXc z D ad cy r) (mAz z) := by
  obtain ⟨hx, hb, hml, hr, hown, hts, hlocks, hexc, hK⟩ := F
  subst hR
  refine vx_runS (Ts := mTs) (As := as.map (mV ad)) (ws := mWs M') (rm := mRm d M') (bytes := M'.2.1) (maxL := M'.2.2.1) (ret := M'.2.2.2.1) ⟨hx, hb, hml, hown, hts⟩ hM
    (va_cwS as.length hts (goodIn_c w1 (goodIn_c w2 (goodIn_c w4 (mWs_good w5)))) rfl rfl rfl ⟨hn1, hn2, hpm⟩ ⟨Nat.le_refl _, by show 8 + (M'.2.2.1 + 11) + (100 * d + 200) ≤ 100 * (d + 1) + 200; omega⟩)
    ⟨mPre_blind hXm, fun U hU hW => mPre_at (as := as.map (mV ad)) hXm hz hX hK hP hD hS U hU hW⟩ rfl (by rw [List.length_map]) (hl.1) rfl ?_ hd ⟨hk, by show 6 * cells + 6 * M'.2.2.2.2.1 ≤ 6 * M.2.2.2.2.1; omega⟩
  show 2 * (F0 m pc ls _).monitorRoom + _ ≤ 8
  exact lv_room hs8
end CL
