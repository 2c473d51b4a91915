/-! the constructors: rows over a world of which one object is this, and things are laid behind -/
def cW (ws : va_W) (k : Nat) (x : Nat × va_E) (r : va_W) : va_W := ws.set k x ++ r
theorem cW_0 {ws : va_W} {k : Nat} {x : Nat × va_E} (h : ws[k]? = some x) : ws = cW ws k x [] := by
  unfold cW
  rw [List.append_nil]
  apply List.ext_getElem?
  intro j
  rw [List.getElem?_set]
  by_cases hj : k = j
  · subst hj
    rw [if_pos rfl, if_pos (List.getElem?_eq_some_iff.mp h).1]
    exact h
  · rw [if_neg hj]
theorem cW_k {ws : va_W} {k : Nat} {x : Nat × va_E} {r : va_W} (hk : k < ws.length) : (cW ws k x r)[k]? = some x := by
  unfold cW
  rw [List.getElem?_append_left (by rw [List.length_set]; exact hk), List.getElem?_set, if_pos rfl, if_pos hk]
theorem cW_r {ws : va_W} {k : Nat} {x : Nat × va_E} {r : va_W} {j : Nat} : (cW ws k x r)[ws.length + j]? = r[j]? := by
  unfold cW
  rw [List.getElem?_append_right (by rw [List.length_set]; omega), List.length_set, Nat.add_sub_cancel_left]
theorem cW_setk {ws : va_W} {k : Nat} {x y : Nat × va_E} {r : va_W} (hk : k < ws.length) : (cW ws k x r).set k y = cW ws k y r := by
  unfold cW
  rw [List.set_append_left _ _ (by rw [List.length_set]; exact hk), List.set_set]
theorem cW_setr {ws : va_W} {k : Nat} {x y : Nat × va_E} {r : va_W} {j : Nat} : (cW ws k x r).set (ws.length + j) y = cW ws k x (r.set j y) := by
  unfold cW
  rw [List.set_append_right _ _ (by rw [List.length_set]; omega), List.length_set, Nat.add_sub_cancel_left]
theorem cW_app {ws : va_W} {k : Nat} {x : Nat × va_E} {r r2 : va_W} : cW ws k x r ++ r2 = cW ws k x (r ++ r2) := by
  unfold cW
  rw [List.append_assoc]
theorem cW_len {ws : va_W} {k : Nat} {x : Nat × va_E} {r : va_W} : (cW ws k x r).length = ws.length + r.length := by
  unfold cW
  rw [List.length_append, List.length_set]
def kX (U : State) : Prop := (∀ w ∈ lw_tbl, isEx w = true → va_Nw w U) ∧ va_AO "LedgeEggs$Cliff" U
theorem kX_m (z : Nat) : mXm z kX := fun u U h hW ha => ⟨fun w hw he => isEx_warm he hW (h.1 w hw he), h.2.moved hW.alike⟩
def cRm (fr mc ms lo : Nat) : Room := { frames := fr, cells := mc, slots := ms, locals := lo }
def cPre (z : Nat) (D : va_G) (cy : Nat → ClassId) (ws : va_W) (U : State) : Prop := z ≤ U.heap.size ∧ va_P D vwCl ws U.heap ∧ va_K D vwCl (mT cy) U ∧ va_D (mAz z) ws ∧ kX U
def cQ (z : Nat) (D : va_G) (post : va_W → Prop) : Array Value → State → Outcome → State → Prop := fun _ st o t => o = .returned none ∧ ∃ w1, post w1 ∧ va_P D vwCl w1 t.heap ∧ va_D (mAz z) w1 ∧ va_F (mAz z) st t
abbrev cWs (y : MethodName) (b : ByteArray) (n : Nat) : List Cond := .code y b n none :: mTs
def cCon (lau : Launch) (z : Nat) (D : va_G) (cy : Nat → ClassId) (y : MethodName) (b : ByteArray) (n fr mc ms lo : Nat) (as : List Value) (ws : va_W) (post : va_W → Prop) : Prop :=
  Met lau y (cWs y b n) (cRm fr mc ms lo) (va_Pc as (cPre z D cy ws)) (cQ z D post) mc ms (mAz z)
def iOK (own : String) (idx : Nat) (y : MethodName) (b : ByteArray) (n np : Nat) (ps : List Nat) : Bool :=
  decide (y.cls ≠ "java/lang/invoke/MethodHandle") && decide (y.cls ≠ "java/lang/invoke/VarHandle") && decide ((parseMethodDescriptor y.desc).map (fun d => d.parameters.length) = some np) && decide (n ≤ 80) && decide (y.name = "<init>") &&
    mIp (.instanceMethod y) (ps.getD 1 0) && mIp (.initialized y.cls) (ps.getD 2 0) && mIp (.code y b n none) (ps.getD 3 0) && (mIp (.methodLink own idx y) (ps.getD 0 0) || decide (lw_tbl[ps.getD 0 0]? = some (.methodLinkNest own idx y "LedgeEggs")))
section CT9
variable {p : Program} {lau : Launch} {e : Env} {R : Room} {s : State} {m : MethodId} {args : Array Value} {below : List Frame} {meth : Method} {c : Code} {Q : State → Prop} {z : Nat} {D : va_G} {cy : Nat → ClassId}
variable {H : Heap} {locs : List Loc} {ls : Array Slot} {cells slots pc nL : Nat} {rest : List Value} {cc : ByteArray} {own : String} {ws : va_W} {k : Nat} {x : Nat × va_E} {r : va_W}
theorem cBack {a0 : Array Value} {post : va_W → Prop} {mc ms : Nat} {st0 : List Value} (hr : va_Run p lau e R s m args below meth c H locs cells slots mc ms (F0 m pc ls st0) rest (cQ z D post a0) (mAz z)) (hS : va_S (mAz z) s.heap H locs)
    (kk : ∀ (w1 : va_W) (H1 : Heap) (locs1 : List Loc), post w1 → va_P D vwCl w1 H1 → va_D (mAz z) w1 → va_S (mAz z) s.heap H1 locs1 → W p lau e R s m args below meth c H1 locs1 (cells + mc) (slots + ms) Q (F0 m (pc + 3) ls rest)) :
    W p lau e R s m args below meth c H locs cells slots Q (F0 m pc ls st0) := by
  intro T hT X9
  obtain ⟨v, st₀, t, T', L, h0, X', hL, e1, e2, ⟨ho, w1, hp, hP1, hD1, hF1⟩, st⟩ := hr T hT X9
  cases ho
  obtain ⟨k1, k2, k3⟩ := vx_keep h0 e1 hS (fun _ _ h => h) (fun _ h => h) hL hF1
  obtain ⟨t2, a1, b1⟩ := kk w1 T'.heap (locs ++ L) hp (by rw [e1]; exact hP1) hD1 k3 T' rfl X'
  exact ⟨t2, st t2 a1, b1⟩
theorem cCall (F : CallFix p m c cc nL s args mTs own) {idx n fr mc ms lo a : Nat} {y : MethodName} {b : ByteArray} {As : List Value} {ps : List Nat} {post : va_W → Prop} (hok : iOK own idx y b n As.length ps = true) (hz : z ≤ s.heap.size) (hN : kX s) (hK : va_K D vwCl (mT cy) s)
    (hM : cCon lau z D cy y b n fr mc ms lo (.ref a :: As) ws post) (hP : va_P D vwCl ws H) (hD : va_D (mAz z) ws) (hS : va_S (mAz z) s.heap H locs) (hl : ls.size = nL)
    (hs8 : (rest.map fun v => v.category).sum ≤ 8) (hd : decode cc pc = .ok (.invokespecial idx, 3)) (hR : fr + 1 ≤ R.frames ∧ lo + 100 ≤ R.locals) (hk : cells + mc ≤ R.cells ∧ slots + ms ≤ R.slots)
    (kk : ∀ (w1 : va_W) (H1 : Heap) (locs1 : List Loc), post w1 → va_P D vwCl w1 H1 → va_D (mAz z) w1 → va_S (mAz z) s.heap H1 locs1 → W p lau e R s m args below meth c H1 locs1 (cells + mc) (slots + ms) Q (F0 m (pc + 3) ls rest)) :
    W p lau e R s m args below meth c H locs cells slots Q (F0 m pc ls (As.reverse ++ .ref a :: rest)) := by
  simp only [iOK, Bool.and_eq_true, Bool.or_eq_true, decide_eq_true_eq] at hok
  obtain ⟨⟨⟨⟨⟨⟨⟨⟨hn1, hn2⟩, hpm⟩, h80⟩, hnm⟩, w1⟩, w2⟩, w3⟩, w4⟩ := hok
  have hG : GoodIn mTs (cWs y b n) := goodIn_c (mIp_mem w3) (fun w hw => ⟨hw, mTs_good hw⟩)
  have hp : PreS s H (va_Pc (.ref a :: As) (cPre z D cy ws)) (.ref a :: As) := ⟨fun a9 U g mk q => by
      obtain ⟨q0, q1, q2, q3, q4, q5⟩ := q
      exact ⟨q0, q1, q2, va_K.moved (u := U) (U := U.calling g mk a9) (Vm.Alike.refl U.vm) q3, q4, kX_m z U _ q5 (State.WarmedH.refl U) (fun _ _ _ => rfl)⟩,
    fun U hU hW => by
      subst hU
      exact ⟨rfl, Nat.le_trans hz hS.1, hP, va_K.moved hW.alike hK, hD, kX_m z s U hN hW (fun a h1 h2 => hS.2.1 a h1 h2)⟩⟩
  rcases w4 with w4 | w4
  · refine cBack (va_runI (As := As) (rest := rest) (g := F0 m pc ls (As.reverse ++ .ref a :: rest)) (index := idx) (y := y) (bytes := b) (maxL := n) F hM (cwI As.length F.2.2.2.2 hG rfl rfl rfl (F.2.2.2.2 _ (mIp_mem w2)) (F.2.2.2.2 _ (mIp_mem w4)) (F.2.2.2.2 _ (mIp_mem w1)) hnm ⟨hn1, hn2, hpm⟩ ⟨hR.1, by show 8 + (n + 11) + lo ≤ R.locals; omega⟩) hp rfl rfl hl rfl (lv_room hs8) hd hk) hS kk
  · refine cBack (va_runIN (As := As) (rest := rest) (g := F0 m pc ls (As.reverse ++ .ref a :: rest)) (index := idx) (y := y) (bytes := b) (maxL := n) F hM ⟨va_cnB (host := "LedgeEggs") As.length F.2.2.2.2 hG rfl rfl rfl (hN.1 _ (List.mem_of_getElem? w4) rfl) (F.2.2.2.2 _ (mIp_mem w2)) ⟨hn1, hn2, hpm⟩ ⟨hR.1, by show 8 + (n + 11) + lo ≤ R.locals; omega⟩, hnm, F.2.2.2.2 _ (mIp_mem w1)⟩ hp rfl rfl hl rfl (lv_room hs8) hd hk) hS kk
end CT9
/-! the constructors' rows -/
section CT10
variable {p : Program} {lau : Launch} {e : Env} {R : Room} {s : State} {m : MethodId} {args : Array Value} {below : List Frame} {meth : Method} {c : Code} {Q : State → Prop} {z : Nat} {D : va_G} {cy : Nat → ClassId}
variable {H : Heap} {locs : List Loc} {ls : Array Slot} {cells slots pc nL : Nat} {rest : List Value} {cc : ByteArray} {own : String} {ws : va_W} {k : Nat} {x : Nat × va_E} {r : va_W}
theorem wI : Cond.arrayClass .int ∈ mTs := mIs_mem (by decide +kernel)
theorem wB : Cond.arrayClass .byte ∈ mTs := mIs_mem (by decide +kernel)
theorem wJ : Cond.arrayClass .long ∈ mTs := mIs_mem (by decide +kernel)
theorem cNewI (F : CallFix p m c cc nL s args mTs own) (hK : va_K D vwCl (mT cy) s) (hP : va_P D vwCl (cW ws k x r) H) (hD : va_D (mAz z) (cW ws k x r)) (hS : va_S (mAz z) s.heap H locs) (hz : z ≤ s.heap.size) {n : Int32} (N : Nat) (hn : ¬ n < 0) (hN : n.toNatClampNeg = N) (hN2 : N ≤ 20000) (hcells : cells + 1 ≤ R.cells) (hslots : slots + N ≤ R.slots) (hd : decode cc pc = .ok (.newarray .int, 2))
    (kk : ∀ (q : Nat) (H1 : Heap), va_P D vwCl (cW ws k x (r ++ [(q, .inl (cy 0, N, .inl (fun _ => 0)))])) H1 → va_D (mAz z) (cW ws k x (r ++ [(q, .inl (cy 0, N, .inl (fun _ => 0)))])) → va_S (mAz z) s.heap H1 locs → W p lau e R s m args below meth c H1 locs (cells + 1) (slots + N) Q (F0 m (pc + 2) ls (.ref q :: rest))) :
    W p lau e R s m args below meth c H locs cells slots Q (F0 m pc ls (.int n :: rest)) := by
  refine va_newa (atype := .int) (a0 := (N, .inl (fun _ => 0))) F.1 F.2.1 (F.2.2.2.2 _ wI) rfl hK hP hD hS (fun q h => Nat.le_trans hz h) (fun _ => rfl) hn hN (by show N * 4 ≤ _; omega) hcells hslots hd (fun q cA H1 hK2 hP hD hS => ?_)
  have e1 : s.vm.findClass ("[" ++ FieldType.int.toString) = some cA := (hK2.2 4 _ rfl).2
  have e2 : s.vm.findClass ("[" ++ FieldType.int.toString) = some (cy 0) := (hK.2 0 _ rfl).2
  cases Option.some.inj (e1.symm.trans e2)
  rw [cW_app] at hP hD
  exact kk q H1 hP hD hS
theorem cNewB (F : CallFix p m c cc nL s args mTs own) (hK : va_K D vwCl (mT cy) s) (hP : va_P D vwCl (cW ws k x r) H) (hD : va_D (mAz z) (cW ws k x r)) (hS : va_S (mAz z) s.heap H locs) (hz : z ≤ s.heap.size) {n : Int32} (N : Nat) (hn : ¬ n < 0) (hN : n.toNatClampNeg = N) (hN2 : N ≤ 20000) (hcells : cells + 1 ≤ R.cells) (hslots : slots + N ≤ R.slots) (hd : decode cc pc = .ok (.newarray .byte, 2))
    (kk : ∀ (q : Nat) (H1 : Heap), va_P D vwCl (cW ws k x (r ++ [(q, .inl (cy 1, N, .inl (fun _ => 0)))])) H1 → va_D (mAz z) (cW ws k x (r ++ [(q, .inl (cy 1, N, .inl (fun _ => 0)))])) → va_S (mAz z) s.heap H1 locs → W p lau e R s m args below meth c H1 locs (cells + 1) (slots + N) Q (F0 m (pc + 2) ls (.ref q :: rest))) :
    W p lau e R s m args below meth c H locs cells slots Q (F0 m pc ls (.int n :: rest)) := by
  refine va_newa (atype := .byte) (a0 := (N, .inl (fun _ => 0))) F.1 F.2.1 (F.2.2.2.2 _ wB) rfl hK hP hD hS (fun q h => Nat.le_trans hz h) (fun _ => rfl) hn hN (by show N * 1 ≤ _; omega) hcells hslots hd (fun q cA H1 hK2 hP hD hS => ?_)
  have e1 : s.vm.findClass ("[" ++ FieldType.byte.toString) = some cA := (hK2.2 4 _ rfl).2
  have e2 : s.vm.findClass ("[" ++ FieldType.byte.toString) = some (cy 1) := (hK.2 1 _ rfl).2
  cases Option.some.inj (e1.symm.trans e2)
  rw [cW_app] at hP hD
  exact kk q H1 hP hD hS
theorem cNewJ (F : CallFix p m c cc nL s args mTs own) (hK : va_K D vwCl (mT cy) s) (hP : va_P D vwCl ws H) (hD : va_D (mAz z) ws) (hS : va_S (mAz z) s.heap H locs) (hz : z ≤ s.heap.size) {n : Int32} (N : Nat) (hn : ¬ n < 0) (hN : n.toNatClampNeg = N) (hN2 : N ≤ 20000) (hcells : cells + 1 ≤ R.cells) (hslots : slots + N ≤ R.slots) (hd : decode cc pc = .ok (.newarray .long, 2))
    (kk : ∀ (q : Nat) (H1 : Heap), va_P D vwCl (ws ++ [(q, .inl (cy 3, N, .inr (.inl (fun _ => 0))))]) H1 → va_D (mAz z) (ws ++ [(q, .inl (cy 3, N, .inr (.inl (fun _ => 0))))]) → va_S (mAz z) s.heap H1 locs → W p lau e R s m args below meth c H1 locs (cells + 1) (slots + N) Q (F0 m (pc + 2) ls (.ref q :: rest))) :
    W p lau e R s m args below meth c H locs cells slots Q (F0 m pc ls (.int n :: rest)) := by
  refine va_newa (atype := .long) (a0 := (N, .inr (.inl (fun _ => 0)))) F.1 F.2.1 (F.2.2.2.2 _ wJ) rfl hK hP hD hS (fun q h => Nat.le_trans hz h) (fun _ => rfl) hn hN (by show N * 8 ≤ _; omega) hcells hslots hd (fun q cA H1 hK2 hP hD hS => ?_)
  have e1 : s.vm.findClass ("[" ++ FieldType.long.toString) = some cA := (hK2.2 4 _ rfl).2
  have e2 : s.vm.findClass ("[" ++ FieldType.long.toString) = some (cy 3) := (hK.2 3 _ rfl).2
  cases Option.some.inj (e1.symm.trans e2)
  exact kk q H1 hP hD hS
def fin9 (own : String) (ci a : Nat) (g : Bool) (ty : FieldType) : Bool := match vwCl[ci]? with
  | some q => decide ((q.2.1 a).2.2.2 = g) && (!g || decide ((q.2.1 a).1 = own)) && decide (parseFieldDescriptor (q.2.1 a).2.2.1 = some ty)
  | none => false
theorem cPutF (F : CallFix p m c cc nL s args mTs own) (hK : va_K D vwCl (mT cy) s) {h0 ci : Nat} {fs : List Value} (hk : k < ws.length) (hP : va_P D vwCl (cW ws k (h0, .inr (ci, fs)) r) H) (hD : va_D (mAz z) (cW ws k (h0, .inr (ci, fs)) r)) (hS : va_S (mAz z) s.heap H locs) {a e0 : Nat} {ps : List Nat} {ty : FieldType} {v : Value}
    (hok : fOK own a ci e0 ps = true) (hf9 : fin9 own ci a true ty = true) (hin : meth.name = "<init>") (hn : narrow ty v = v) (hfit : fits ty v = true) (hl : a < fs.length) (hd : decode cc pc = .ok (.putfield e0, 3))
    (kk : ∀ (H1 : Heap) (locs1 : List Loc), va_P D vwCl (cW ws k (h0, .inr (ci, fs.set a v)) r) H1 → va_D (mAz z) (cW ws k (h0, .inr (ci, fs.set a v)) r) → va_S (mAz z) s.heap H1 locs1 → W p lau e R s m args below meth c H1 locs1 cells slots Q (F0 m (pc + 3) ls rest)) :
    W p lau e R s m args below meth c H locs cells slots Q (F0 m pc ls (v :: .ref h0 :: rest)) := by
  obtain ⟨q, ref, hq, ha, hw, hsame⟩ := fOK_spec hok
  obtain ⟨⟨ty0, hty⟩, hnm⟩ := vw_ty hq
  obtain ⟨C, T, N⟩ := q
  simp only [fin9, hq, Bool.and_eq_true, decide_eq_true_eq, Bool.not_true, Bool.false_or] at hf9
  refine va_putF (ci := ci) (C := C) (T := T) (N := N) F.1 F.2.1 F.2.2.2.2 (vw_in hq) ty0 hty hnm F.2.2.2.1 hK hP hD hS k (cW_k hk) hq a ha (F.2.2.2.2 _ hw) (hsame args s F.2.2.2.2) hf9.1.1 hin hf9.1.2 hf9.2 hn hfit hl hd (fun H1 l1 hP hD hS => ?_)
  rw [cW_setk hk] at hP hD
  exact kk H1 l1 hP hD hS
theorem cPut (F : CallFix p m c cc nL s args mTs own) (hK : va_K D vwCl (mT cy) s) {h0 ci : Nat} {fs : List Value} (hk : k < ws.length) (hP : va_P D vwCl (cW ws k (h0, .inr (ci, fs)) r) H) (hD : va_D (mAz z) (cW ws k (h0, .inr (ci, fs)) r)) (hS : va_S (mAz z) s.heap H locs) {a e0 : Nat} {ps : List Nat} {ty : FieldType} {v : Value}
    (hok : fOK own a ci e0 ps = true) (hf9 : fin9 own ci a false ty = true) (hn : narrow ty v = v) (hfit : fits ty v = true) (hl : a < fs.length) (hd : decode cc pc = .ok (.putfield e0, 3))
    (kk : ∀ (H1 : Heap) (locs1 : List Loc), va_P D vwCl (cW ws k (h0, .inr (ci, fs.set a v)) r) H1 → va_D (mAz z) (cW ws k (h0, .inr (ci, fs.set a v)) r) → va_S (mAz z) s.heap H1 locs1 → W p lau e R s m args below meth c H1 locs1 cells slots Q (F0 m (pc + 3) ls rest)) :
    W p lau e R s m args below meth c H locs cells slots Q (F0 m pc ls (v :: .ref h0 :: rest)) := by
  obtain ⟨q, ref, hq, ha, hw, hsame⟩ := fOK_spec hok
  obtain ⟨⟨ty0, hty⟩, hnm⟩ := vw_ty hq
  obtain ⟨C, T, N⟩ := q
  simp only [fin9, hq, Bool.and_eq_true, decide_eq_true_eq] at hf9
  refine va_put (ci := ci) (C := C) (T := T) (N := N) F.1 F.2.1 F.2.2.2.2 (vw_in hq) ty0 hty hnm F.2.2.2.1 hK hP hD hS k (cW_k hk) hq a ha (F.2.2.2.2 _ hw) (hsame args s F.2.2.2.2) hf9.1.1 hf9.2 hn hfit hl hd (fun H1 l1 hP hD hS => ?_)
  rw [cW_setk hk] at hP hD
  exact kk H1 l1 hP hD hS
theorem cGet (F : CallFix p m c cc nL s args mTs own) (hK : va_K D vwCl (mT cy) s) {h0 ci : Nat} {fs : List Value} (hk : k < ws.length) (hP : va_P D vwCl (cW ws k (h0, .inr (ci, fs)) r) H) {a e0 : Nat} {ps : List Nat} {v : Value}
    (hok : fOK own a ci e0 ps = true) (hv : fs[a]? = some v) (hd : decode cc pc = .ok (.getfield e0, 3)) (kk : W p lau e R s m args below meth c H locs cells slots Q (F0 m (pc + 3) ls (v :: rest))) :
    W p lau e R s m args below meth c H locs cells slots Q (F0 m pc ls (.ref h0 :: rest)) := by
  obtain ⟨q, ref, hq, ha, hw, hsame⟩ := fOK_spec hok
  obtain ⟨C, T, N⟩ := q
  exact va_get (ci := ci) (C := C) (T := T) (N := N) F.1 F.2.1 F.2.2.2.2 (vw_in hq) F.2.2.2.1 hK hP k (cW_k hk) hq a ha (F.2.2.2.2 _ hw) (hsame args s F.2.2.2.2) hv hd kk
theorem cIast (F : CallFix p m c cc nL s args mTs own) (hK : va_K D vwCl (mT cy) s) (hP : va_P D vwCl (cW ws k x r) H) (hD : va_D (mAz z) (cW ws k x r)) (hS : va_S (mAz z) s.heap H locs) (j : Nat) {a N : Nat} {f : Nat → Int32} (hj : r[j]? = some (a, .inl (cy 0, N, .inl f))) {i v : Int32} (i0 : Nat) (hi0 : i.toNatClampNeg = i0) (hin : vp_in i N) (hd : decode cc pc = .ok (.iastore, 1))
    (kk : ∀ (H1 : Heap) (locs1 : List Loc), va_P D vwCl (cW ws k x (r.set j (a, .inl (cy 0, N, .inl (upd f i0 v))))) H1 → va_D (mAz z) (cW ws k x (r.set j (a, .inl (cy 0, N, .inl (upd f i0 v))))) → va_S (mAz z) s.heap H1 locs1 → W p lau e R s m args below meth c H1 locs1 cells slots Q (F0 m (pc + 1) ls rest)) :
    W p lau e R s m args below meth c H locs cells slots Q (F0 m pc ls (.int v :: .int i :: .ref a :: rest)) := by
  subst hi0
  refine va_iast F.1 F.2.1 hK hP hD hS (ws.length + j) 0 (cW_r.trans hj) rfl hin hd (fun H1 l1 hP hD hS => ?_)
  rw [cW_setr] at hP hD
  exact kk H1 l1 hP hD hS
def nOK (own : String) (idx ci : Nat) (ps : List Nat) : Bool := match vwCl[ci]? with
  | some q => mIp (.classLink own idx q.1) (ps.getD 0 0) && mIp (.instantiable q.1 q.2.2) (ps.getD 1 0) && mIp (.initialized q.1) (ps.getD 2 0)
  | none => false
theorem cNew (F : CallFix p m c cc nL s args mTs own) (hK : va_K D vwCl (mT cy) s) (hP : va_P D vwCl ws H) (hD : va_D (mAz z) ws) (hS : va_S (mAz z) s.heap H locs) (hz : z ≤ s.heap.size) {idx ci : Nat} {ps : List Nat} (hok : nOK own idx ci ps = true) {C : String} {T : u_T} {N : Nat} (hq : vwCl[ci]? = some (C, T, N)) {ty0 : Nat → FieldType} (hty : ∀ k, k < N → parseFieldDescriptor (T k).2.2.1 = some (ty0 k)) {fs : List Value} (hfs : ∀ j, j < N → defaultValue (ty0 j) = vp_V fs j)
    (hcells : cells + 1 ≤ R.cells) (hslots : slots + N ≤ R.slots) (hd : decode cc pc = .ok (.new idx, 3))
    (kk : ∀ (q : Nat) (H1 : Heap), va_P D vwCl (ws ++ [(q, .inr (ci, fs))]) H1 → va_D (mAz z) (ws ++ [(q, .inr (ci, fs))]) → va_S (mAz z) s.heap H1 locs → W p lau e R s m args below meth c H1 locs (cells + 1) (slots + N) Q (F0 m (pc + 3) ls (.ref q :: rest))) :
    W p lau e R s m args below meth c H locs cells slots Q (F0 m pc ls rest) := by
  simp only [nOK, hq, Bool.and_eq_true] at hok
  exact va_new (ci := ci) (C := C) (T := T) (N := N) F.1 F.2.1 F.2.2.2.2 (vw_in hq) ty0 hty F.2.2.2.1 (F.2.2.2.2 _ (mIp_mem hok.1.1)) (F.2.2.2.2 _ (mIp_mem hok.1.2)) (F.2.2.2.2 _ (mIp_mem hok.2)) hK hP hD hS (fun q h => Nat.le_trans hz h) hq hfs hcells hslots hd kk
theorem wO1 : Cond.instanceMethod Lib.objectInit ∈ mTs := mIs_mem (by decide +kernel)
theorem wO2 : Cond.code Lib.objectInit ⟨#[0xb1]⟩ 1 none ∈ mTs := mIs_mem (by decide +kernel)
theorem cObj (F : CallFix p m c cc nL s args mTs own) {idx a : Nat} (hl : ls.size = nL) (hw : Cond.methodLink own idx Lib.objectInit ∈ mTs) (hR : 1 ≤ R.frames ∧ 30 ≤ R.locals) (hs8 : (rest.map fun v => v.category).sum ≤ 8) (hd : decode cc pc = .ok (.invokespecial idx, 3))
    (kk : W p lau e R s m args below meth c H locs cells slots Q (F0 m (pc + 3) ls rest)) : W p lau e R s m args below meth c H locs cells slots Q (F0 m pc ls (.ref a :: rest)) := by
  refine W.objInit F.1 F.2.1 F.2.2.2.1 (F.2.2.2.2 _ hw) (F.2.2.2.2 _ wO1) (F.2.2.2.2 _ wO2) rfl (by rw [F.2.2.1]; exact hl) rfl hd hR.1 ?_ ?_
  · have := lv_room (m := m) (pc := pc) (ls := ls) (rest := .ref a :: rest) hs8
    omega
  · exact W.eq rfl kk
theorem cRet (hx : p.tables.exec = Jvm.exec) (hb : c.code = cc) (hr : meth.sig.returnType = none) (hlocks : meth.locks = false) {post : va_W → Prop} {mc ms : Nat} {w1 : va_W} (hp : post w1) (hP : va_P D vwCl w1 H) (hD : va_D (mAz z) w1) (hS : va_S (mAz z) s.heap H locs) (hc : cells ≤ mc) (hs : slots ≤ ms) (hd : decode cc pc = .ok (.return_, 1)) :
    W p lau e R s m args below meth c H locs cells slots (MQ below (cQ z D post) args s mc ms (mAz z)) (F0 m pc ls []) :=
  W.widen hc hs (W.vret hx hb hr (fun t ht hW => ⟨rfl, w1, hp, by rw [ht]; exact hP, hD, hS.F ht⟩) hS.2.2 hd hlocks)
end CT10
/-! the constructors' contracts -/
theorem cW_in {ws : va_W} {k j : Nat} {x y : Nat × va_E} {r r2 : va_W} : cW (cW ws k x r) (ws.length + j) y r2 = cW ws k x (r.set j y ++ r2) := by
  show (cW ws k x r).set (ws.length + j) y ++ r2 = _
  rw [cW_setr, cW_app]
theorem cW_me {ws : va_W} {k : Nat} {x y : Nat × va_E} {r r2 : va_W} (hk : k < ws.length) : cW (cW ws k x r) k y r2 = cW ws k y (r ++ r2) := by
  show (cW ws k x r).set k y ++ r2 = _
  rw [cW_setk hk, cW_app]
section CT11
variable {p : Program} {lau : Launch} {e : Env} {R : Room} {s : State} {m : MethodId} {args : Array Value} {below : List Frame} {meth : Method} {c : Code} {Q : State → Prop} {z : Nat} {D : va_G} {cy : Nat → ClassId}
variable {H : Heap} {locs : List Loc} {ls : Array Slot} {cells slots pc nL : Nat} {rest : List Value} {cc : ByteArray} {own : String} {ws : va_W} {k : Nat} {x : Nat × va_E} {r : va_W}
theorem cNewQ (F : CallFix p m c cc nL s args mTs own) (hK : va_K D vwCl (mT cy) s) (hP : va_P D vwCl (cW ws k x r) H) (hD : va_D (mAz z) (cW ws k x r)) (hS : va_S (mAz z) s.heap H locs) (hz : z ≤ s.heap.size) (hov : va_AO "LedgeEggs$Cliff" s) {idx : Nat} (hw : Cond.classLink own idx "LedgeEggs$Cliff" ∈ mTs) {n : Int32} (N : Nat) (hn : ¬ n < 0) (hN : n.toNatClampNeg = N) (hN2 : N ≤ 20000) (hcells : cells + 1 ≤ R.cells) (hslots : slots + N ≤ R.slots) (hd : decode cc pc = .ok (.anewarray idx, 3))
    (kk : ∀ (q : Nat) (H1 : Heap), va_P D vwCl (cW ws k x (r ++ [(q, .inl (cy 2, N, .inr (.inr (.inr (.inr (fun _ => none))))))])) H1 → va_D (mAz z) (cW ws k x (r ++ [(q, .inl (cy 2, N, .inr (.inr (.inr (.inr (fun _ => none))))))])) → va_S (mAz z) s.heap H1 locs → W p lau e R s m args below meth c H1 locs (cells + 1) (slots + N) Q (F0 m (pc + 3) ls (.ref q :: rest))) :
    W p lau e R s m args below meth c H locs cells slots Q (F0 m pc ls (.int n :: rest)) := by
  refine va_newq (C := "LedgeEggs$Cliff") F.1 F.2.1 F.2.2.2.1 (F.2.2.2.2 _ hw) hov hK hP hD hS (fun q h => Nat.le_trans hz h) hn hN (by omega) hcells hslots hd (fun q cA H1 hK2 hP hD hS => ?_)
  obtain ⟨kA, comp, -, -, -, e1⟩ := (hK2.2 4 _ rfl).2
  obtain ⟨kA2, comp2, -, -, -, e2⟩ := (hK.2 2 _ rfl).2
  cases Option.some.inj (e1.symm.trans e2)
  rw [cW_app] at hP hD
  exact kk q H1 hP hD hS
theorem cAstq (F : CallFix p m c cc nL s args mTs own) (hK : va_K D vwCl (mT cy) s) (hP : va_P D vwCl (cW ws k x r) H) (hD : va_D (mAz z) (cW ws k x r)) (hS : va_S (mAz z) s.heap H locs) (j j2 ci : Nat) {a v N : Nat} {f : Nat → Option Nat} {vs : List Value} (hj : r[j]? = some (a, .inl (cy 2, N, .inr (.inr (.inr (.inr f)))))) (hj2 : r[j2]? = some (v, .inr (ci, vs))) (hc : vwCl[ci]? = some (RX0, TX0, 1)) {i : Int32} (i0 : Nat) (hi0 : i.toNatClampNeg = i0) (hin : vp_in i N) (hd : decode cc pc = .ok (.aastore, 1))
    (kk : ∀ (H1 : Heap) (locs1 : List Loc), va_P D vwCl (cW ws k x (r.set j (a, .inl (cy 2, N, .inr (.inr (.inr (.inr (va_up f i0 (some v))))))))) H1 → va_D (mAz z) (cW ws k x (r.set j (a, .inl (cy 2, N, .inr (.inr (.inr (.inr (va_up f i0 (some v))))))))) → va_S (mAz z) s.heap H1 locs1 → W p lau e R s m args below meth c H1 locs1 cells slots Q (F0 m (pc + 1) ls rest)) :
    W p lau e R s m args below meth c H locs cells slots Q (F0 m pc ls (.ref v :: .int i :: .ref a :: rest)) := by
  subst hi0
  refine va_astq (r := (RX0, TX0, 1)) F.1 F.2.1 hK hP hD hS (ws.length + j) 2 (ws.length + j2) ci (cW_r.trans hj) rfl (cW_r.trans hj2) hc hin hd (fun H1 l1 hP hD hS => ?_)
  rw [cW_setr] at hP hD
  exact kk H1 l1 hP hD hS
end CT11
set_option maxRecDepth 20000 in
theorem ok_cc_Cliff_0_10 : fOK RX0 0 0 11 [197, 0] = true := by decide +kernel
set_option maxRecDepth 20000 in
theorem ok_cc_Cliff_0_14 : fOK RX0 0 0 11 [197, 0] = true := by decide +kernel
set_option maxRecDepth 20000 in
theorem ok_cc_Cliff_0_22 : fOK RX0 0 0 11 [197, 0] = true := by decide +kernel
set_option maxRecDepth 20000 in
theorem ok_cc_Cliff_0_30 : fOK RX0 0 0 11 [197, 0] = true := by decide +kernel
set_option maxRecDepth 100000 in
set_option maxHeartbeats 8000000 in
theorem cc_Cliff {lau : Launch} {z : Nat} {D : va_G} {cy : Nat → ClassId} {ws : va_W} {k h0 : Nat} (hk : ws[k]? = some (h0, .inr (0, [.null]))) : cCon lau z D cy yX0_init cX0_init 1 2 1 446 260 [.ref h0] ws (fun w1 => ∃ q0, w1 = cW ws k (h0, .inr (0, [.ref q0])) [(q0, .inl (cy 0, 446, .inl (upd (upd (upd (fun _ => 0) 0 30) 2 100) 10 1)))]) := by
  refine Met.ofW (cc := cX0_init) (maxL := 1) (ret := none) (by decide) rfl ?_
  intro p e s m args below meth c s₁ B hml hv
  obtain ⟨rfl, hz, hP, hK, hD, hN⟩ := hv
  have F : CallFix p m c cX0_init 1 s _ mTs RX0 := ⟨B.exec, B.bytes, hml, findClass_of_methodNamed B.named, fun w hw => atoms_spec (ws := cWs yX0_init cX0_init 1) B.pre w (List.mem_cons_of_mem _ hw)⟩
  have hx := B.exec
  have hb := B.bytes
  have hr := B.returns
  have hlocks := B.notSynchronized
  have hin : meth.name = "<init>" := (name_of_methodNamed B.named B.method).1
  have hS : va_S (mAz z) s.heap s.heap [] := va_S.rf
  have hkl : k < ws.length := (List.getElem?_eq_some_iff.mp hk).1
  have hP : va_P D vwCl (cW ws k (h0, .inr (0, [.null])) []) s.heap := by rw [← cW_0 hk]; exact hP
  have hD : va_D (mAz z) (cW ws k (h0, .inr (0, [.null])) []) := by rw [← cW_0 hk]; exact hD
  have hl := lv_entry ([.ref h0]) (n := 1) (Nat.le_of_ble_eq_true rfl)
  show W p lau e (cRm 2 1 446 260) s m _ below meth c s.heap [] 0 0 _ (entryFrame m ([.ref h0] : List Value).toArray 1)
  rw [lg_entry_eq]
  generalize (lg_sl ([.ref h0]) ++ List.replicate (1 - (lg_sl ([.ref h0])).length) Slot.unset).toArray = ls at hl ⊢
  have hl : lv_has ls 1 [(0, .ref h0)] := hl
  refine lv_aload_n hx hb (by decide +kernel : decode cX0_init 0 = .ok (.aload_n 0, 1)) rfl (lv_at hl 0 rfl) ?_
  refine cObj F hl.1 (mIp_mem (i := 196) (by decide +kernel)) (by decide) (Nat.le_of_ble_eq_true rfl) (by decide +kernel : decode cX0_init 1 = .ok (.invokespecial 5, 3)) ?_
  refine lv_aload_n hx hb (by decide +kernel : decode cX0_init 4 = .ok (.aload_n 0, 1)) rfl (lv_at hl 0 rfl) ?_
  refine lv_sipush (v := 446) hx hb (by decide +kernel : decode cX0_init 5 = .ok (.sipush 446, 3)) (by decide) ?_
  refine cNewI F hK hP hD hS hz 446 (by decide) (by decide) (by decide) (Nat.le_of_ble_eq_true rfl) (Nat.le_of_ble_eq_true rfl) (by decide +kernel : decode cX0_init 8 = .ok (.newarray .int, 2)) (fun q0 H hP hD hS => ?_)
  have hP : va_P D vwCl (cW ws k (h0, .inr (0, [.null])) [(q0, .inl (cy 0, 446, .inl (fun _ => 0)))]) H := hP
  have hD : va_D (mAz z) (cW ws k (h0, .inr (0, [.null])) [(q0, .inl (cy 0, 446, .inl (fun _ => 0)))]) := hD
  refine cPutF F hK hkl hP hD hS (a := 0) (ty := tyX0 0) (v := .ref q0) ok_cc_Cliff_0_10 (by decide +kernel : fin9 RX0 0 0 true (tyX0 0) = true) hin rfl rfl (Nat.le_of_ble_eq_true rfl) (by decide +kernel : decode cX0_init 10 = .ok (.putfield 11, 3)) (fun H locs hP hD hS => ?_)
  have hP : va_P D vwCl (cW ws k (h0, .inr (0, [.ref q0])) [(q0, .inl (cy 0, 446, .inl (fun _ => 0)))]) H := hP
  have hD : va_D (mAz z) (cW ws k (h0, .inr (0, [.ref q0])) [(q0, .inl (cy 0, 446, .inl (fun _ => 0)))]) := hD
  refine lv_aload_n hx hb (by decide +kernel : decode cX0_init 13 = .ok (.aload_n 0, 1)) rfl (lv_at hl 0 rfl) ?_
  refine cGet F hK hkl hP (a := 0) ok_cc_Cliff_0_14 rfl (by decide +kernel : decode cX0_init 14 = .ok (.getfield 11, 3)) ?_
  refine lv_iconst (v := 0) hx hb (by decide +kernel : decode cX0_init 17 = .ok (.iconst 0, 1)) (by decide) ?_
  refine lv_bipush (v := 30) hx hb (by decide +kernel : decode cX0_init 18 = .ok (.bipush 30, 2)) (by decide) ?_
  refine cIast F hK hP hD hS 0 rfl 0 (by decide) (by unfold vp_in; decide) (by decide +kernel : decode cX0_init 20 = .ok (.iastore, 1)) (fun H locs hP hD hS => ?_)
  have hP : va_P D vwCl (cW ws k (h0, .inr (0, [.ref q0])) [(q0, .inl (cy 0, 446, .inl (upd (fun _ => 0) 0 30)))]) H := hP
  have hD : va_D (mAz z) (cW ws k (h0, .inr (0, [.ref q0])) [(q0, .inl (cy 0, 446, .inl (upd (fun _ => 0) 0 30)))]) := hD
  refine lv_aload_n hx hb (by decide +kernel : decode cX0_init 21 = .ok (.aload_n 0, 1)) rfl (lv_at hl 0 rfl) ?_
  refine cGet F hK hkl hP (a := 0) ok_cc_Cliff_0_22 rfl (by decide +kernel : decode cX0_init 22 = .ok (.getfield 11, 3)) ?_
  refine lv_iconst (v := 2) hx hb (by decide +kernel : decode cX0_init 25 = .ok (.iconst 2, 1)) (by decide) ?_
  refine lv_bipush (v := 100) hx hb (by decide +kernel : decode cX0_init 26 = .ok (.bipush 100, 2)) (by decide) ?_
  refine cIast F hK hP hD hS 0 rfl 2 (by decide) (by unfold vp_in; decide) (by decide +kernel : decode cX0_init 28 = .ok (.iastore, 1)) (fun H locs hP hD hS => ?_)
  have hP : va_P D vwCl (cW ws k (h0, .inr (0, [.ref q0])) [(q0, .inl (cy 0, 446, .inl (upd (upd (fun _ => 0) 0 30) 2 100)))]) H := hP
  have hD : va_D (mAz z) (cW ws k (h0, .inr (0, [.ref q0])) [(q0, .inl (cy 0, 446, .inl (upd (upd (fun _ => 0) 0 30) 2 100)))]) := hD
  refine lv_aload_n hx hb (by decide +kernel : decode cX0_init 29 = .ok (.aload_n 0, 1)) rfl (lv_at hl 0 rfl) ?_
  refine cGet F hK hkl hP (a := 0) ok_cc_Cliff_0_30 rfl (by decide +kernel : decode cX0_init 30 = .ok (.getfield 11, 3)) ?_
  refine lv_bipush (v := 10) hx hb (by decide +kernel : decode cX0_init 33 = .ok (.bipush 10, 2)) (by decide) ?_
  refine lv_iconst (v := 1) hx hb (by decide +kernel : decode cX0_init 35 = .ok (.iconst 1, 1)) (by decide) ?_
  refine cIast F hK hP hD hS 0 rfl 10 (by decide) (by unfold vp_in; decide) (by decide +kernel : decode cX0_init 36 = .ok (.iastore, 1)) (fun H locs hP hD hS => ?_)
  have hP : va_P D vwCl (cW ws k (h0, .inr (0, [.ref q0])) [(q0, .inl (cy 0, 446, .inl (upd (upd (upd (fun _ => 0) 0 30) 2 100) 10 1)))]) H := hP
  have hD : va_D (mAz z) (cW ws k (h0, .inr (0, [.ref q0])) [(q0, .inl (cy 0, 446, .inl (upd (upd (upd (fun _ => 0) 0 30) 2 100) 10 1)))]) := hD
  exact cRet hx hb hr hlocks ⟨q0, rfl⟩ hP hD hS (Nat.le_of_ble_eq_true rfl) (Nat.le_of_ble_eq_true rfl) (by decide +kernel : decode cX0_init 37 = .ok (.return_, 1))
set_option maxRecDepth 20000 in
theorem ok_cc_Tape_0_10 : fOK RX8 0 7 9 [146, 0] = true := by decide +kernel
set_option maxRecDepth 20000 in
theorem ok_cc_Tape_3_15 : fOK RX8 3 7 15 [149, 0] = true := by decide +kernel
set_option maxRecDepth 100000 in
set_option maxHeartbeats 8000000 in
theorem cc_Tape {lau : Launch} {z : Nat} {D : va_G} {cy : Nat → ClassId} {ws : va_W} {k h0 : Nat} (hk : ws[k]? = some (h0, .inr (7, [.null, .int 0, .int 0, .int 0]))) : cCon lau z D cy yX8_init cX8_init 1 2 1 400 260 [.ref h0] ws (fun w1 => ∃ q0, w1 = cW ws k (h0, .inr (7, [.ref q0, .int 0, .int 0, .int (-1)])) [(q0, .inl (cy 0, 400, .inl (fun _ => 0)))]) := by
  refine Met.ofW (cc := cX8_init) (maxL := 1) (ret := none) (by decide) rfl ?_
  intro p e s m args below meth c s₁ B hml hv
  obtain ⟨rfl, hz, hP, hK, hD, hN⟩ := hv
  have F : CallFix p m c cX8_init 1 s _ mTs RX8 := ⟨B.exec, B.bytes, hml, findClass_of_methodNamed B.named, fun w hw => atoms_spec (ws := cWs yX8_init cX8_init 1) B.pre w (List.mem_cons_of_mem _ hw)⟩
  have hx := B.exec
  have hb := B.bytes
  have hr := B.returns
  have hlocks := B.notSynchronized
  have hin : meth.name = "<init>" := (name_of_methodNamed B.named B.method).1
  have hS : va_S (mAz z) s.heap s.heap [] := va_S.rf
  have hkl : k < ws.length := (List.getElem?_eq_some_iff.mp hk).1
  have hP : va_P D vwCl (cW ws k (h0, .inr (7, [.null, .int 0, .int 0, .int 0])) []) s.heap := by rw [← cW_0 hk]; exact hP
  have hD : va_D (mAz z) (cW ws k (h0, .inr (7, [.null, .int 0, .int 0, .int 0])) []) := by rw [← cW_0 hk]; exact hD
  have hl := lv_entry ([.ref h0]) (n := 1) (Nat.le_of_ble_eq_true rfl)
  show W p lau e (cRm 2 1 400 260) s m _ below meth c s.heap [] 0 0 _ (entryFrame m ([.ref h0] : List Value).toArray 1)
  rw [lg_entry_eq]
  generalize (lg_sl ([.ref h0]) ++ List.replicate (1 - (lg_sl ([.ref h0])).length) Slot.unset).toArray = ls at hl ⊢
  have hl : lv_has ls 1 [(0, .ref h0)] := hl
  refine lv_aload_n hx hb (by decide +kernel : decode cX8_init 0 = .ok (.aload_n 0, 1)) rfl (lv_at hl 0 rfl) ?_
  refine cObj F hl.1 (mIp_mem (i := 145) (by decide +kernel)) (by decide) (Nat.le_of_ble_eq_true rfl) (by decide +kernel : decode cX8_init 1 = .ok (.invokespecial 3, 3)) ?_
  refine lv_aload_n hx hb (by decide +kernel : decode cX8_init 4 = .ok (.aload_n 0, 1)) rfl (lv_at hl 0 rfl) ?_
  refine lv_sipush (v := 400) hx hb (by decide +kernel : decode cX8_init 5 = .ok (.sipush 400, 3)) (by decide) ?_
  refine cNewI F hK hP hD hS hz 400 (by decide) (by decide) (by decide) (Nat.le_of_ble_eq_true rfl) (Nat.le_of_ble_eq_true rfl) (by decide +kernel : decode cX8_init 8 = .ok (.newarray .int, 2)) (fun q0 H hP hD hS => ?_)
  have hP : va_P D vwCl (cW ws k (h0, .inr (7, [.null, .int 0, .int 0, .int 0])) [(q0, .inl (cy 0, 400, .inl (fun _ => 0)))]) H := hP
  have hD : va_D (mAz z) (cW ws k (h0, .inr (7, [.null, .int 0, .int 0, .int 0])) [(q0, .inl (cy 0, 400, .inl (fun _ => 0)))]) := hD
  refine cPutF F hK hkl hP hD hS (a := 0) (ty := tyX8 0) (v := .ref q0) ok_cc_Tape_0_10 (by decide +kernel : fin9 RX8 7 0 true (tyX8 0) = true) hin rfl rfl (Nat.le_of_ble_eq_true rfl) (by decide +kernel : decode cX8_init 10 = .ok (.putfield 9, 3)) (fun H locs hP hD hS => ?_)
  have hP : va_P D vwCl (cW ws k (h0, .inr (7, [.ref q0, .int 0, .int 0, .int 0])) [(q0, .inl (cy 0, 400, .inl (fun _ => 0)))]) H := hP
  have hD : va_D (mAz z) (cW ws k (h0, .inr (7, [.ref q0, .int 0, .int 0, .int 0])) [(q0, .inl (cy 0, 400, .inl (fun _ => 0)))]) := hD
  refine lv_aload_n hx hb (by decide +kernel : decode cX8_init 13 = .ok (.aload_n 0, 1)) rfl (lv_at hl 0 rfl) ?_
  refine lv_iconst (v := (-1)) hx hb (by decide +kernel : decode cX8_init 14 = .ok (.iconst (-1), 1)) (by decide) ?_
  refine cPut F hK hkl hP hD hS (a := 3) (ty := tyX8 3) (v := .int (-1)) ok_cc_Tape_3_15 (by decide +kernel : fin9 RX8 7 3 false (tyX8 3) = true) rfl rfl (Nat.le_of_ble_eq_true rfl) (by decide +kernel : decode cX8_init 15 = .ok (.putfield 15, 3)) (fun H locs hP hD hS => ?_)
  have hP : va_P D vwCl (cW ws k (h0, .inr (7, [.ref q0, .int 0, .int 0, .int (-1)])) [(q0, .inl (cy 0, 400, .inl (fun _ => 0)))]) H := hP
  have hD : va_D (mAz z) (cW ws k (h0, .inr (7, [.ref q0, .int 0, .int 0, .int (-1)])) [(q0, .inl (cy 0, 400, .inl (fun _ => 0)))]) := hD
  exact cRet hx hb hr hlocks ⟨q0, rfl⟩ hP hD hS (Nat.le_of_ble_eq_true rfl) (Nat.le_of_ble_eq_true rfl) (by decide +kernel : decode cX8_init 18 = .ok (.return_, 1))
set_option maxRecDepth 20000 in
theorem ok_cc_Law_0_9 : fOK RX2 0 2 9 [166, 0] = true := by decide +kernel
set_option maxRecDepth 20000 in
theorem ok_cc_Law_1_17 : fOK RX2 1 2 15 [167, 0] = true := by decide +kernel
set_option maxRecDepth 20000 in
theorem ok_cc_Law_2_25 : fOK RX2 2 2 18 [168, 0] = true := by decide +kernel
set_option maxRecDepth 20000 in
theorem ok_cc_Law_3_34 : fOK RX2 3 2 21 [169, 0] = true := by decide +kernel
set_option maxRecDepth 20000 in
theorem ok_cc_Law_4_42 : fOK RX2 4 2 24 [170, 0] = true := by decide +kernel
set_option maxRecDepth 20000 in
theorem ok_cc_Law_5_50 : fOK RX2 5 2 27 [171, 0] = true := by decide +kernel
set_option maxRecDepth 20000 in
theorem ok_cc_Law_6_55 : fOK RX2 6 2 30 [172, 0] = true := by decide +kernel
set_option maxRecDepth 100000 in
set_option maxHeartbeats 8000000 in
theorem cc_Law {lau : Launch} {z : Nat} {D : va_G} {cy : Nat → ClassId} {ws : va_W} {k h0 : Nat} (hk : ws[k]? = some (h0, .inr (2, [.null, .null, .null, .null, .null, .null, .int 0, .int 0]))) : cCon lau z D cy yX2_init cX2_init 1 2 6 469 260 [.ref h0] ws (fun w1 => ∃ q0 q1 q2 q3 q4 q5, w1 = cW ws k (h0, .inr (2, [.ref q0, .ref q1, .ref q2, .ref q3, .ref q4, .ref q5, .int (-1), .int 0])) [(q0, .inl (cy 0, 12, .inl (fun _ => 0))), (q1, .inl (cy 0, 12, .inl (fun _ => 0))), (q2, .inl (cy 0, 12, .inl (fun _ => 0))), (q3, .inl (cy 0, 400, .inl (fun _ => 0))), (q4, .inl (cy 0, 9, .inl (fun _ => 0))), (q5, .inl (cy 0, 24, .inl (fun _ => 0)))]) := by
  refine Met.ofW (cc := cX2_init) (maxL := 1) (ret := none) (by decide) rfl ?_
  intro p e s m args below meth c s₁ B hml hv
  obtain ⟨rfl, hz, hP, hK, hD, hN⟩ := hv
  have F : CallFix p m c cX2_init 1 s _ mTs RX2 := ⟨B.exec, B.bytes, hml, findClass_of_methodNamed B.named, fun w hw => atoms_spec (ws := cWs yX2_init cX2_init 1) B.pre w (List.mem_cons_of_mem _ hw)⟩
  have hx := B.exec
  have hb := B.bytes
  have hr := B.returns
  have hlocks := B.notSynchronized
  have hin : meth.name = "<init>" := (name_of_methodNamed B.named B.method).1
  have hS : va_S (mAz z) s.heap s.heap [] := va_S.rf
  have hkl : k < ws.length := (List.getElem?_eq_some_iff.mp hk).1
  have hP : va_P D vwCl (cW ws k (h0, .inr (2, [.null, .null, .null, .null, .null, .null, .int 0, .int 0])) []) s.heap := by rw [← cW_0 hk]; exact hP
  have hD : va_D (mAz z) (cW ws k (h0, .inr (2, [.null, .null, .null, .null, .null, .null, .int 0, .int 0])) []) := by rw [← cW_0 hk]; exact hD
  have hl := lv_entry ([.ref h0]) (n := 1) (Nat.le_of_ble_eq_true rfl)
  show W p lau e (cRm 2 6 469 260) s m _ below meth c s.heap [] 0 0 _ (entryFrame m ([.ref h0] : List Value).toArray 1)
  rw [lg_entry_eq]
  generalize (lg_sl ([.ref h0]) ++ List.replicate (1 - (lg_sl ([.ref h0])).length) Slot.unset).toArray = ls at hl ⊢
  have hl : lv_has ls 1 [(0, .ref h0)] := hl
  refine lv_aload_n hx hb (by decide +kernel : decode cX2_init 0 = .ok (.aload_n 0, 1)) rfl (lv_at hl 0 rfl) ?_
  refine cObj F hl.1 (mIp_mem (i := 165) (by decide +kernel)) (by decide) (Nat.le_of_ble_eq_true rfl) (by decide +kernel : decode cX2_init 1 = .ok (.invokespecial 3, 3)) ?_
  refine lv_aload_n hx hb (by decide +kernel : decode cX2_init 4 = .ok (.aload_n 0, 1)) rfl (lv_at hl 0 rfl) ?_
  refine lv_bipush (v := 12) hx hb (by decide +kernel : decode cX2_init 5 = .ok (.bipush 12, 2)) (by decide) ?_
  refine cNewI F hK hP hD hS hz 12 (by decide) (by decide) (by decide) (Nat.le_of_ble_eq_true rfl) (Nat.le_of_ble_eq_true rfl) (by decide +kernel : decode cX2_init 7 = .ok (.newarray .int, 2)) (fun q0 H hP hD hS => ?_)
  have hP : va_P D vwCl (cW ws k (h0, .inr (2, [.null, .null, .null, .null, .null, .null, .int 0, .int 0])) [(q0, .inl (cy 0, 12, .inl (fun _ => 0)))]) H := hP
  have hD : va_D (mAz z) (cW ws k (h0, .inr (2, [.null, .null, .null, .null, .null, .null, .int 0, .int 0])) [(q0, .inl (cy 0, 12, .inl (fun _ => 0)))]) := hD
  refine cPutF F hK hkl hP hD hS (a := 0) (ty := tyX2 0) (v := .ref q0) ok_cc_Law_0_9 (by decide +kernel : fin9 RX2 2 0 true (tyX2 0) = true) hin rfl rfl (Nat.le_of_ble_eq_true rfl) (by decide +kernel : decode cX2_init 9 = .ok (.putfield 9, 3)) (fun H locs hP hD hS => ?_)
  have hP : va_P D vwCl (cW ws k (h0, .inr (2, [.ref q0, .null, .null, .null, .null, .null, .int 0, .int 0])) [(q0, .inl (cy 0, 12, .inl (fun _ => 0)))]) H := hP
  have hD : va_D (mAz z) (cW ws k (h0, .inr (2, [.ref q0, .null, .null, .null, .null, .null, .int 0, .int 0])) [(q0, .inl (cy 0, 12, .inl (fun _ => 0)))]) := hD
  refine lv_aload_n hx hb (by decide +kernel : decode cX2_init 12 = .ok (.aload_n 0, 1)) rfl (lv_at hl 0 rfl) ?_
  refine lv_bipush (v := 12) hx hb (by decide +kernel : decode cX2_init 13 = .ok (.bipush 12, 2)) (by decide) ?_
  refine cNewI F hK hP hD hS hz 12 (by decide) (by decide) (by decide) (Nat.le_of_ble_eq_true rfl) (Nat.le_of_ble_eq_true rfl) (by decide +kernel : decode cX2_init 15 = .ok (.newarray .int, 2)) (fun q1 H hP hD hS => ?_)
  have hP : va_P D vwCl (cW ws k (h0, .inr (2, [.ref q0, .null, .null, .null, .null, .null, .int 0, .int 0])) [(q0, .inl (cy 0, 12, .inl (fun _ => 0))), (q1, .inl (cy 0, 12, .inl (fun _ => 0)))]) H := hP
  have hD : va_D (mAz z) (cW ws k (h0, .inr (2, [.ref q0, .null, .null, .null, .null, .null, .int 0, .int 0])) [(q0, .inl (cy 0, 12, .inl (fun _ => 0))), (q1, .inl (cy 0, 12, .inl (fun _ => 0)))]) := hD
  refine cPutF F hK hkl hP hD hS (a := 1) (ty := tyX2 1) (v := .ref q1) ok_cc_Law_1_17 (by decide +kernel : fin9 RX2 2 1 true (tyX2 1) = true) hin rfl rfl (Nat.le_of_ble_eq_true rfl) (by decide +kernel : decode cX2_init 17 = .ok (.putfield 15, 3)) (fun H locs hP hD hS => ?_)
  have hP : va_P D vwCl (cW ws k (h0, .inr (2, [.ref q0, .ref q1, .null, .null, .null, .null, .int 0, .int 0])) [(q0, .inl (cy 0, 12, .inl (fun _ => 0))), (q1, .inl (cy 0, 12, .inl (fun _ => 0)))]) H := hP
  have hD : va_D (mAz z) (cW ws k (h0, .inr (2, [.ref q0, .ref q1, .null, .null, .null, .null, .int 0, .int 0])) [(q0, .inl (cy 0, 12, .inl (fun _ => 0))), (q1, .inl (cy 0, 12, .inl (fun _ => 0)))]) := hD
  refine lv_aload_n hx hb (by decide +kernel : decode cX2_init 20 = .ok (.aload_n 0, 1)) rfl (lv_at hl 0 rfl) ?_
  refine lv_bipush (v := 12) hx hb (by decide +kernel : decode cX2_init 21 = .ok (.bipush 12, 2)) (by decide) ?_
  refine cNewI F hK hP hD hS hz 12 (by decide) (by decide) (by decide) (Nat.le_of_ble_eq_true rfl) (Nat.le_of_ble_eq_true rfl) (by decide +kernel : decode cX2_init 23 = .ok (.newarray .int, 2)) (fun q2 H hP hD hS => ?_)
  have hP : va_P D vwCl (cW ws k (h0, .inr (2, [.ref q0, .ref q1, .null, .null, .null, .null, .int 0, .int 0])) [(q0, .inl (cy 0, 12, .inl (fun _ => 0))), (q1, .inl (cy 0, 12, .inl (fun _ => 0))), (q2, .inl (cy 0, 12, .inl (fun _ => 0)))]) H := hP
  have hD : va_D (mAz z) (cW ws k (h0, .inr (2, [.ref q0, .ref q1, .null, .null, .null, .null, .int 0, .int 0])) [(q0, .inl (cy 0, 12, .inl (fun _ => 0))), (q1, .inl (cy 0, 12, .inl (fun _ => 0))), (q2, .inl (cy 0, 12, .inl (fun _ => 0)))]) := hD
  refine cPutF F hK hkl hP hD hS (a := 2) (ty := tyX2 2) (v := .ref q2) ok_cc_Law_2_25 (by decide +kernel : fin9 RX2 2 2 true (tyX2 2) = true) hin rfl rfl (Nat.le_of_ble_eq_true rfl) (by decide +kernel : decode cX2_init 25 = .ok (.putfield 18, 3)) (fun H locs hP hD hS => ?_)
  have hP : va_P D vwCl (cW ws k (h0, .inr (2, [.ref q0, .ref q1, .ref q2, .null, .null, .null, .int 0, .int 0])) [(q0, .inl (cy 0, 12, .inl (fun _ => 0))), (q1, .inl (cy 0, 12, .inl (fun _ => 0))), (q2, .inl (cy 0, 12, .inl (fun _ => 0)))]) H := hP
  have hD : va_D (mAz z) (cW ws k (h0, .inr (2, [.ref q0, .ref q1, .ref q2, .null, .null, .null, .int 0, .int 0])) [(q0, .inl (cy 0, 12, .inl (fun _ => 0))), (q1, .inl (cy 0, 12, .inl (fun _ => 0))), (q2, .inl (cy 0, 12, .inl (fun _ => 0)))]) := hD
  refine lv_aload_n hx hb (by decide +kernel : decode cX2_init 28 = .ok (.aload_n 0, 1)) rfl (lv_at hl 0 rfl) ?_
  refine lv_sipush (v := 400) hx hb (by decide +kernel : decode cX2_init 29 = .ok (.sipush 400, 3)) (by decide) ?_
  refine cNewI F hK hP hD hS hz 400 (by decide) (by decide) (by decide) (Nat.le_of_ble_eq_true rfl) (Nat.le_of_ble_eq_true rfl) (by decide +kernel : decode cX2_init 32 = .ok (.newarray .int, 2)) (fun q3 H hP hD hS => ?_)
  have hP : va_P D vwCl (cW ws k (h0, .inr (2, [.ref q0, .ref q1, .ref q2, .null, .null, .null, .int 0, .int 0])) [(q0, .inl (cy 0, 12, .inl (fun _ => 0))), (q1, .inl (cy 0, 12, .inl (fun _ => 0))), (q2, .inl (cy 0, 12, .inl (fun _ => 0))), (q3, .inl (cy 0, 400, .inl (fun _ => 0)))]) H := hP
  have hD : va_D (mAz z) (cW ws k (h0, .inr (2, [.ref q0, .ref q1, .ref q2, .null, .null, .null, .int 0, .int 0])) [(q0, .inl (cy 0, 12, .inl (fun _ => 0))), (q1, .inl (cy 0, 12, .inl (fun _ => 0))), (q2, .inl (cy 0, 12, .inl (fun _ => 0))), (q3, .inl (cy 0, 400, .inl (fun _ => 0)))]) := hD
  refine cPutF F hK hkl hP hD hS (a := 3) (ty := tyX2 3) (v := .ref q3) ok_cc_Law_3_34 (by decide +kernel : fin9 RX2 2 3 true (tyX2 3) = true) hin rfl rfl (Nat.le_of_ble_eq_true rfl) (by decide +kernel : decode cX2_init 34 = .ok (.putfield 21, 3)) (fun H locs hP hD hS => ?_)
  have hP : va_P D vwCl (cW ws k (h0, .inr (2, [.ref q0, .ref q1, .ref q2, .ref q3, .null, .null, .int 0, .int 0])) [(q0, .inl (cy 0, 12, .inl (fun _ => 0))), (q1, .inl (cy 0, 12, .inl (fun _ => 0))), (q2, .inl (cy 0, 12, .inl (fun _ => 0))), (q3, .inl (cy 0, 400, .inl (fun _ => 0)))]) H := hP
  have hD : va_D (mAz z) (cW ws k (h0, .inr (2, [.ref q0, .ref q1, .ref q2, .ref q3, .null, .null, .int 0, .int 0])) [(q0, .inl (cy 0, 12, .inl (fun _ => 0))), (q1, .inl (cy 0, 12, .inl (fun _ => 0))), (q2, .inl (cy 0, 12, .inl (fun _ => 0))), (q3, .inl (cy 0, 400, .inl (fun _ => 0)))]) := hD
  refine lv_aload_n hx hb (by decide +kernel : decode cX2_init 37 = .ok (.aload_n 0, 1)) rfl (lv_at hl 0 rfl) ?_
  refine lv_bipush (v := 9) hx hb (by decide +kernel : decode cX2_init 38 = .ok (.bipush 9, 2)) (by decide) ?_
  refine cNewI F hK hP hD hS hz 9 (by decide) (by decide) (by decide) (Nat.le_of_ble_eq_true rfl) (Nat.le_of_ble_eq_true rfl) (by decide +kernel : decode cX2_init 40 = .ok (.newarray .int, 2)) (fun q4 H hP hD hS => ?_)
  have hP : va_P D vwCl (cW ws k (h0, .inr (2, [.ref q0, .ref q1, .ref q2, .ref q3, .null, .null, .int 0, .int 0])) [(q0, .inl (cy 0, 12, .inl (fun _ => 0))), (q1, .inl (cy 0, 12, .inl (fun _ => 0))), (q2, .inl (cy 0, 12, .inl (fun _ => 0))), (q3, .inl (cy 0, 400, .inl (fun _ => 0))), (q4, .inl (cy 0, 9, .inl (fun _ => 0)))]) H := hP
  have hD : va_D (mAz z) (cW ws k (h0, .inr (2, [.ref q0, .ref q1, .ref q2, .ref q3, .null, .null, .int 0, .int 0])) [(q0, .inl (cy 0, 12, .inl (fun _ => 0))), (q1, .inl (cy 0, 12, .inl (fun _ => 0))), (q2, .inl (cy 0, 12, .inl (fun _ => 0))), (q3, .inl (cy 0, 400, .inl (fun _ => 0))), (q4, .inl (cy 0, 9, .inl (fun _ => 0)))]) := hD
  refine cPutF F hK hkl hP hD hS (a := 4) (ty := tyX2 4) (v := .ref q4) ok_cc_Law_4_42 (by decide +kernel : fin9 RX2 2 4 true (tyX2 4) = true) hin rfl rfl (Nat.le_of_ble_eq_true rfl) (by decide +kernel : decode cX2_init 42 = .ok (.putfield 24, 3)) (fun H locs hP hD hS => ?_)
  have hP : va_P D vwCl (cW ws k (h0, .inr (2, [.ref q0, .ref q1, .ref q2, .ref q3, .ref q4, .null, .int 0, .int 0])) [(q0, .inl (cy 0, 12, .inl (fun _ => 0))), (q1, .inl (cy 0, 12, .inl (fun _ => 0))), (q2, .inl (cy 0, 12, .inl (fun _ => 0))), (q3, .inl (cy 0, 400, .inl (fun _ => 0))), (q4, .inl (cy 0, 9, .inl (fun _ => 0)))]) H := hP
  have hD : va_D (mAz z) (cW ws k (h0, .inr (2, [.ref q0, .ref q1, .ref q2, .ref q3, .ref q4, .null, .int 0, .int 0])) [(q0, .inl (cy 0, 12, .inl (fun _ => 0))), (q1, .inl (cy 0, 12, .inl (fun _ => 0))), (q2, .inl (cy 0, 12, .inl (fun _ => 0))), (q3, .inl (cy 0, 400, .inl (fun _ => 0))), (q4, .inl (cy 0, 9, .inl (fun _ => 0)))]) := hD
  refine lv_aload_n hx hb (by decide +kernel : decode cX2_init 45 = .ok (.aload_n 0, 1)) rfl (lv_at hl 0 rfl) ?_
  refine lv_bipush (v := 24) hx hb (by decide +kernel : decode cX2_init 46 = .ok (.bipush 24, 2)) (by decide) ?_
  refine cNewI F hK hP hD hS hz 24 (by decide) (by decide) (by decide) (Nat.le_of_ble_eq_true rfl) (Nat.le_of_ble_eq_true rfl) (by decide +kernel : decode cX2_init 48 = .ok (.newarray .int, 2)) (fun q5 H hP hD hS => ?_)
  have hP : va_P D vwCl (cW ws k (h0, .inr (2, [.ref q0, .ref q1, .ref q2, .ref q3, .ref q4, .null, .int 0, .int 0])) [(q0, .inl (cy 0, 12, .inl (fun _ => 0))), (q1, .inl (cy 0, 12, .inl (fun _ => 0))), (q2, .inl (cy 0, 12, .inl (fun _ => 0))), (q3, .inl (cy 0, 400, .inl (fun _ => 0))), (q4, .inl (cy 0, 9, .inl (fun _ => 0))), (q5, .inl (cy 0, 24, .inl (fun _ => 0)))]) H := hP
  have hD : va_D (mAz z) (cW ws k (h0, .inr (2, [.ref q0, .ref q1, .ref q2, .ref q3, .ref q4, .null, .int 0, .int 0])) [(q0, .inl (cy 0, 12, .inl (fun _ => 0))), (q1, .inl (cy 0, 12, .inl (fun _ => 0))), (q2, .inl (cy 0, 12, .inl (fun _ => 0))), (q3, .inl (cy 0, 400, .inl (fun _ => 0))), (q4, .inl (cy 0, 9, .inl (fun _ => 0))), (q5, .inl (cy 0, 24, .inl (fun _ => 0)))]) := hD
  refine cPutF F hK hkl hP hD hS (a := 5) (ty := tyX2 5) (v := .ref q5) ok_cc_Law_5_50 (by decide +kernel : fin9 RX2 2 5 true (tyX2 5) = true) hin rfl rfl (Nat.le_of_ble_eq_true rfl) (by decide +kernel : decode cX2_init 50 = .ok (.putfield 27, 3)) (fun H locs hP hD hS => ?_)
  have hP : va_P D vwCl (cW ws k (h0, .inr (2, [.ref q0, .ref q1, .ref q2, .ref q3, .ref q4, .ref q5, .int 0, .int 0])) [(q0, .inl (cy 0, 12, .inl (fun _ => 0))), (q1, .inl (cy 0, 12, .inl (fun _ => 0))), (q2, .inl (cy 0, 12, .inl (fun _ => 0))), (q3, .inl (cy 0, 400, .inl (fun _ => 0))), (q4, .inl (cy 0, 9, .inl (fun _ => 0))), (q5, .inl (cy 0, 24, .inl (fun _ => 0)))]) H := hP
  have hD : va_D (mAz z) (cW ws k (h0, .inr (2, [.ref q0, .ref q1, .ref q2, .ref q3, .ref q4, .ref q5, .int 0, .int 0])) [(q0, .inl (cy 0, 12, .inl (fun _ => 0))), (q1, .inl (cy 0, 12, .inl (fun _ => 0))), (q2, .inl (cy 0, 12, .inl (fun _ => 0))), (q3, .inl (cy 0, 400, .inl (fun _ => 0))), (q4, .inl (cy 0, 9, .inl (fun _ => 0))), (q5, .inl (cy 0, 24, .inl (fun _ => 0)))]) := hD
  refine lv_aload_n hx hb (by decide +kernel : decode cX2_init 53 = .ok (.aload_n 0, 1)) rfl (lv_at hl 0 rfl) ?_
  refine lv_iconst (v := (-1)) hx hb (by decide +kernel : decode cX2_init 54 = .ok (.iconst (-1), 1)) (by decide) ?_
  refine cPut F hK hkl hP hD hS (a := 6) (ty := tyX2 6) (v := .int (-1)) ok_cc_Law_6_55 (by decide +kernel : fin9 RX2 2 6 false (tyX2 6) = true) rfl rfl (Nat.le_of_ble_eq_true rfl) (by decide +kernel : decode cX2_init 55 = .ok (.putfield 30, 3)) (fun H locs hP hD hS => ?_)
  have hP : va_P D vwCl (cW ws k (h0, .inr (2, [.ref q0, .ref q1, .ref q2, .ref q3, .ref q4, .ref q5, .int (-1), .int 0])) [(q0, .inl (cy 0, 12, .inl (fun _ => 0))), (q1, .inl (cy 0, 12, .inl (fun _ => 0))), (q2, .inl (cy 0, 12, .inl (fun _ => 0))), (q3, .inl (cy 0, 400, .inl (fun _ => 0))), (q4, .inl (cy 0, 9, .inl (fun _ => 0))), (q5, .inl (cy 0, 24, .inl (fun _ => 0)))]) H := hP
  have hD : va_D (mAz z) (cW ws k (h0, .inr (2, [.ref q0, .ref q1, .ref q2, .ref q3, .ref q4, .ref q5, .int (-1), .int 0])) [(q0, .inl (cy 0, 12, .inl (fun _ => 0))), (q1, .inl (cy 0, 12, .inl (fun _ => 0))), (q2, .inl (cy 0, 12, .inl (fun _ => 0))), (q3, .inl (cy 0, 400, .inl (fun _ => 0))), (q4, .inl (cy 0, 9, .inl (fun _ => 0))), (q5, .inl (cy 0, 24, .inl (fun _ => 0)))]) := hD
  exact cRet hx hb hr hlocks ⟨q0, q1, q2, q3, q4, q5, rfl⟩ hP hD hS (Nat.le_of_ble_eq_true rfl) (Nat.le_of_ble_eq_true rfl) (by decide +kernel : decode cX2_init 58 = .ok (.return_, 1))
set_option maxRecDepth 20000 in
theorem ok_cc_LinesText_IsleText_0_6 : fOK RX4 0 1 7 [211, 0] = true := by decide +kernel
set_option maxRecDepth 100000 in
set_option maxHeartbeats 8000000 in
theorem cc_LinesText_IsleText {lau : Launch} {z : Nat} {D : va_G} {cy : Nat → ClassId} {ws : va_W} {k h0 a1 : Nat} {f0 f1 : Value} (hk : ws[k]? = some (h0, .inr (1, [f0, f1]))) : cCon lau z D cy yX4_init cX4_init 2 2 0 0 260 [.ref h0, .ref a1] ws (fun w1 => w1 = cW ws k (h0, .inr (1, [.ref a1, f1])) []) := by
  refine Met.ofW (cc := cX4_init) (maxL := 2) (ret := none) (by decide) rfl ?_
  intro p e s m args below meth c s₁ B hml hv
  obtain ⟨rfl, hz, hP, hK, hD, hN⟩ := hv
  have F : CallFix p m c cX4_init 2 s _ mTs RX4 := ⟨B.exec, B.bytes, hml, findClass_of_methodNamed B.named, fun w hw => atoms_spec (ws := cWs yX4_init cX4_init 2) B.pre w (List.mem_cons_of_mem _ hw)⟩
  have hx := B.exec
  have hb := B.bytes
  have hr := B.returns
  have hlocks := B.notSynchronized
  have hin : meth.name = "<init>" := (name_of_methodNamed B.named B.method).1
  have hS : va_S (mAz z) s.heap s.heap [] := va_S.rf
  have hkl : k < ws.length := (List.getElem?_eq_some_iff.mp hk).1
  have hP : va_P D vwCl (cW ws k (h0, .inr (1, [f0, f1])) []) s.heap := by rw [← cW_0 hk]; exact hP
  have hD : va_D (mAz z) (cW ws k (h0, .inr (1, [f0, f1])) []) := by rw [← cW_0 hk]; exact hD
  have hl := lv_entry ([.ref h0, .ref a1]) (n := 2) (Nat.le_of_ble_eq_true rfl)
  show W p lau e (cRm 2 0 0 260) s m _ below meth c s.heap [] 0 0 _ (entryFrame m ([.ref h0, .ref a1] : List Value).toArray 2)
  rw [lg_entry_eq]
  generalize (lg_sl ([.ref h0, .ref a1]) ++ List.replicate (2 - (lg_sl ([.ref h0, .ref a1])).length) Slot.unset).toArray = ls at hl ⊢
  have hl : lv_has ls 2 [(0, .ref h0), (1, .ref a1)] := hl
  refine lv_aload_n hx hb (by decide +kernel : decode cX4_init 0 = .ok (.aload_n 0, 1)) rfl (lv_at hl 0 rfl) ?_
  refine cObj F hl.1 (mIp_mem (i := 209) (by decide +kernel)) (by decide) (Nat.le_of_ble_eq_true rfl) (by decide +kernel : decode cX4_init 1 = .ok (.invokespecial 1, 3)) ?_
  refine lv_aload_n hx hb (by decide +kernel : decode cX4_init 4 = .ok (.aload_n 0, 1)) rfl (lv_at hl 0 rfl) ?_
  refine lv_aload_n hx hb (by decide +kernel : decode cX4_init 5 = .ok (.aload_n 1, 1)) rfl (lv_at hl 1 rfl) ?_
  refine cPutF F hK hkl hP hD hS (a := 0) (ty := tyX1 0) (v := .ref a1) ok_cc_LinesText_IsleText_0_6 (by decide +kernel : fin9 RX4 1 0 true (tyX1 0) = true) hin rfl rfl (Nat.le_of_ble_eq_true rfl) (by decide +kernel : decode cX4_init 6 = .ok (.putfield 7, 3)) (fun H locs hP hD hS => ?_)
  have hP : va_P D vwCl (cW ws k (h0, .inr (1, [.ref a1, f1])) []) H := hP
  have hD : va_D (mAz z) (cW ws k (h0, .inr (1, [.ref a1, f1])) []) := hD
  exact cRet hx hb hr hlocks rfl hP hD hS (Nat.le_of_ble_eq_true rfl) (Nat.le_of_ble_eq_true rfl) (by decide +kernel : decode cX4_init 9 = .ok (.return_, 1))
set_option maxRecDepth 20000 in
theorem ok_cc_LinesText_LawText_0_6 : fOK RX4 0 3 7 [211, 0] = true := by decide +kernel
set_option maxRecDepth 100000 in
set_option maxHeartbeats 8000000 in
theorem cc_LinesText_LawText {lau : Launch} {z : Nat} {D : va_G} {cy : Nat → ClassId} {ws : va_W} {k h0 a1 : Nat} {f0 f1 : Value} (hk : ws[k]? = some (h0, .inr (3, [f0, f1]))) : cCon lau z D cy yX4_init cX4_init 2 2 0 0 260 [.ref h0, .ref a1] ws (fun w1 => w1 = cW ws k (h0, .inr (3, [.ref a1, f1])) []) := by
  refine Met.ofW (cc := cX4_init) (maxL := 2) (ret := none) (by decide) rfl ?_
  intro p e s m args below meth c s₁ B hml hv
  obtain ⟨rfl, hz, hP, hK, hD, hN⟩ := hv
  have F : CallFix p m c cX4_init 2 s _ mTs RX4 := ⟨B.exec, B.bytes, hml, findClass_of_methodNamed B.named, fun w hw => atoms_spec (ws := cWs yX4_init cX4_init 2) B.pre w (List.mem_cons_of_mem _ hw)⟩
  have hx := B.exec
  have hb := B.bytes
  have hr := B.returns
  have hlocks := B.notSynchronized
  have hin : meth.name = "<init>" := (name_of_methodNamed B.named B.method).1
  have hS : va_S (mAz z) s.heap s.heap [] := va_S.rf
  have hkl : k < ws.length := (List.getElem?_eq_some_iff.mp hk).1
  have hP : va_P D vwCl (cW ws k (h0, .inr (3, [f0, f1])) []) s.heap := by rw [← cW_0 hk]; exact hP
  have hD : va_D (mAz z) (cW ws k (h0, .inr (3, [f0, f1])) []) := by rw [← cW_0 hk]; exact hD
  have hl := lv_entry ([.ref h0, .ref a1]) (n := 2) (Nat.le_of_ble_eq_true rfl)
  show W p lau e (cRm 2 0 0 260) s m _ below meth c s.heap [] 0 0 _ (entryFrame m ([.ref h0, .ref a1] : List Value).toArray 2)
  rw [lg_entry_eq]
  generalize (lg_sl ([.ref h0, .ref a1]) ++ List.replicate (2 - (lg_sl ([.ref h0, .ref a1])).length) Slot.unset).toArray = ls at hl ⊢
  have hl : lv_has ls 2 [(0, .ref h0), (1, .ref a1)] := hl
  refine lv_aload_n hx hb (by decide +kernel : decode cX4_init 0 = .ok (.aload_n 0, 1)) rfl (lv_at hl 0 rfl) ?_
  refine cObj F hl.1 (mIp_mem (i := 209) (by decide +kernel)) (by decide) (Nat.le_of_ble_eq_true rfl) (by decide +kernel : decode cX4_init 1 = .ok (.invokespecial 1, 3)) ?_
  refine lv_aload_n hx hb (by decide +kernel : decode cX4_init 4 = .ok (.aload_n 0, 1)) rfl (lv_at hl 0 rfl) ?_
  refine lv_aload_n hx hb (by decide +kernel : decode cX4_init 5 = .ok (.aload_n 1, 1)) rfl (lv_at hl 1 rfl) ?_
  refine cPutF F hK hkl hP hD hS (a := 0) (ty := tyX3 0) (v := .ref a1) ok_cc_LinesText_LawText_0_6 (by decide +kernel : fin9 RX4 3 0 true (tyX3 0) = true) hin rfl rfl (Nat.le_of_ble_eq_true rfl) (by decide +kernel : decode cX4_init 6 = .ok (.putfield 7, 3)) (fun H locs hP hD hS => ?_)
  have hP : va_P D vwCl (cW ws k (h0, .inr (3, [.ref a1, f1])) []) H := hP
  have hD : va_D (mAz z) (cW ws k (h0, .inr (3, [.ref a1, f1])) []) := hD
  exact cRet hx hb hr hlocks rfl hP hD hS (Nat.le_of_ble_eq_true rfl) (Nat.le_of_ble_eq_true rfl) (by decide +kernel : decode cX4_init 9 = .ok (.return_, 1))
set_option maxRecDepth 20000 in
theorem ik_cc_IsleText_3 : iOK RX1 3 yX4_init cX4_init 2 1 [206, 207, 110, 208] = true := by decide +kernel
set_option maxRecDepth 20000 in
theorem ok_cc_IsleText_1_7 : fOK RX1 1 1 9 [210, 0] = true := by decide +kernel
set_option maxRecDepth 100000 in
set_option maxHeartbeats 8000000 in
theorem cc_IsleText {lau : Launch} {z : Nat} {D : va_G} {cy : Nat → ClassId} {ws : va_W} {k h0 a1 a2 : Nat} (hk : ws[k]? = some (h0, .inr (1, [.null, .null]))) : cCon lau z D cy yX1_init cX1_init 3 4 0 0 460 [.ref h0, .ref a1, .ref a2] ws (fun w1 => w1 = cW ws k (h0, .inr (1, [.ref a1, .ref a2])) []) := by
  refine Met.ofW (cc := cX1_init) (maxL := 3) (ret := none) (by decide) rfl ?_
  intro p e s m args below meth c s₁ B hml hv
  obtain ⟨rfl, hz, hP, hK, hD, hN⟩ := hv
  have F : CallFix p m c cX1_init 3 s _ mTs RX1 := ⟨B.exec, B.bytes, hml, findClass_of_methodNamed B.named, fun w hw => atoms_spec (ws := cWs yX1_init cX1_init 3) B.pre w (List.mem_cons_of_mem _ hw)⟩
  have hx := B.exec
  have hb := B.bytes
  have hr := B.returns
  have hlocks := B.notSynchronized
  have hin : meth.name = "<init>" := (name_of_methodNamed B.named B.method).1
  have hS : va_S (mAz z) s.heap s.heap [] := va_S.rf
  have hkl : k < ws.length := (List.getElem?_eq_some_iff.mp hk).1
  have hP : va_P D vwCl (cW ws k (h0, .inr (1, [.null, .null])) []) s.heap := by rw [← cW_0 hk]; exact hP
  have hD : va_D (mAz z) (cW ws k (h0, .inr (1, [.null, .null])) []) := by rw [← cW_0 hk]; exact hD
  have hl := lv_entry ([.ref h0, .ref a1, .ref a2]) (n := 3) (Nat.le_of_ble_eq_true rfl)
  show W p lau e (cRm 4 0 0 460) s m _ below meth c s.heap [] 0 0 _ (entryFrame m ([.ref h0, .ref a1, .ref a2] : List Value).toArray 3)
  rw [lg_entry_eq]
  generalize (lg_sl ([.ref h0, .ref a1, .ref a2]) ++ List.replicate (3 - (lg_sl ([.ref h0, .ref a1, .ref a2])).length) Slot.unset).toArray = ls at hl ⊢
  have hl : lv_has ls 3 [(0, .ref h0), (1, .ref a1), (2, .ref a2)] := hl
  refine lv_aload_n hx hb (by decide +kernel : decode cX1_init 0 = .ok (.aload_n 0, 1)) rfl (lv_at hl 0 rfl) ?_
  refine lv_aload_n hx hb (by decide +kernel : decode cX1_init 1 = .ok (.aload_n 1, 1)) rfl (lv_at hl 1 rfl) ?_
  refine cCall F (As := [.ref a1]) (rest := []) ik_cc_IsleText_3 hz hN hK (cc_LinesText_IsleText (cW_k hkl)) hP hD hS hl.1 (Nat.le_of_ble_eq_true rfl) (by decide +kernel : decode cX1_init 2 = .ok (.invokespecial 3, 3)) ⟨by decide, by decide⟩ ⟨Nat.le_of_ble_eq_true rfl, Nat.le_of_ble_eq_true rfl⟩ (fun w1 H locs hw1 hP hD hS => ?_)
  obtain rfl := hw1
  rw [cW_me hkl] at hP hD
  have hP : va_P D vwCl (cW ws k (h0, .inr (1, [.ref a1, .null])) []) H := hP
  have hD : va_D (mAz z) (cW ws k (h0, .inr (1, [.ref a1, .null])) []) := hD
  refine lv_aload_n hx hb (by decide +kernel : decode cX1_init 5 = .ok (.aload_n 0, 1)) rfl (lv_at hl 0 rfl) ?_
  refine lv_aload_n hx hb (by decide +kernel : decode cX1_init 6 = .ok (.aload_n 2, 1)) rfl (lv_at hl 2 rfl) ?_
  refine cPutF F hK hkl hP hD hS (a := 1) (ty := tyX1 1) (v := .ref a2) ok_cc_IsleText_1_7 (by decide +kernel : fin9 RX1 1 1 true (tyX1 1) = true) hin rfl rfl (Nat.le_of_ble_eq_true rfl) (by decide +kernel : decode cX1_init 7 = .ok (.putfield 9, 3)) (fun H locs hP hD hS => ?_)
  have hP : va_P D vwCl (cW ws k (h0, .inr (1, [.ref a1, .ref a2])) []) H := hP
  have hD : va_D (mAz z) (cW ws k (h0, .inr (1, [.ref a1, .ref a2])) []) := hD
  exact cRet hx hb hr hlocks rfl hP hD hS (Nat.le_of_ble_eq_true rfl) (Nat.le_of_ble_eq_true rfl) (by decide +kernel : decode cX1_init 10 = .ok (.return_, 1))
set_option maxRecDepth 20000 in
theorem ik_cc_LawText_3 : iOK RX3 3 yX4_init cX4_init 2 1 [226, 207, 110, 208] = true := by decide +kernel
set_option maxRecDepth 20000 in
theorem ok_cc_LawText_1_7 : fOK RX3 1 3 9 [227, 0] = true := by decide +kernel
set_option maxRecDepth 100000 in
set_option maxHeartbeats 8000000 in
theorem cc_LawText {lau : Launch} {z : Nat} {D : va_G} {cy : Nat → ClassId} {ws : va_W} {k h0 a1 a2 : Nat} (hk : ws[k]? = some (h0, .inr (3, [.null, .null]))) : cCon lau z D cy yX3_init cX3_init 3 4 0 0 460 [.ref h0, .ref a1, .ref a2] ws (fun w1 => w1 = cW ws k (h0, .inr (3, [.ref a1, .ref a2])) []) := by
  refine Met.ofW (cc := cX3_init) (maxL := 3) (ret := none) (by decide) rfl ?_
  intro p e s m args below meth c s₁ B hml hv
  obtain ⟨rfl, hz, hP, hK, hD, hN⟩ := hv
  have F : CallFix p m c cX3_init 3 s _ mTs RX3 := ⟨B.exec, B.bytes, hml, findClass_of_methodNamed B.named, fun w hw => atoms_spec (ws := cWs yX3_init cX3_init 3) B.pre w (List.mem_cons_of_mem _ hw)⟩
  have hx := B.exec
  have hb := B.bytes
  have hr := B.returns
  have hlocks := B.notSynchronized
  have hin : meth.name = "<init>" := (name_of_methodNamed B.named B.method).1
  have hS : va_S (mAz z) s.heap s.heap [] := va_S.rf
  have hkl : k < ws.length := (List.getElem?_eq_some_iff.mp hk).1
  have hP : va_P D vwCl (cW ws k (h0, .inr (3, [.null, .null])) []) s.heap := by rw [← cW_0 hk]; exact hP
  have hD : va_D (mAz z) (cW ws k (h0, .inr (3, [.null, .null])) []) := by rw [← cW_0 hk]; exact hD
  have hl := lv_entry ([.ref h0, .ref a1, .ref a2]) (n := 3) (Nat.le_of_ble_eq_true rfl)
  show W p lau e (cRm 4 0 0 460) s m _ below meth c s.heap [] 0 0 _ (entryFrame m ([.ref h0, .ref a1, .ref a2] : List Value).toArray 3)
  rw [lg_entry_eq]
  generalize (lg_sl ([.ref h0, .ref a1, .ref a2]) ++ List.replicate (3 - (lg_sl ([.ref h0, .ref a1, .ref a2])).length) Slot.unset).toArray = ls at hl ⊢
  have hl : lv_has ls 3 [(0, .ref h0), (1, .ref a1), (2, .ref a2)] := hl
  refine lv_aload_n hx hb (by decide +kernel : decode cX3_init 0 = .ok (.aload_n 0, 1)) rfl (lv_at hl 0 rfl) ?_
  refine lv_aload_n hx hb (by decide +kernel : decode cX3_init 1 = .ok (.aload_n 1, 1)) rfl (lv_at hl 1 rfl) ?_
  refine cCall F (As := [.ref a1]) (rest := []) ik_cc_LawText_3 hz hN hK (cc_LinesText_LawText (cW_k hkl)) hP hD hS hl.1 (Nat.le_of_ble_eq_true rfl) (by decide +kernel : decode cX3_init 2 = .ok (.invokespecial 3, 3)) ⟨by decide, by decide⟩ ⟨Nat.le_of_ble_eq_true rfl, Nat.le_of_ble_eq_true rfl⟩ (fun w1 H locs hw1 hP hD hS => ?_)
  obtain rfl := hw1
  rw [cW_me hkl] at hP hD
  have hP : va_P D vwCl (cW ws k (h0, .inr (3, [.ref a1, .null])) []) H := hP
  have hD : va_D (mAz z) (cW ws k (h0, .inr (3, [.ref a1, .null])) []) := hD
  refine lv_aload_n hx hb (by decide +kernel : decode cX3_init 5 = .ok (.aload_n 0, 1)) rfl (lv_at hl 0 rfl) ?_
  refine lv_aload_n hx hb (by decide +kernel : decode cX3_init 6 = .ok (.aload_n 2, 1)) rfl (lv_at hl 2 rfl) ?_
  refine cPutF F hK hkl hP hD hS (a := 1) (ty := tyX3 1) (v := .ref a2) ok_cc_LawText_1_7 (by decide +kernel : fin9 RX3 3 1 true (tyX3 1) = true) hin rfl rfl (Nat.le_of_ble_eq_true rfl) (by decide +kernel : decode cX3_init 7 = .ok (.putfield 9, 3)) (fun H locs hP hD hS => ?_)
  have hP : va_P D vwCl (cW ws k (h0, .inr (3, [.ref a1, .ref a2])) []) H := hP
  have hD : va_D (mAz z) (cW ws k (h0, .inr (3, [.ref a1, .ref a2])) []) := hD
  exact cRet hx hb hr hlocks rfl hP hD hS (Nat.le_of_ble_eq_true rfl) (Nat.le_of_ble_eq_true rfl) (by decide +kernel : decode cX3_init 10 = .ok (.return_, 1))
set_option maxRecDepth 20000 in
theorem ok_cc_Rules_0_6 : fOK RX7 0 6 9 [238, 0] = true := by decide +kernel
set_option maxRecDepth 100000 in
set_option maxHeartbeats 8000000 in
theorem cc_Rules {lau : Launch} {z : Nat} {D : va_G} {cy : Nat → ClassId} {ws : va_W} {k h0 a1 : Nat} (hk : ws[k]? = some (h0, .inr (6, [.null]))) : cCon lau z D cy yX7_init cX7_init 2 2 0 0 260 [.ref h0, .ref a1] ws (fun w1 => w1 = cW ws k (h0, .inr (6, [.ref a1])) []) := by
  refine Met.ofW (cc := cX7_init) (maxL := 2) (ret := none) (by decide) rfl ?_
  intro p e s m args below meth c s₁ B hml hv
  obtain ⟨rfl, hz, hP, hK, hD, hN⟩ := hv
  have F : CallFix p m c cX7_init 2 s _ mTs RX7 := ⟨B.exec, B.bytes, hml, findClass_of_methodNamed B.named, fun w hw => atoms_spec (ws := cWs yX7_init cX7_init 2) B.pre w (List.mem_cons_of_mem _ hw)⟩
  have hx := B.exec
  have hb := B.bytes
  have hr := B.returns
  have hlocks := B.notSynchronized
  have hin : meth.name = "<init>" := (name_of_methodNamed B.named B.method).1
  have hS : va_S (mAz z) s.heap s.heap [] := va_S.rf
  have hkl : k < ws.length := (List.getElem?_eq_some_iff.mp hk).1
  have hP : va_P D vwCl (cW ws k (h0, .inr (6, [.null])) []) s.heap := by rw [← cW_0 hk]; exact hP
  have hD : va_D (mAz z) (cW ws k (h0, .inr (6, [.null])) []) := by rw [← cW_0 hk]; exact hD
  have hl := lv_entry ([.ref h0, .ref a1]) (n := 2) (Nat.le_of_ble_eq_true rfl)
  show W p lau e (cRm 2 0 0 260) s m _ below meth c s.heap [] 0 0 _ (entryFrame m ([.ref h0, .ref a1] : List Value).toArray 2)
  rw [lg_entry_eq]
  generalize (lg_sl ([.ref h0, .ref a1]) ++ List.replicate (2 - (lg_sl ([.ref h0, .ref a1])).length) Slot.unset).toArray = ls at hl ⊢
  have hl : lv_has ls 2 [(0, .ref h0), (1, .ref a1)] := hl
  refine lv_aload_n hx hb (by decide +kernel : decode cX7_init 0 = .ok (.aload_n 0, 1)) rfl (lv_at hl 0 rfl) ?_
  refine cObj F hl.1 (mIp_mem (i := 237) (by decide +kernel)) (by decide) (Nat.le_of_ble_eq_true rfl) (by decide +kernel : decode cX7_init 1 = .ok (.invokespecial 3, 3)) ?_
  refine lv_aload_n hx hb (by decide +kernel : decode cX7_init 4 = .ok (.aload_n 0, 1)) rfl (lv_at hl 0 rfl) ?_
  refine lv_aload_n hx hb (by decide +kernel : decode cX7_init 5 = .ok (.aload_n 1, 1)) rfl (lv_at hl 1 rfl) ?_
  refine cPutF F hK hkl hP hD hS (a := 0) (ty := tyX7 0) (v := .ref a1) ok_cc_Rules_0_6 (by decide +kernel : fin9 RX7 6 0 true (tyX7 0) = true) hin rfl rfl (Nat.le_of_ble_eq_true rfl) (by decide +kernel : decode cX7_init 6 = .ok (.putfield 9, 3)) (fun H locs hP hD hS => ?_)
  have hP : va_P D vwCl (cW ws k (h0, .inr (6, [.ref a1])) []) H := hP
  have hD : va_D (mAz z) (cW ws k (h0, .inr (6, [.ref a1])) []) := hD
  exact cRet hx hb hr hlocks rfl hP hD hS (Nat.le_of_ble_eq_true rfl) (Nat.le_of_ble_eq_true rfl) (by decide +kernel : decode cX7_init 9 = .ok (.return_, 1))
set_option maxRecDepth 20000 in
theorem ok_cc_Plan_2_9 : fOK RX6 2 5 9 [250, 0] = true := by decide +kernel
set_option maxRecDepth 20000 in
theorem ok_cc_Plan_3_18 : fOK RX6 3 5 15 [251, 0] = true := by decide +kernel
set_option maxRecDepth 20000 in
theorem ok_cc_Plan_0_23 : fOK RX6 0 5 18 [248, 0] = true := by decide +kernel
set_option maxRecDepth 20000 in
theorem ok_cc_Plan_1_28 : fOK RX6 1 5 22 [249, 0] = true := by decide +kernel
set_option maxRecDepth 100000 in
set_option maxHeartbeats 8000000 in
theorem cc_Plan {lau : Launch} {z : Nat} {D : va_G} {cy : Nat → ClassId} {ws : va_W} {k h0 a1 a2 : Nat} (hk : ws[k]? = some (h0, .inr (5, [.null, .null, .null, .null, .int 0, .int 0]))) : cCon lau z D cy yX6_init cX6_init 3 2 2 10340 260 [.ref h0, .ref a1, .ref a2] ws (fun w1 => ∃ q0 q1, w1 = cW ws k (h0, .inr (5, [.ref a1, .ref a2, .ref q0, .ref q1, .int 0, .int 0])) [(q0, .inl (cy 0, 100, .inl (fun _ => 0))), (q1, .inl (cy 0, 10240, .inl (fun _ => 0)))]) := by
  refine Met.ofW (cc := cX6_init) (maxL := 3) (ret := none) (by decide) rfl ?_
  intro p e s m args below meth c s₁ B hml hv
  obtain ⟨rfl, hz, hP, hK, hD, hN⟩ := hv
  have F : CallFix p m c cX6_init 3 s _ mTs RX6 := ⟨B.exec, B.bytes, hml, findClass_of_methodNamed B.named, fun w hw => atoms_spec (ws := cWs yX6_init cX6_init 3) B.pre w (List.mem_cons_of_mem _ hw)⟩
  have hx := B.exec
  have hb := B.bytes
  have hr := B.returns
  have hlocks := B.notSynchronized
  have hin : meth.name = "<init>" := (name_of_methodNamed B.named B.method).1
  have hS : va_S (mAz z) s.heap s.heap [] := va_S.rf
  have hkl : k < ws.length := (List.getElem?_eq_some_iff.mp hk).1
  have hP : va_P D vwCl (cW ws k (h0, .inr (5, [.null, .null, .null, .null, .int 0, .int 0])) []) s.heap := by rw [← cW_0 hk]; exact hP
  have hD : va_D (mAz z) (cW ws k (h0, .inr (5, [.null, .null, .null, .null, .int 0, .int 0])) []) := by rw [← cW_0 hk]; exact hD
  have hl := lv_entry ([.ref h0, .ref a1, .ref a2]) (n := 3) (Nat.le_of_ble_eq_true rfl)
  show W p lau e (cRm 2 2 10340 260) s m _ below meth c s.heap [] 0 0 _ (entryFrame m ([.ref h0, .ref a1, .ref a2] : List Value).toArray 3)
  rw [lg_entry_eq]
  generalize (lg_sl ([.ref h0, .ref a1, .ref a2]) ++ List.replicate (3 - (lg_sl ([.ref h0, .ref a1, .ref a2])).length) Slot.unset).toArray = ls at hl ⊢
  have hl : lv_has ls 3 [(0, .ref h0), (1, .ref a1), (2, .ref a2)] := hl
  refine lv_aload_n hx hb (by decide +kernel : decode cX6_init 0 = .ok (.aload_n 0, 1)) rfl (lv_at hl 0 rfl) ?_
  refine cObj F hl.1 (mIp_mem (i := 247) (by decide +kernel)) (by decide) (Nat.le_of_ble_eq_true rfl) (by decide +kernel : decode cX6_init 1 = .ok (.invokespecial 3, 3)) ?_
  refine lv_aload_n hx hb (by decide +kernel : decode cX6_init 4 = .ok (.aload_n 0, 1)) rfl (lv_at hl 0 rfl) ?_
  refine lv_bipush (v := 100) hx hb (by decide +kernel : decode cX6_init 5 = .ok (.bipush 100, 2)) (by decide) ?_
  refine cNewI F hK hP hD hS hz 100 (by decide) (by decide) (by decide) (Nat.le_of_ble_eq_true rfl) (Nat.le_of_ble_eq_true rfl) (by decide +kernel : decode cX6_init 7 = .ok (.newarray .int, 2)) (fun q0 H hP hD hS => ?_)
  have hP : va_P D vwCl (cW ws k (h0, .inr (5, [.null, .null, .null, .null, .int 0, .int 0])) [(q0, .inl (cy 0, 100, .inl (fun _ => 0)))]) H := hP
  have hD : va_D (mAz z) (cW ws k (h0, .inr (5, [.null, .null, .null, .null, .int 0, .int 0])) [(q0, .inl (cy 0, 100, .inl (fun _ => 0)))]) := hD
  refine cPutF F hK hkl hP hD hS (a := 2) (ty := tyX6 2) (v := .ref q0) ok_cc_Plan_2_9 (by decide +kernel : fin9 RX6 5 2 true (tyX6 2) = true) hin rfl rfl (Nat.le_of_ble_eq_true rfl) (by decide +kernel : decode cX6_init 9 = .ok (.putfield 9, 3)) (fun H locs hP hD hS => ?_)
  have hP : va_P D vwCl (cW ws k (h0, .inr (5, [.null, .null, .ref q0, .null, .int 0, .int 0])) [(q0, .inl (cy 0, 100, .inl (fun _ => 0)))]) H := hP
  have hD : va_D (mAz z) (cW ws k (h0, .inr (5, [.null, .null, .ref q0, .null, .int 0, .int 0])) [(q0, .inl (cy 0, 100, .inl (fun _ => 0)))]) := hD
  refine lv_aload_n hx hb (by decide +kernel : decode cX6_init 12 = .ok (.aload_n 0, 1)) rfl (lv_at hl 0 rfl) ?_
  refine lv_sipush (v := 10240) hx hb (by decide +kernel : decode cX6_init 13 = .ok (.sipush 10240, 3)) (by decide) ?_
  refine cNewI F hK hP hD hS hz 10240 (by decide) (by decide) (by decide) (Nat.le_of_ble_eq_true rfl) (Nat.le_of_ble_eq_true rfl) (by decide +kernel : decode cX6_init 16 = .ok (.newarray .int, 2)) (fun q1 H hP hD hS => ?_)
  have hP : va_P D vwCl (cW ws k (h0, .inr (5, [.null, .null, .ref q0, .null, .int 0, .int 0])) [(q0, .inl (cy 0, 100, .inl (fun _ => 0))), (q1, .inl (cy 0, 10240, .inl (fun _ => 0)))]) H := hP
  have hD : va_D (mAz z) (cW ws k (h0, .inr (5, [.null, .null, .ref q0, .null, .int 0, .int 0])) [(q0, .inl (cy 0, 100, .inl (fun _ => 0))), (q1, .inl (cy 0, 10240, .inl (fun _ => 0)))]) := hD
  refine cPutF F hK hkl hP hD hS (a := 3) (ty := tyX6 3) (v := .ref q1) ok_cc_Plan_3_18 (by decide +kernel : fin9 RX6 5 3 true (tyX6 3) = true) hin rfl rfl (Nat.le_of_ble_eq_true rfl) (by decide +kernel : decode cX6_init 18 = .ok (.putfield 15, 3)) (fun H locs hP hD hS => ?_)
  have hP : va_P D vwCl (cW ws k (h0, .inr (5, [.null, .null, .ref q0, .ref q1, .int 0, .int 0])) [(q0, .inl (cy 0, 100, .inl (fun _ => 0))), (q1, .inl (cy 0, 10240, .inl (fun _ => 0)))]) H := hP
  have hD : va_D (mAz z) (cW ws k (h0, .inr (5, [.null, .null, .ref q0, .ref q1, .int 0, .int 0])) [(q0, .inl (cy 0, 100, .inl (fun _ => 0))), (q1, .inl (cy 0, 10240, .inl (fun _ => 0)))]) := hD
  refine lv_aload_n hx hb (by decide +kernel : decode cX6_init 21 = .ok (.aload_n 0, 1)) rfl (lv_at hl 0 rfl) ?_
  refine lv_aload_n hx hb (by decide +kernel : decode cX6_init 22 = .ok (.aload_n 1, 1)) rfl (lv_at hl 1 rfl) ?_
  refine cPutF F hK hkl hP hD hS (a := 0) (ty := tyX6 0) (v := .ref a1) ok_cc_Plan_0_23 (by decide +kernel : fin9 RX6 5 0 true (tyX6 0) = true) hin rfl rfl (Nat.le_of_ble_eq_true rfl) (by decide +kernel : decode cX6_init 23 = .ok (.putfield 18, 3)) (fun H locs hP hD hS => ?_)
  have hP : va_P D vwCl (cW ws k (h0, .inr (5, [.ref a1, .null, .ref q0, .ref q1, .int 0, .int 0])) [(q0, .inl (cy 0, 100, .inl (fun _ => 0))), (q1, .inl (cy 0, 10240, .inl (fun _ => 0)))]) H := hP
  have hD : va_D (mAz z) (cW ws k (h0, .inr (5, [.ref a1, .null, .ref q0, .ref q1, .int 0, .int 0])) [(q0, .inl (cy 0, 100, .inl (fun _ => 0))), (q1, .inl (cy 0, 10240, .inl (fun _ => 0)))]) := hD
  refine lv_aload_n hx hb (by decide +kernel : decode cX6_init 26 = .ok (.aload_n 0, 1)) rfl (lv_at hl 0 rfl) ?_
  refine lv_aload_n hx hb (by decide +kernel : decode cX6_init 27 = .ok (.aload_n 2, 1)) rfl (lv_at hl 2 rfl) ?_
  refine cPutF F hK hkl hP hD hS (a := 1) (ty := tyX6 1) (v := .ref a2) ok_cc_Plan_1_28 (by decide +kernel : fin9 RX6 5 1 true (tyX6 1) = true) hin rfl rfl (Nat.le_of_ble_eq_true rfl) (by decide +kernel : decode cX6_init 28 = .ok (.putfield 22, 3)) (fun H locs hP hD hS => ?_)
  have hP : va_P D vwCl (cW ws k (h0, .inr (5, [.ref a1, .ref a2, .ref q0, .ref q1, .int 0, .int 0])) [(q0, .inl (cy 0, 100, .inl (fun _ => 0))), (q1, .inl (cy 0, 10240, .inl (fun _ => 0)))]) H := hP
  have hD : va_D (mAz z) (cW ws k (h0, .inr (5, [.ref a1, .ref a2, .ref q0, .ref q1, .int 0, .int 0])) [(q0, .inl (cy 0, 100, .inl (fun _ => 0))), (q1, .inl (cy 0, 10240, .inl (fun _ => 0)))]) := hD
  exact cRet hx hb hr hlocks ⟨q0, q1, rfl⟩ hP hD hS (Nat.le_of_ble_eq_true rfl) (Nat.le_of_ble_eq_true rfl) (by decide +kernel : decode cX6_init 31 = .ok (.return_, 1))
