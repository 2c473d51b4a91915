/-! the constructors' rows -/
section CT10
variable {p : Program} {lau : Launch} {e : Env} {R : Room} {s : State} {m : MethodId} {args : Array Value} {below : List Frame} {meth : Method} {c : Code} {Q : State → Prop} {z : Nat} {D : va_G} {cy : Nat → ClassId}
variable {H : Heap} {locs : List Loc} {ls : Array Slot} {cells slots pc nL : Nat} {rest : List Value} {cc : ByteArray} {own : String} {ws : va_W} {k : Nat} {x : Nat × va_E} {r : va_W}
theorem wI : Cond.arrayClass .int ∈ mTs := mIs_mem (by decide +kernel)
theorem wB : Cond.arrayClass .byte ∈ mTs := mIs_mem (by decide +kernel)
theorem wJ : Cond.arrayClass .long ∈ mTs := mIs_mem (by decide +kernel)
theorem cNewI (F : CallFix p m c cc nL s args mTs own) (hK : va_K D vwCl (mT cy) s) (hP : va_P D vwCl (cW ws k x r) H) (hD : va_D (mAz z) (cW ws k x r)) (hS : va_S (mAz z) s.heap H locs) (hz : z ≤ s.heap.size) {n : Int32} (N : Nat) (hn : ¬ n < 0) (hN : n.toNatClampNeg = N) (hN2 : N ≤ 20000) (hcells : cells + 1 ≤ R.cells) (hslots : slots + N ≤ R.slots) (hd : decode cc pc = .ok (.newarray .int, 2))
    (kk : ∀ (q : Nat) (H1 : Heap), va_P D vwCl (cW ws k x (r ++ [(q, .inl (cy 0, N, .inl (fun _ => 0)))])) H1 → va_D (mAz z) (cW ws k x (r ++ [(q, .inl (cy 0, N, .inl (fun _ => 0)))])) → va_S (mAz z) s.heap H1 locs → W p lau e R s m args below meth c H1 locs (cells + 1) (slots + N) Q (F0 m (pc + 2) ls (.ref q :: rest))) :
    W p lau e R s m args below meth c H locs cells slots Q (F0 m pc ls (.int n :: rest)) := by
  refine va_newa (atype := .int) (a0 := (N, .inl (fun _ => 0))) F.1 F.2.1 (F.2.2.2.2 _ wI) rfl hK hP hD hS (fun q h => Nat.le_trans hz h) (fun _ => rfl) hn hN (by show N * 4 ≤ _; omega) hcells hslots hd (fun q cA H1 hK2 hP hD hS => ?_)
  have e1 : s.vm.findClass ("[" ++ FieldType.int.toString) = some cA := (hK2.2 4 _ rfl).2
  have e2 : s.vm.findClass ("[" ++ FieldType.int.toString) = some (cy 0) := (hK.2 0 _ rfl).2
  cases Option.some.inj (e1.symm.trans e2)
  rw [cW_app] at hP hD
  exact kk q H1 hP hD hS
theorem cNewB (F : CallFix p m c cc nL s args mTs own) (hK : va_K D vwCl (mT cy) s) (hP : va_P D vwCl (cW ws k x r) H) (hD : va_D (mAz z) (cW ws k x r)) (hS : va_S (mAz z) s.heap H locs) (hz : z ≤ s.heap.size) {n : Int32} (N : Nat) (hn : ¬ n < 0) (hN : n.toNatClampNeg = N) (hN2 : N ≤ 20000) (hcells : cells + 1 ≤ R.cells) (hslots : slots + N ≤ R.slots) (hd : decode cc pc = .ok (.newarray .byte, 2))
    (kk : ∀ (q : Nat) (H1 : Heap), va_P D vwCl (cW ws k x (r ++ [(q, .inl (cy 1, N, .inl (fun _ => 0)))])) H1 → va_D (mAz z) (cW ws k x (r ++ [(q, .inl (cy 1, N, .inl (fun _ => 0)))])) → va_S (mAz z) s.heap H1 locs → W p lau e R s m args below meth c H1 locs (cells + 1) (slots + N) Q (F0 m (pc + 2) ls (.ref q :: rest))) :
    W p lau e R s m args below meth c H locs cells slots Q (F0 m pc ls (.int n :: rest)) := by
  refine va_newa (atype := .byte) (a0 := (N, .inl (fun _ => 0))) F.1 F.2.1 (F.2.2.2.2 _ wB) rfl hK hP hD hS (fun q h => Nat.le_trans hz h) (fun _ => rfl) hn hN (by show N * 1 ≤ _; omega) hcells hslots hd (fun q cA H1 hK2 hP hD hS => ?_)
  have e1 : s.vm.findClass ("[" ++ FieldType.byte.toString) = some cA := (hK2.2 4 _ rfl).2
  have e2 : s.vm.findClass ("[" ++ FieldType.byte.toString) = some (cy 1) := (hK.2 1 _ rfl).2
  cases Option.some.inj (e1.symm.trans e2)
  rw [cW_app] at hP hD
  exact kk q H1 hP hD hS
theorem cNewJ (F : CallFix p m c cc nL s args mTs own) (hK : va_K D vwCl (mT cy) s) (hP : va_P D vwCl ws H) (hD : va_D (mAz z) ws) (hS : va_S (mAz z) s.heap H locs) (hz : z ≤ s.heap.size) {n : Int32} (N : Nat) (hn : ¬ n < 0) (hN : n.toNatClampNeg = N) (hN2 : N ≤ 20000) (hcells : cells + 1 ≤ R.cells) (hslots : slots + N ≤ R.slots) (hd : decode cc pc = .ok (.newarray .long, 2))
    (kk : ∀ (q : Nat) (H1 : Heap), va_P D vwCl (ws ++ [(q, .inl (cy 3, N, .inr (.inl (fun _ => 0))))]) H1 → va_D (mAz z) (ws ++ [(q, .inl (cy 3, N, .inr (.inl (fun _ => 0))))]) → va_S (mAz z) s.heap H1 locs → W p lau e R s m args below meth c H1 locs (cells + 1) (slots + N) Q (F0 m (pc + 2) ls (.ref q :: rest))) :
    W p lau e R s m args below meth c H locs cells slots Q (F0 m pc ls (.int n :: rest)) := by
  refine va_newa (atype := .long) (a0 := (N, .inr (.inl (fun _ => 0)))) F.1 F.2.1 (F.2.2.2.2 _ wJ) rfl hK hP hD hS (fun q h => Nat.le_trans hz h) (fun _ => rfl) hn hN (by show N * 8 ≤ _; omega) hcells hslots hd (fun q cA H1 hK2 hP hD hS => ?_)
  have e1 : s.vm.findClass ("[" ++ FieldType.long.toString) = some cA := (hK2.2 4 _ rfl).2
  have e2 : s.vm.findClass ("[" ++ FieldType.long.toString) = some (cy 3) := (hK.2 3 _ rfl).2
  cases Option.some.inj (e1.symm.trans e2)
  exact kk q H1 hP hD hS
def fin9 (own : String) (ci a : Nat) (g : Bool) (ty : FieldType) : Bool := match vwCl[ci]? with
  | some q => decide ((q.2.1 a).2.2.2 = g) && (!g || decide ((q.2.1 a).1 = own)) && decide (parseFieldDescriptor (q.2.1 a).2.2.1 = some ty)
  | none => false
theorem cPutF (F : CallFix p m c cc nL s args mTs own) (hK : va_K D vwCl (mT cy) s) {h0 ci : Nat} {fs : List Value} (hk : k < ws.length) (hP : va_P D vwCl (cW ws k (h0, .inr (ci, fs)) r) H) (hD : va_D (mAz z) (cW ws k (h0, .inr (ci, fs)) r)) (hS : va_S (mAz z) s.heap H locs) {a e0 : Nat} {ps : List Nat} {ty : FieldType} {v : Value}
    (hok : fOK own a ci e0 ps = true) (hf9 : fin9 own ci a true ty = true) (hin : meth.name = "<init>") (hn : narrow ty v = v) (hfit : fits ty v = true) (hl : a < fs.length) (hd : decode cc pc = .ok (.putfield e0, 3))
    (kk : ∀ (H1 : Heap) (locs1 : List Loc), va_P D vwCl (cW ws k (h0, .inr (ci, fs.set a v)) r) H1 → va_D (mAz z) (cW ws k (h0, .inr (ci, fs.set a v)) r) → va_S (mAz z) s.heap H1 locs1 → W p lau e R s m args below meth c H1 locs1 cells slots Q (F0 m (pc + 3) ls rest)) :
    W p lau e R s m args below meth c H locs cells slots Q (F0 m pc ls (v :: .ref h0 :: rest)) := by
  obtain ⟨q, ref, hq, ha, hw, hsame⟩ := fOK_spec hok
  obtain ⟨⟨ty0, hty⟩, hnm⟩ := vw_ty hq
  obtain ⟨C, T, N⟩ := q
  simp only [fin9, hq, Bool.and_eq_true, decide_eq_true_eq, Bool.not_true, Bool.false_or] at hf9
  refine va_putF (ci := ci) (C := C) (T := T) (N := N) F.1 F.2.1 F.2.2.2.2 (vw_in hq) ty0 hty hnm F.2.2.2.1 hK hP hD hS k (cW_k hk) hq a ha (F.2.2.2.2 _ hw) (hsame args s F.2.2.2.2) hf9.1.1 hin hf9.1.2 hf9.2 hn hfit hl hd (fun H1 l1 hP hD hS => ?_)
  rw [cW_setk hk] at hP hD
  exact kk H1 l1 hP hD hS
theorem cPut (F : CallFix p m c cc nL s args mTs own) (hK : va_K D vwCl (mT cy) s) {h0 ci : Nat} {fs : List Value} (hk : k < ws.length) (hP : va_P D vwCl (cW ws k (h0, .inr (ci, fs)) r) H) (hD : va_D (mAz z) (cW ws k (h0, .inr (ci, fs)) r)) (hS : va_S (mAz z) s.heap H locs) {a e0 : Nat} {ps : List Nat} {ty : FieldType} {v : Value}
    (hok : fOK own a ci e0 ps = true) (hf9 : fin9 own ci a false ty = true) (hn : narrow ty v = v) (hfit : fits ty v = true) (hl : a < fs.length) (hd : decode cc pc = .ok (.putfield e0, 3))
    (kk : ∀ (H1 : Heap) (locs1 : List Loc), va_P D vwCl (cW ws k (h0, .inr (ci, fs.set a v)) r) H1 → va_D (mAz z) (cW ws k (h0, .inr (ci, fs.set a v)) r) → va_S (mAz z) s.heap H1 locs1 → W p lau e R s m args below meth c H1 locs1 cells slots Q (F0 m (pc + 3) ls rest)) :
    W p lau e R s m args below meth c H locs cells slots Q (F0 m pc ls (v :: .ref h0 :: rest)) := by
  obtain ⟨q, ref, hq, ha, hw, hsame⟩ := fOK_spec hok
  obtain ⟨⟨ty0, hty⟩, hnm⟩ := vw_ty hq
  obtain ⟨C, T, N⟩ := q
  simp only [fin9, hq, Bool.and_eq_true, decide_eq_true_eq] at hf9
  refine va_put (ci := ci) (C := C) (T := T) (N := N) F.1 F.2.1 F.2.2.2.2 (vw_in hq) ty0 hty hnm F.2.2.2.1 hK hP hD hS k (cW_k hk) hq a ha (F.2.2.2.2 _ hw) (hsame args s F.2.2.2.2) hf9.1.1 hf9.2 hn hfit hl hd (fun H1 l1 hP hD hS => ?_)
  rw [cW_setk hk] at hP hD
  exact kk H1 l1 hP hD hS
theorem cGet (F : CallFix p m c cc nL s args mTs own) (hK : va_K D vwCl (mT cy) s) {h0 ci : Nat} {fs : List Value} (hk : k < ws.length) (hP : va_P D vwCl (cW ws k (h0, .inr (ci, fs)) r) H) {a e0 : Nat} {ps : List Nat} {v : Value}
    (hok : fOK own a ci e0 ps = true) (hv : fs[a]? = some v) (hd : decode cc pc = .ok (.getfield e0, 3)) (kk : W p lau e R s m args below meth c H locs cells slots Q (F0 m (pc + 3) ls (v :: rest))) :
    W p lau e R s m args below meth c H locs cells slots Q (F0 m pc ls (.ref h0 :: rest)) := by
  obtain ⟨q, ref, hq, ha, hw, hsame⟩ := fOK_spec hok
  obtain ⟨C, T, N⟩ := q
  exact va_get (ci := ci) (C := C) (T := T) (N := N) F.1 F.2.1 F.2.2.2.2 (vw_in hq) F.2.2.2.1 hK hP k (cW_k hk) hq a ha (F.2.2.2.2 _ hw) (hsame args s F.2.2.2.2) hv hd kk
theorem cIast (F : CallFix p m c cc nL s args mTs own) (hK : va_K D vwCl (mT cy) s) (hP : va_P D vwCl (cW ws k x r) H) (hD : va_D (mAz z) (cW ws k x r)) (hS : va_S (mAz z) s.heap H locs) (j : Nat) {a N : Nat} {f : Nat → Int32} (hj : r[j]? = some (a, .inl (cy 0, N, .inl f))) {i v : Int32} (i0 : Nat) (hi0 : i.toNatClampNeg = i0) (hin : vp_in i N) (hd : decode cc pc = .ok (.iastore, 1))
    (kk : ∀ (H1 : Heap) (locs1 : List Loc), va_P D vwCl (cW ws k x (r.set j (a, .inl (cy 0, N, .inl (upd f i0 v))))) H1 → va_D (mAz z) (cW ws k x (r.set j (a, .inl (cy 0, N, .inl (upd f i0 v))))) → va_S (mAz z) s.heap H1 locs1 → W p lau e R s m args below meth c H1 locs1 cells slots Q (F0 m (pc + 1) ls rest)) :
    W p lau e R s m args below meth c H locs cells slots Q (F0 m pc ls (.int v :: .int i :: .ref a :: rest)) := by
  subst hi0
  refine va_iast F.1 F.2.1 hK hP hD hS (ws.length + j) 0 (cW_r.trans hj) rfl hin hd (fun H1 l1 hP hD hS => ?_)
  rw [cW_setr] at hP hD
  exact kk H1 l1 hP hD hS
def nOK (own : String) (idx ci : Nat) (ps : List Nat) : Bool := match vwCl[ci]? with
  | some q => mIp (.classLink own idx q.1) (ps.getD 0 0) && mIp (.instantiable q.1 q.2.2) (ps.getD 1 0) && mIp (.initialized q.1) (ps.getD 2 0)
  | none => false
theorem cNew (F : CallFix p m c cc nL s args mTs own) (hK : va_K D vwCl (mT cy) s) (hP : va_P D vwCl ws H) (hD : va_D (mAz z) ws) (hS : va_S (mAz z) s.heap H locs) (hz : z ≤ s.heap.size) {idx ci : Nat} {ps : List Nat} (hok : nOK own idx ci ps = true) {C : String} {T : u_T} {N : Nat} (hq : vwCl[ci]? = some (C, T, N)) {ty0 : Nat → FieldType} (hty : ∀ k, k < N → parseFieldDescriptor (T k).2.2.1 = some (ty0 k)) {fs : List Value} (hfs : ∀ j, j < N → defaultValue (ty0 j) = vp_V fs j)
    (hcells : cells + 1 ≤ R.cells) (hslots : slots + N ≤ R.slots) (hd : decode cc pc = .ok (.new idx, 3))
    (kk : ∀ (q : Nat) (H1 : Heap), va_P D vwCl (ws ++ [(q, .inr (ci, fs))]) H1 → va_D (mAz z) (ws ++ [(q, .inr (ci, fs))]) → va_S (mAz z) s.heap H1 locs → W p lau e R s m args below meth c H1 locs (cells + 1) (slots + N) Q (F0 m (pc + 3) ls (.ref q :: rest))) :
    W p lau e R s m args below meth c H locs cells slots Q (F0 m pc ls rest) := by
  simp only [nOK, hq, Bool.and_eq_true] at hok
  exact va_new (ci := ci) (C := C) (T := T) (N := N) F.1 F.2.1 F.2.2.2.2 (vw_in hq) ty0 hty F.2.2.2.1 (F.2.2.2.2 _ (mIp_mem hok.1.1)) (F.2.2.2.2 _ (mIp_mem hok.1.2)) (F.2.2.2.2 _ (mIp_mem hok.2)) hK hP hD hS (fun q h => Nat.le_trans hz h) hq hfs hcells hslots hd kk
theorem wO1 : Cond.instanceMethod Lib.objectInit ∈ mTs := mIs_mem (by decide +kernel)
theorem wO2 : Cond.code Lib.objectInit ⟨#[0xb1]⟩ 1 none ∈ mTs := mIs_mem (by decide +kernel)
theorem cObj (F : CallFix p m c cc nL s args mTs own) {idx a : Nat} (hl : ls.size = nL) (hw : Cond.methodLink own idx Lib.objectInit ∈ mTs) (hR : 1 ≤ R.frames ∧ 30 ≤ R.locals) (hs8 : (rest.map fun v => v.category).sum ≤ 8) (hd : decode cc pc = .ok (.invokespecial idx, 3))
    (kk : W p lau e R s m args below meth c H locs cells slots Q (F0 m (pc + 3) ls rest)) : W p lau e R s m args below meth c H locs cells slots Q (F0 m pc ls (.ref a :: rest)) := by
  refine W.objInit F.1 F.2.1 F.2.2.2.1 (F.2.2.2.2 _ hw) (F.2.2.2.2 _ wO1) (F.2.2.2.2 _ wO2) rfl (by rw [F.2.2.1]; exact hl) rfl hd hR.1 ?_ ?_
  · have := lv_room (m := m) (pc := pc) (ls := ls) (rest := .ref a :: rest) hs8
    omega
  · exact W.eq rfl kk
theorem cRet (hx : p.tables.exec = Jvm.exec) (hb : c.code = cc) (hr : meth.sig.returnType = none) (hlocks : meth.locks = false) {post : va_W → Prop} {mc ms : Nat} {w1 : va_W} (hp : post w1) (hP : va_P D vwCl w1 H) (hD : va_D (mAz z) w1) (hS : va_S (mAz z) s.heap H locs) (hc : cells ≤ mc) (hs : slots ≤ ms) (hd : decode cc pc = .ok (.return_, 1)) :
    W p lau e R s m args below meth c H locs cells slots (MQ below (cQ z D post) args s mc ms (mAz z)) (F0 m pc ls []) :=
  W.widen hc hs (W.vret hx hb hr (fun t ht hW => ⟨rfl, w1, hp, by rw [ht]; exact hP, hD, hS.F ht⟩) hS.2.2 hd hlocks)
end CT10
