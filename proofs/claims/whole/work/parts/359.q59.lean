/-! the constructors: rows over a world of which one object is this, and things are laid behind -/
def cW (ws : va_W) (k : Nat) (x : Nat × va_E) (r : va_W) : va_W := ws.set k x ++ r
theorem cW_0 {ws : va_W} {k : Nat} {x : Nat × va_E} (h : ws[k]? = some x) : ws = cW ws k x [] := by
  unfold cW
  rw [List.append_nil]
  apply List.ext_getElem?
  intro j
  rw [List.getElem?_set]
  by_cases hj : k = j
  · subst hj
    rw [if_pos rfl, if_pos (List.getElem?_eq_some_iff.mp h).1]
    exact h
  · rw [if_neg hj]
theorem cW_k {ws : va_W} {k : Nat} {x : Nat × va_E} {r : va_W} (hk : k < ws.length) : (cW ws k x r)[k]? = some x := by
  unfold cW
  rw [List.getElem?_append_left (by rw [List.length_set]; exact hk), List.getElem?_set, if_pos rfl, if_pos hk]
theorem cW_r {ws : va_W} {k : Nat} {x : Nat × va_E} {r : va_W} {j : Nat} : (cW ws k x r)[ws.length + j]? = r[j]? := by
  unfold cW
  rw [List.getElem?_append_right (by rw [List.length_set]; omega), List.length_set, Nat.add_sub_cancel_left]
theorem cW_setk {ws : va_W} {k : Nat} {x y : Nat × va_E} {r : va_W} (hk : k < ws.length) : (cW ws k x r).set k y = cW ws k y r := by
  unfold cW
  rw [List.set_append_left _ _ (by rw [List.length_set]; exact hk), List.set_set]
theorem cW_setr {ws : va_W} {k : Nat} {x y : Nat × va_E} {r : va_W} {j : Nat} : (cW ws k x r).set (ws.length + j) y = cW ws k x (r.set j y) := by
  unfold cW
  rw [List.set_append_right _ _ (by rw [List.length_set]; omega), List.length_set, Nat.add_sub_cancel_left]
theorem cW_app {ws : va_W} {k : Nat} {x : Nat × va_E} {r r2 : va_W} : cW ws k x r ++ r2 = cW ws k x (r ++ r2) := by
  unfold cW
  rw [List.append_assoc]
theorem cW_len {ws : va_W} {k : Nat} {x : Nat × va_E} {r : va_W} : (cW ws k x r).length = ws.length + r.length := by
  unfold cW
  rw [List.length_append, List.length_set]
def kX (U : State) : Prop := (∀ w ∈ lw_tbl, isEx w = true → va_Nw w U) ∧ va_AO "LedgeEggs$Cliff" U
theorem kX_m (z : Nat) : mXm z kX := fun u U h hW ha => ⟨fun w hw he => isEx_warm he hW (h.1 w hw he), h.2.moved hW.alike⟩
def cRm (fr mc ms lo : Nat) : Room := { frames := fr, cells := mc, slots := ms, locals := lo }
def cPre (z : Nat) (D : va_G) (cy : Nat → ClassId) (ws : va_W) (U : State) : Prop := z ≤ U.heap.size ∧ va_P D vwCl ws U.heap ∧ va_K D vwCl (mT cy) U ∧ va_D (mAz z) ws ∧ kX U
def cQ (z : Nat) (D : va_G) (post : va_W → Prop) : Array Value → State → Outcome → State → Prop := fun _ st o t => o = .returned none ∧ ∃ w1, post w1 ∧ va_P D vwCl w1 t.heap ∧ va_D (mAz z) w1 ∧ va_F (mAz z) st t
abbrev cWs (y : MethodName) (b : ByteArray) (n : Nat) : List Cond := .code y b n none :: mTs
def cCon (lau : Launch) (z : Nat) (D : va_G) (cy : Nat → ClassId) (y : MethodName) (b : ByteArray) (n fr mc ms lo : Nat) (as : List Value) (ws : va_W) (post : va_W → Prop) : Prop :=
  Met lau y (cWs y b n) (cRm fr mc ms lo) (va_Pc as (cPre z D cy ws)) (cQ z D post) mc ms (mAz z)
def iOK (own : String) (idx : Nat) (y : MethodName) (b : ByteArray) (n np : Nat) (ps : List Nat) : Bool :=
  decide (y.cls ≠ "java/lang/invoke/MethodHandle") && decide (y.cls ≠ "java/lang/invoke/VarHandle") && decide ((parseMethodDescriptor y.desc).map (fun d => d.parameters.length) = some np) && decide (n ≤ 80) && decide (y.name = "<init>") &&
    mIp (.instanceMethod y) (ps.getD 1 0) && mIp (.initialized y.cls) (ps.getD 2 0) && mIp (.code y b n none) (ps.getD 3 0) && (mIp (.methodLink own idx y) (ps.getD 0 0) || decide (lw_tbl[ps.getD 0 0]? = some (.methodLinkNest own idx y "LedgeEggs")))
section CT9
variable {p : Program} {lau : Launch} {e : Env} {R : Room} {s : State} {m : MethodId} {args : Array Value} {below : List Frame} {meth : Method} {c : Code} {Q : State → Prop} {z : Nat} {D : va_G} {cy : Nat → ClassId}
variable {H : Heap} {locs : List Loc} {ls : Array Slot} {cells slots pc nL : Nat} {rest : List Value} {cc : ByteArray} {own : String} {ws : va_W} {k : Nat} {x : Nat × va_E} {r : va_W}
theorem cBack {a0 : Array Value} {post : va_W → Prop} {mc ms : Nat} {st0 : List Value} (hr : va_Run p lau e R s m args below meth c H locs cells slots mc ms (F0 m pc ls st0) rest (cQ z D post a0) (mAz z)) (hS : va_S (mAz z) s.heap H locs)
    (kk : ∀ (w1 : va_W) (H1 : Heap) (locs1 : List Loc), post w1 → va_P D vwCl w1 H1 → va_D (mAz z) w1 → va_S (mAz z) s.heap H1 locs1 → W p lau e R s m args below meth c H1 locs1 (cells + mc) (slots + ms) Q (F0 m (pc + 3) ls rest)) :
    W p lau e R s m args below meth c H locs cells slots Q (F0 m pc ls st0) := by
  intro T hT X9
  obtain ⟨v, st₀, t, T', L, h0, X', hL, e1, e2, ⟨ho, w1, hp, hP1, hD1, hF1⟩, st⟩ := hr T hT X9
  cases ho
  obtain ⟨k1, k2, k3⟩ := vx_keep h0 e1 hS (fun _ _ h => h) (fun _ h => h) hL hF1
  obtain ⟨t2, a1, b1⟩ := kk w1 T'.heap (locs ++ L) hp (by rw [e1]; exact hP1) hD1 k3 T' rfl X'
  exact ⟨t2, st t2 a1, b1⟩
theorem cCall (F : CallFix p m c cc nL s args mTs own) {idx n fr mc ms lo a : Nat} {y : MethodName} {b : ByteArray} {As : List Value} {ps : List Nat} {post : va_W → Prop} (hok : iOK own idx y b n As.length ps = true) (hz : z ≤ s.heap.size) (hN : kX s) (hK : va_K D vwCl (mT cy) s)
    (hM : cCon lau z D cy y b n fr mc ms lo (.ref a :: As) ws post) (hP : va_P D vwCl ws H) (hD : va_D (mAz z) ws) (hS : va_S (mAz z) s.heap H locs) (hl : ls.size = nL)
    (hs8 : (rest.map fun v => v.category).sum ≤ 8) (hd : decode cc pc = .ok (.invokespecial idx, 3)) (hR : fr + 1 ≤ R.frames ∧ lo + 100 ≤ R.locals) (hk : cells + mc ≤ R.cells ∧ slots + ms ≤ R.slots)
    (kk : ∀ (w1 : va_W) (H1 : Heap) (locs1 : List Loc), post w1 → va_P D vwCl w1 H1 → va_D (mAz z) w1 → va_S (mAz z) s.heap H1 locs1 → W p lau e R s m args below meth c H1 locs1 (cells + mc) (slots + ms) Q (F0 m (pc + 3) ls rest)) :
    W p lau e R s m args below meth c H locs cells slots Q (F0 m pc ls (As.reverse ++ .ref a :: rest)) := by
  simp only [iOK, Bool.and_eq_true, Bool.or_eq_true, decide_eq_true_eq] at hok
  obtain ⟨⟨⟨⟨⟨⟨⟨⟨hn1, hn2⟩, hpm⟩, h80⟩, hnm⟩, w1⟩, w2⟩, w3⟩, w4⟩ := hok
  have hG : GoodIn mTs (cWs y b n) := goodIn_c (mIp_mem w3) (fun w hw => ⟨hw, mTs_good hw⟩)
  have hp : PreS s H (va_Pc (.ref a :: As) (cPre z D cy ws)) (.ref a :: As) := ⟨fun a9 U g mk q => by
      obtain ⟨q0, q1, q2, q3, q4, q5⟩ := q
      exact ⟨q0, q1, q2, va_K.moved (u := U) (U := U.calling g mk a9) (Vm.Alike.refl U.vm) q3, q4, kX_m z U _ q5 (State.WarmedH.refl U) (fun _ _ _ => rfl)⟩,
    fun U hU hW => by
      subst hU
      exact ⟨rfl, Nat.le_trans hz hS.1, hP, va_K.moved hW.alike hK, hD, kX_m z s U hN hW (fun a h1 h2 => hS.2.1 a h1 h2)⟩⟩
  rcases w4 with w4 | w4
  · refine cBack (va_runI (As := As) (rest := rest) (g := F0 m pc ls (As.reverse ++ .ref a :: rest)) (index := idx) (y := y) (bytes := b) (maxL := n) F hM (cwI As.length F.2.2.2.2 hG rfl rfl rfl (F.2.2.2.2 _ (mIp_mem w2)) (F.2.2.2.2 _ (mIp_mem w4)) (F.2.2.2.2 _ (mIp_mem w1)) hnm ⟨hn1, hn2, hpm⟩ ⟨hR.1, by show 8 + (n + 11) + lo ≤ R.locals; omega⟩) hp rfl rfl hl rfl (lv_room hs8) hd hk) hS kk
  · refine cBack (va_runIN (As := As) (rest := rest) (g := F0 m pc ls (As.reverse ++ .ref a :: rest)) (index := idx) (y := y) (bytes := b) (maxL := n) F hM ⟨va_cnB (host := "LedgeEggs") As.length F.2.2.2.2 hG rfl rfl rfl (hN.1 _ (List.mem_of_getElem? w4) rfl) (F.2.2.2.2 _ (mIp_mem w2)) ⟨hn1, hn2, hpm⟩ ⟨hR.1, by show 8 + (n + 11) + lo ≤ R.locals; omega⟩, hnm, F.2.2.2.2 _ (mIp_mem w1)⟩ hp rfl rfl hl rfl (lv_room hs8) hd hk) hS kk
end CT9
