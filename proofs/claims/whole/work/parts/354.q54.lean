/-! the law's loop: what stands at its head, how a script's int is read, a call of a helper -/
section LW
variable {p : Program} {lau : Launch} {e : Env} {R : Room} {s : State} {m : MethodId} {args : Array Value} {below : List Frame} {meth : Method} {c : Code} {Q : State → Prop} {z : Nat} {D : va_G} {ad : Nat → Nat} {cy : Nat → ClassId}
variable {H : Heap} {locs : List Loc} {ls : Array Slot} {cells slots pc nL : Nat} {rest : List Value} {S S2 : mS} {cc : ByteArray} {own : String} {k : Int32} {b L i : Nat} {xs : Nat → Int32}
def hOK (idx : Nat) (y : MethodName) (b : ByteArray) (n : Nat) (hh : List (Nat × Nat × Nat × Nat)) (np : Nat) (ps : List Nat) : Bool :=
  decide (y.cls ≠ "java/lang/invoke/MethodHandle") && decide (y.cls ≠ "java/lang/invoke/VarHandle") && decide ((parseMethodDescriptor y.desc).map (fun d => d.parameters.length) = some np) && decide (n ≤ 80) &&
    mIp (.methodLink RL idx y) (ps.getD 0 0) && mIp (.static y) (ps.getD 1 0) && mIp (.initialized y.cls) (ps.getD 2 0) && mIp (.codeWith y b n (some .int) hh) (ps.getD 3 0)
theorem gHelp (F : CallFix p m c cc nL s args mTs RL) {idx n : Nat} {y : MethodName} {b : ByteArray} {hh : List (Nat × Nat × Nat × Nat)} {as : List Value} {ps : List Nat} (hok : hOK idx y b n hh as.length ps = true) (hz : z ≤ s.heap.size) (hX0 : hX z ad s) (hK : va_K D vwCl (mT cy) s)
    (hM : hCon lau z D ad cy y b n hh as S k S2) (hP : va_P D vwCl (mW ad cy S) H) (hD : va_D (mAz z) (mW ad cy S)) (hS : va_S (mAz z) s.heap H locs) (hl : ls.size = nL)
    (hs8 : (rest.map fun v => v.category).sum ≤ 8) (hd : decode cc pc = .ok (.invokestatic idx, 3)) (hR : 91 ≤ R.frames ∧ 7700 ≤ R.locals) (hk : cells + 16 ≤ R.cells ∧ slots + 96 ≤ R.slots)
    (kk : ∀ (H1 : Heap) (locs1 : List Loc), va_P D vwCl (mW ad cy S2) H1 → va_D (mAz z) (mW ad cy S2) → va_S (mAz z) s.heap H1 locs1 → W p lau e R s m args below meth c H1 locs1 (cells + 16) (slots + 96) Q (F0 m (pc + 3) ls (.int k :: rest))) :
    W p lau e R s m args below meth c H locs cells slots Q (F0 m pc ls ((as.map (mV ad)).reverse ++ rest)) := by
  simp only [hOK, Bool.and_eq_true, decide_eq_true_eq] at hok
  obtain ⟨⟨⟨⟨⟨⟨⟨hn1, hn2⟩, hpm⟩, h80⟩, w1⟩, w2⟩, w3⟩, w4⟩ := hok
  have hr := vx_runSW (p := p) (e := e) (R := R) (m := m) (below := below) (meth := meth) (c := c) (locs := locs) (cells := cells) (slots := slots) (Ts := mTs) (own := RL) (As := as.map (mV ad)) (rest := rest) (hh := hh) (bytes := b) (maxL := n) (ret := some .int) (H := H) (g := F0 m pc ls ((as.map (mV ad)).reverse ++ rest)) F hM
    (vx_cwSW as.length F.2.2.2.2 (goodIn_c (mIp_mem w1) (goodIn_c (mIp_mem w2) (goodIn_c (mIp_mem w3) (goodIn_c (mIp_mem w4) (fun w hw => ⟨hw, mTs_good hw⟩))))) rfl rfl rfl ⟨hn1, hn2, hpm⟩ ⟨by show 90 + 1 ≤ R.frames; omega, by show 8 + (n + 11) + 7600 ≤ R.locals; omega⟩)
    ⟨mPre_blind (hX_m z ad), fun U hU hW => mPre_at (as := as.map (mV ad)) (hX_m z ad) hz hX0 hK hP hD hS U hU hW⟩ rfl (by rw [List.length_map]) hl rfl (lv_room hs8) hd ⟨hk.1, hk.2⟩
  intro T hT X9
  obtain ⟨v, st₀, t, T', L, h0, X', hL, e1, e2, ⟨ho, hP1, hD1, hF1⟩, st⟩ := hr T hT X9
  cases ho
  obtain ⟨k1, k2, k3⟩ := vx_keep h0 e1 hS (fun _ _ h => h) (fun _ h => h) hL hF1
  obtain ⟨t2, a1, b1⟩ := kk T'.heap (locs ++ L) (by rw [e1]; exact hP1) hD1 k3 T' rfl X'
  exact ⟨t2, st t2 a1, b1⟩
def LwC (p : Program) (lau : Launch) (s : State) (m : MethodId) (meth : Method) (c : Code) (b L : Nat) (xs : Nat → Int32) (z : Nat) (D : va_G) (ad : Nat → Nat) (cy : Nat → ClassId) : Prop :=
  CallFix p m c code 7 s #[Value.ref b] mTs RL ∧ va_X b L xs s s.heap ∧ b < s.heap.size ∧ z = s.heap.size ∧ va_K D vwCl (mT cy) s ∧ hX z ad s ∧ lau.stackTraces = false ∧ L ≤ 3072
def sx (xs : Nat → Int32) (i k : Nat) : Int32 := xs (nI i + nI k).toNatClampNeg
def bx (xs : Nat → Int32) (i k : Nat) : Int32 := if sx xs i k = 0 then 0 else 1
abbrev lvs (b : Nat) (ad : Nat → Nat) (i : Nat) : List (Nat × Value) := [(0, .ref b), (1, .ref (ad 0)), (2, .ref (ad 63)), (3, .ref (ad 75)), (4, .int (nI i))]
theorem lw_ld (C : LwC p lau s m meth c b L xs z D ad cy) (hS : va_S (mAz z) s.heap H locs) {lv : List (Nat × Value)} (hl : lv_has ls 7 lv) {x0 x4 : Nat} (h0 : lv[x0]? = some (0, .ref b)) (h4 : lv[x4]? = some (4, .int (nI i))) (k : Nat) (hk : k < 6) (hi : i + 6 ≤ L)
    (d0 : decode code pc = .ok (.aload_n 0, 1)) (d1 : decode code (pc + 1) = .ok (.iload 4, 2)) {kz : Int} (d2 : decode code (pc + 3) = .ok (.iconst kz, 1)) (hkz : Int32.ofInt kz = nI k) (d3 : decode code (pc + 4) = .ok (.iadd, 1)) (d4 : decode code (pc + 5) = .ok (.iaload, 1))
    (kk : W p lau e R s m #[Value.ref b] below meth c H locs cells slots Q (F0 m (pc + 6) ls (.int (sx xs i k) :: rest))) : W p lau e R s m #[Value.ref b] below meth c H locs cells slots Q (F0 m pc ls rest) := by
  obtain ⟨⟨hx, hb, hml, hown, hts⟩, hX, hbl, hz, hK, hX0, hst, hL⟩ := C
  subst hz
  refine lv_aload_n hx hb d0 rfl (lv_at hl x0 h0) ?_
  refine lv_iload hx hb d1 (lv_at hl x4 h4) ?_
  refine lv_iconst (v := nI k) hx hb d2 hkz ?_
  refine lv_iadd hx hb d3 ?_
  refine va_sld (A := mAz s.heap.size) hx hb hX hbl (Nat.not_le.mpr hbl) hS (i := nI i + nI k) (by rw [nI_ad]; exact vp_in_nI (by omega) (by omega)) d4 ?_
  exact kk
theorem lw_ldb (C : LwC p lau s m meth c b L xs z D ad cy) (hS : va_S (mAz z) s.heap H locs) {lv : List (Nat × Value)} (hl : lv_has ls 7 lv) {x0 x4 : Nat} (h0 : lv[x0]? = some (0, .ref b)) (h4 : lv[x4]? = some (4, .int (nI i))) (k : Nat) (hk : k < 6) (hi : i + 6 ≤ L)
    (d0 : decode code pc = .ok (.aload_n 0, 1)) (d1 : decode code (pc + 1) = .ok (.iload 4, 2)) {kz : Int} (d2 : decode code (pc + 3) = .ok (.iconst kz, 1)) (hkz : Int32.ofInt kz = nI k) (d3 : decode code (pc + 4) = .ok (.iadd, 1)) (d4 : decode code (pc + 5) = .ok (.iaload, 1))
    (d5 : decode code (pc + 6) = .ok (.ifCond .eq 7, 3)) (d6 : decode code (pc + 9) = .ok (.iconst 1, 1)) (d7 : decode code (pc + 10) = .ok (.goto 4, 3)) (d8 : decode code (pc + 13) = .ok (.iconst 0, 1))
    (kk : W p lau e R s m #[Value.ref b] below meth c H locs cells slots Q (F0 m (pc + 14) ls (.int (bx xs i k) :: rest))) : W p lau e R s m #[Value.ref b] below meth c H locs cells slots Q (F0 m pc ls rest) := by
  refine lw_ld C hS hl h0 h4 k hk hi d0 d1 d2 hkz d3 d4 ?_
  obtain ⟨⟨hx, hb, hml, hown, hts⟩, -⟩ := C
  refine lv_if_eq (tgt := pc + 13) hx hb d5 (by omega) (fun q => ?_) (fun q => ?_)
  · refine lv_iconst (v := 0) hx hb d8 (by decide) ?_
    have e : bx xs i k = 0 := if_pos q
    rw [e] at kk
    exact kk
  · refine lv_iconst (v := 1) hx hb d6 (by decide) ?_
    refine lv_goto (tgt := pc + 14) hx hb d7 (by omega) ?_
    have e : bx xs i k = 1 := if_neg q
    rw [e] at kk
    exact kk
def LK (p : Program) (lau : Launch) (e : Env) (s : State) (m : MethodId) (below : List Frame) (meth : Method) (c : Code) (Q : State → Prop) (b z : Nat) (D : va_G) (ad : Nat → Nat) (cy : Nat → ClassId) (n i : Nat) : Prop :=
  ∀ (S : mS) (H : Heap) (locs : List Loc) (ls : Array Slot), Inv S → va_P D vwCl (mW ad cy S) H → va_D (mAz z) (mW ad cy S) → va_S (mAz z) s.heap H locs → lv_has ls 7 (lvs b ad i) →
    W p lau e room_1 s m #[Value.ref b] below meth c H locs (100 + 64 * n + 64) (60000 + 384 * n + 384) Q (F0 m 3077 ls [])
theorem Res_in {r1 : Option Value ⊕ Nat} {b2 t : Int32} {cs : List Nat} {v : Option Value} (h : Res r1 b2 t cs) (hv : r1 = .inl v) : v = some (.int b2) := by
  subst hv
  match v, h with
  | some (.int x), h => rw [h.1]
theorem Res_no {r1 : Option Value ⊕ Nat} {b2 t : Int32} {k9 : Nat} (h : Res r1 b2 t []) (hv : r1 = .inr k9) : False := by
  subst hv
  obtain ⟨j, hj, -⟩ := h
  simp at hj
theorem hr_of {fM : mS → Option mR} {cs : List Nat} {r1 : Option Value ⊕ Nat} {S1 : mS} (hg : ∀ T, (∀ o, o < 75 → T o = S1 o) → ∃ b T2, fM T = some (.inl (some (.int b)), T2) ∧ Inv T2 ∧ Res r1 b (T2 63 0) cs) :
    ∃ k S2 b2 T2, HR r1 S1 cs k S2 ∧ fM S2 = some (.inl (some (.int b2)), T2) ∧ Inv T2 ∧ T2 63 0 = k ∧ (k = 0 → S2 75 0 = b2) := by
  obtain ⟨b2, T2, h1, h2, h3⟩ := hg S1 (fun _ _ => rfl)
  match r1, hg, h3 with
  | .inl (some (.int v)), hg, h3 =>
    obtain ⟨b3, T3, g1, g2, g3⟩ := hg (upS S1 75 0 v) (fun o ho => by show (if o = 75 then _ else S1 o) = S1 o; rw [if_neg (by omega)])
    refine ⟨0, upS S1 75 0 v, b3, T3, ⟨rfl, rfl⟩, g1, g2, g3.2, fun _ => ?_⟩
    rw [g3.1]; rfl
  | .inr ex, hg, h3 =>
    obtain ⟨j, j1, j2, j3⟩ := h3
    exact ⟨nI (j + 1), S1, b2, T2, ⟨j, j1, j2, rfl, rfl⟩, h1, h2, j3, fun q => absurd (nI_inj (b := 0) (by omega) (by omega) q) (by omega)⟩
theorem hrb_of {fM : mS → Option mR} {cs : List Nat} {r1 : Option Value ⊕ Nat} {S1 : mS} (hg : ∀ T, (∀ o, o < 75 → T o = S1 o) → ∃ b T2, fM T = some (.inl (some (.int b)), T2) ∧ Inv T2 ∧ Res r1 b (T2 63 0) cs) :
    ∃ k S2 b2 T2, HRb r1 S1 cs k S2 ∧ fM S2 = some (.inl (some (.int b2)), T2) ∧ Inv T2 ∧ T2 63 0 = k ∧ (k = 0 → S2 75 0 = if b2 = 0 then 0 else 1) := by
  obtain ⟨b2, T2, h1, h2, h3⟩ := hg S1 (fun _ _ => rfl)
  match r1, hg, h3 with
  | .inl (some (.int v)), hg, h3 =>
    obtain ⟨b3, T3, g1, g2, g3⟩ := hg (upS S1 75 0 (if v = 0 then 0 else 1)) (fun o ho => by show (if o = 75 then _ else S1 o) = S1 o; rw [if_neg (by omega)])
    refine ⟨0, upS S1 75 0 (if v = 0 then 0 else 1), b3, T3, ⟨rfl, rfl⟩, g1, g2, g3.2, fun _ => ?_⟩
    rw [g3.1]; rfl
  | .inr ex, hg, h3 =>
    obtain ⟨j, j1, j2, j3⟩ := h3
    exact ⟨nI (j + 1), S1, b2, T2, ⟨j, j1, j2, rfl, rfl⟩, h1, h2, j3, fun q => absurd (nI_inj (b := 0) (by omega) (by omega) q) (by omega)⟩
theorem lg_cmp_self (x : Int64) : lg_cmp x x = 0 := by
  unfold lg_cmp
  rw [if_neg (by simp), if_pos rfl]
theorem thr_ok {T2 : mS} : f_X10_thrown T2 = some (.inl (some (.int (T2 63 0))), T2) := rfl
end LW
