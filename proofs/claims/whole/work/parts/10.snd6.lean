/-! what is said beside the cells: words that aren't kept by themselves, texts, statics -/
def isEx : Cond → Bool
  | .castable _ _ => true
  | .declares _ => true
  | .methodLinkNest _ _ _ _ => true
  | _ => false
def mSR : List (String × Nat × String × Nat) := [("LedgeEggs$IsleText", 25, "ledge", 0),
  ("LedgeEggs$IsleText", 67, "roof", 1),
  ("LedgeEggs$IsleText", 73, "eggs", 2),
  ("LedgeEggs$IsleText", 75, "age", 3),
  ("LedgeEggs$IsleText", 77, "birds", 4),
  ("LedgeEggs$IsleText", 37, "rope", 5),
  ("LedgeEggs$IsleText", 90, "bears", 6),
  ("LedgeEggs$IsleText", 42, "holder", 7),
  ("LedgeEggs$IsleText", 47, "climber", 8),
  ("LedgeEggs$IsleText", 52, "gale", 9),
  ("LedgeEggs$IsleText", 58, "stones", 10),
  ("LedgeEggs$LawText", 49, "swing", 11),
  ("LedgeEggs$LawText", 51, "wear", 12),
  ("LedgeEggs$LawText", 53, "lay", 13),
  ("LedgeEggs$LawText", 33, "if", 14),
  ("LedgeEggs$LawText", 66, "not", 15),
  ("LedgeEggs$LawText", 72, "fresh", 16),
  ("LedgeEggs$LawText", 84, "fathom", 17),
  ("LedgeEggs$LawText", 86, "roof", 1),
  ("LedgeEggs$LawText", 88, "eggs", 2),
  ("LedgeEggs$LawText", 90, "age", 3),
  ("LedgeEggs$LawText", 92, "birds", 4),
  ("LedgeEggs$LawText", 94, "kick", 18),
  ("LedgeEggs$LawText", 96, "wind", 19),
  ("LedgeEggs$LawText", 98, "day", 20),
  ("LedgeEggs$LawText", 58, "and", 21),
  ("LedgeEggs$LawText", 64, "or", 22),
  ("LedgeEggs", 110, "the text is wrong", 23),
  ("LedgeEggs", 121, "there are 12 texts", 24),
  ("LedgeEggs", 319, "no such ledge", 25),
  ("LedgeEggs", 146, "no such what", 26),
  ("LedgeEggs", 322, "no such holder", 27),
  ("LedgeEggs", 324, "no such climber", 28),
  ("LedgeEggs", 326, "the number is none", 29),
  ("LedgeEggs", 202, "one cannot be let down", 30),
  ("LedgeEggsModel", 129, "ledge", 0),
  ("LedgeEggsModel", 115, "roof", 1),
  ("LedgeEggsModel", 121, "eggs", 2),
  ("LedgeEggsModel", 123, "age", 3),
  ("LedgeEggsModel", 125, "birds", 4),
  ("LedgeEggsModel", 135, "rope", 5),
  ("LedgeEggsModel", 127, "bears", 6),
  ("LedgeEggsModel", 140, "holder", 7),
  ("LedgeEggsModel", 145, "climber", 8),
  ("LedgeEggsModel", 150, "gale", 9),
  ("LedgeEggsModel", 156, "stones", 10),
  ("LedgeEggsModel", 205, "swing", 11),
  ("LedgeEggsModel", 207, "wear", 12),
  ("LedgeEggsModel", 209, "lay", 13),
  ("LedgeEggsModel", 211, "if", 14),
  ("LedgeEggsModel", 185, "not", 15),
  ("LedgeEggsModel", 193, "fresh", 16),
  ("LedgeEggsModel", 165, "kick", 18),
  ("LedgeEggsModel", 167, "fathom", 17),
  ("LedgeEggsModel", 169, "wind", 19),
  ("LedgeEggsModel", 171, "day", 20),
  ("LedgeEggsModel", 198, "and", 21),
  ("LedgeEggsModel", 203, "or", 22)]
def mStO (z : Nat) (ad : Nat → Nat) (U : State) (i : Nat) : Prop :=
  va_O "java/lang/String" (ad (1000 + i)) (mAz z) U U.heap ∧ va_OF "java/lang/String" "coder" "B" (.int 0) (ad (1000 + i)) (mAz z) U U.heap ∧
    ∃ v, va_OF "java/lang/String" "value" "[B" (.ref v) (ad (1000 + i)) (mAz z) U U.heap ∧ va_T .byte v (mStr.getD i []).length (fun j => .int ((mStr.getD i []).getD j 0)) (mAz z) U U.heap
def mX (z : Nat) (ad : Nat → Nat) (U : State) : Prop :=
  (∀ w ∈ lw_tbl, isEx w = true → va_Nw w U) ∧ (∀ q ∈ mSR, vk_R q.1 q.2.1 q.2.2.1 (ad (1000 + q.2.2.2)) U) ∧ (∀ i, i < mStr.length → mStO z ad U i) ∧
    (va_Z "java/lang/String" "COMPACT_STRINGS" "Z" (.int 1) (mAz z) U U.heap ∧ va_Zq "jdk/internal/util/Preconditions" "SIOOBE_FORMATTER" "Ljava/util/function/BiFunction;" (mAz z) U U.heap) ∧ vx_Zq Bundle.tN "UNASSIGNED_STACK" Bundle.steD (mAz z) U U.heap ∧ vx_Zq Bundle.tN "SUPPRESSED_SENTINEL" Bundle.listD (mAz z) U U.heap
theorem isEx_warm {w : Cond} {s U : State} (h : isEx w = true) (hW : s.WarmedH U.vm) (hZ : va_Nw w s) : va_Nw w U := by
  match w, h, hZ with
  | .castable _ _, _, hZ => exact va_Nw.warmC hW hZ
  | .declares _, _, hZ => exact va_Nw.warmD hW hZ
  | .methodLinkNest _ _ _ _, _, hZ => exact va_Nw.warmM hW hZ
theorem isEx_use {w : Cond} {s : State} {args : Array Value} (h : isEx w = true) (hZ : va_Nw w s) : w.before args s = true := by
  match w, h, hZ with
  | .castable _ _, _, hZ => exact va_Nw.use rfl hZ
  | .declares _, _, hZ => exact va_Nw.use rfl hZ
  | .methodLinkNest _ _ _ _, _, hZ => exact va_Nw.use rfl hZ
theorem mX_m (z : Nat) (ad : Nat → Nat) : mXm z (mX z ad) := by
  intro u U h hW hq
  have hv := hW.alike
  obtain ⟨h1, h2, h3, h4, h5, h6⟩ := h
  refine ⟨fun w hw he => isEx_warm he hW (h1 w hw he), fun q hq => (h2 q hq).warm hW, fun i hi => ?_, ⟨va_Z.moved hv (h4.1.kept hq), va_Zq.moved hv (h4.2.kept hq)⟩, vx_Zq.moved hv (h5.kept hq), vx_Zq.moved hv (h6.kept hq)⟩
  obtain ⟨a1, a2, v, a3, a4⟩ := h3 i hi
  exact ⟨va_O.moved hv (a1.kept hq), va_OF.moved hv (a2.kept hq), v, va_OF.moved hv (a3.kept hq), va_T.moved hv (a4.kept hq)⟩
section EX
variable {p : Program} {lau : Launch} {e : Env} {R : Room} {s : State} {m : MethodId} {args : Array Value} {below : List Frame} {meth : Method} {c : Code} {Q : State → Prop} {z : Nat} {D : va_G} {ad : Nat → Nat} {cy : Nat → ClassId} {M M' : mM}
variable {n a b e0 pc k d : Nat} {v : Int32} {l st : List Value} {S : mS} {g : Bool} {c1 : mC} {c2 : Option mC} {ps : List Nat} {r : mR}
def okL (M : mM) (o : mOp) (ps : List Nat) : Bool := match o with
  | (_, n, a, _, e, _) => n == 2 && (match mSR[ps.getD 0 0]? with | some q => decide (q.1 = M.1.cls) && decide (q.2.1 = e) && decide (q.2.2.2 = a) | none => false)
theorem st_29 (F : Fr D cy M p s m args meth c) (hX : mX z ad s) (hd : decode M.2.1 pc = .ok (insOf pc (29, n, a, b, e0, v), n)) (hk : okL M (29, n, a, b, e0, v) ps = true) (h : mx1 M (29, n, a, b, e0, v) pc l st S k = some (.inl (g, c1, c2)))
    (h1 : g = true → Wt p lau e R s m args below meth c Q z D ad cy M c1) : Wt p lau e R s m args below meth c Q z D ad cy M (pc, l, st, S, k) := by
  obtain ⟨hx, hb, hml, hr, hown, hts, hlocks, hexc, hK⟩ := F
  intro H locs ls hl hP hD hS
  replace h : gx true M (pc + n) l (.ref (1000 + a) :: st) S k = some (.inl (g, c1, c2)) := h
  simp only [okL, Bool.and_eq_true, beq_iff_eq] at hk
  obtain ⟨rfl, hk⟩ := hk
  split at hk
  · rename_i q hq
    simp only [Bool.and_eq_true, decide_eq_true_eq] at hk
    obtain ⟨⟨e1, e2⟩, e3⟩ := hk
    have hZ := hX.2.1 q (List.mem_of_getElem? hq)
    rw [e1, e2, e3] at hZ
    have K := Wt.on h rfl h1 hl hP hD hS
    exact va_ldcS hx hb hown hZ hd K
  · cases hk
/-- a private static method of the nest's host -/
def okN (tab : Nat → Option mM) (M : mM) (o : mOp) (ps : List Nat) : Bool := match o with
  | (_, n, a, b, e, v) => match tab a with
    | some M' => n == 3 && decide (M'.1.cls ≠ "java/lang/invoke/MethodHandle") && decide (M'.1.cls ≠ "java/lang/invoke/VarHandle") &&
        decide ((parseMethodDescriptor M'.1.desc).map (fun d => d.parameters.length) = some b) && decide (M'.2.2.2.2.1 = v.toNatClampNeg % 64) && decide (M'.2.2.2.2.1 = 0) && decide (M'.2.2.1 ≤ 80) &&
        decide (lw_tbl[ps.getD 0 0]? = some (.methodLinkNest M.1.cls e M'.1 "LedgeEggs")) && mIp (.static M'.1) (ps.getD 1 0) && mIp (.initialized M'.1.cls) (ps.getD 2 0) && mIp (.code M'.1 M'.2.1 M'.2.2.1 M'.2.2.2.1) (ps.getD 3 0)
    | none => false
theorem mRunN {H : Heap} {locs : List Loc} {ls : Array Slot} {st0 rest : List Value} {cells : Nat} (F : Fr D cy M p s m args meth c) {idx : Nat} {as : List Value} (hz : z ≤ s.heap.size) (hX : mX z ad s) (hR : R = mRm (d + 1) M)
    (hM : mCon lau z D ad cy (mX z ad) d M' as S r) {w : Option Value} (hw : r.1 = .inl w) (hP : va_P D vwCl (mW ad cy S) H) (hD : va_D (mAz z) (mW ad cy S)) (hS : va_S (mAz z) s.heap H locs) (hl : mHas ad ls M.2.2.1 st0)
    (hn1 : M'.1.cls ≠ "java/lang/invoke/MethodHandle") (hn2 : M'.1.cls ≠ "java/lang/invoke/VarHandle")
    (hpm : (parseMethodDescriptor M'.1.desc).map (fun d => d.parameters.length) = some as.length) (h80 : M'.2.2.1 ≤ 80)
    (w1 : Cond.methodLinkNest M.1.cls idx M'.1 "LedgeEggs" ∈ lw_tbl) (w2 : Cond.static M'.1 ∈ mTs) (w4 : Cond.initialized M'.1.cls ∈ mTs) (w5 : Cond.code M'.1 M'.2.1 M'.2.2.1 M'.2.2.2.1 ∈ mTs)
    (hs8 : (rest.map fun v => v.category).sum ≤ 8) (hd : decode M.2.1 pc = .ok (.invokestatic idx, 3)) (hk : cells + M'.2.2.2.2.1 ≤ M.2.2.2.2.1) :
    vx_Run p lau e R s m args below meth c H locs cells (6 * cells) M'.2.2.2.2.1 (6 * M'.2.2.2.2.1) (F0 m pc ls ((as.map (mV ad)).reverse ++ rest)) rest (mQc z D ad cy r (as.map (mV ad)).toArray) (mXc z D ad cy r) (mAz z) := by
  obtain ⟨hx, hb, hml, hr, hown, hts, hlocks, hexc, hK⟩ := F
  subst hR
  have hXm := mX_m z ad
  refine mRun_of (va_runSN (Ts := mTs) (host := "LedgeEggs") (As := as.map (mV ad)) (ws := mWs M') (rm := mRm d M') (bytes := M'.2.1) (maxL := M'.2.2.1) (ret := M'.2.2.2.1) ⟨hx, hb, hml, hown, hts⟩ (hM.met hw)
    ⟨va_cnB as.length hts (mWs_good w5) rfl rfl rfl (hX.1 _ w1 rfl) (hts _ w4) ⟨hn1, hn2, hpm⟩ ⟨Nat.le_refl _, by show 8 + (M'.2.2.1 + 11) + (100 * d + 200) ≤ 100 * (d + 1) + 200; omega⟩, hts _ w2, trivial⟩
    ⟨mPre_blind hXm, fun U hU hW => mPre_at (as := as.map (mV ad)) hXm hz hX hK hP hD hS U hU hW⟩ rfl (by rw [List.length_map]) (hl.1) rfl ?_ hd ⟨hk, by show 6 * cells + 6 * M'.2.2.2.2.1 ≤ 6 * M.2.2.2.2.1; omega⟩)
  show 2 * (F0 m pc ls _).monitorRoom + _ ≤ 8
  exact lv_room hs8
/-- a method that the receiver's class inherits, or gives to an abstract one -/
theorem mRunU {H : Heap} {locs : List Loc} {ls : Array Slot} {st0 rest : List Value} {cells : Nat} (F : Fr D cy M p s m args meth c) {C owner : String} {x : MethodName} {idx i : Nat} {as : List Value} (hz : z ≤ s.heap.size) (hX : mX z ad s) (hR : R = mRm (d + 1) M)
    (hM : mCon lau z D ad cy (mX z ad) d M' (.ref i :: as) S r) {w : Option Value} (hw : r.1 = .inl w) (hP : va_P D vwCl (mW ad cy S) H) (hD : va_D (mAz z) (mW ad cy S)) (hS : va_S (mAz z) s.heap H locs) (hl : mHas ad ls M.2.2.1 st0)
    {ci : Nat} {fs : List (Option Nat)} (hsh : sh[i]? = some (0, ci, fs)) {T : u_T} {N : Nat} (hC : vwCl[ci]? = some (C, T, N)) (hn1 : owner ≠ "java/lang/invoke/MethodHandle") (hn2 : owner ≠ "java/lang/invoke/VarHandle")
    (hpm : (parseMethodDescriptor x.desc).map (fun d => d.parameters.length) = some as.length) (h80 : M'.2.2.1 ≤ 80)
    (w1 : Cond.methodLink M.1.cls idx x ∈ mTs) (w2 : Cond.sameMethod x.cls owner x.name x.desc ∈ mTs) (w3 : Cond.selects C x M'.1 ∈ mTs) (w4 : Cond.instanceMethod M'.1 ∈ mTs) (w6 : Cond.initialized M'.1.cls ∈ mTs) (w5 : Cond.code M'.1 M'.2.1 M'.2.2.1 M'.2.2.2.1 ∈ mTs)
    (hyx : M'.1 = ⟨owner, x.name, x.desc⟩ ∨ Cond.declares ⟨owner, x.name, x.desc⟩ ∈ lw_tbl)
    (hs8 : (rest.map fun v => v.category).sum ≤ 8) (hd : decode M.2.1 pc = .ok (.invokevirtual idx, 3)) (hk : cells + M'.2.2.2.2.1 ≤ M.2.2.2.2.1) :
    vx_Run p lau e R s m args below meth c H locs cells (6 * cells) M'.2.2.2.2.1 (6 * M'.2.2.2.2.1) (F0 m pc ls ((as.map (mV ad)).reverse ++ .ref (ad i) :: rest)) rest (mQc z D ad cy r (Value.ref (ad i) :: as.map (mV ad)).toArray) (mXc z D ad cy r) (mAz z) := by
  obtain ⟨hx, hb, hml, hr, hown, hts, hlocks, hexc, hK⟩ := F
  have hg := mW_get (ad := ad) (cy := cy) (S := S) hsh
  subst hR
  have hXm := mX_m z ad
  have hT : GoodIn mTs (va_wsU M.1.cls idx C owner x M'.1 (mWs M')) := goodIn_c w1 (goodIn_c w2 (goodIn_c w3 (goodIn_c w4 (goodIn_c w6 (mWs_good w5)))))
  have hRR : (mRm d M').frames + 1 ≤ (mRm (d + 1) M).frames ∧ 8 + (M'.2.2.1 + 11) + (mRm d M').locals ≤ (mRm (d + 1) M).locals := ⟨Nat.le_refl _, by show 8 + (M'.2.2.1 + 11) + (100 * d + 200) ≤ 100 * (d + 1) + 200; omega⟩
  have cw : va_CU (mRm (d + 1) M) s args M.1.cls C owner idx x M'.1 M'.2.1 M'.2.2.1 M'.2.2.2.1 (mWs M') (mRm d M') M'.2.2.2.2.1 (6 * M'.2.2.2.2.1) as.length := by
    rcases hyx with hyx | hyx
    · exact va_cwU as.length hts hT rfl rfl rfl hyx ⟨hn1, hn2, hpm⟩ hRR
    · exact va_cwA as.length hts hT rfl rfl rfl (hX.1 _ hyx rfl) ⟨hn1, hn2, hpm⟩ hRR
  refine mRun_of (va_runU (Ts := mTs) (C := C) (As := as.map (mV ad)) ⟨hx, hb, hml, hown, hts⟩ (hM.met hw) cw
    ⟨mPre_blind hXm, va_recv hK hP hC hg, fun U hU hW => mPre_at (as := (Value.ref i :: as).map (mV ad)) hXm hz hX hK hP hD hS U hU hW⟩ rfl (by rw [List.length_map]) (hl.1) rfl ?_ hd ⟨hk, by show 6 * cells + 6 * M'.2.2.2.2.1 ≤ 6 * M.2.2.2.2.1; omega⟩)
  show 2 * (F0 m pc ls _).monitorRoom + _ ≤ 8
  exact lv_room hs8
/-- throws: their numbers -/
def mThr : List (Nat × Nat × Nat × Nat) := [(108, 110, 112, 0), (119, 121, 123, 0), (108, 110, 112, 0), (144, 146, 148, 0), (144, 146, 148, 0), (200, 202, 204, 0), (144, 146, 148, 0), (317, 319, 321, 1), (317, 322, 321, 1), (317, 324, 321, 1), (108, 326, 112, 1)]
def exUp : List String := ["java/lang/RuntimeException", "java/lang/Exception"]
def exWs (ic k : Nat) : List Cond := vx_atS "LedgeEggs" ic (exN k) exUp
def exOK (ic k : Nat) : Bool := (exWs ic k).all (fun w => decide (w ∈ lw_tbl) && (goodWord w || isEx w) && vx_ot w) && Bundle.fit (exN k) && exUp.all Bundle.fit
def exIC : List (Nat × Nat) := [(112, 1), (123, 2), (204, 5), (321, 3)]
theorem exOK_112_1 : exOK 112 1 = true := by decide +kernel
theorem exOK_123_2 : exOK 123 2 = true := by decide +kernel
theorem exOK_204_5 : exOK 204 5 = true := by decide +kernel
theorem exOK_321_3 : exOK 321 3 = true := by decide +kernel
theorem exIC_ok (ic k : Nat) (h : (ic, k) ∈ exIC) : exOK ic k = true := by
  simp only [exIC, List.mem_cons, List.not_mem_nil, or_false, Prod.mk.injEq] at h
  rcases h with ⟨rfl, rfl⟩ | ⟨rfl, rfl⟩ | ⟨rfl, rfl⟩ | ⟨rfl, rfl⟩
  · exact exOK_112_1
  · exact exOK_123_2
  · exact exOK_204_5
  · exact exOK_321_3
def okT (M : mM) (pc : Nat) (o : mOp) (ps : List Nat) : Bool := match o with
  | (_, n, a, b, e, _) => match mThr[b]?, mSR[ps.getD 2 0]? with
    | some (ik, is, ic, kd), some q => decide (M.1.cls = "LedgeEggs") && decide (ik = e) && decide (q.1 = M.1.cls) && decide (q.2.1 = is) && mIp (.classLink M.1.cls ik (exN a)) (ps.getD 0 0) && mIp (.initialized (exN a)) (ps.getD 1 0) &&
        decide (decode M.2.1 pc = .ok (.new ik, 3)) && decide (decode M.2.1 (pc + 3) = .ok (.dup, 1)) && (decide ((ic, a) ∈ exIC) || (decide (a = 4) && decide (ic = 148) && decide (kd = 0))) &&
        (match kd with
          | 0 => decide (decode M.2.1 (pc + 4) = .ok (.ldc is, 2)) && decide (decode M.2.1 (pc + 6) = .ok (.invokespecial ic, 3)) && decide (decode M.2.1 (pc + 9) = .ok (.athrow, 1))
          | _ => decide (decode M.2.1 (pc + 4) = .ok (.ldc_w is, 3)) && decide (decode M.2.1 (pc + 7) = .ok (.invokespecial ic, 3)) && decide (decode M.2.1 (pc + 10) = .ok (.athrow, 1)))
    | _, _ => false
end EX
def nsWs : List Cond := (nsAtoms "LedgeEggs" 148).filter vx_no
theorem nsWs_ok : nsWs.all (fun w => decide (w ∈ lw_tbl) && (goodWord w || isEx w) && vx_ot w) = true := by decide +kernel
section NS2
variable {p : Program} {lau : Launch} {e : Env} {R : Room} {s : State} {m : MethodId} {args : Array Value} {below : List Frame} {meth : Method} {c : Code} {pc : Nat}
set_option maxHeartbeats 1000000 in
theorem ns_throw {H : Heap} {locs : List Loc} {ls : Array Slot} {rest : List Value} {cells slots mc ms sa ik is : Nat} {free : Addr → Prop} {A : Nat → Prop} {text : String} {cc : ByteArray} {Qc : Array Value → State → Outcome → State → Prop} {XC : String → State → State → Prop}
    (hexec : p.tables.exec = Jvm.exec) (hb : c.code = cc) (hl : lau.stackTraces = false) (hown : s.vm.findClass "LedgeEggs" = some m.cls) (hts : ∀ w ∈ mTs, w.before args s = true) (hX : ∀ w ∈ lw_tbl, isEx w = true → va_Nw w s)
    (hk : (Cond.classLink "LedgeEggs" ik (exN 4)).before args s = true) (hini : (Cond.initialized (exN 4)).before args s = true) (hstr : vk_R "LedgeEggs" is text sa s)
    (hU : vx_Zq Bundle.tN "UNASSIGNED_STACK" Bundle.steD A s s.heap) (hN : vx_Zq Bundle.tN "SUPPRESSED_SENTINEL" Bundle.listD A s s.heap) (hS : va_S A s.heap H locs) (hsize : ls.size = c.maxLocals)
    (d0 : decode cc pc = .ok (.new ik, 3)) (d3 : decode cc (pc + 3) = .ok (.dup, 1)) (d4 : decode cc (pc + 4) = .ok (.ldc is, 2)) (d6 : decode cc (pc + 6) = .ok (.invokespecial 148, 3)) (d9 : decode cc (pc + 9) = .ok (.athrow, 1))
    (hout : ∀ x ∈ c.exceptionTable.toList, covers x (pc + 9) = false)
    (hRframes : exUp.length + 3 < R.frames) (hRlocals : (rest.map fun v => v.category).sum + (13 * (exUp.length + 1) + 43) ≤ R.locals) (hRcells : cells + 1 ≤ R.cells) (hRslots : slots + 6 ≤ R.slots) (hlocks : meth.locks = false)
    (hx : ∀ t : State, s.vm.Alike t.vm → H.size ≤ t.heap.size → (∀ q : Nat, q < H.size → t.heap[q]? = H[q]?) → XC (exN 4) s t)
    (hf : ∀ z ∈ locs, free z.base) (hc : cells + 1 ≤ mc) (hs : slots + 6 ≤ ms) :
    W p lau e R s m args below meth c H locs cells slots (vx_MQ below Qc XC args s mc ms free) (F0 m pc ls rest) := by
  intro T hT X
  have htr : e.platform.stackTraces = false := (show e.platform.stackTraces = lau.stackTraces by rw [X.admits.platform]).trans hl
  have Y := vx_rebase X (R' := { frames := R.frames, locals := R.locals, cells := 1, slots := 6 }) (Nat.le_refl _) (Nat.le_refl _) hRcells hRslots
  obtain ⟨s', hA⟩ : ∃ z, z = (T.setVm s.vm).setFrames (.invoking m args :: below) := ⟨_, rfl⟩
  rw [← hA] at Y
  have hvm : s'.vm = s.vm := by rw [hA]; rfl
  have hhp : s'.heap = H := by rw [hA]; exact hT
  have hW0 : s.WarmedH s'.vm := by rw [hvm]; exact State.WarmedH.refl s
  have hat' : ∀ w ∈ (nsAtoms "LedgeEggs" 148).filter vx_no, w.before args s' = true := by
    intro w hw
    have h9 := List.all_eq_true.mp nsWs_ok w hw
    simp only [Bool.and_eq_true, Bool.or_eq_true, decide_eq_true_eq] at h9
    refine vx_ot_at (args := args) hW0 hvm.symm h9.2 ?_
    rcases h9.1.2 with hg | hg
    · exact hts w (mTs_mem h9.1.1 hg)
    · exact isEx_use hg (hX w h9.1.1 hg)
  have hk' : (Cond.classLink "LedgeEggs" ik nsN).before args s' = true := vx_ot_at hW0 hvm.symm rfl hk
  have hini' : (Cond.initialized nsN).before args s' = true := vx_ot_at hW0 hvm.symm rfl hini
  have hU' : vx_Zq Bundle.tN "UNASSIGNED_STACK" Bundle.steD A s' s'.heap := by rw [hhp]; exact vx_Zq.moved hW0.alike (hU.kept hS.2.1)
  have hN' : vx_Zq Bundle.tN "SUPPRESSED_SENTINEL" Bundle.listD A s' s'.heap := by rw [hhp]; exact vx_Zq.moved hW0.alike (hN.kept hS.2.1)
  have h : ∀ w ∈ nsAtoms "LedgeEggs" 148, w.before args s' = true := vx_own hat' (vx_isRefq hU'.1) (vx_isRefq hN'.1) hU'.2.word hN'.2.word
  have hown' : s'.vm.findClass "LedgeEggs" = some m.cls := by rw [hvm]; exact hown
  have hins : (Cond.instantiable nsN 6).before args s' = true := h _ List.mem_cons_self
  obtain ⟨vm₁, cX, kX, hfX, hkX, -, -, X₁, st1⟩ := Y.newCold hexec (own := "LedgeEggs") (C := nsN) (index := ik) (n := 6) hown' hk' hins hini'
    (g := F0 m pc ls rest) rfl (by rw [hb]; exact d0) (Nat.le_refl _) (Nat.le_refl _)
  generalize hT1 : (T.setVm vm₁).pushCell { cls := cX, slots := kX.instanceTypes.map defaultValue, vm := .none } = T1 at X₁ st1
  have hcellA : T1.heap[T.heap.size]? = some (freshCell cX kX) := by rw [← hT1]; exact State.heap_pushCell_size _ _
  have d3' : decode c.code (pc + 3) = .ok (.dup, 1) := by rw [hb]; exact d3
  have d4' : decode c.code (pc + 4) = .ok (.ldc is, 2) := by rw [hb]; exact d4
  have hstr' : vk_R "LedgeEggs" is text sa s' := vk_R.warm hW0 hstr
  obtain ⟨U, ce, hsteps, ⟨hrun, hend, hW, hsame⟩, hce, hO, hOv⟩ := ns_ctor X₁ hexec htr (own := "LedgeEggs") (ic := 148) hown' h hfX hkX hcellA (by rw [hhp, hT]; exact Nat.le_refl _) (msg := ⟨.ref sa, rfl⟩) (pc := pc + 6) (rest := rest) hsize
    (by rw [hb]; exact d6) (by rw [hb]; exact d9) hout hRframes (by
      have hR9 : (rest.map fun v => v.category).sum + (13 * (2 + 1) + 43) ≤ R.locals := hRlocals
      omega) hlocks
  obtain ⟨f1, f2⟩ := vx_frame hsame
  rw [hhp] at f1 f2
  have hWs : s.WarmedH U.vm := State.WarmedH.trans hW0 hW
  have hcl : s.vm.findClass nsN = some ce.cls := by
    rw [hvm] at hO
    exact hO
  have hall : s.sameButNew ({ U with vm := s.vm } : State) locs mc ms := by
    subst hA
    obtain ⟨e1, e2⟩ := hsame
    rw [State.setFrames_setFrames] at e1
    have h2 : (T.setVm s.vm).sameButNew ({ U with vm := s.vm } : State) [] (0 + 1) (0 + 6) := ⟨e1, e2⟩
    have h3 := X.same.trans h2
    rw [List.append_nil] at h3
    exact h3.mono hc hs
  refine ⟨U, ?_, .threw T.heap.size, hrun, hend, Or.inr ⟨T.heap.size, rfl, nsN, ce, locs, hx U hWs.alike f1 (fun q hq => f2 q hq (fun z hz => nomatch hz)), hce, hOv, hcl, hWs, hall, hf⟩⟩
  refine st1 _ ?_
  show Steps p.tables e below (T1.setTop { method := m, pc := pc + 3, locals := ls, stack := .ref T.heap.size :: rest, locked := none }) _
  jvm_step X₁.here [X₁.here.top, hexec, d3', Value.category]
  exact X₁.ldcString hexec (own := "LedgeEggs") (text := text) (index := is) (a := sa) hown' hstr'.1 hstr'.2
    (g := { method := m, pc := pc + 4, locals := ls, stack := .ref T.heap.size :: .ref T.heap.size :: rest, locked := none }) rfl d4' _ hsteps
end NS2
section EX
variable {p : Program} {lau : Launch} {e : Env} {R : Room} {s : State} {m : MethodId} {args : Array Value} {below : List Frame} {meth : Method} {c : Code} {Q : State → Prop} {z : Nat} {D : va_G} {ad : Nat → Nat} {cy : Nat → ClassId} {M M' : mM}
variable {n a b e0 pc k d : Nat} {v : Int32} {l st : List Value} {S : mS} {g : Bool} {c1 : mC} {c2 : Option mC} {ps : List Nat} {r : mR}
theorem fin_35 (F : Fr D cy M p s m args meth c) (hst : lau.stackTraces = false) (hX : mX z ad s) (hR : R = mRm d M) (hk : okT M pc (35, n, a, b, e0, v) ps = true) (h : mx1 M (35, n, a, b, e0, v) pc l st S k = some (.inr (.inr r))) :
    Wt p lau e R s m args below meth c (mQQ below z D ad cy M r args s) z D ad cy M (pc, l, st, S, k) := by
  obtain ⟨hx, hb, hml, hr, hown, hts, hlocks, hexc, hK⟩ := F
  intro H locs ls hl hP hD hS
  replace hl : mHas ad ls M.2.2.1 l := hl
  replace hP : va_P D vwCl (mW ad cy S) H := hP
  replace hD : va_D (mAz z) (mW ad cy S) := hD
  show W p lau e R s m args below meth c H locs k (6 * k) _ (F0 m pc ls (st.map (mV ad)))
  replace h : hh35 M n a b e0 v pc l st S k = some (.inr (.inr r)) := h
  simp only [hh35] at h
  split at h
  all_goals first | (cases h; done) | skip
  rename_i hkm hsm
  cases h
  have hkm : k + 1 ≤ M.2.2.2.2.1 := Nat.le_of_ble_eq_true hkm
  have hs8 := sm_le (ad := ad) hsm
  simp only [okT] at hk
  split at hk
  all_goals first | (cases hk; done) | skip
  rename_i ik is ic kd q hthr hsr
  simp only [Bool.and_eq_true, decide_eq_true_eq] at hk
  obtain ⟨⟨⟨⟨⟨⟨⟨⟨⟨k1, rfl⟩, k2⟩, k3⟩, k4⟩, k5⟩, d0⟩, d3⟩, hic⟩, hdd⟩ := hk
  have hZ := hX.2.1 q (List.mem_of_getElem? hsr)
  rw [k2, k3] at hZ
  have hpost : ∀ t : State, s.vm.Alike t.vm → H.size ≤ t.heap.size → (∀ q : Nat, q < H.size → t.heap[q]? = H[q]?) → mXc z D ad cy (.inr a, S) (exN a) s t := by
    intro t _ hsz hsame
    refine ⟨a, rfl, rfl, hP.kept (fun i q hq => hsame q.1 ?_), hD, Nat.le_trans hS.1 hsz, fun q hq hn => (hsame q (Nat.lt_of_lt_of_le hq hS.1)).trans (hS.2.1 q hq hn)⟩
    have h9 := hP i q hq
    exact h9.lt
  subst hR
  have hmul : 6 * k + 6 ≤ 6 * M.2.2.2.2.1 := by omega
  rw [Bool.or_eq_true, Bool.and_eq_true, Bool.and_eq_true, decide_eq_true_eq, decide_eq_true_eq, decide_eq_true_eq, decide_eq_true_eq] at hic
  rcases hic with hic | ⟨⟨rfl, rfl⟩, rfl⟩
  rotate_left
  · simp only [Bool.and_eq_true, decide_eq_true_eq] at hdd
    obtain ⟨⟨d4, d6⟩, d9⟩ := hdd
    rw [k1] at hown hZ k4
    exact ns_throw hx hb hst hown hts hX.1 (hts _ (mIp_mem k4)) (hts _ (mIp_mem k5)) hZ hX.2.2.2.2.1 hX.2.2.2.2.2 hS (by rw [hl.1, hml]) d0 d3 d4 d6 d9 (fun x hx9 => (hexc x hx9).elim)
      (by show exUp.length + 3 < d + 8; simp only [exUp, List.length_cons, List.length_nil]; omega) (by show _ + (13 * (exUp.length + 1) + 43) ≤ 100 * d + 200; simp only [exUp, List.length_cons, List.length_nil]; omega) hkm hmul hlocks hpost hS.2.2 hkm hmul
  have hxo := exIC_ok ic a hic
  simp only [exOK, Bool.and_eq_true, List.all_eq_true] at hxo
  obtain ⟨⟨ho1, ho2⟩, ho3⟩ := hxo
  have hat : ∀ w ∈ vx_atS M.1.cls ic (exN a) exUp, w.before args s = true := by
    rw [k1]
    intro w hw
    have h9 := ho1 w hw
    simp only [Bool.and_eq_true, Bool.or_eq_true, decide_eq_true_eq] at h9
    rcases h9.1.2 with hg | hg
    · exact hts w (mTs_mem h9.1.1 hg)
    · exact isEx_use hg (hX.1 w h9.1.1 hg)
  have hgood : ∀ w ∈ Cond.classLink M.1.cls ik (exN a) :: Cond.initialized (exN a) :: vx_atS M.1.cls ic (exN a) exUp, vx_ot w = true := by
    intro w hw
    rcases List.mem_cons.mp hw with rfl | hw
    · rfl
    rcases List.mem_cons.mp hw with rfl | hw
    · rfl
    · rw [k1] at hw
      exact (ho1 w hw).2
  split at hdd
  · simp only [Bool.and_eq_true, decide_eq_true_eq] at hdd
    obtain ⟨⟨d4, d6⟩, d9⟩ := hdd
    exact vx_throwS hx hb hst hown ho2 ho3 (hts _ (mIp_mem k4)) (hts _ (mIp_mem k5)) hZ hat hgood hX.2.2.2.2.1 hX.2.2.2.2.2 hS (by rw [hl.1, hml]) d0 d3 d4 d6 d9 (fun x hx9 => (hexc x hx9).elim)
      (by show exUp.length + 3 < d + 8; simp only [exUp, List.length_cons, List.length_nil]; omega) (by show _ + (13 * (exUp.length + 1) + 43) ≤ 100 * d + 200; simp only [exUp, List.length_cons, List.length_nil]; omega) hkm hmul hlocks hpost hS.2.2 hkm hmul
  · simp only [Bool.and_eq_true, decide_eq_true_eq] at hdd
    obtain ⟨⟨d4, d6⟩, d9⟩ := hdd
    exact vx_throwSW hx hb hst hown ho2 ho3 (hts _ (mIp_mem k4)) (hts _ (mIp_mem k5)) hZ hat hgood hX.2.2.2.2.1 hX.2.2.2.2.2 hS (by rw [hl.1, hml]) d0 d3 d4 d6 d9 (fun x hx9 => (hexc x hx9).elim)
      (by show exUp.length + 3 < d + 8; simp only [exUp, List.length_cons, List.length_nil]; omega) (by show _ + (13 * (exUp.length + 1) + 43) ≤ 100 * d + 200; simp only [exUp, List.length_cons, List.length_nil]; omega) hkm hmul hlocks hpost hS.2.2 hkm hmul
end EX
