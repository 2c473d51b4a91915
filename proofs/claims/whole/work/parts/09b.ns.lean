/-! NoSuchElementException: its constructor hands its text on to RuntimeException's by entry 13 of its pool. First what the world at the entry knows of it (ns_know), then the run to the end of the throw (ns_ctor). -/
def nsN : String := "java/util/NoSuchElementException"
def nsUp : String := "java/lang/RuntimeException"
abbrev nsCode : ByteArray := prog_31_method_4_code
def nsRun : List Cond := Bundle.passSAtoms nsN nsUp 13 nsCode ++ Bundle.chainSAtoms nsUp ["java/lang/Exception"]
/-- the fields of Throwable that a run of its constructor reads or writes -/
def nsLaid : List (String × String) := [("backtrace", "Ljava/lang/Object;"), ("detailMessage", "Ljava/lang/String;"), ("suppressedExceptions", Bundle.listD), ("stackTrace", Bundle.steD), ("cause", "Ljava/lang/Throwable;")]
def nsSt : List Cond := [("SUPPRESSED_SENTINEL", Bundle.listD), ("UNASSIGNED_STACK", Bundle.steD)].map (fun q => Cond.isRef (.static Bundle.tN q.1 q.2))
def nsBk : List Cond := [Cond.lays Bundle.tN Bundle.tN "backtrace" "Ljava/lang/Object;", Cond.fieldLink Bundle.tN 198 Bundle.tN "backtrace" "Ljava/lang/Object;"]
def nsFl : List Cond := [Bundle.tFill, Bundle.tFill0].map (fun t => Cond.selects nsN t t)
def nsLs : List Cond := nsLaid.map (fun q => Cond.lays nsN Bundle.tN q.1 q.2)
def nsAtoms (own : String) (ic : Nat) : List Cond :=
  Cond.instantiable nsN 6 :: Cond.methodLink own ic (Bundle.initS nsN) :: (nsLs ++ (nsFl ++ (nsBk ++ (nsSt ++ (nsRun ++ (Bundle.throwableSAtoms ++ Bundle.throwableAtoms))))))
section NS
variable {args : Array Value} {s : State}
theorem ns_all {a b c d e f g : List Cond} {x y : Cond} (h : ∀ w ∈ x :: y :: (a ++ (b ++ (c ++ (d ++ (e ++ (f ++ g)))))), w.before args s = true) :
    (x.before args s = true ∧ y.before args s = true) ∧ (∀ w ∈ a, w.before args s = true) ∧ (∀ w ∈ b, w.before args s = true) ∧ (∀ w ∈ c, w.before args s = true) ∧ (∀ w ∈ d, w.before args s = true) ∧
      (∀ w ∈ e, w.before args s = true) ∧ (∀ w ∈ f, w.before args s = true) ∧ (∀ w ∈ g, w.before args s = true) := by
  simp only [List.forall_mem_cons, List.forall_mem_append] at h
  exact ⟨⟨h.1, h.2.1⟩, h.2.2⟩
/-- the three constructors below Throwable's, each linked to the next -/
theorem ns_chain {pl : Platform} (hpl : pl.magicAccessors = ({} : Platform).magicAccessors) {top : MethodId} (htop : s.methodNamed? (Bundle.initS Bundle.tN) = some top) (h : ∀ w ∈ nsRun, w.before args s = true) :
    ∃ (F : PassC) (Ps : List PassC), Ps.length = 2 ∧ (∀ P ∈ F :: Ps, P.LinksS pl s) ∧ s.methodNamed? (Bundle.initS nsN) = some F.m ∧ PassesOn top ((F :: Ps).map (·.toPassT)) := by
  obtain ⟨F, hF, nF, uF⟩ := PassC.ofS_atoms (args := args) (s := s) (X := nsN) (Y := nsUp) (index := 13) (bytes := nsCode) hpl (by decide) (by decide) (by decide +kernel) (by decide +kernel) (by decide +kernel) (by decide +kernel)
    (fun w hw => h w (List.mem_append_left _ hw))
  obtain ⟨G, Gs, len, hG, hGs, nG, oG⟩ := Bundle.chainS (args := args) hpl htop ["java/lang/Exception"] nsUp (by decide) (by decide) (fun w hw => h w (List.mem_append_right _ hw))
  have up : F.sup = G.m := by
    rw [nG] at uF
    exact (Option.some.inj uF).symm
  exact ⟨F, G :: Gs, by rw [List.length_cons, len]; rfl, List.forall_mem_cons.mpr ⟨hF, List.forall_mem_cons.mpr ⟨hG, hGs⟩⟩, nF, up, oG⟩
theorem ns_select {lau : Launch} {e : Env} (ha : lau.admits e) {t : MethodName} {m : MethodId} {c : ClassId} (ht : t.cls ≠ "java/lang/invoke/MethodHandle" ∧ t.cls ≠ "java/lang/invoke/VarHandle")
    (hm : s.methodNamed? t = some m) (hc : s.vm.findClass nsN = some c) (h : (Cond.selects nsN t t).before args s = true) : selectMethod e.platform s.vm c m = .method m := by
  obtain ⟨c', r, m', z1, z2, z3, z4, -⟩ := Cond.selects_spec h
  rw [hc] at z1
  rw [hm] at z3
  rw [State.methodFound?_of_named hm ht] at z2
  injection z1 with z1
  injection z2 with z2
  injection z3 with z3
  subst z1 z2 z3
  exact (Launch.admits_selectMethod ha s.vm c m).trans z4
/-- two laid fields of unlike names lie in two slots -/
theorem ns_apart {c c1 c2 i1 i2 : Nat} {k k1 k2 : Class} {f g : Field} {n d n' d' : String} (hc : s.vm.findClass nsN = some c) (hk : s.vm.classes[c]? = some k)
    (hf : s.fieldFound? Bundle.tN n d = some (c1, k1, i1, f)) (hg : s.fieldFound? Bundle.tN n' d' = some (c2, k2, i2, g)) (h : (Cond.lays nsN Bundle.tN n d).before args s = true) (h' : (Cond.lays nsN Bundle.tN n' d').before args s = true)
    (hne : f.name ≠ g.name) : f.slot ≠ g.slot := by
  obtain ⟨-, u, hu, nu⟩ := Cond.laysAt hc hk hf h
  obtain ⟨-, v, hv, nv⟩ := Cond.laysAt hc hk hg h'
  exact Cond.laysApart hu hv nu nv hne
/-- a fourth slot lies as it lay behind three stores and an entry of the monitor -/
theorem ns_fourth {x : Cell} {i j k n : Nat} {a b c : Value} {t : ThreadId} (hi : i ≠ n) (hj : j ≠ n) (hk : k ≠ n) : ((((x.setSlot i a).setSlot j b).setSlot k c).withEntry t).slots[n]? = x.slots[n]? := by
  simp only [Cell.setSlot, Cell.withEntry, Array.getElem?_setIfInBounds, if_neg hi, if_neg hj, if_neg hk]
theorem ns_know {lau : Launch} {e : Env} (ha : lau.admits e) (hp1 : e.platform.frameOwnsMonitors = true) (hp2 : e.platform.finalization = false) (hp3 : e.platform.magicAccessors = ({} : Platform).magicAccessors)
    {own : String} {ic : Nat} (h : ∀ w ∈ nsAtoms own ic, w.before args s = true) {cX : ClassId} {kX : Class} (hc : s.vm.findClass nsN = some cX) (hk : s.vm.classes[cX]? = some kX) :
    ∃ (T : ThrowableC) (Z : Init0T) (M : MsgC) (F : PassC) (Ps : List PassC) (u v : RefV) (cS : Cell),
      (T.Links e.platform s ∧ Z.LaidS T.toThrowableT ∧ M.Links T e.platform s ∧ T.codeObj.maxLocals = 1) ∧
      (Ps.length = 2 ∧ (∀ P ∈ F :: Ps, P.LinksS e.platform s) ∧ s.methodNamed? (Bundle.initS nsN) = some F.m ∧ PassesOn (Z.m T.toThrowableT) ((F :: Ps).map (·.toPassT))) ∧
      (selectMethod e.platform s.vm cX T.fill0 = .method T.fill0 ∧ selectMethod e.platform s.vm cX T.fill = .method T.fill) ∧
      (s.heap[T.aS]? = some cS ∧ cS.vm ≠ .unknown ∧ cS.slots[T.fUnassigned.slot]? = some u.v ∧ cS.slots[T.fSentinel.slot]? = some v.v) ∧
      ((∀ q, Takes s (freshCell cX kX) T.fCause (.ref q)) ∧ Takes s (freshCell cX kX) T.fStack u.v ∧ Takes s (freshCell cX kX) T.fSupp v.v ∧ ∀ x : RefV, Takes s (freshCell cX kX) T.fMsg x.v) ∧
      ∀ q t, SkipFacts T e.platform s (fun z => z) u ((preparedCellV T.toThrowableT (freshCell cX kX) q u v).withEntry t) := by
  obtain ⟨⟨wI, -⟩, wL, wF, wB, wS, wR, wM, wT⟩ := ns_all h
  obtain ⟨T, Z0, L, -, Y⟩ := ThrowableC.of_atoms (args := args) hp1 hp2 hp3 wT
  obtain ⟨Z, M, LZ, LM, top⟩ := Init0T.ofS_atoms (args := args) hp3 L Y wM
  obtain ⟨F, Ps, hch⟩ := ns_chain (args := args) hp3 top wR
  simp only [nsLs, nsLaid, nsFl, nsBk, nsSt, List.map_cons, List.map_nil, List.forall_mem_cons] at wL wF wB wS
  obtain ⟨wB1, wM1, wP1, wS1, wC1, -⟩ := wL
  obtain ⟨wF1, wF0, -⟩ := wF
  obtain ⟨wBl, wBf, -⟩ := wB
  obtain ⟨wSs, wSu, -⟩ := wS
  obtain ⟨cS, atS, isS⟩ := Y.statics
  obtain ⟨u, hu⟩ := Cond.staticRefV Y.unassigned L.unassignedStatic L.statics atS isS wSu
  obtain ⟨v, hv⟩ := Cond.staticRefV Y.sentinel L.sentinelStatic L.statics atS isS wSs
  obtain ⟨iM, fM⟩ := Y.msg
  have ord : kX.kind = .ordinary := by
    obtain ⟨c', k', y1, y2, y3, -⟩ := Cond.instantiable_spec wI
    rw [hc] at y1
    injection y1 with y1
    subst y1
    rw [hk] at y2
    injection y2 with y2
    rw [y2]
    exact y3
  have tC := (Cond.laysAt hc hk Y.cause wC1).1
  have tS := (Cond.laysAt hc hk Y.stack wS1).1
  have tP := (Cond.laysAt hc hk Y.supp wP1).1
  have tM := (Cond.laysAt hc hk fM wM1).1
  refine ⟨T, Z, M, F, Ps, u, v, cS, ⟨L, LZ, LM, Y.objLocals⟩, hch, ⟨ns_select ha (by decide) Y.fill0 hc wF0, ns_select ha (by decide) Y.fill hc wF1⟩, ⟨atS, fun hx => ?_, hu, hv⟩,
    ⟨fun q => Takes.of_laid hk ord tC (by rw [Y.causeType]; rfl), Takes.of_laid hk ord tS (by rw [Y.stackType]; exact fits_refV_array _ u), Takes.of_laid hk ord tP (by rw [Y.suppType]; exact fits_refV_object _ v),
      fun x => Takes.of_laid hk ord tM (by rw [Y.msgType]; exact fits_refV_object _ x)⟩, fun q t => ?_⟩
  · rw [hx] at isS
    cases isS
  · obtain ⟨j, i, f, b1, b2, b3, b4, -, bn, bt, bf⟩ := Cond.ownField (t := .object "java/lang/Object") Y.found L.cls (by decide +kernel) wBf wBl e.platform hp3
    have bty := (Cond.laysAt hc hk bf wB1).1
    have n1 : T.fCause.slot ≠ f.slot := ns_apart hc hk Y.cause bf wC1 wB1 (by rw [Y.causeName, bn]; decide)
    have n2 : T.fStack.slot ≠ f.slot := ns_apart hc hk Y.stack bf wS1 wB1 (by rw [Y.stackName, bn]; decide)
    have n3 : T.fSupp.slot ≠ f.slot := ns_apart hc hk Y.supp bf wP1 wB1 (by rw [Y.suppName, bn]; decide)
    refine ⟨⟨j, i, f⟩, ⟨b1, b2, b3, b4⟩, ?_, fun _ _ => rfl⟩
    show ((preparedCellV T.toThrowableT (freshCell cX kX) q u v).withEntry t).slots[f.slot]? = some .null
    rw [ns_fourth n1 n2 n3, fresh_default bty, bt]
    rfl
variable {p : Program} {lau : Launch} {e : Env} {R : Room} {m : MethodId} {below : List Frame} {meth : Method} {c : Code} {W : State} {cells slots : Nat}
/-- a walk that has written nothing old: each old cell lies as it lay -/
theorem ns_kept (X : Stand p lau e R s m args below meth c W [] cells slots) {b : Addr} {x : Cell} (hb : s.heap[b]? = some x) : W.heap[b]? = some x := by
  obtain ⟨y, y1, y2, -, y4⟩ := X.same.2.2.2.2.2 b x hb
  have y5 : y.slots = x.slots := Array.ext_getElem? (fun i => y4 i List.not_mem_nil)
  rw [y5] at y2
  subst y2
  exact y1
set_option maxHeartbeats 1000000 in
theorem ns_ctor (X : Stand p lau e R s m args below meth c W [] cells slots) (hexec : p.tables.exec = Jvm.exec) (htr : e.platform.stackTraces = false) {own : String} {ic : Nat} (hown : s.vm.findClass own = some m.cls)
    (h : ∀ w ∈ nsAtoms own ic, w.before args s = true) {q : Addr} {cX : ClassId} {kX : Class} (hc : s.vm.findClass nsN = some cX) (hk : s.vm.classes[cX]? = some kX) (hq : W.heap[q]? = some (freshCell cX kX)) (hnew : s.heap.size ≤ q)
    {msg : RefV} {pc : Nat} {ls : Array Slot} {rest : List Value} (hls : ls.size = c.maxLocals) (d0 : decode c.code pc = .ok (.invokespecial ic, 3)) (d3 : decode c.code (pc + 3) = .ok (.athrow, 1))
    (hout : ∀ x ∈ c.exceptionTable.toList, covers x (pc + 3) = false) (hF : 5 < R.frames) (hL : (rest.map fun v => v.category).sum + 82 ≤ R.locals) (hlocks : meth.locks = false) :
    ∃ (U : State) (ce : Cell), Steps p.tables e below (W.setTop (F0 m pc ls (msg.v :: .ref q :: .ref q :: rest))) U ∧ (U.status = .running ∧ Ended U below (.threw q) ∧ s.WarmedH U.vm ∧ s.sameButNew ({ U with vm := s.vm } : State) [] cells slots) ∧
      U.heap[q]? = some ce ∧ s.vm.findClass nsN = some ce.cls ∧ ce.vm = .none := by
  obtain ⟨T, Z, M, F, Ps, u, v, cS, ⟨L, LZ, LM, one⟩, ⟨len, links, named, on⟩, ⟨sel0, selF⟩, ⟨atS, knS, hu, hv⟩, ⟨tC, tS, tP, tM⟩, skip⟩ :=
    ns_know X.admits (by rw [X.admits.platform]) (by rw [X.admits.platform]) (by rw [X.admits.platform]) h hc hk
  have far : T.aS ≠ q := fun hx => absurd (Array.getElem?_eq_some_iff.mp atS).1 (Nat.not_lt.mpr (hx ▸ hnew))
  have wL : (Cond.methodLink own ic (Bundle.initS nsN)).before args s = true := (ns_all h).1.2
  have wR : ∀ w ∈ Bundle.passSAtoms nsN nsUp 13 nsCode, w.before args s = true := fun w hw => (ns_all h).2.2.2.2.2.1 w (List.mem_append_left _ hw)
  simp only [Bundle.passSAtoms, List.forall_mem_cons] at wR
  obtain ⟨tm, -, -, -, vm1, ntm, -, -, -, -, -, -, -, warm, enter⟩ := Steps.initColdS (tb := p.tables) (t := Bundle.initS nsN) (f := F0 m pc ls (msg.v :: .ref q :: .ref q :: rest)) (rest := .ref q :: rest) X.here hexec X.warmed
    (by rw [X.admits.platform]) hown rfl rfl (by decide) wL wR.1 wR.2.1 rfl rfl d0
  have same : tm = F.m := by
    rw [named] at ntm
    exact (Option.some.inj ntm).symm
  subst same
  have X1 := X.noted warm
  obtain ⟨vm2, X2, run⟩ := X1.ctorMessageOffV hexec (g := F0 m pc ls (.ref q :: rest)) rfl hls T L Z LZ M LM (F :: Ps) links on (u0 := u) (sen := v) (self := q) msg.ok (cell := freshCell cX kX) (cellS := cS)
    hq (fun _ hx => nomatch hx) (fun hx => nomatch hx) rfl rfl sel0 selF (ns_kept X1 atS) far knS hu hv (tC q) tS tP (tM msg) one (skip q _) htr [] d0
    (by rw [List.length_cons, len]; exact hF) (by
      rw [List.length_cons, len]
      show 2 * 0 + (1 + (rest.map fun v => v.category).sum) + (13 * (2 + 1) + 42) ≤ R.locals
      omega)
  obtain ⟨go, fin1, fin2, fin3, fin4⟩ := X2.athrowLeaves hexec (g := F0 m (pc + 3) ls (.ref q :: rest)) rfl rfl rfl hout (a := q) (rest := rest) rfl d3 hlocks
  refine ⟨_, plainBareV T.toThrowableT (freshCell cX kX) q u v msg.v, enter _ (fun acts => ?_), ⟨fin1, fin2, fin3, ?_⟩, ?_, hc, rfl⟩
  · rw [doInvoke_state]
    exact run _ go
  · refine fin4.weaken (fun z hz hlt => ?_) (Nat.le_refl _) (Nat.le_refl _)
    have hb : z.base = q := by
      rw [List.nil_append] at hz
      simp only [List.mem_cons, List.not_mem_nil, or_false] at hz
      rcases hz with hz | hz | hz | hz | hz <;> rw [hz]
    exact absurd hlt (Nat.not_lt.mpr (hb ▸ hnew))
  · exact heapAt_setCell_self (s := (W.setVm vm1).setVm vm2) _ (Array.getElem?_eq_some_iff.mp hq).1
end NS
