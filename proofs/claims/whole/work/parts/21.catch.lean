/-! an exception of a callee, caught by a row of the caller's table. The rows' classes are linked, resolved or not: the search notes each that it asks. (vz_catch has the statement of the names text's row for it, which rests on what rounds don't hold.) -/
/-- at pc the table's first row for an object of the class o, in a method of the class d, goes to h -/
def cq_hit (vm : Vm) (pl : Platform) (d o : ClassId) (pc h : Nat) : List ExceptionTableEntry → Prop
  | [] => False
  | y :: ys => (covers y pc = false ∧ cq_hit vm pl d o pc h ys) ∨
      (covers y pc = true ∧ y.catchType ≠ 0 ∧ ∃ t, vm.ClassLinks pl d y.catchType t ∧ ((vm.assignable o t = true ∧ y.handlerPc = h) ∨ (vm.assignable o t = false ∧ cq_hit vm pl d o pc h ys)))
section CQ
variable {e : Env} {s : State} {f : JFrame} {q : Addr} {o : Cell}
theorem cq_known {vm' : Vm} (hW : s.WarmedH vm') {i : ClassId} (hi : ∃ k, s.vm.classes[i]? = some k) : ∃ k, vm'.classes[i]? = some k :=
  hi.elim fun k hk => (hW.alike.2.2 i k hk).imp fun _ h => h.1
/-- one row that covers pc: its class is noted, and decides -/
theorem cq_row {S : State} {y : ExceptionTableEntry} {t : ClassId} (hv : o.vm = .none) (ho : ∃ k, s.vm.classes[o.cls]? = some k) (hW : s.WarmedH S.vm) (hS : S.heap[q]? = some o) (hy : covers y f.pc = true) (h0 : y.catchType ≠ 0)
    (hl : s.vm.ClassLinks e.platform f.method.cls y.catchType t) :
    ∃ vm', s.WarmedH vm' ∧ ∀ (ys : List ExceptionTableEntry) (Q : Handler → Pre) (E : CtlPost) (d : Bool) (acts : List Action),
      wp (findHandler.go f q (y :: ys)) Q E e d acts S ↔ (match s.vm.assignable o.cls t with | true => Q (.found y.handlerPc) d acts (S.setVm vm') | false => wp (findHandler.go f q ys) Q E e d acts (S.setVm vm')) := by
  have ht : ∃ k, s.vm.classes[t]? = some k := by
    obtain ⟨-, -, -, k, -, -, -, -, -, hk, -⟩ := hl.here
    exact ⟨k, hk⟩
  have warm : s.WarmedH (S.vm.noted f.method.cls y.catchType (.cls t)) := by
    obtain ⟨dk, -, -, -, hd, -, -, -, -, -, -, hres⟩ := hl.here
    exact hW.noted hd hres (State.rightAt_cls hl)
  refine ⟨_, warm, fun ys Q E d acts => ?_⟩
  obtain ⟨k1, a1⟩ := cq_known warm ho
  obtain ⟨k2, a2⟩ := cq_known warm ht
  have fit := warm.alike.assignable o.cls t
  obtain ⟨op1, op2⟩ := (resolveClass_links e.toSetting (hW.classLinks hl)).op (op := .resolveClass f.method.cls y.catchType) rfl
  have hy' : (decide (y.startPc ≤ f.pc) && decide (f.pc < y.endPc)) = true := hy
  have nost : ∀ k, o.vm ≠ .statics k := fun k hk => by
    rw [hv] at hk
    cases hk
  generalize s.vm.assignable o.cls t = b at fit
  cases b <;> simp [findHandler.go, hy', h0, op1, op2, hS, nost, a1, a2, fit, VmOp.dirties, VmOp.acts]
/-- the search through a table that hits -/
theorem cq_find {h : Nat} (hv : o.vm = .none) (ho : ∃ k, s.vm.classes[o.cls]? = some k) : ∀ (L : List ExceptionTableEntry) (S : State), s.WarmedH S.vm → S.heap[q]? = some o → cq_hit s.vm e.platform f.method.cls o.cls f.pc h L →
    ∃ vm', s.WarmedH vm' ∧ ∀ (Q : Handler → Pre) (E : CtlPost) (d : Bool) (acts : List Action), wp (findHandler.go f q L) Q E e d acts S ↔ Q (.found h) d acts (S.setVm vm')
  | [], _, _, _, hit => hit.elim
  | y :: ys, S, hW, hS, hit => by
    rcases hit with ⟨hy, hit⟩ | ⟨hy, h0, t, hl, hit⟩
    · obtain ⟨vm', w, go⟩ := cq_find hv ho ys S hW hS hit
      exact ⟨vm', w, fun Q E d acts => (Jvm.W.findHandler_go_skip hy).trans (go Q E d acts)⟩
    · obtain ⟨vm1, w1, row⟩ := cq_row (f := f) hv ho hW hS hy h0 hl
      rcases hit with ⟨fit, hh⟩ | ⟨fit, hit⟩
      · subst hh
        rw [fit] at row
        exact ⟨vm1, w1, row ys⟩
      · rw [fit] at row
        obtain ⟨vm', w, go⟩ := cq_find hv ho ys (S.setVm vm1) w1 hS hit
        exact ⟨vm', w, fun Q E d acts => (row ys Q E d acts).trans (go Q E d acts)⟩
/-- laid over a frame and taken off again, with other tables -/
theorem cq_over {T : State} {g g' : JFrame} {x : Frame} {vm' : Vm} (hT : T.topJava?.isSome) : (((T.setTop g).pushFrame x).setVm vm').setFrames (.java g' :: T.frames.tail) = (T.setVm vm').setTop g' := by
  obtain ⟨g0, hg⟩ := Option.isSome_iff_exists.mp hT
  obtain ⟨r, hr⟩ := State.topJava?_eq_some.mp hg
  have hr' : (T.setVm vm').frames = .java g0 :: r := hr
  rw [State.setTop_of_frames g' hr', State.setTop_of_frames g hr, hr]
  show (((T.setVm vm').setFrames _).setFrames _).setFrames _ = _
  rw [State.setFrames_setFrames, State.setFrames_setFrames]
  rfl
theorem cq_do {α : Type} {M : Sem α} {S S' : State} {v : α} {k : α → State → List Action → Out} (h : wp M (fun a _ as z => a = v ∧ z = S' ∧ as = []) (fun _ _ _ => False) e false [] S) : ∃ as, vmDo e S [] M k = k v S' as := by
  obtain ⟨as, hok, -⟩ := Sem.eq_ok_of (acts := []) rfl h
  exact ⟨as, by unfold vmDo; rw [hok]⟩
/-- the machine's step from the note to the row's handler -/
theorem cq_jump {S : State} {h : Nat} {vm' : Vm} {r : List Frame} (hf : ∀ (Q : Handler → Pre) (E : CtlPost) (d : Bool) (acts : List Action), wp (findHandler f q) Q E e d acts S ↔ Q (.found h) d acts (S.setVm vm')) :
    (stepThrowing e S q (.java f :: r)).1 = (S.setVm vm').setFrames (.java { f with pc := h, stack := [.ref q] } :: r) := by
  show (searchFrame e S [] q f f r).1 = _
  unfold searchFrame
  refine (congrArg Prod.fst (cq_do (v := Handler.found h) (S' := S.setVm vm') ?_).choose_spec).trans ?_
  · simp [hf]
  · rfl
end CQ
section CT
variable {p : Program} {l : Launch} {e : Env} {R : Room} {s : State} {m : MethodId} {args : Array Value} {below : List Frame} {meth : Method} {c : Code} {H : Heap} {locs : List Loc} {cells slots pc : Nat} {Q : State → Prop} {ls : Array Slot} {rest : List Value}
/-- a row by the words of the entry -/
theorem cq_tell {own nm E : String} {o z : ClassId} {i : Nat} {pl : Platform} (hpl : pl.magicAccessors = ({} : Platform).magicAccessors) (hown : s.vm.findClass own = some z) (hl : (Cond.classLink own i nm).before args s = true) (hcl : s.vm.findClass E = some o) :
    ∃ t, s.vm.ClassLinks pl z i t ∧ ((Cond.castable E nm).before args s = true → s.vm.assignable o t = true) ∧ (va_Nc E nm s → s.vm.assignable o t = false) := by
  obtain ⟨t, ht, lt⟩ := Cond.classLink_spec hown hl pl hpl
  refine ⟨t, lt, fun hc => ?_, fun ⟨u, v, hu, hv, no⟩ => ?_⟩
  · obtain ⟨u, v, hu, hv, yes⟩ := Cond.castable_spec hc
    rw [hcl] at hu
    rw [ht] at hv
    injection hu with hu
    injection hv with hv
    rw [hu, hv]
    exact yes
  · rw [hcl] at hu
    rw [ht] at hv
    injection hu with hu
    injection hv with hv
    rw [hu, hv]
    exact no
theorem vz_catch {own name : String} {E : String} {ce : Cell} {q : Addr} (hown : s.vm.findClass own = some m.cls) (pre : List ExceptionTableEntry) (x : ExceptionTableEntry) (suf : List ExceptionTableEntry) (hsplit : c.exceptionTable.toList = pre ++ x :: suf)
    (hpass : ∀ z ∈ pre, covers z pc = false ∨ (z.catchType ≠ 0 ∧ ∃ nm : String, (Cond.classLink own z.catchType nm).before args s = true ∧ va_Nc E nm s)) (hx : covers x pc = true) (h0 : x.catchType ≠ 0)
    (hlink : (Cond.classLink own x.catchType name).before args s = true) (hcast : (Cond.castable E name).before args s = true) (hcell : H[q]? = some ce) (hv : ce.vm = .none) (hcl : s.vm.findClass E = some ce.cls)
    (kk : W p l e R s m args below meth c H locs cells slots Q (F0 m x.handlerPc ls [.ref q])) : vx_W p l e R s m args below meth c H locs cells slots Q (F0 m pc ls rest) q := by
  intro T hT X
  have hpl : e.platform.magicAccessors = ({} : Platform).magicAccessors := by rw [X.admits.platform]
  have hit : cq_hit s.vm e.platform m.cls ce.cls pc x.handlerPc c.exceptionTable.toList := by
    rw [hsplit]
    clear hsplit
    induction pre with
    | nil =>
      obtain ⟨t, lt, yes, -⟩ := cq_tell (args := args) hpl hown hlink hcl
      exact Or.inr ⟨hx, h0, t, lt, Or.inl ⟨yes hcast, rfl⟩⟩
    | cons y ys ih =>
      have more := ih (fun z hz => hpass z (List.mem_cons_of_mem _ hz))
      cases hy : covers y pc with
      | false => exact Or.inl ⟨hy, more⟩
      | true =>
        rcases hpass y List.mem_cons_self with hn | ⟨hn, nm, lk, no⟩
        · rw [hy] at hn
          cases hn
        · obtain ⟨t, lt, -, fit⟩ := cq_tell (args := args) hpl hown lk hcl
          exact Or.inr ⟨hy, hn, t, lt, Or.inr ⟨fit no, more⟩⟩
  have ho : ∃ k, s.vm.classes[ce.cls]? = some k := (Vm.findClass_spec hcl).imp fun _ h => h.1
  obtain ⟨vm', w, go⟩ := cq_find (e := e) (f := F0 m pc ls rest) (q := q) hv ho c.exceptionTable.toList ((T.setTop (F0 m pc ls rest)).pushFrame (.throwing q)) X.warmed (by show T.heap[q]? = some ce; rw [hT]; exact hcell) hit
  obtain ⟨t, st, ht⟩ := kk (T.setVm vm') hT (X.noted w)
  obtain ⟨on, under⟩ := X.here.throwing (g := F0 m pc ls rest) q
  refine ⟨t, Steps.head on under ?_, ht⟩
  rw [stepThread_throwing (frames_entered X.here.top _), cq_jump (fun Q E d acts => (Jvm.W.findHandler_eq X.method' X.code).trans (go Q E d acts)), cq_over X.here.top]
  exact st
end CT
