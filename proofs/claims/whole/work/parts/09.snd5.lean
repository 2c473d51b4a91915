/-! returns, and the main theorem for what is neither a text nor a throw -/
theorem nar_z (x : Int32) : narrow .boolean (.int x) = .int (x &&& 1) := rfl
section RT
variable {p : Program} {l : Launch} {e : Env} {R : Room} {s : State} {m : MethodId} {args : Array Value} {below : List Frame} {meth : Method} {c : Code} {H : Heap} {locs : List Loc} {cells slots : Nat}
theorem W_zretb {cc : ByteArray} {Qc : Array Value → State → Outcome → State → Prop} {free : Addr → Prop} {x : Int32} (hexec : p.tables.exec = Jvm.exec) (hb : c.code = cc) (hr : meth.sig.returnType = some .boolean)
    (hq : ∀ t : State, t.heap = H → s.WarmedH t.vm → Qc args s (.returned (some (.int (x &&& 1)))) t) (hf : ∀ q ∈ locs, free q.base)
    {pc : Nat} {ls : Array Slot} (hdg : decode cc pc = .ok (.ireturn, 1)) (hlocks : meth.locks = false) : W p l e R s m args below meth c H locs cells slots (MQ below Qc args s cells slots free) (F0 m pc ls [.int x]) := by
  intro T hT X
  obtain ⟨fs, hret, hrun, hended, hW, hframe⟩ := X.leave (v := some (.int (x &&& 1))) (fun h => by rw [hr] at h; cases h)
  have hmeth' : T.vm.method? m = some meth := X.method'
  refine ⟨T.setFrames fs, ?_, .returned (some (.int (x &&& 1))), hrun, hended, hq _ hT hW, locs, ⟨⟨_, rfl⟩, hW, hframe⟩, hf⟩
  jvm_step X.here [X.here.top, hexec, hb, hdg, hmeth', hr, nar_z x]
  (try refine ⟨rfl, ?_⟩); (try refine ⟨rfl, ?_⟩)
  first | (intro acts; rw [hret _ acts rfl rfl rfl]) | rw [hret _ _ rfl rfl rfl]
  exact Steps.refl _
end RT
def okR (M : mM) (o : mOp) : Bool := match o with
  | (code, n, a, _, _, _) => n == 1 && (match code with
    | 23 => (match a with | 0 => decide (M.2.2.2.1 = some .int) | _ => decide (M.2.2.2.1 = some .boolean))
    | 24 => decide (M.2.2.2.1 = none)
    | _ => (match M.2.2.2.1 with | some (.object _) => true | _ => false))
section FN
variable {p : Program} {lau : Launch} {e : Env} {R : Room} {s : State} {m : MethodId} {args : Array Value} {below : List Frame} {meth : Method} {c : Code} {Q : State → Prop} {z : Nat} {D : va_G} {ad : Nat → Nat} {cy : Nat → ClassId} {M : mM}
variable {n a b e0 pc k : Nat} {v : Int32} {l st : List Value} {S : mS} {r : mR} {ps : List Nat}
abbrev mQQ (below : List Frame) (z : Nat) (D : va_G) (ad : Nat → Nat) (cy : Nat → ClassId) (M : mM) (r : mR) (args : Array Value) (s : State) : State → Prop :=
  vx_MQ below (mQc z D ad cy r) (mXc z D ad cy r) args s M.2.2.2.2.1 (6 * M.2.2.2.2.1) (mAz z)
theorem mPost_end {H : Heap} {locs : List Loc} (hP : va_P D vwCl (mW ad cy S) H) (hD : va_D (mAz z) (mW ad cy S)) (hS : va_S (mAz z) s.heap H locs) {t : State} (ht : t.heap = H) : mPost z D ad cy S s t :=
  ⟨by rw [ht]; exact hP, hD, hS.F ht⟩
theorem fin_23 (F : Fr D cy M p s m args meth c) (hd : decode M.2.1 pc = .ok (insOf pc (23, n, a, b, e0, v), n)) (hk : okR M (23, n, a, b, e0, v) = true) (h : mx1 M (23, n, a, b, e0, v) pc l st S k = some (.inr (.inr r))) (hkm : k ≤ M.2.2.2.2.1) :
    Wt p lau e R s m args below meth c (mQQ below z D ad cy M r args s) z D ad cy M (pc, l, st, S, k) := by
  obtain ⟨hx, hb, hml, hr, hown, hts, hlocks, hexc, hK⟩ := F
  intro H locs ls hl hP hD hS
  replace hP : va_P D vwCl (mW ad cy S) H := hP
  replace hD : va_D (mAz z) (mW ad cy S) := hD
  show W p lau e R s m args below meth c H locs k (6 * k) _ (F0 m pc ls (st.map (mV ad)))
  simp only [okR, Bool.and_eq_true, beq_iff_eq] at hk
  obtain ⟨rfl, hk⟩ := hk
  replace h : hh23 M 1 a b e0 v pc l st S k = some (.inr (.inr r)) := h
  simp only [hh23] at h
  refine vx_ret (W.widen hkm (Nat.mul_le_mul_left 6 hkm) ?_)
  split at h
  · rename_i x
    simp only [decide_eq_true_eq] at hk
    cases h
    exact W.iret hx hb (hr.trans hk) (fun t ht hW => ⟨some (.int x), rfl, rfl, mPost_end hP hD hS ht⟩) hS.2.2 hd hlocks
  · rename_i x
    simp only [decide_eq_true_eq] at hk
    cases h
    exact W_zretb hx hb (hr.trans hk) (fun t ht hW => ⟨some (.int (x &&& 1)), rfl, rfl, mPost_end hP hD hS ht⟩) hS.2.2 hd hlocks
  · cases h
theorem fin_24 (F : Fr D cy M p s m args meth c) (hd : decode M.2.1 pc = .ok (insOf pc (24, n, a, b, e0, v), n)) (hk : okR M (24, n, a, b, e0, v) = true) (h : mx1 M (24, n, a, b, e0, v) pc l st S k = some (.inr (.inr r))) (hkm : k ≤ M.2.2.2.2.1) :
    Wt p lau e R s m args below meth c (mQQ below z D ad cy M r args s) z D ad cy M (pc, l, st, S, k) := by
  obtain ⟨hx, hb, hml, hr, hown, hts, hlocks, hexc, hK⟩ := F
  intro H locs ls hl hP hD hS
  replace hP : va_P D vwCl (mW ad cy S) H := hP
  replace hD : va_D (mAz z) (mW ad cy S) := hD
  show W p lau e R s m args below meth c H locs k (6 * k) _ (F0 m pc ls (st.map (mV ad)))
  simp only [okR, Bool.and_eq_true, beq_iff_eq, decide_eq_true_eq] at hk
  obtain ⟨rfl, hk⟩ := hk
  replace h : hh24 M 1 a b e0 v pc l st S k = some (.inr (.inr r)) := h
  simp only [hh24] at h
  refine vx_ret (W.widen hkm (Nat.mul_le_mul_left 6 hkm) ?_)
  split at h
  · cases h
    exact W.vret hx hb (hr.trans hk) (fun t ht hW => ⟨none, rfl, rfl, mPost_end hP hD hS ht⟩) hS.2.2 hd hlocks
  · cases h
theorem fin_25 (F : Fr D cy M p s m args meth c) (hd : decode M.2.1 pc = .ok (insOf pc (25, n, a, b, e0, v), n)) (hk : okR M (25, n, a, b, e0, v) = true) (h : mx1 M (25, n, a, b, e0, v) pc l st S k = some (.inr (.inr r))) (hkm : k ≤ M.2.2.2.2.1) :
    Wt p lau e R s m args below meth c (mQQ below z D ad cy M r args s) z D ad cy M (pc, l, st, S, k) := by
  obtain ⟨hx, hb, hml, hr, hown, hts, hlocks, hexc, hK⟩ := F
  intro H locs ls hl hP hD hS
  replace hP : va_P D vwCl (mW ad cy S) H := hP
  replace hD : va_D (mAz z) (mW ad cy S) := hD
  show W p lau e R s m args below meth c H locs k (6 * k) _ (F0 m pc ls (st.map (mV ad)))
  simp only [okR, Bool.and_eq_true, beq_iff_eq] at hk
  obtain ⟨rfl, hk⟩ := hk
  split at hk
  · rename_i q hq
    replace h : hh25 M 1 a b e0 v pc l st S k = some (.inr (.inr r)) := h
    simp only [hh25] at h
    refine vx_ret (W.widen hkm (Nat.mul_le_mul_left 6 hkm) ?_)
    split at h
    · rename_i x
      cases h
      exact W.aret hx hb (hr.trans hq) (Or.inl ⟨_, rfl⟩) (Or.inr ⟨_, rfl⟩) (fun t ht hW => ⟨some (.ref x), rfl, rfl, mPost_end hP hD hS ht⟩) hS.2.2 hd hlocks
    · cases h
      exact W.aret hx hb (hr.trans hq) (Or.inl ⟨_, rfl⟩) (Or.inl rfl) (fun t ht hW => ⟨some .null, rfl, rfl, mPost_end hP hD hS ht⟩) hS.2.2 hd hlocks
    · cases h
  · cases hk
/-! switches -/
def swOK (lo : Int) : List (Int32 × Nat) → Bool
  | [] => true
  | (x, _) :: r => decide (x.toInt = lo) && swOK (lo + 1) r
theorem msw_out {x : Int32} {d : Nat} : ∀ {cs : List (Int32 × Nat)} {lo : Int}, swOK lo cs = true → (x.toInt < lo ∨ lo + cs.length ≤ x.toInt) → msw x cs d = d := by
  intro cs
  induction cs with
  | nil => intro lo _ _; rfl
  | cons q r ih =>
    intro lo h hx
    obtain ⟨y, t⟩ := q
    simp only [swOK, Bool.and_eq_true, decide_eq_true_eq] at h
    have hne : ¬ x = y := fun q => by
      subst q
      rw [h.1, List.length_cons] at hx
      omega
    show (if x = y then t else msw x r d) = d
    rw [if_neg hne]
    refine ih h.2 ?_
    rw [List.length_cons] at hx
    rcases hx with hx | hx
    · left; omega
    · right; omega
theorem msw_in {x : Int32} {d : Nat} : ∀ {cs : List (Int32 × Nat)} {lo : Int}, swOK lo cs = true → ¬ x.toInt < lo → x.toInt < lo + cs.length → ∃ q, cs[(x.toInt - lo).toNat]? = some q ∧ msw x cs d = q.2 := by
  intro cs
  induction cs with
  | nil => intro lo _ h1 h2; simp at h2; omega
  | cons q r ih =>
    intro lo h h1 h2
    obtain ⟨y, t⟩ := q
    simp only [swOK, Bool.and_eq_true, decide_eq_true_eq] at h
    by_cases hxy : x = y
    · subst hxy
      refine ⟨(x, t), ?_, ?_⟩
      · rw [h.1, Int.sub_self]; rfl
      · show (if x = x then t else msw x r d) = t
        rw [if_pos rfl]
    · have hne : x.toInt ≠ lo := fun q => hxy (Int32.toInt_inj.mp (q.trans h.1.symm))
      obtain ⟨q, hq, hm⟩ := ih h.2 (by omega) (by rw [List.length_cons] at h2; omega)
      refine ⟨q, ?_, ?_⟩
      · have e : (x.toInt - lo).toNat = (x.toInt - (lo + 1)).toNat + 1 := by omega
        rw [e, List.getElem?_cons_succ]; exact hq
      · show (if x = y then t else msw x r d) = q.2
        rw [if_neg hxy]; exact hm
/-- a switch's instruction -/
def swI (pc : Nat) (cs : List (Int32 × Nat)) (d : Nat) (lo : Int) : Instr := .tableswitch ((d : Int) - pc) lo (lo + cs.length - 1) (cs.map fun q => (q.2 : Int) - pc).toArray
def okW (M : mM) (pc : Nat) (o : mOp) : Bool := match o with
  | (_, n, a, _, _, v) => match mSwt[a]? with
    | some (cs, d) => decide (decode M.2.1 pc = .ok (swI pc cs d v.toInt, n)) && swOK v.toInt cs
    | none => false
theorem st_41 {g : Bool} {c1 : mC} {c2 : Option mC} (F : Fr D cy M p s m args meth c) (hk : okW M pc (41, n, a, b, e0, v) = true) (h : mx1 M (41, n, a, b, e0, v) pc l st S k = some (.inl (g, c1, c2)))
    (h1 : g = true → Wt p lau e R s m args below meth c Q z D ad cy M c1) : Wt p lau e R s m args below meth c Q z D ad cy M (pc, l, st, S, k) := by
  obtain ⟨hx, hb, hml, hr, hown, hts, hlocks, hexc, hK⟩ := F
  intro H locs ls hl hP hD hS
  replace hl : mHas ad ls M.2.2.1 l := hl
  replace hP : va_P D vwCl (mW ad cy S) H := hP
  replace hD : va_D (mAz z) (mW ad cy S) := hD
  show W p lau e R s m args below meth c H locs k (6 * k) Q (F0 m pc ls (st.map (mV ad)))
  replace h : hh41 M n a b e0 v pc l st S k = some (.inl (g, c1, c2)) := h
  simp only [hh41] at h
  simp only [okW] at hk
  split at hk
  all_goals first | (cases hk; done) | skip
  rename_i cs d hsw
  rw [hsw] at h
  split at h
  all_goals first | (cases h; done) | skip
  rename_i x r
  simp only [Bool.and_eq_true, decide_eq_true_eq] at hk
  obtain ⟨hd, hok⟩ := hk
  simp only [nx] at h
  have K := Wt.on h rfl h1 hl hP hD hS
  by_cases ho : x.toInt < v.toInt ∨ v.toInt + cs.length ≤ x.toInt
  · rw [msw_out hok ho] at K
    refine lv_tableOut hx hb hd ?_ (by omega) K
    rcases ho with ho | ho
    · exact Or.inl ho
    · right; omega
  · have ho1 : ¬ x.toInt < v.toInt := fun q => ho (Or.inl q)
    have ho2 : x.toInt < v.toInt + cs.length := by
      rcases Int.lt_or_le x.toInt (v.toInt + cs.length) with q | q
      · exact q
      · exact absurd (Or.inr q) ho
    obtain ⟨q, hq, hm⟩ := msw_in (d := d) hok ho1 ho2
    rw [hm] at K
    refine lv_tableIn (off := (q.2 : Int) - pc) hx hb hd ho1 (by omega) ?_ (by omega) K
    simp [hq]
end FN
