/-! the main theorem: what the abstract machine does, the machine does -/
def dcd (M : mM) (pc : Nat) (o : mOp) : Bool := decide (decode M.2.1 pc = .ok (insOf pc o, o.2.1))
def okU (tab : Nat → Option mM) (M : mM) (o : mOp) (ps : List Nat) : Bool := match o with
  | (_, n, a, b, e, v) => match tab a, vwCl[v.toNatClampNeg / 64 - 1]? with
    | some M', some q => n == 3 && decide (1 ≤ b) && decide (1 ≤ v.toNatClampNeg / 64) && decide (M'.1.cls ≠ "java/lang/invoke/MethodHandle") && decide (M'.1.cls ≠ "java/lang/invoke/VarHandle") &&
        decide ((parseMethodDescriptor M'.1.desc).map (fun d => d.parameters.length) = some (b - 1)) && decide (M'.2.2.2.2.1 = v.toNatClampNeg % 64) && decide (M'.2.2.2.2.1 = 0) && decide (M'.2.2.1 ≤ 80) &&
        mIp (.methodLink M.1.cls e ⟨q.1, M'.1.name, M'.1.desc⟩) (ps.getD 0 0) && mIp (.sameMethod q.1 M'.1.cls M'.1.name M'.1.desc) (ps.getD 1 0) && mIp (.selects q.1 ⟨q.1, M'.1.name, M'.1.desc⟩ M'.1) (ps.getD 2 0) && mIp (.instanceMethod M'.1) (ps.getD 3 0) && mIp (.initialized M'.1.cls) (ps.getD 4 0) && mIp (.code M'.1 M'.2.1 M'.2.2.1 M'.2.2.2.1) (ps.getD 5 0)
    | _, _ => false
def mRL : MethodName := ⟨"LedgeEggs$LinesText", "readLine", "()Z"⟩
def okA1 (tab : Nat → Option mM) (M : mM) (n j ci e mc : Nat) (ps : List Nat) (p0 : Nat) : Bool := match tab j, vwCl[ci]? with
    | some M', some q => n == 3 && decide (M'.2.2.2.2.1 = mc) && decide (M'.2.2.2.2.1 = 0) && decide (M'.2.2.1 ≤ 80) &&
        mIp (.methodLink M.1.cls e mRL) (ps.getD 0 0) && mIp (.sameMethod mRL.cls mRL.cls mRL.name mRL.desc) (ps.getD 1 0) && mIp (.selects q.1 mRL M'.1) (ps.getD p0 0) && mIp (.instanceMethod M'.1) (ps.getD (p0 + 1) 0) && mIp (.initialized M'.1.cls) (ps.getD (p0 + 2) 0) && mIp (.code M'.1 M'.2.1 M'.2.2.1 M'.2.2.2.1) (ps.getD (p0 + 3) 0) && decide (lw_tbl[ps.getD 10 0]? = some (.declares mRL))
    | _, _ => false
def okA (tab : Nat → Option mM) (M : mM) (o : mOp) (ps : List Nat) : Bool := match o with
  | (_, n, a, b, e, v) => okA1 tab M n a 1 e (v.toNatClampNeg % 64) ps 2 && okA1 tab M n b 3 e (v.toNatClampNeg % 64) ps 6
def yLen : MethodName := ⟨"java/lang/String", "length", "()I"⟩
def yChr : MethodName := ⟨"java/lang/String", "charAt", "(I)C"⟩
def okG (M : mM) (o : mOp) (ps : List Nat) : Bool := match o with
  | (code, n, _, _, e, _) => n == 3 && (match code with | 43 => mIp (.methodLink M.1.cls e yLen) (ps.getD 0 0) | _ => mIp (.methodLink M.1.cls e yChr) (ps.getD 0 0))
def okE (tab : Nat → Option mM) (M : mM) (pc : Nat) (o : mOp) (ps : List Nat) : Bool := match o.1 with
  | 23 => dcd M pc o && okR M o
  | 24 => dcd M pc o && okR M o
  | 25 => dcd M pc o && okR M o
  | 29 => dcd M pc o && okL M o ps
  | 30 => dcd M pc o && okV tab M o ps
  | 31 => dcd M pc o && okS tab M o ps
  | 32 => dcd M pc o && okN tab M o ps
  | 35 => okT M pc o ps
  | 41 => okW M pc o
  | 43 => dcd M pc o && okG M o ps
  | 44 => dcd M pc o && okG M o ps
  | 45 => dcd M pc o && okU tab M o ps
  | 46 => dcd M pc o && okA tab M o ps
  | _ => dcd M pc o && okX M o ps
def okM (tab : Nat → Option mM) (M : mM) : Prop := ∀ (pc : Nat) (o : mOp), M.2.2.2.2.2.1.lookup pc = some o → ∃ ps, okE tab M pc o ps = true
/-- texts' own methods: proved elsewhere -/
def StrOK : Prop := ∀ {p : Program} {lau : Launch} {e : Env} {R : Room} {s : State} {m : MethodId} {args : Array Value} {below : List Frame} {meth : Method} {c : Code} {Q : State → Prop} {z : Nat} {D : va_G} {ad : Nat → Nat} {cy : Nat → ClassId} {M : mM} {code n a b e0 pc k d : Nat} {v : Int32} {l st : List Value} {S : mS} {g : Bool} {c1 : mC} {c2 : Option mC} {ps : List Nat},
  code = 43 ∨ code = 44 → Fr D cy M p s m args meth c → mX z ad s → z ≤ s.heap.size → R = mRm d M → k ≤ M.2.2.2.2.1 → decode M.2.1 pc = .ok (insOf pc (code, n, a, b, e0, v), n) → okG M (code, n, a, b, e0, v) ps = true → mx1 M (code, n, a, b, e0, v) pc l st S k = some (.inl (g, c1, c2)) →
    (g = true → Wt p lau e R s m args below meth c Q z D ad cy M c1) → (g = false → ∃ c3, c2 = some c3 ∧ Wt p lau e R s m args below meth c Q z D ad cy M c3) → Wt p lau e R s m args below meth c Q z D ad cy M (pc, l, st, S, k)
section MN
variable {p : Program} {lau : Launch} {e : Env} {s : State} {m : MethodId} {args : Array Value} {below : List Frame} {meth : Method} {c : Code} {Q : State → Prop} {z : Nat} {D : va_G} {ad : Nat → Nat} {cy : Nat → ClassId} {M M' : mM} {tab : Nat → Option mM}
variable {code n a b e0 pc k d : Nat} {v : Int32} {l st : List Value} {S : mS} {g : Bool} {c1 : mC} {c2 : Option mC} {ps : List Nat} {r : mR} {R : Room}
theorem cal_no {pc' j n' b' mc' : Nat} (h : cal M pc' j n' b' mc' l st S k = some (.inl (g, c1, c2))) : False := by
  unfold cal at h
  split at h <;> cases h
theorem mx_step (hSt : StrOK) (F : Fr D cy M p s m args meth c) (hX : mX z ad s) (hz : z ≤ s.heap.size) (hR : R = mRm d M) (hkm : k ≤ M.2.2.2.2.1) (hk : okE tab M pc (code, n, a, b, e0, v) ps = true)
    (h : mx1 M (code, n, a, b, e0, v) pc l st S k = some (.inl (g, c1, c2))) (h1 : g = true → Wt p lau e R s m args below meth c Q z D ad cy M c1) (h2 : g = false → ∃ c3, c2 = some c3 ∧ Wt p lau e R s m args below meth c Q z D ad cy M c3) :
    Wt p lau e R s m args below meth c Q z D ad cy M (pc, l, st, S, k) := by
  have dk : ∀ {x : Bool} {o : mOp}, (dcd M pc o && x) = true → decode M.2.1 pc = .ok (insOf pc o, o.2.1) ∧ x = true := by
    intro x o q
    simp only [dcd, Bool.and_eq_true, decide_eq_true_eq] at q
    exact q
  have hRf : 8 ≤ R.frames := by subst hR; show 8 ≤ d + 8; omega
  have hRl : 200 ≤ R.locals := by subst hR; show 200 ≤ 100 * d + 200; omega
  have hRc : k ≤ R.cells := by subst hR; exact hkm
  have hRs : 6 * k ≤ R.slots := by subst hR; exact Nat.mul_le_mul_left 6 hkm
  match code, hk, h with
  | 0, hk, h => exact st_0 F (dk hk).1 (dk hk).2 h h1
  | 1, hk, h => exact st_1 F (dk hk).1 (dk hk).2 h h1
  | 2, hk, h => exact st_2 F (dk hk).1 (dk hk).2 h h1
  | 3, hk, h => exact st_3 F (dk hk).1 (dk hk).2 h h1
  | 4, hk, h => exact st_4 F (dk hk).1 (dk hk).2 h h1
  | 5, hk, h => exact st_5 F (dk hk).1 (dk hk).2 h h1
  | 6, hk, h => exact st_6 F (dk hk).1 (dk hk).2 h h1
  | 7, hk, h => exact st_7 F (dk hk).1 (dk hk).2 h h1
  | 8, hk, h => exact st_8 F (dk hk).1 (dk hk).2 h h1
  | 9, hk, h => exact st_9 F (dk hk).1 (dk hk).2 h h1 h2
  | 10, hk, h => exact st_10 F (dk hk).1 (dk hk).2 h h1 h2
  | 11, hk, h => exact st_11 F (dk hk).1 (dk hk).2 h h1 h2
  | 12, hk, h => exact st_12 F (dk hk).1 (dk hk).2 h h1
  | 13, hk, h => exact st_13 F (dk hk).1 (dk hk).2 h h1
  | 14, hk, h => exact st_14 F (dk hk).1 (dk hk).2 h h1 h2
  | 15, hk, h => exact st_15 F (dk hk).1 (dk hk).2 h h1 h2
  | 16, hk, h => exact st_16 F (dk hk).1 (dk hk).2 h h1 h2
  | 17, hk, h => exact st_17 F (dk hk).1 (dk hk).2 h h1 h2
  | 18, hk, h => exact st_18 F (dk hk).1 (dk hk).2 h h1 h2
  | 19, hk, h => exact st_19 F (dk hk).1 (dk hk).2 h h1
  | 20, hk, h => exact st_20 F (dk hk).1 (dk hk).2 h h1
  | 21, hk, h => exact st_21 F (dk hk).1 (dk hk).2 h h1
  | 22, hk, h => exact st_22 F (dk hk).1 (dk hk).2 h h1
  | 23, _, h => exact absurd (show hh23 M n a b e0 v pc l st S k = some (.inl (g, c1, c2)) from h) (by unfold hh23; split <;> (intro q; cases q))
  | 24, _, h => exact absurd (show hh24 M n a b e0 v pc l st S k = some (.inl (g, c1, c2)) from h) (by unfold hh24; split <;> (intro q; cases q))
  | 25, _, h => exact absurd (show hh25 M n a b e0 v pc l st S k = some (.inl (g, c1, c2)) from h) (by unfold hh25; split <;> (intro q; cases q))
  | 26, hk, h => exact st_26 F (dk hk).1 (dk hk).2 h h1
  | 27, hk, h => exact st_27 F (dk hk).1 (dk hk).2 h h1
  | 28, hk, h => exact st_28 F (dk hk).1 (dk hk).2 h h1 h2
  | 29, hk, h => exact st_29 F hX (dk hk).1 (dk hk).2 h h1
  | 30, _, h => exact (cal_no (show hh30 M n a b e0 v pc l st S k = some (.inl (g, c1, c2)) from h)).elim
  | 31, _, h => exact (cal_no (show hh31 M n a b e0 v pc l st S k = some (.inl (g, c1, c2)) from h)).elim
  | 32, _, h => exact (cal_no (show hh32 M n a b e0 v pc l st S k = some (.inl (g, c1, c2)) from h)).elim
  | 33, hk, h => exact st_33 F (dk hk).1 (dk hk).2 hRf hRl hRc hRs h h1
  | 34, hk, h => exact st_34 F (dk hk).1 (dk hk).2 hRf hRl hRc hRs h h1 h2
  | 35, _, h => exact absurd (show hh35 M n a b e0 v pc l st S k = some (.inl (g, c1, c2)) from h) (by unfold hh35; split <;> (intro q; cases q))
  | 36, hk, h => exact st_36 F (dk hk).1 (dk hk).2 h h1
  | 37, hk, h => exact st_37 F (dk hk).1 (dk hk).2 h h1
  | 38, hk, h => exact st_38 F (dk hk).1 (dk hk).2 h h1
  | 39, hk, h => exact st_39 F (dk hk).1 (dk hk).2 h h1
  | 40, hk, h => exact st_40 F (dk hk).1 (dk hk).2 h h1
  | 41, hk, h => exact st_41 F hk h h1
  | 42, hk, h => exact st_42 F (dk hk).1 (dk hk).2 h h1
  | 43, hk, h => exact hSt (Or.inl rfl) F hX hz hR hkm (dk hk).1 (dk hk).2 h h1 h2
  | 44, hk, h => exact hSt (Or.inr rfl) F hX hz hR hkm (dk hk).1 (dk hk).2 h h1 h2
  | 45, _, h => exact (cal_no (show hh45 M n a b e0 v pc l st S k = some (.inl (g, c1, c2)) from h)).elim
  | 46, _, h =>
    replace h : hh46 M n a b e0 v pc l st S k = some (.inl (g, c1, c2)) := h
    unfold hh46 at h
    split at h
    · split at h <;> exact (cal_no h).elim
    · cases h
  | 47, hk, h => exact st_47 F (dk hk).1 (dk hk).2 h h1
  | 48, hk, h => exact st_48 F (dk hk).1 (dk hk).2 h h1
  | q + 49, _, h => exact absurd (show none = some _ from h) (by intro q; cases q)
end MN
