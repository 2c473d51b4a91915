/-! the abstract machine is sound: what holds of a frame, of its locals, of the world -/
def mV (ad : Nat → Nat) : Value → Value
  | .ref i => .ref (ad i)
  | v => v
theorem mV_cat (ad : Nat → Nat) (v : Value) : (mV ad v).category = v.category := by cases v <;> rfl
def mE (ad : Nat → Nat) (cy : Nat → ClassId) (S : mS) (i : Nat) (q : mSh) : va_E := match q with
  | (0, ci, fs) => .inr (ci, fs.mapIdx (fun k f => match f with | some j => Value.ref (ad j) | none => .int (S i k)))
  | (1, n, _) => .inl (cy 0, n, .inl (S i))
  | (2, n, _) => .inl (cy 1, n, .inl (S i))
  | (3, n, fs) => .inl (cy 2, n, .inr (.inr (.inr (.inr (fun k => match fs with | [some b] => some (ad (b + 2 * k)) | _ => none)))))
  | (_, n, _) => .inl (cy 3, n, .inr (.inl (fun k => (S i k).toInt64)))
def mWL (L : List mSh) (ad : Nat → Nat) (cy : Nat → ClassId) (S : mS) : va_W := L.mapIdx (fun i q => (ad i, mE ad cy S i q))
def mW (ad : Nat → Nat) (cy : Nat → ClassId) (S : mS) : va_W := mWL sh ad cy S
def mT (cy : Nat → ClassId) : List (ClassId × FieldType) := [(cy 0, .int), (cy 1, .byte), (cy 2, .object "LedgeEggs$Cliff"), (cy 3, .long)]
theorem mWL_get {L : List mSh} {ad : Nat → Nat} {cy : Nat → ClassId} {S : mS} {i : Nat} {q : mSh} (h : L[i]? = some q) : (mWL L ad cy S)[i]? = some (ad i, mE ad cy S i q) := by
  simp [mWL, List.getElem?_mapIdx, h]
theorem mW_get {ad : Nat → Nat} {cy : Nat → ClassId} {S : mS} {i : Nat} {q : mSh} (h : sh[i]? = some q) : (mW ad cy S)[i]? = some (ad i, mE ad cy S i q) := mWL_get h
theorem shO_of {i : Nat} {q : mSh} (h : shO i = q) (hq : q.1 ≠ 9) : sh[i]? = some q := by
  unfold shO at h
  rw [List.getD_eq_getElem?_getD] at h
  cases h2 : sh[i]? with
  | none => rw [h2] at h; exact absurd (by rw [← h]; rfl) hq
  | some q2 => rw [h2] at h; exact congrArg some h
theorem mE_ne {ad : Nat → Nat} {cy : Nat → ClassId} {S : mS} {i j : Nat} {f : Nat → Int32} (q : mSh) (h : j ≠ i) : mE ad cy (seS S i f) j q = mE ad cy S j q := by
  have e : seS S i f j = S j := by simp [seS, h]
  unfold mE
  rw [e]

theorem tst1 {L : List mSh} {ad : Nat → Nat} {cy : Nat → ClassId} {S : mS} {i j : Nat} {f : Nat → Int32} (hj : ¬ i = j) : (mWL L ad cy S)[j]? = (mWL L ad cy (seS S i f))[j]? := by
  unfold mWL
  rw [List.getElem?_mapIdx, List.getElem?_mapIdx]
  cases hq : L[j]? with
  | none => rw [Option.map_none, Option.map_none]
  | some q2 =>
    rw [Option.map_some, Option.map_some]
    show some (ad j, mE ad cy S j q2) = some (ad j, mE ad cy (seS S i f) j q2)
    rw [mE_ne q2 (Ne.symm hj)]
theorem tst2 {L : List mSh} {ad : Nat → Nat} {cy : Nat → ClassId} {S : mS} {i : Nat} {q : mSh} {f : Nat → Int32} (h : L[i]? = some q) : (if i < (mWL L ad cy S).length then some (ad i, mE ad cy (seS S i f) i q) else none) = (mWL L ad cy (seS S i f))[i]? := by
  have hi : i < (mWL L ad cy S).length := by
    unfold mWL
    rw [List.length_mapIdx]
    exact (List.getElem?_eq_some_iff.mp h).1
  rw [mWL_get h]
  exact if_pos hi
theorem mWL_set {L : List mSh} {ad : Nat → Nat} {cy : Nat → ClassId} {S : mS} {i : Nat} {q : mSh} {f : Nat → Int32} (h : L[i]? = some q) : (mWL L ad cy S).set i (ad i, mE ad cy (seS S i f) i q) = mWL L ad cy (seS S i f) := by
  apply List.ext_getElem?
  intro j
  rw [List.getElem?_set]
  by_cases hj : i = j
  · subst hj
    refine (if_pos rfl).trans ?_
    exact tst2 h
  · refine (if_neg hj).trans ?_
    exact tst1 hj
theorem mW_set {ad : Nat → Nat} {cy : Nat → ClassId} {S : mS} {i : Nat} {q : mSh} {f : Nat → Int32} (h : sh[i]? = some q) : (mW ad cy S).set i (ad i, mE ad cy (seS S i f) i q) = mW ad cy (seS S i f) := mWL_set h
/-- locals: what the list knows holds of the frame's locals -/
def mHas (ad : Nat → Nat) (ls : Array Slot) (n : Nat) (l : List Value) : Prop := ls.size = n ∧ lv_wf ls ∧ ∀ (i : Nat) (v : Value), l[i]? = some v → v ≠ mK → ls[i]? = some (.val (mV ad v))
def mA (ad : Nat → Nat) (l : List Value) : List (Nat × Value) := (l.zipIdx.filter (fun q => decide (q.1 ≠ mK))).map (fun q => (q.2, mV ad q.1))
theorem mA_mem {ad : Nat → Nat} {l : List Value} {q : Nat × Value} : q ∈ mA ad l ↔ ∃ v, l[q.1]? = some v ∧ v ≠ mK ∧ q.2 = mV ad v := by
  obtain ⟨i, w⟩ := q
  simp only [mA, List.mem_map, List.mem_filter, List.mem_zipIdx_iff_getElem?, Prod.mk.injEq, decide_eq_true_eq, Prod.exists]
  constructor
  · rintro ⟨v, j, ⟨h1, h2⟩, rfl, rfl⟩
    exact ⟨v, by simpa using h1, h2, rfl⟩
  · rintro ⟨v, h1, h2, h3⟩
    exact ⟨v, i, ⟨by simpa using h1, h2⟩, rfl, h3.symm⟩
theorem mHas.lv {ad : Nat → Nat} {ls : Array Slot} {n : Nat} {l : List Value} (h : mHas ad ls n l) : lv_has ls n (mA ad l) :=
  ⟨h.1, h.2.1, fun q hq => by obtain ⟨v, h1, h2, h3⟩ := mA_mem.mp hq; rw [h3]; exact h.2.2 q.1 v h1 h2⟩
theorem mHas.at {ad : Nat → Nat} {ls : Array Slot} {n : Nat} {l : List Value} (h : mHas ad ls n l) {i : Nat} {v : Value} (hv : l[i]? = some v) (hk : v ≠ mK) : ls[i]? = some (.val (mV ad v)) := h.2.2 i v hv hk
theorem mHas.set1 {ad : Nat → Nat} {ls : Array Slot} {n : Nat} {l : List Value} {a : Nat} {v : Value} (hg : lng l a = false)
    (h : lv_has ls n ((a, mV ad v) :: (mA ad l).filter (fun q => !(q.1 == a) && !(q.1 + 1 == a && q.2.category == 2)))) : mHas ad ls n (l.set a v) := by
  refine ⟨h.1, h.2.1, fun i w hw hk => ?_⟩
  rw [List.getElem?_set] at hw
  by_cases hi : a = i
  · subst hi
    rw [if_pos rfl] at hw
    by_cases hl : a < l.length
    · rw [if_pos hl] at hw
      cases hw
      exact h.2.2 (a, mV ad v) List.mem_cons_self
    · rw [if_neg hl] at hw; cases hw
  · rw [if_neg hi] at hw
    refine h.2.2 (i, mV ad w) (List.mem_cons_of_mem _ (List.mem_filter.mpr ⟨mA_mem.mpr ⟨w, hw, hk, rfl⟩, ?_⟩))
    have h1 : (i == a) = false := by simpa using fun q => hi q.symm
    rw [Bool.and_eq_true]
    refine ⟨by simpa using fun q : i = a => hi q.symm, ?_⟩
    rw [Bool.not_eq_true', Bool.and_eq_false_iff]
    by_cases h2 : i + 1 = a
    · right
      subst h2
      simp only [lng, hw] at hg
      show ((mV ad w).category == 2) = false
      rw [mV_cat]; exact hg
    · left
      simpa using h2
theorem mHas.set2 {ad : Nat → Nat} {ls : Array Slot} {n : Nat} {l : List Value} {a : Nat} {v : Value} (hg : lng l a = false)
    (h : lv_has ls n ((a, mV ad v) :: (mA ad l).filter (fun q => !(q.1 == a) && (!(q.1 == a + 1) && !(q.1 + 1 == a && q.2.category == 2))))) : mHas ad ls n ((l.set a v).set (a + 1) mK) := by
  refine ⟨h.1, h.2.1, fun i w hw hk => ?_⟩
  rw [List.getElem?_set] at hw
  by_cases hi1 : a + 1 = i
  · subst hi1
    rw [if_pos rfl] at hw
    split at hw
    · cases hw; exact absurd rfl hk
    · cases hw
  rw [if_neg hi1, List.getElem?_set] at hw
  by_cases hi : a = i
  · subst hi
    rw [if_pos rfl] at hw
    split at hw
    · cases hw
      exact h.2.2 (a, mV ad v) List.mem_cons_self
    · cases hw
  · rw [if_neg hi] at hw
    refine h.2.2 (i, mV ad w) (List.mem_cons_of_mem _ (List.mem_filter.mpr ⟨mA_mem.mpr ⟨w, hw, hk, rfl⟩, ?_⟩))
    rw [Bool.and_eq_true, Bool.and_eq_true]
    refine ⟨by simpa using fun q : i = a => hi q.symm, by simpa using fun q : i = a + 1 => hi1 q.symm, ?_⟩
    rw [Bool.not_eq_true', Bool.and_eq_false_iff]
    by_cases h2 : i + 1 = a
    · right
      subst h2
      simp only [lng, hw] at hg
      show ((mV ad w).category == 2) = false
      rw [mV_cat]; exact hg
    · left
      simpa using h2
theorem mHas.mask {ad : Nat → Nat} {ls : Array Slot} {n : Nat} {l : List Value} (hs : List (Nat × List Bool)) (pc : Nat) (h : mHas ad ls n l) : mHas ad ls n (mkM hs pc l) := by
  refine ⟨h.1, h.2.1, fun i v hv hk => ?_⟩
  unfold mkM at hv
  split at hv
  · rw [List.getElem?_zipWith] at hv
    split at hv
    · rename_i b w h1 h2
      cases b with
      | true => cases hv; exact h.2.2 i _ h2 hk
      | false => cases hv; exact absurd rfl hk
    · cases hv
  · exact h.2.2 i v hv hk
/-- the words that every method's contract takes along -/
def mTs : List Cond := lw_tbl.filter goodWord
theorem mTs_mem {w : Cond} (h : w ∈ lw_tbl) (hg : goodWord w = true) : w ∈ mTs := List.mem_filter.mpr ⟨h, hg⟩
theorem mTs_good {w : Cond} (h : w ∈ mTs) : (w.onTables && w.keeps) = true ∨ ∃ ty, w = .arrayClass ty := good_of_word (List.mem_filter.mp h).2
def mIs (w : Cond) : Bool := decide (w ∈ lw_tbl) && goodWord w
theorem mIs_mem {w : Cond} (h : mIs w = true) : w ∈ mTs := by
  simp only [mIs, Bool.and_eq_true, decide_eq_true_eq] at h
  exact mTs_mem h.1 h.2
def Fr (D : va_G) (cy : Nat → ClassId) (M : mM) (p : Program) (s : State) (m : MethodId) (args : Array Value) (meth : Method) (c : Code) : Prop :=
  p.tables.exec = Jvm.exec ∧ c.code = M.2.1 ∧ c.maxLocals = M.2.2.1 ∧ meth.sig.returnType = M.2.2.2.1 ∧ s.vm.findClass M.1.cls = some m.cls ∧ (∀ w ∈ mTs, w.before args s = true) ∧ meth.locks = false ∧ (∀ x ∈ c.exceptionTable.toList, False) ∧ va_K D vwCl (mT cy) s
abbrev mAz (z : Nat) : Nat → Prop := fun q => z ≤ q
def Wt (p : Program) (lau : Launch) (e : Env) (R : Room) (s : State) (m : MethodId) (args : Array Value) (below : List Frame) (meth : Method) (c : Code) (Q : State → Prop) (z : Nat) (D : va_G) (ad : Nat → Nat) (cy : Nat → ClassId) (M : mM) (f : mC) : Prop :=
  ∀ (H : Heap) (locs : List Loc) (ls : Array Slot), mHas ad ls M.2.2.1 f.2.1 → va_P D vwCl (mW ad cy f.2.2.2.1) H → va_D (mAz z) (mW ad cy f.2.2.2.1) → va_S (mAz z) s.heap H locs →
    W p lau e R s m args below meth c H locs f.2.2.2.2 (6 * f.2.2.2.2) Q (F0 m f.1 ls (f.2.2.1.map (mV ad)))
