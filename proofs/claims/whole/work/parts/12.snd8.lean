/-! the main theorem -/
theorem lvargs_mem : ∀ {vs : List Value} {k i : Nat} {v : Value}, (∀ w ∈ vs, w.category = 1) → vs[i]? = some v → (k + i, v) ∈ lv_args k vs := by
  intro vs
  induction vs with
  | nil => intro k i v _ h; simp at h
  | cons w r ih =>
    intro k i v hc h
    have hw := hc w List.mem_cons_self
    show (k + i, v) ∈ (k, w) :: lv_args (if w.category = 2 then k + 2 else k + 1) r
    rw [if_neg (by rw [hw]; decide)]
    cases i with
    | zero => simp at h; subst h; exact List.mem_cons_self
    | succ i =>
      rw [List.getElem?_cons_succ] at h
      have := ih (k := k + 1) (fun w hw => hc w (List.mem_cons_of_mem _ hw)) h
      rw [show k + 1 + i = k + (i + 1) by omega] at this
      exact List.mem_cons_of_mem _ this
theorem lgsl_len : ∀ {vs : List Value}, (∀ w ∈ vs, w.category = 1) → (lg_sl vs).length = vs.length := by
  intro vs
  induction vs with
  | nil => intro _; rfl
  | cons w r ih =>
    intro hc
    have hw := hc w List.mem_cons_self
    have := ih (fun w hw => hc w (List.mem_cons_of_mem _ hw))
    simp only [lg_sl, List.flatMap_cons, List.length_append, List.length_cons] at this ⊢
    rw [if_neg (by rw [hw]; decide), this]
    simp; omega
section MN2
variable {p : Program} {lau : Launch} {e : Env} {s : State} {m : MethodId} {args : Array Value} {below : List Frame} {meth : Method} {c : Code} {Q : State → Prop} {z : Nat} {D : va_G} {ad : Nat → Nat} {cy : Nat → ClassId} {M M' : mM} {tab : Nat → Option mM}
variable {code n a b e0 pc k d : Nat} {v : Int32} {l st as : List Value} {S : mS} {ps : List Nat} {r : mR} {R : Room}
theorem mHas_in {ls : Array Slot} (hc : ∀ w ∈ as, w.category = 1) (h : lv_has ls n (lv_args 0 (as.map (mV ad)))) : mHas ad ls n (mIn n as) := by
  refine ⟨h.1, h.2.1, fun i w hw hk => ?_⟩
  unfold mIn at hw
  rcases Nat.lt_or_ge i as.length with hi | hi
  · rw [List.getElem?_append_left hi] at hw
    have := lvargs_mem (vs := as.map (mV ad)) (k := 0) (i := i) (v := mV ad w) (fun w' hw' => by
      obtain ⟨u, hu, rfl⟩ := List.mem_map.mp hw'
      rw [mV_cat]; exact hc u hu) (by rw [List.getElem?_map, hw]; rfl)
    rw [Nat.zero_add] at this
    exact h.2.2 _ this
  · rw [List.getElem?_append_right hi, List.getElem?_replicate] at hw
    split at hw
    · cases hw; exact absurd rfl hk
    · cases hw
theorem mCon_of (hy : plainName M'.1.cls = true) (hn : as.length ≤ M'.2.2.1) (hc : ∀ w ∈ as, w.category = 1)
    (hw : ∀ {p : Program} {e : Env} {s : State} {m : MethodId} {args : Array Value} {below : List Frame} {meth : Method} {c : Code}, Fr D cy M' p s m args meth c → z ≤ s.heap.size → mX z ad s →
      Wt p lau e (mRm d M') s m args below meth c (mQQ below z D ad cy M' r args s) z D ad cy M' (0, mkM M'.2.2.2.2.2.2 0 (mIn M'.2.2.1 as), [], S, 0)) :
    mCon lau z D ad cy (mX z ad) d M' as S r := by
  refine vx_ofW (cc := M'.2.1) (maxL := M'.2.2.1) (ret := M'.2.2.2.1) hy rfl ?_
  intro p e s m args below meth c s₁ B hml hexc hv
  obtain ⟨rfl, hz, hP, hK, hD, hX⟩ := hv
  have hts := atoms_spec (ws := mWs M') B.pre
  have F : Fr D cy M' p s m (as.map (mV ad)).toArray meth c := ⟨B.exec, B.bytes, hml, B.returns, findClass_of_methodNamed B.named, fun w hw => hts w (List.mem_cons_of_mem _ hw), B.notSynchronized, hexc, hK⟩
  have hc' : ∀ w ∈ as.map (mV ad), w.category = 1 := fun w hw => by
    obtain ⟨u, hu, rfl⟩ := List.mem_map.mp hw
    rw [mV_cat]; exact hc u hu
  have hl := lv_entry (as.map (mV ad)) (n := M'.2.2.1) (by rw [lgsl_len hc', List.length_map]; exact hn)
  rw [lg_entry_eq]
  generalize (lg_sl (as.map (mV ad)) ++ List.replicate (M'.2.2.1 - (lg_sl (as.map (mV ad))).length) Slot.unset).toArray = ls at hl ⊢
  exact hw F hz hX s.heap [] ls ((mHas_in hc hl).mask _ _) hP hD va_S.rf
theorem cal_inv {pc' j n' b' mc' j' : Nat} {ct : mC} (h : cal M pc' j n' b' mc' l st S k = some (.inr (.inl (j', as, ct)))) :
    j' = j ∧ as = (st.take n').reverse ∧ ct = (pc', mkM M.2.2.2.2.2.2 pc' l, st.drop n', S, k + mc') ∧ n' ≤ st.length ∧ sm (st.drop n') = true ∧ k + mc' ≤ M.2.2.2.2.1 ∧ (∀ ci, b' = ci + 1 → ∃ i r fs, as = .ref i :: r ∧ shO i = (0, ci, fs)) := by
  unfold cal at h
  split at h
  · rename_i h1 h2 h3 h4
    simp only [Option.some.injEq, Sum.inr.injEq, Sum.inl.injEq, Prod.mk.injEq] at h
    obtain ⟨rfl, rfl, rfl⟩ := h
    refine ⟨rfl, rfl, rfl, Nat.le_of_ble_eq_true h3, h2, Nat.le_of_ble_eq_true h4, fun ci hci => ?_⟩
    subst hci
    simp only at h1
    split at h1
    · rename_i i r hr
      split at h1
      · rename_i c' fs hsh
        refine ⟨i, r, fs, hr, ?_⟩
        rw [hsh, beq_iff_eq.mp h1]
      · cases h1
    · cases h1
  · cases h
theorem st_split {n' : Nat} (hl : n' ≤ st.length) : st.map (mV ad) = (((st.take n').reverse).map (mV ad)).reverse ++ (st.drop n').map (mV ad) := by
  rw [List.map_reverse, List.reverse_reverse, ← List.map_append, List.take_append_drop]
end MN2
