/-! runs of the abstract machine, in pieces -/
def Ev (d : Nat) (M : mM) (c : mC) (r : mR) : Prop := ∃ n, run mTab n d M c = some r
theorem run_mono {tab : Nat → Option mM} : ∀ (n d : Nat) (M : mM) (c : mC) (r : mR), run tab n d M c = some r → run tab (n + 1) d M c = some r := by
  intro n
  induction n with
  | zero => intro d M c r h; cases h
  | succ n ih =>
    intro d M c r h
    rw [run] at h ⊢
    split at h
    · rename_i h1 h2
      exact ih d M _ r h
    · rename_i h1 h2
      exact ih d M _ r h
    · rename_i j as ct h1 h2
      split at h
      · rename_i d' M' hj
        cases hr : run tab n d' M' (0, mkM M'.2.2.2.2.2.2 0 (mIn M'.2.2.1 as), [], ct.2.2.2.1, 0) with
        | none => rw [hr] at h; split at h <;> simp_all
        | some q =>
          rw [hr] at h
          have h9 := ih d' M' _ q hr
          try dsimp only
          rw [h9]
          split at h
          · rename_i v S' a1 a2 a3
            cases a3
            exact ih _ M _ r h
          · rename_i x S' a1 a2 a3
            cases a3
            exact h
          · cases h
      · cases h
    · exact h
    · cases h
theorem run_monoN {tab : Nat → Option mM} {n d : Nat} {M : mM} {c : mC} {r : mR} (k : Nat) (h : run tab n d M c = some r) : run tab (n + k) d M c = some r := by
  induction k with
  | zero => exact h
  | succ k ih => exact run_mono _ _ _ _ _ ih
theorem ev_one {d : Nat} {M : mM} {c c1 : mC} {c2 : Option mC} {r : mR} (hb : Nat.ble c.2.2.2.2 M.2.2.2.2.1 = true) (h : mx M c = some (.inl (true, c1, c2))) (k : Ev d M c1 r) : Ev d M c r := by
  obtain ⟨n, hn⟩ := k
  refine ⟨n + 1, ?_⟩
  rw [run, hb, h]
  exact hn
theorem ev_two {d : Nat} {M : mM} {c c1 c2 : mC} {r : mR} (hb : Nat.ble c.2.2.2.2 M.2.2.2.2.1 = true) (h : mx M c = some (.inl (false, c1, some c2))) (k : Ev d M c2 r) : Ev d M c r := by
  obtain ⟨n, hn⟩ := k
  refine ⟨n + 1, ?_⟩
  rw [run, hb, h]
  exact hn
def mxs : Nat → mM → mC → Option mC
  | 0, _, c => some c
  | n + 1, M, c => match Nat.ble c.2.2.2.2 M.2.2.2.2.1, mx M c with
    | true, some (.inl (true, c1, _)) => mxs n M c1
    | _, _ => none
theorem ev_sts {d : Nat} {M : mM} {r : mR} : ∀ (n : Nat) {c c2 : mC}, mxs n M c = some c2 → Ev d M c2 r → Ev d M c r := by
  intro n
  induction n with
  | zero => intro c c2 h k; cases h; exact k
  | succ n ih =>
    intro c c2 h k
    rw [mxs] at h
    split at h
    · rename_i h1 h2
      exact ev_one h1 h2 (ih h k)
    · cases h
theorem ev_if {d : Nat} {M : mM} {c c1 c2 : mC} {r : mR} {q : Prop} [Decidable q] {A B : Option mR} (hf : (if q then A else B) = some r) (hb : Nat.ble c.2.2.2.2 M.2.2.2.2.1 = true) (h : mx M c = some (.inl (decide q, c1, some c2))) (kt : q → A = some r → Ev d M c1 r) (kf : ¬ q → B = some r → Ev d M c2 r) : Ev d M c r := by
  by_cases hq : q
  · rw [if_pos hq] at hf
    rw [decide_eq_true hq] at h
    exact ev_one hb h (kt hq hf)
  · rw [if_neg hq] at hf
    rw [decide_eq_false hq] at h
    exact ev_two hb h (kf hq hf)
def gd (b : Bool) (x : Option mR) : Option mR := match b with
  | true => x
  | false => none
theorem ev_gd {d : Nat} {M : mM} {c c1 : mC} {c2 : Option mC} {r : mR} {b : Bool} {x : Option mR} (hf : gd b x = some r) (hb : Nat.ble c.2.2.2.2 M.2.2.2.2.1 = true) (h : mx M c = some (.inl (b, c1, c2))) (k : x = some r → Ev d M c1 r) : Ev d M c r := by
  cases b with
  | true => exact ev_one hb h (k hf)
  | false => cases hf
def bnd {α : Type} (x : α) (f : α → Option mR) : Option mR := f x
theorem ev_let {α : Type} {r : mR} {e : α} {f : α → Option mR} {P : α → Prop} (k : ∀ x, f x = some r → P x) (hf : bnd e f = some r) : P e := k e hf
theorem ev_ret {d : Nat} {M : mM} {c : mC} {r r' : mR} (hf : some r' = some r) (hb : Nat.ble c.2.2.2.2 M.2.2.2.2.1 = true) (h : mx M c = some (.inr (.inr r'))) : Ev d M c r := by
  cases hf
  exact ⟨1, by rw [run, hb, h]⟩
theorem ev_sw {d : Nat} {M : mM} {pc q p : Nat} {l l2 st st2 : List Value} {S S2 : mS} {k k2 : Nat} {c2 : Option mC} {r : mR} (e : q = p) (hb : Nat.ble k M.2.2.2.2.1 = true) (h : mx M (pc, l, st, S, k) = some (.inl (true, (q, mkM M.2.2.2.2.2.2 q l2, st2, S2, k2), c2))) (kk : Ev d M (p, mkM M.2.2.2.2.2.2 p l2, st2, S2, k2) r) : Ev d M (pc, l, st, S, k) r := by
  subst e
  exact ev_one hb h kk
theorem msw_p {x v : Int32} {q d : Nat} {r : List (Int32 × Nat)} (h : x = v) : msw x ((v, q) :: r) d = q := if_pos h
theorem msw_n {x v : Int32} {q d p : Nat} {r : List (Int32 × Nat)} (h : ¬ x = v) (h2 : msw x r d = p) : msw x ((v, q) :: r) d = p := (if_neg h).trans h2
/-- what a call gives -/
def bI (o : Option mR) (f : Int32 → mS → Option mR) : Option mR := match o with
  | some (.inl (some (.int x)), S) => f x S
  | some (.inr e, S) => some (.inr e, S)
  | _ => none
def bI0 (o : Option mR) (f : Int32 → mS → Option mR) : Option mR := match o with
  | some (.inl (some (.int x)), S) => f x S
  | _ => none
def bV (o : Option mR) (f : mS → Option mR) : Option mR := match o with
  | some (.inl none, S) => f S
  | some (.inr e, S) => some (.inr e, S)
  | _ => none
def bV0 (o : Option mR) (f : mS → Option mR) : Option mR := match o with
  | some (.inl none, S) => f S
  | _ => none
def bR0 (o : Option mR) (f : Value → mS → Option mR) : Option mR := match o with
  | some (.inl (some (.ref x)), S) => f (.ref x) S
  | some (.inl (some .null), S) => f .null S
  | _ => none
abbrev entry (M : mM) (as : List Value) (S : mS) : mC := (0, mkM M.2.2.2.2.2.2 0 (mIn M.2.2.1 as), [], S, 0)
theorem ev_callr {d : Nat} {M M' : mM} {c ct : mC} {j : Nat} {as : List Value} {w : Option Value} {S1 : mS} {r : mR} (hb : Nat.ble c.2.2.2.2 M.2.2.2.2.1 = true) (h : mx M c = some (.inr (.inl (j, as, ct)))) (hj : mTab j = some M') (hl : (Nat.ble as.length M'.2.2.1 && as.all (fun v => v.category == 1)) = true)
    (hc : Ev d M' (entry M' as ct.2.2.2.1) (.inl w, S1)) (k : Ev (d + 1) M (mPu w ct S1) r) : Ev (d + 1) M c r := by
  obtain ⟨n1, h1⟩ := hc
  obtain ⟨n2, h2⟩ := k
  rw [Bool.and_eq_true] at hl
  refine ⟨n1 + n2 + 1, ?_⟩
  rw [run, hb, h]
  dsimp only
  rw [hj]
  dsimp only
  rw [hl.1, hl.2, run_monoN n2 h1]
  dsimp only
  rw [Nat.add_comm]
  exact run_monoN n1 h2
theorem ev_callx {d : Nat} {M M' : mM} {c ct : mC} {j : Nat} {as : List Value} {x : Nat} {S1 : mS} (hb : Nat.ble c.2.2.2.2 M.2.2.2.2.1 = true) (h : mx M c = some (.inr (.inl (j, as, ct)))) (hj : mTab j = some M') (hl : (Nat.ble as.length M'.2.2.1 && as.all (fun v => v.category == 1)) = true) (hm : M'.2.2.2.2.1 ≠ 0)
    (hc : Ev d M' (entry M' as ct.2.2.2.1) (.inr x, S1)) : Ev (d + 1) M c (.inr x, S1) := by
  obtain ⟨n1, h1⟩ := hc
  rw [Bool.and_eq_true] at hl
  refine ⟨n1 + 1, ?_⟩
  rw [run, hb, h]
  dsimp only
  rw [hj]
  dsimp only
  rw [hl.1, hl.2, h1]
  dsimp only
  split
  · rename_i h0; exact absurd h0 hm
  · rfl
section BI
variable {d : Nat} {M M' : mM} {c ct : mC} {j : Nat} {as : List Value} {r : mR} {o : Option mR}
theorem ev_bI {f : Int32 → mS → Option mR} (hf : bI o f = some r) (hb : Nat.ble c.2.2.2.2 M.2.2.2.2.1 = true) (h : mx M c = some (.inr (.inl (j, as, ct)))) (hj : mTab j = some M') (hl : (Nat.ble as.length M'.2.2.1 && as.all (fun v => v.category == 1)) = true) (hm : M'.2.2.2.2.1 ≠ 0)
    (hc : ∀ r', o = some r' → Ev d M' (entry M' as ct.2.2.2.1) r') (k : ∀ x S1, f x S1 = some r → Ev (d + 1) M (mPu (some (.int x)) ct S1) r) : Ev (d + 1) M c r := by
  unfold bI at hf
  split at hf
  · exact ev_callr hb h hj hl (hc _ rfl) (k _ _ hf)
  · cases hf
    exact ev_callx hb h hj hl hm (hc _ rfl)
  · cases hf
theorem ev_bI0 {f : Int32 → mS → Option mR} (hf : bI0 o f = some r) (hb : Nat.ble c.2.2.2.2 M.2.2.2.2.1 = true) (h : mx M c = some (.inr (.inl (j, as, ct)))) (hj : mTab j = some M') (hl : (Nat.ble as.length M'.2.2.1 && as.all (fun v => v.category == 1)) = true)
    (hc : ∀ r', o = some r' → Ev d M' (entry M' as ct.2.2.2.1) r') (k : ∀ x S1, f x S1 = some r → Ev (d + 1) M (mPu (some (.int x)) ct S1) r) : Ev (d + 1) M c r := by
  unfold bI0 at hf
  split at hf
  · exact ev_callr hb h hj hl (hc _ rfl) (k _ _ hf)
  · cases hf
theorem ev_bV {f : mS → Option mR} (hf : bV o f = some r) (hb : Nat.ble c.2.2.2.2 M.2.2.2.2.1 = true) (h : mx M c = some (.inr (.inl (j, as, ct)))) (hj : mTab j = some M') (hl : (Nat.ble as.length M'.2.2.1 && as.all (fun v => v.category == 1)) = true) (hm : M'.2.2.2.2.1 ≠ 0)
    (hc : ∀ r', o = some r' → Ev d M' (entry M' as ct.2.2.2.1) r') (k : ∀ S1, f S1 = some r → Ev (d + 1) M (mPu none ct S1) r) : Ev (d + 1) M c r := by
  unfold bV at hf
  split at hf
  · exact ev_callr hb h hj hl (hc _ rfl) (k _ hf)
  · cases hf
    exact ev_callx hb h hj hl hm (hc _ rfl)
  · cases hf
theorem ev_bV0 {f : mS → Option mR} (hf : bV0 o f = some r) (hb : Nat.ble c.2.2.2.2 M.2.2.2.2.1 = true) (h : mx M c = some (.inr (.inl (j, as, ct)))) (hj : mTab j = some M') (hl : (Nat.ble as.length M'.2.2.1 && as.all (fun v => v.category == 1)) = true)
    (hc : ∀ r', o = some r' → Ev d M' (entry M' as ct.2.2.2.1) r') (k : ∀ S1, f S1 = some r → Ev (d + 1) M (mPu none ct S1) r) : Ev (d + 1) M c r := by
  unfold bV0 at hf
  split at hf
  · exact ev_callr hb h hj hl (hc _ rfl) (k _ hf)
  · cases hf
end BI
theorem Ev.up {d : Nat} {M : mM} {c : mC} {r : mR} (h : Ev d M c r) : Ev (d + 1) M c r := by
  obtain ⟨n, hn⟩ := h
  refine ⟨n, ?_⟩
  induction n generalizing d M c r with
  | zero => cases hn
  | succ n ih =>
    rw [run] at hn ⊢
    split at hn
    · exact ih hn
    · exact ih hn
    · rename_i j as ct h1 h2
      split at hn
      · rename_i d' M' hj
        cases hr : run mTab n d' M' (0, mkM M'.2.2.2.2.2.2 0 (mIn M'.2.2.1 as), [], ct.2.2.2.1, 0) with
        | none => rw [hr] at hn; split at hn <;> simp_all
        | some q =>
          rw [hr] at hn
          have h9 := ih hr
          rw [hj]
          dsimp only
          rw [h9]
          split at hn
          · rename_i v S' a1 a2 a3
            cases a3
            exact ih hn
          · rename_i x S' a1 a2 a3
            cases a3
            exact hn
          · cases hn
      · cases hn
    · exact hn
    · cases hn
theorem Ev.upN {d e : Nat} {M : mM} {c : mC} {r : mR} (h : Ev d M c r) (hd : d ≤ e) : Ev e M c r := by
  obtain ⟨k, rfl⟩ := Nat.le.dest hd
  induction k with
  | zero => exact h
  | succ k ih => exact (ih (by omega)).up
