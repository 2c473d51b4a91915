theorem ite_or {q : Prop} [Decidable q] {A B : Option mR} {r : mR} (hf : (if q then A else B) = some r) : (q ∧ A = some r) ∨ (¬ q ∧ B = some r) := by
  by_cases h : q
  · exact Or.inl ⟨h, by rw [if_pos h] at hf; exact hf⟩
  · exact Or.inr ⟨h, by rw [if_neg h] at hf; exact hf⟩
/-- steps where also a refused branch is known -/
def mxt : Nat → mM → mC → Option mC
  | 0, _, c => some c
  | n + 1, M, c => match Nat.ble c.2.2.2.2 M.2.2.2.2.1, mx M c with
    | true, some (.inl (true, c1, _)) => mxt n M c1
    | true, some (.inl (false, _, some c2)) => mxt n M c2
    | _, _ => none
theorem ev_stt {d : Nat} {M : mM} {r : mR} : ∀ (n : Nat) {c c2 : mC}, mxt n M c = some c2 → Ev d M c2 r → Ev d M c r := by
  intro n
  induction n with
  | zero => intro c c2 h k; cases h; exact k
  | succ n ih =>
    intro c c2 h k
    rw [mxt] at h
    split at h
    · rename_i h1 h2
      exact ev_one h1 h2 (ih h k)
    · rename_i h1 h2
      exact ev_two h1 h2 (ih h k)
    · cases h
