/-! no method of the table writes the law's long -/
def o75 (S : mS) (o : (Bool × mC × Option mC) ⊕ ((Nat × List Value × mC) ⊕ mR)) : Prop := match o with
  | .inl (_, c1, c2) => c1.2.2.2.1 75 = S 75 ∧ ∀ c3, c2 = some c3 → c3.2.2.2.1 75 = S 75
  | .inr (.inl (_, _, ct)) => ct.2.2.2.1 75 = S 75
  | .inr (.inr r) => r.2 75 = S 75
theorem seS75 {S : mS} {i : Nat} {f : Nat → Int32} (h : ¬ 75 = i) : seS S i f 75 = S 75 := by
  show (if 75 = i then f else S 75) = S 75
  rw [if_neg h]
theorem sh75 {i k n : Nat} {fs : List (Option Nat)} (h : shO i = (k, n, fs)) (hk : ¬ k = 4) : ¬ 75 = i := fun q => by
  subst q
  cases h
  exact hk rfl
section K75
variable {M : mM} {n a b e : Nat} {v : Int32} {pc : Nat} {l st : List Value} {S S2 : mS} {k : Nat} {o : (Bool × mC × Option mC) ⊕ ((Nat × List Value × mC) ⊕ mR)}
theorem gx75 {g : Bool} (h : gx g M pc l st S2 k = some o) (hS : S2 75 = S 75) : o75 S o := by
  cases h
  exact ⟨hS, fun _ q => by cases q⟩
theorem nx75 (h : nx M pc l st S k = some o) : o75 S o := gx75 h rfl
theorem pf75 (h : pf M pc a b e l st S k = some o) : o75 S o := by
  unfold pf at h
  split at h
  · split at h
    · rename_i ci fs hsh
      split at h
      · exact gx75 h (seS75 (sh75 hsh (by decide)))
      · exact gx75 h (seS75 (sh75 hsh (by decide)))
      · cases h
    · cases h
  · cases h
theorem asI75 (h : asI M pc l st S k = some o) : o75 S o := by
  unfold asI at h
  split at h
  · split at h
    · rename_i hsh
      exact gx75 h (seS75 (sh75 hsh (by decide)))
    · cases h
  · cases h
theorem asB75 (h : asB M pc l st S k = some o) : o75 S o := by
  unfold asB at h
  split at h
  · split at h
    · rename_i hsh
      exact gx75 h (seS75 (sh75 hsh (by decide)))
    · cases h
  · cases h
theorem cpy75 (h : cpy M pc l st S k = some o) : o75 S o := by
  unfold cpy at h
  split at h
  · split at h
    · rename_i hsh h0
      exact gx75 h (seS75 (sh75 hsh (by decide)))
    · cases h
  · cases h
theorem cal75 {j mc : Nat} (h : cal M pc j n b mc l st S k = some o) : o75 S o := by
  unfold cal at h
  split at h
  · cases h; rfl
  · cases h
theorem k75_hh0 (h : hh0 M n a b e v pc l st S k = some o) : o75 S o := by
  unfold hh0 at h
  try unfold ldI at h
  try unfold ldA at h
  try unfold ldL at h
  try unfold stI at h
  try unfold stA at h
  try unfold stL at h
  try unfold gf at h
  try unfold alI at h
  try unfold alB at h
  try unfold alA at h
  try unfold len at h
  try unfold mth at h
  repeat' split at h
  all_goals first | exact nx75 h | exact gx75 h rfl | exact cal75 h | (cases h; done) | (cases h; rfl) | (cases h; exact ⟨rfl, fun _ q => by cases q; rfl⟩) | (cases h; exact ⟨rfl, fun _ q => by cases q⟩)
theorem k75_hh1 (h : hh1 M n a b e v pc l st S k = some o) : o75 S o := by
  unfold hh1 at h
  try unfold ldI at h
  try unfold ldA at h
  try unfold ldL at h
  try unfold stI at h
  try unfold stA at h
  try unfold stL at h
  try unfold gf at h
  try unfold alI at h
  try unfold alB at h
  try unfold alA at h
  try unfold len at h
  try unfold mth at h
  repeat' split at h
  all_goals first | exact nx75 h | exact gx75 h rfl | exact cal75 h | (cases h; done) | (cases h; rfl) | (cases h; exact ⟨rfl, fun _ q => by cases q; rfl⟩) | (cases h; exact ⟨rfl, fun _ q => by cases q⟩)
theorem k75_hh2 (h : hh2 M n a b e v pc l st S k = some o) : o75 S o := by
  unfold hh2 at h
  try unfold ldI at h
  try unfold ldA at h
  try unfold ldL at h
  try unfold stI at h
  try unfold stA at h
  try unfold stL at h
  try unfold gf at h
  try unfold alI at h
  try unfold alB at h
  try unfold alA at h
  try unfold len at h
  try unfold mth at h
  repeat' split at h
  all_goals first | exact nx75 h | exact gx75 h rfl | exact cal75 h | (cases h; done) | (cases h; rfl) | (cases h; exact ⟨rfl, fun _ q => by cases q; rfl⟩) | (cases h; exact ⟨rfl, fun _ q => by cases q⟩)
theorem k75_hh3 (h : hh3 M n a b e v pc l st S k = some o) : o75 S o := by
  unfold hh3 at h
  try unfold ldI at h
  try unfold ldA at h
  try unfold ldL at h
  try unfold stI at h
  try unfold stA at h
  try unfold stL at h
  try unfold gf at h
  try unfold alI at h
  try unfold alB at h
  try unfold alA at h
  try unfold len at h
  try unfold mth at h
  repeat' split at h
  all_goals first | exact nx75 h | exact gx75 h rfl | exact cal75 h | (cases h; done) | (cases h; rfl) | (cases h; exact ⟨rfl, fun _ q => by cases q; rfl⟩) | (cases h; exact ⟨rfl, fun _ q => by cases q⟩)
theorem k75_hh4 (h : hh4 M n a b e v pc l st S k = some o) : o75 S o := by
  unfold hh4 at h
  try unfold ldI at h
  try unfold ldA at h
  try unfold ldL at h
  try unfold stI at h
  try unfold stA at h
  try unfold stL at h
  try unfold gf at h
  try unfold alI at h
  try unfold alB at h
  try unfold alA at h
  try unfold len at h
  try unfold mth at h
  repeat' split at h
  all_goals first | exact nx75 h | exact gx75 h rfl | exact cal75 h | (cases h; done) | (cases h; rfl) | (cases h; exact ⟨rfl, fun _ q => by cases q; rfl⟩) | (cases h; exact ⟨rfl, fun _ q => by cases q⟩)
theorem k75_hh5 (h : hh5 M n a b e v pc l st S k = some o) : o75 S o := by
  unfold hh5 at h
  try unfold ldI at h
  try unfold ldA at h
  try unfold ldL at h
  try unfold stI at h
  try unfold stA at h
  try unfold stL at h
  try unfold gf at h
  try unfold alI at h
  try unfold alB at h
  try unfold alA at h
  try unfold len at h
  try unfold mth at h
  repeat' split at h
  all_goals first | exact nx75 h | exact gx75 h rfl | exact cal75 h | (cases h; done) | (cases h; rfl) | (cases h; exact ⟨rfl, fun _ q => by cases q; rfl⟩) | (cases h; exact ⟨rfl, fun _ q => by cases q⟩)
theorem k75_hh6 (h : hh6 M n a b e v pc l st S k = some o) : o75 S o := by
  unfold hh6 at h
  try unfold ldI at h
  try unfold ldA at h
  try unfold ldL at h
  try unfold stI at h
  try unfold stA at h
  try unfold stL at h
  try unfold gf at h
  try unfold alI at h
  try unfold alB at h
  try unfold alA at h
  try unfold len at h
  try unfold mth at h
  repeat' split at h
  all_goals first | exact nx75 h | exact gx75 h rfl | exact cal75 h | (cases h; done) | (cases h; rfl) | (cases h; exact ⟨rfl, fun _ q => by cases q; rfl⟩) | (cases h; exact ⟨rfl, fun _ q => by cases q⟩)
theorem k75_hh7 (h : hh7 M n a b e v pc l st S k = some o) : o75 S o := by
  unfold hh7 at h
  try unfold ldI at h
  try unfold ldA at h
  try unfold ldL at h
  try unfold stI at h
  try unfold stA at h
  try unfold stL at h
  try unfold gf at h
  try unfold alI at h
  try unfold alB at h
  try unfold alA at h
  try unfold len at h
  try unfold mth at h
  repeat' split at h
  all_goals first | exact nx75 h | exact gx75 h rfl | exact cal75 h | (cases h; done) | (cases h; rfl) | (cases h; exact ⟨rfl, fun _ q => by cases q; rfl⟩) | (cases h; exact ⟨rfl, fun _ q => by cases q⟩)
theorem k75_hh8 (h : hh8 M n a b e v pc l st S k = some o) : o75 S o := by
  unfold hh8 at h
  try unfold ldI at h
  try unfold ldA at h
  try unfold ldL at h
  try unfold stI at h
  try unfold stA at h
  try unfold stL at h
  try unfold gf at h
  try unfold alI at h
  try unfold alB at h
  try unfold alA at h
  try unfold len at h
  try unfold mth at h
  repeat' split at h
  all_goals first | exact nx75 h | exact gx75 h rfl | exact cal75 h | (cases h; done) | (cases h; rfl) | (cases h; exact ⟨rfl, fun _ q => by cases q; rfl⟩) | (cases h; exact ⟨rfl, fun _ q => by cases q⟩)
theorem k75_hh9 (h : hh9 M n a b e v pc l st S k = some o) : o75 S o := by
  unfold hh9 at h
  try unfold ldI at h
  try unfold ldA at h
  try unfold ldL at h
  try unfold stI at h
  try unfold stA at h
  try unfold stL at h
  try unfold gf at h
  try unfold alI at h
  try unfold alB at h
  try unfold alA at h
  try unfold len at h
  try unfold mth at h
  repeat' split at h
  all_goals first | exact nx75 h | exact gx75 h rfl | exact cal75 h | (cases h; done) | (cases h; rfl) | (cases h; exact ⟨rfl, fun _ q => by cases q; rfl⟩) | (cases h; exact ⟨rfl, fun _ q => by cases q⟩)
theorem k75_hh10 (h : hh10 M n a b e v pc l st S k = some o) : o75 S o := by
  unfold hh10 at h
  try unfold ldI at h
  try unfold ldA at h
  try unfold ldL at h
  try unfold stI at h
  try unfold stA at h
  try unfold stL at h
  try unfold gf at h
  try unfold alI at h
  try unfold alB at h
  try unfold alA at h
  try unfold len at h
  try unfold mth at h
  repeat' split at h
  all_goals first | exact nx75 h | exact gx75 h rfl | exact cal75 h | (cases h; done) | (cases h; rfl) | (cases h; exact ⟨rfl, fun _ q => by cases q; rfl⟩) | (cases h; exact ⟨rfl, fun _ q => by cases q⟩)
theorem k75_hh11 (h : hh11 M n a b e v pc l st S k = some o) : o75 S o := by
  unfold hh11 at h
  try unfold ldI at h
  try unfold ldA at h
  try unfold ldL at h
  try unfold stI at h
  try unfold stA at h
  try unfold stL at h
  try unfold gf at h
  try unfold alI at h
  try unfold alB at h
  try unfold alA at h
  try unfold len at h
  try unfold mth at h
  repeat' split at h
  all_goals first | exact nx75 h | exact gx75 h rfl | exact cal75 h | (cases h; done) | (cases h; rfl) | (cases h; exact ⟨rfl, fun _ q => by cases q; rfl⟩) | (cases h; exact ⟨rfl, fun _ q => by cases q⟩)
theorem k75_hh12 (h : hh12 M n a b e v pc l st S k = some o) : o75 S o := by
  unfold hh12 at h
  try unfold ldI at h
  try unfold ldA at h
  try unfold ldL at h
  try unfold stI at h
  try unfold stA at h
  try unfold stL at h
  try unfold gf at h
  try unfold alI at h
  try unfold alB at h
  try unfold alA at h
  try unfold len at h
  try unfold mth at h
  repeat' split at h
  all_goals first | exact nx75 h | exact gx75 h rfl | exact cal75 h | (cases h; done) | (cases h; rfl) | (cases h; exact ⟨rfl, fun _ q => by cases q; rfl⟩) | (cases h; exact ⟨rfl, fun _ q => by cases q⟩)
theorem k75_hh13 (h : hh13 M n a b e v pc l st S k = some o) : o75 S o := by
  unfold hh13 at h
  try unfold ldI at h
  try unfold ldA at h
  try unfold ldL at h
  try unfold stI at h
  try unfold stA at h
  try unfold stL at h
  try unfold gf at h
  try unfold alI at h
  try unfold alB at h
  try unfold alA at h
  try unfold len at h
  try unfold mth at h
  repeat' split at h
  all_goals first | exact nx75 h | exact gx75 h rfl | exact cal75 h | (cases h; done) | (cases h; rfl) | (cases h; exact ⟨rfl, fun _ q => by cases q; rfl⟩) | (cases h; exact ⟨rfl, fun _ q => by cases q⟩)
theorem k75_hh14 (h : hh14 M n a b e v pc l st S k = some o) : o75 S o := by
  exact pf75 h
theorem k75_hh15 (h : hh15 M n a b e v pc l st S k = some o) : o75 S o := by
  unfold hh15 at h
  try unfold ldI at h
  try unfold ldA at h
  try unfold ldL at h
  try unfold stI at h
  try unfold stA at h
  try unfold stL at h
  try unfold gf at h
  try unfold alI at h
  try unfold alB at h
  try unfold alA at h
  try unfold len at h
  try unfold mth at h
  repeat' split at h
  all_goals first | exact nx75 h | exact gx75 h rfl | exact cal75 h | (cases h; done) | (cases h; rfl) | (cases h; exact ⟨rfl, fun _ q => by cases q; rfl⟩) | (cases h; exact ⟨rfl, fun _ q => by cases q⟩)
theorem k75_hh16 (h : hh16 M n a b e v pc l st S k = some o) : o75 S o := by
  exact asI75 h
theorem k75_hh17 (h : hh17 M n a b e v pc l st S k = some o) : o75 S o := by
  unfold hh17 at h
  try unfold ldI at h
  try unfold ldA at h
  try unfold ldL at h
  try unfold stI at h
  try unfold stA at h
  try unfold stL at h
  try unfold gf at h
  try unfold alI at h
  try unfold alB at h
  try unfold alA at h
  try unfold len at h
  try unfold mth at h
  repeat' split at h
  all_goals first | exact nx75 h | exact gx75 h rfl | exact cal75 h | (cases h; done) | (cases h; rfl) | (cases h; exact ⟨rfl, fun _ q => by cases q; rfl⟩) | (cases h; exact ⟨rfl, fun _ q => by cases q⟩)
theorem k75_hh18 (h : hh18 M n a b e v pc l st S k = some o) : o75 S o := by
  exact asB75 h
theorem k75_hh19 (h : hh19 M n a b e v pc l st S k = some o) : o75 S o := by
  unfold hh19 at h
  try unfold ldI at h
  try unfold ldA at h
  try unfold ldL at h
  try unfold stI at h
  try unfold stA at h
  try unfold stL at h
  try unfold gf at h
  try unfold alI at h
  try unfold alB at h
  try unfold alA at h
  try unfold len at h
  try unfold mth at h
  repeat' split at h
  all_goals first | exact nx75 h | exact gx75 h rfl | exact cal75 h | (cases h; done) | (cases h; rfl) | (cases h; exact ⟨rfl, fun _ q => by cases q; rfl⟩) | (cases h; exact ⟨rfl, fun _ q => by cases q⟩)
theorem k75_hh20 (h : hh20 M n a b e v pc l st S k = some o) : o75 S o := by
  unfold hh20 at h
  try unfold ldI at h
  try unfold ldA at h
  try unfold ldL at h
  try unfold stI at h
  try unfold stA at h
  try unfold stL at h
  try unfold gf at h
  try unfold alI at h
  try unfold alB at h
  try unfold alA at h
  try unfold len at h
  try unfold mth at h
  repeat' split at h
  all_goals first | exact nx75 h | exact gx75 h rfl | exact cal75 h | (cases h; done) | (cases h; rfl) | (cases h; exact ⟨rfl, fun _ q => by cases q; rfl⟩) | (cases h; exact ⟨rfl, fun _ q => by cases q⟩)
theorem k75_hh21 (h : hh21 M n a b e v pc l st S k = some o) : o75 S o := by
  unfold hh21 at h
  try unfold ldI at h
  try unfold ldA at h
  try unfold ldL at h
  try unfold stI at h
  try unfold stA at h
  try unfold stL at h
  try unfold gf at h
  try unfold alI at h
  try unfold alB at h
  try unfold alA at h
  try unfold len at h
  try unfold mth at h
  repeat' split at h
  all_goals first | exact nx75 h | exact gx75 h rfl | exact cal75 h | (cases h; done) | (cases h; rfl) | (cases h; exact ⟨rfl, fun _ q => by cases q; rfl⟩) | (cases h; exact ⟨rfl, fun _ q => by cases q⟩)
theorem k75_hh22 (h : hh22 M n a b e v pc l st S k = some o) : o75 S o := by
  unfold hh22 at h
  try unfold ldI at h
  try unfold ldA at h
  try unfold ldL at h
  try unfold stI at h
  try unfold stA at h
  try unfold stL at h
  try unfold gf at h
  try unfold alI at h
  try unfold alB at h
  try unfold alA at h
  try unfold len at h
  try unfold mth at h
  repeat' split at h
  all_goals first | exact nx75 h | exact gx75 h rfl | exact cal75 h | (cases h; done) | (cases h; rfl) | (cases h; exact ⟨rfl, fun _ q => by cases q; rfl⟩) | (cases h; exact ⟨rfl, fun _ q => by cases q⟩)
theorem k75_hh23 (h : hh23 M n a b e v pc l st S k = some o) : o75 S o := by
  unfold hh23 at h
  try unfold ldI at h
  try unfold ldA at h
  try unfold ldL at h
  try unfold stI at h
  try unfold stA at h
  try unfold stL at h
  try unfold gf at h
  try unfold alI at h
  try unfold alB at h
  try unfold alA at h
  try unfold len at h
  try unfold mth at h
  repeat' split at h
  all_goals first | exact nx75 h | exact gx75 h rfl | exact cal75 h | (cases h; done) | (cases h; rfl) | (cases h; exact ⟨rfl, fun _ q => by cases q; rfl⟩) | (cases h; exact ⟨rfl, fun _ q => by cases q⟩)
theorem k75_hh24 (h : hh24 M n a b e v pc l st S k = some o) : o75 S o := by
  unfold hh24 at h
  try unfold ldI at h
  try unfold ldA at h
  try unfold ldL at h
  try unfold stI at h
  try unfold stA at h
  try unfold stL at h
  try unfold gf at h
  try unfold alI at h
  try unfold alB at h
  try unfold alA at h
  try unfold len at h
  try unfold mth at h
  repeat' split at h
  all_goals first | exact nx75 h | exact gx75 h rfl | exact cal75 h | (cases h; done) | (cases h; rfl) | (cases h; exact ⟨rfl, fun _ q => by cases q; rfl⟩) | (cases h; exact ⟨rfl, fun _ q => by cases q⟩)
theorem k75_hh25 (h : hh25 M n a b e v pc l st S k = some o) : o75 S o := by
  unfold hh25 at h
  try unfold ldI at h
  try unfold ldA at h
  try unfold ldL at h
  try unfold stI at h
  try unfold stA at h
  try unfold stL at h
  try unfold gf at h
  try unfold alI at h
  try unfold alB at h
  try unfold alA at h
  try unfold len at h
  try unfold mth at h
  repeat' split at h
  all_goals first | exact nx75 h | exact gx75 h rfl | exact cal75 h | (cases h; done) | (cases h; rfl) | (cases h; exact ⟨rfl, fun _ q => by cases q; rfl⟩) | (cases h; exact ⟨rfl, fun _ q => by cases q⟩)
theorem k75_hh26 (h : hh26 M n a b e v pc l st S k = some o) : o75 S o := by
  unfold hh26 at h
  try unfold ldI at h
  try unfold ldA at h
  try unfold ldL at h
  try unfold stI at h
  try unfold stA at h
  try unfold stL at h
  try unfold gf at h
  try unfold alI at h
  try unfold alB at h
  try unfold alA at h
  try unfold len at h
  try unfold mth at h
  repeat' split at h
  all_goals first | exact nx75 h | exact gx75 h rfl | exact cal75 h | (cases h; done) | (cases h; rfl) | (cases h; exact ⟨rfl, fun _ q => by cases q; rfl⟩) | (cases h; exact ⟨rfl, fun _ q => by cases q⟩)
theorem k75_hh27 (h : hh27 M n a b e v pc l st S k = some o) : o75 S o := by
  unfold hh27 at h
  try unfold ldI at h
  try unfold ldA at h
  try unfold ldL at h
  try unfold stI at h
  try unfold stA at h
  try unfold stL at h
  try unfold gf at h
  try unfold alI at h
  try unfold alB at h
  try unfold alA at h
  try unfold len at h
  try unfold mth at h
  repeat' split at h
  all_goals first | exact nx75 h | exact gx75 h rfl | exact cal75 h | (cases h; done) | (cases h; rfl) | (cases h; exact ⟨rfl, fun _ q => by cases q; rfl⟩) | (cases h; exact ⟨rfl, fun _ q => by cases q⟩)
theorem k75_hh28 (h : hh28 M n a b e v pc l st S k = some o) : o75 S o := by
  unfold hh28 at h
  try unfold ldI at h
  try unfold ldA at h
  try unfold ldL at h
  try unfold stI at h
  try unfold stA at h
  try unfold stL at h
  try unfold gf at h
  try unfold alI at h
  try unfold alB at h
  try unfold alA at h
  try unfold len at h
  try unfold mth at h
  repeat' split at h
  all_goals first | exact nx75 h | exact gx75 h rfl | exact cal75 h | (cases h; done) | (cases h; rfl) | (cases h; exact ⟨rfl, fun _ q => by cases q; rfl⟩) | (cases h; exact ⟨rfl, fun _ q => by cases q⟩)
theorem k75_hh29 (h : hh29 M n a b e v pc l st S k = some o) : o75 S o := by
  unfold hh29 at h
  try unfold ldI at h
  try unfold ldA at h
  try unfold ldL at h
  try unfold stI at h
  try unfold stA at h
  try unfold stL at h
  try unfold gf at h
  try unfold alI at h
  try unfold alB at h
  try unfold alA at h
  try unfold len at h
  try unfold mth at h
  repeat' split at h
  all_goals first | exact nx75 h | exact gx75 h rfl | exact cal75 h | (cases h; done) | (cases h; rfl) | (cases h; exact ⟨rfl, fun _ q => by cases q; rfl⟩) | (cases h; exact ⟨rfl, fun _ q => by cases q⟩)
theorem k75_hh30 (h : hh30 M n a b e v pc l st S k = some o) : o75 S o := by
  exact cal75 h
theorem k75_hh31 (h : hh31 M n a b e v pc l st S k = some o) : o75 S o := by
  exact cal75 h
theorem k75_hh32 (h : hh32 M n a b e v pc l st S k = some o) : o75 S o := by
  exact cal75 h
theorem k75_hh33 (h : hh33 M n a b e v pc l st S k = some o) : o75 S o := by
  unfold hh33 at h
  try unfold ldI at h
  try unfold ldA at h
  try unfold ldL at h
  try unfold stI at h
  try unfold stA at h
  try unfold stL at h
  try unfold gf at h
  try unfold alI at h
  try unfold alB at h
  try unfold alA at h
  try unfold len at h
  try unfold mth at h
  repeat' split at h
  all_goals first | exact nx75 h | exact gx75 h rfl | exact cal75 h | (cases h; done) | (cases h; rfl) | (cases h; exact ⟨rfl, fun _ q => by cases q; rfl⟩) | (cases h; exact ⟨rfl, fun _ q => by cases q⟩)
theorem k75_hh34 (h : hh34 M n a b e v pc l st S k = some o) : o75 S o := by
  exact cpy75 h
theorem k75_hh35 (h : hh35 M n a b e v pc l st S k = some o) : o75 S o := by
  unfold hh35 at h
  try unfold ldI at h
  try unfold ldA at h
  try unfold ldL at h
  try unfold stI at h
  try unfold stA at h
  try unfold stL at h
  try unfold gf at h
  try unfold alI at h
  try unfold alB at h
  try unfold alA at h
  try unfold len at h
  try unfold mth at h
  repeat' split at h
  all_goals first | exact nx75 h | exact gx75 h rfl | exact cal75 h | (cases h; done) | (cases h; rfl) | (cases h; exact ⟨rfl, fun _ q => by cases q; rfl⟩) | (cases h; exact ⟨rfl, fun _ q => by cases q⟩)
theorem k75_hh36 (h : hh36 M n a b e v pc l st S k = some o) : o75 S o := by
  unfold hh36 at h
  try unfold ldI at h
  try unfold ldA at h
  try unfold ldL at h
  try unfold stI at h
  try unfold stA at h
  try unfold stL at h
  try unfold gf at h
  try unfold alI at h
  try unfold alB at h
  try unfold alA at h
  try unfold len at h
  try unfold mth at h
  repeat' split at h
  all_goals first | exact nx75 h | exact gx75 h rfl | exact cal75 h | (cases h; done) | (cases h; rfl) | (cases h; exact ⟨rfl, fun _ q => by cases q; rfl⟩) | (cases h; exact ⟨rfl, fun _ q => by cases q⟩)
theorem k75_hh37 (h : hh37 M n a b e v pc l st S k = some o) : o75 S o := by
  unfold hh37 at h
  try unfold ldI at h
  try unfold ldA at h
  try unfold ldL at h
  try unfold stI at h
  try unfold stA at h
  try unfold stL at h
  try unfold gf at h
  try unfold alI at h
  try unfold alB at h
  try unfold alA at h
  try unfold len at h
  try unfold mth at h
  repeat' split at h
  all_goals first | exact nx75 h | exact gx75 h rfl | exact cal75 h | (cases h; done) | (cases h; rfl) | (cases h; exact ⟨rfl, fun _ q => by cases q; rfl⟩) | (cases h; exact ⟨rfl, fun _ q => by cases q⟩)
theorem k75_hh38 (h : hh38 M n a b e v pc l st S k = some o) : o75 S o := by
  unfold hh38 at h
  try unfold ldI at h
  try unfold ldA at h
  try unfold ldL at h
  try unfold stI at h
  try unfold stA at h
  try unfold stL at h
  try unfold gf at h
  try unfold alI at h
  try unfold alB at h
  try unfold alA at h
  try unfold len at h
  try unfold mth at h
  repeat' split at h
  all_goals first | exact nx75 h | exact gx75 h rfl | exact cal75 h | (cases h; done) | (cases h; rfl) | (cases h; exact ⟨rfl, fun _ q => by cases q; rfl⟩) | (cases h; exact ⟨rfl, fun _ q => by cases q⟩)
theorem k75_hh39 (h : hh39 M n a b e v pc l st S k = some o) : o75 S o := by
  unfold hh39 at h
  try unfold ldI at h
  try unfold ldA at h
  try unfold ldL at h
  try unfold stI at h
  try unfold stA at h
  try unfold stL at h
  try unfold gf at h
  try unfold alI at h
  try unfold alB at h
  try unfold alA at h
  try unfold len at h
  try unfold mth at h
  repeat' split at h
  all_goals first | exact nx75 h | exact gx75 h rfl | exact cal75 h | (cases h; done) | (cases h; rfl) | (cases h; exact ⟨rfl, fun _ q => by cases q; rfl⟩) | (cases h; exact ⟨rfl, fun _ q => by cases q⟩)
theorem k75_hh40 (h : hh40 M n a b e v pc l st S k = some o) : o75 S o := by
  unfold hh40 at h
  try unfold ldI at h
  try unfold ldA at h
  try unfold ldL at h
  try unfold stI at h
  try unfold stA at h
  try unfold stL at h
  try unfold gf at h
  try unfold alI at h
  try unfold alB at h
  try unfold alA at h
  try unfold len at h
  try unfold mth at h
  repeat' split at h
  all_goals first | exact nx75 h | exact gx75 h rfl | exact cal75 h | (cases h; done) | (cases h; rfl) | (cases h; exact ⟨rfl, fun _ q => by cases q; rfl⟩) | (cases h; exact ⟨rfl, fun _ q => by cases q⟩)
theorem k75_hh41 (h : hh41 M n a b e v pc l st S k = some o) : o75 S o := by
  unfold hh41 at h
  try unfold ldI at h
  try unfold ldA at h
  try unfold ldL at h
  try unfold stI at h
  try unfold stA at h
  try unfold stL at h
  try unfold gf at h
  try unfold alI at h
  try unfold alB at h
  try unfold alA at h
  try unfold len at h
  try unfold mth at h
  repeat' split at h
  all_goals first | exact nx75 h | exact gx75 h rfl | exact cal75 h | (cases h; done) | (cases h; rfl) | (cases h; exact ⟨rfl, fun _ q => by cases q; rfl⟩) | (cases h; exact ⟨rfl, fun _ q => by cases q⟩)
theorem k75_hh42 (h : hh42 M n a b e v pc l st S k = some o) : o75 S o := by
  unfold hh42 at h
  try unfold ldI at h
  try unfold ldA at h
  try unfold ldL at h
  try unfold stI at h
  try unfold stA at h
  try unfold stL at h
  try unfold gf at h
  try unfold alI at h
  try unfold alB at h
  try unfold alA at h
  try unfold len at h
  try unfold mth at h
  repeat' split at h
  all_goals first | exact nx75 h | exact gx75 h rfl | exact cal75 h | (cases h; done) | (cases h; rfl) | (cases h; exact ⟨rfl, fun _ q => by cases q; rfl⟩) | (cases h; exact ⟨rfl, fun _ q => by cases q⟩)
theorem k75_hh43 (h : hh43 M n a b e v pc l st S k = some o) : o75 S o := by
  unfold hh43 at h
  try unfold ldI at h
  try unfold ldA at h
  try unfold ldL at h
  try unfold stI at h
  try unfold stA at h
  try unfold stL at h
  try unfold gf at h
  try unfold alI at h
  try unfold alB at h
  try unfold alA at h
  try unfold len at h
  try unfold mth at h
  repeat' split at h
  all_goals first | exact nx75 h | exact gx75 h rfl | exact cal75 h | (cases h; done) | (cases h; rfl) | (cases h; exact ⟨rfl, fun _ q => by cases q; rfl⟩) | (cases h; exact ⟨rfl, fun _ q => by cases q⟩)
theorem k75_hh44 (h : hh44 M n a b e v pc l st S k = some o) : o75 S o := by
  unfold hh44 at h
  try unfold ldI at h
  try unfold ldA at h
  try unfold ldL at h
  try unfold stI at h
  try unfold stA at h
  try unfold stL at h
  try unfold gf at h
  try unfold alI at h
  try unfold alB at h
  try unfold alA at h
  try unfold len at h
  try unfold mth at h
  repeat' split at h
  all_goals first | exact nx75 h | exact gx75 h rfl | exact cal75 h | (cases h; done) | (cases h; rfl) | (cases h; exact ⟨rfl, fun _ q => by cases q; rfl⟩) | (cases h; exact ⟨rfl, fun _ q => by cases q⟩)
theorem k75_hh45 (h : hh45 M n a b e v pc l st S k = some o) : o75 S o := by
  exact cal75 h
theorem k75_hh46 (h : hh46 M n a b e v pc l st S k = some o) : o75 S o := by
  unfold hh46 at h
  try unfold ldI at h
  try unfold ldA at h
  try unfold ldL at h
  try unfold stI at h
  try unfold stA at h
  try unfold stL at h
  try unfold gf at h
  try unfold alI at h
  try unfold alB at h
  try unfold alA at h
  try unfold len at h
  try unfold mth at h
  repeat' split at h
  all_goals first | exact nx75 h | exact gx75 h rfl | exact cal75 h | (cases h; done) | (cases h; rfl) | (cases h; exact ⟨rfl, fun _ q => by cases q; rfl⟩) | (cases h; exact ⟨rfl, fun _ q => by cases q⟩)
theorem k75_hh47 (h : hh47 M n a b e v pc l st S k = some o) : o75 S o := by
  unfold hh47 at h
  try unfold ldI at h
  try unfold ldA at h
  try unfold ldL at h
  try unfold stI at h
  try unfold stA at h
  try unfold stL at h
  try unfold gf at h
  try unfold alI at h
  try unfold alB at h
  try unfold alA at h
  try unfold len at h
  try unfold mth at h
  repeat' split at h
  all_goals first | exact nx75 h | exact gx75 h rfl | exact cal75 h | (cases h; done) | (cases h; rfl) | (cases h; exact ⟨rfl, fun _ q => by cases q; rfl⟩) | (cases h; exact ⟨rfl, fun _ q => by cases q⟩)
theorem k75_hh48 (h : hh48 M n a b e v pc l st S k = some o) : o75 S o := by
  unfold hh48 at h
  try unfold ldI at h
  try unfold ldA at h
  try unfold ldL at h
  try unfold stI at h
  try unfold stA at h
  try unfold stL at h
  try unfold gf at h
  try unfold alI at h
  try unfold alB at h
  try unfold alA at h
  try unfold len at h
  try unfold mth at h
  repeat' split at h
  all_goals first | exact nx75 h | exact gx75 h rfl | exact cal75 h | (cases h; done) | (cases h; rfl) | (cases h; exact ⟨rfl, fun _ q => by cases q; rfl⟩) | (cases h; exact ⟨rfl, fun _ q => by cases q⟩)
theorem mx75 {c : mC} (h : mx M c = some o) : o75 c.2.2.2.1 o := by
  obtain ⟨pc, l, st, S, k⟩ := c
  simp only [mx] at h
  split at h
  · rename_i o0 _
    obtain ⟨code, n, a, b, e, v⟩ := o0
    unfold mx1 at h
    dsimp only at h
    split at h
    · exact k75_hh0 h
    · exact k75_hh1 h
    · exact k75_hh2 h
    · exact k75_hh3 h
    · exact k75_hh4 h
    · exact k75_hh5 h
    · exact k75_hh6 h
    · exact k75_hh7 h
    · exact k75_hh8 h
    · exact k75_hh9 h
    · exact k75_hh10 h
    · exact k75_hh11 h
    · exact k75_hh12 h
    · exact k75_hh13 h
    · exact k75_hh14 h
    · exact k75_hh15 h
    · exact k75_hh16 h
    · exact k75_hh17 h
    · exact k75_hh18 h
    · exact k75_hh19 h
    · exact k75_hh20 h
    · exact k75_hh21 h
    · exact k75_hh22 h
    · exact k75_hh23 h
    · exact k75_hh24 h
    · exact k75_hh25 h
    · exact k75_hh26 h
    · exact k75_hh27 h
    · exact k75_hh28 h
    · exact k75_hh29 h
    · exact k75_hh30 h
    · exact k75_hh31 h
    · exact k75_hh32 h
    · exact k75_hh33 h
    · exact k75_hh34 h
    · exact k75_hh35 h
    · exact k75_hh36 h
    · exact k75_hh37 h
    · exact k75_hh38 h
    · exact k75_hh39 h
    · exact k75_hh40 h
    · exact k75_hh41 h
    · exact k75_hh42 h
    · exact k75_hh43 h
    · exact k75_hh44 h
    · exact k75_hh45 h
    · exact k75_hh46 h
    · exact k75_hh47 h
    · exact k75_hh48 h
    · cases h
  · cases h
theorem run75 {tab : Nat → Option mM} : ∀ (n d : Nat) (M : mM) (c : mC) (r : mR), run tab n d M c = some r → r.2 75 = c.2.2.2.1 75 := by
  intro n
  induction n with
  | zero => intro d M c r h; cases h
  | succ n ih =>
    intro d M c r h
    rw [run] at h
    split at h
    · rename_i h1 h2
      exact (ih d M _ r h).trans (mx75 h2).1
    · rename_i h1 h2
      exact (ih d M _ r h).trans ((mx75 h2).2 _ rfl)
    · rename_i j as ct h1 h2
      have e0 : ct.2.2.2.1 75 = c.2.2.2.1 75 := mx75 h2
      split at h
      · rename_i d' M' hj
        split at h
        · rename_i v S' a1 a2 a3
          have e1 := ih _ _ _ _ a3
          obtain ⟨q1, q2, q3, q4, q5⟩ := ct
          exact (ih _ M _ r h).trans (e1.trans e0)
        · rename_i x S' a1 a2 a3
          have e1 := ih _ _ _ _ a3
          split at h
          · cases h
          · cases h
            exact e1.trans e0
        · cases h
      · cases h
    · rename_i h1 h2
      cases h
      exact mx75 h2
    · cases h
end K75
theorem ev75 {d : Nat} {M : mM} {as : List Value} {S : mS} {r : mR} (h : Ev d M (entry M as S) r) : r.2 75 = S 75 := by
  obtain ⟨n, hn⟩ := h
  exact run75 _ _ _ _ _ hn
