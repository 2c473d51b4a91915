section MN4
variable {lau : Launch} {z : Nat} {D : va_G} {ad : Nat → Nat} {cy : Nat → ClassId} {tab : Nat → Option mM}
theorem dk2 {M : mM} {pc : Nat} {x : Bool} {o : mOp} (q : (dcd M pc o && x) = true) : decode M.2.1 pc = .ok (insOf pc o, o.2.1) ∧ x = true := by
  simp only [dcd, Bool.and_eq_true, decide_eq_true_eq] at q
  exact q
theorem gx_no {g : Bool} {M : mM} {pc : Nat} {l st : List Value} {S : mS} {k : Nat} {x : (Nat × List Value × mC) ⊕ mR} (h : gx g M pc l st S k = some (.inr x)) : False := by unfold gx at h; cases h
theorem nx_no {M : mM} {pc : Nat} {l st : List Value} {S : mS} {k : Nat} {x : (Nat × List Value × mC) ⊕ mR} (h : nx M pc l st S k = some (.inr x)) : False := gx_no h
theorem cal_nf {M : mM} {pc j n b mc : Nat} {l st : List Value} {S : mS} {k : Nat} {x : mR} (h : cal M pc j n b mc l st S k = some (.inr (.inr x))) : False := by
  unfold cal at h
  split at h <;> cases h
theorem nc_0 {M : mM} {n a b e pc : Nat} {v : Int32} {l st : List Value} {S : mS} {k : Nat} {x : (Nat × List Value × mC) ⊕ mR} (h : hh0 M n a b e v pc l st S k = some (.inr x)) : False := by
  simp only [hh0] at h
  repeat' (split at h)
  all_goals first | (exact nx_no h) | (exact gx_no h) | (cases h; done)
theorem nc_1 {M : mM} {n a b e pc : Nat} {v : Int32} {l st : List Value} {S : mS} {k : Nat} {x : (Nat × List Value × mC) ⊕ mR} (h : hh1 M n a b e v pc l st S k = some (.inr x)) : False := by
  simp only [hh1, ldI] at h
  repeat' (split at h)
  all_goals first | (exact nx_no h) | (exact gx_no h) | (cases h; done)
theorem nc_2 {M : mM} {n a b e pc : Nat} {v : Int32} {l st : List Value} {S : mS} {k : Nat} {x : (Nat × List Value × mC) ⊕ mR} (h : hh2 M n a b e v pc l st S k = some (.inr x)) : False := by
  simp only [hh2, ldA] at h
  repeat' (split at h)
  all_goals first | (exact nx_no h) | (exact gx_no h) | (cases h; done)
theorem nc_3 {M : mM} {n a b e pc : Nat} {v : Int32} {l st : List Value} {S : mS} {k : Nat} {x : (Nat × List Value × mC) ⊕ mR} (h : hh3 M n a b e v pc l st S k = some (.inr x)) : False := by
  simp only [hh3, ldL] at h
  repeat' (split at h)
  all_goals first | (exact nx_no h) | (exact gx_no h) | (cases h; done)
theorem nc_4 {M : mM} {n a b e pc : Nat} {v : Int32} {l st : List Value} {S : mS} {k : Nat} {x : (Nat × List Value × mC) ⊕ mR} (h : hh4 M n a b e v pc l st S k = some (.inr x)) : False := by
  simp only [hh4, stI] at h
  repeat' (split at h)
  all_goals first | (exact nx_no h) | (exact gx_no h) | (cases h; done)
theorem nc_5 {M : mM} {n a b e pc : Nat} {v : Int32} {l st : List Value} {S : mS} {k : Nat} {x : (Nat × List Value × mC) ⊕ mR} (h : hh5 M n a b e v pc l st S k = some (.inr x)) : False := by
  simp only [hh5, stA] at h
  repeat' (split at h)
  all_goals first | (exact nx_no h) | (exact gx_no h) | (cases h; done)
theorem nc_6 {M : mM} {n a b e pc : Nat} {v : Int32} {l st : List Value} {S : mS} {k : Nat} {x : (Nat × List Value × mC) ⊕ mR} (h : hh6 M n a b e v pc l st S k = some (.inr x)) : False := by
  simp only [hh6, stL] at h
  repeat' (split at h)
  all_goals first | (exact nx_no h) | (exact gx_no h) | (cases h; done)
theorem nc_7 {M : mM} {n a b e pc : Nat} {v : Int32} {l st : List Value} {S : mS} {k : Nat} {x : (Nat × List Value × mC) ⊕ mR} (h : hh7 M n a b e v pc l st S k = some (.inr x)) : False := by
  simp only [hh7] at h
  repeat' (split at h)
  all_goals first | (exact nx_no h) | (exact gx_no h) | (cases h; done)
theorem nc_8 {M : mM} {n a b e pc : Nat} {v : Int32} {l st : List Value} {S : mS} {k : Nat} {x : (Nat × List Value × mC) ⊕ mR} (h : hh8 M n a b e v pc l st S k = some (.inr x)) : False := by
  simp only [hh8] at h
  repeat' (split at h)
  all_goals first | (exact nx_no h) | (exact gx_no h) | (cases h; done)
theorem nc_9 {M : mM} {n a b e pc : Nat} {v : Int32} {l st : List Value} {S : mS} {k : Nat} {x : (Nat × List Value × mC) ⊕ mR} (h : hh9 M n a b e v pc l st S k = some (.inr x)) : False := by
  simp only [hh9] at h
  repeat' (split at h)
  all_goals first | (exact nx_no h) | (exact gx_no h) | (cases h; done)
theorem nc_10 {M : mM} {n a b e pc : Nat} {v : Int32} {l st : List Value} {S : mS} {k : Nat} {x : (Nat × List Value × mC) ⊕ mR} (h : hh10 M n a b e v pc l st S k = some (.inr x)) : False := by
  simp only [hh10] at h
  repeat' (split at h)
  all_goals first | (exact nx_no h) | (exact gx_no h) | (cases h; done)
theorem nc_11 {M : mM} {n a b e pc : Nat} {v : Int32} {l st : List Value} {S : mS} {k : Nat} {x : (Nat × List Value × mC) ⊕ mR} (h : hh11 M n a b e v pc l st S k = some (.inr x)) : False := by
  simp only [hh11] at h
  repeat' (split at h)
  all_goals first | (exact nx_no h) | (exact gx_no h) | (cases h; done)
theorem nc_12 {M : mM} {n a b e pc : Nat} {v : Int32} {l st : List Value} {S : mS} {k : Nat} {x : (Nat × List Value × mC) ⊕ mR} (h : hh12 M n a b e v pc l st S k = some (.inr x)) : False := by
  simp only [hh12] at h
  repeat' (split at h)
  all_goals first | (exact nx_no h) | (exact gx_no h) | (cases h; done)
theorem nc_13 {M : mM} {n a b e pc : Nat} {v : Int32} {l st : List Value} {S : mS} {k : Nat} {x : (Nat × List Value × mC) ⊕ mR} (h : hh13 M n a b e v pc l st S k = some (.inr x)) : False := by
  simp only [hh13, gf] at h
  repeat' (split at h)
  all_goals first | (exact nx_no h) | (exact gx_no h) | (cases h; done)
theorem nc_14 {M : mM} {n a b e pc : Nat} {v : Int32} {l st : List Value} {S : mS} {k : Nat} {x : (Nat × List Value × mC) ⊕ mR} (h : hh14 M n a b e v pc l st S k = some (.inr x)) : False := by
  simp only [hh14, pf] at h
  repeat' (split at h)
  all_goals first | (exact nx_no h) | (exact gx_no h) | (cases h; done)
theorem nc_15 {M : mM} {n a b e pc : Nat} {v : Int32} {l st : List Value} {S : mS} {k : Nat} {x : (Nat × List Value × mC) ⊕ mR} (h : hh15 M n a b e v pc l st S k = some (.inr x)) : False := by
  simp only [hh15, alI] at h
  repeat' (split at h)
  all_goals first | (exact nx_no h) | (exact gx_no h) | (cases h; done)
theorem nc_16 {M : mM} {n a b e pc : Nat} {v : Int32} {l st : List Value} {S : mS} {k : Nat} {x : (Nat × List Value × mC) ⊕ mR} (h : hh16 M n a b e v pc l st S k = some (.inr x)) : False := by
  simp only [hh16, asI] at h
  repeat' (split at h)
  all_goals first | (exact nx_no h) | (exact gx_no h) | (cases h; done)
theorem nc_17 {M : mM} {n a b e pc : Nat} {v : Int32} {l st : List Value} {S : mS} {k : Nat} {x : (Nat × List Value × mC) ⊕ mR} (h : hh17 M n a b e v pc l st S k = some (.inr x)) : False := by
  simp only [hh17, alB] at h
  repeat' (split at h)
  all_goals first | (exact nx_no h) | (exact gx_no h) | (cases h; done)
theorem nc_18 {M : mM} {n a b e pc : Nat} {v : Int32} {l st : List Value} {S : mS} {k : Nat} {x : (Nat × List Value × mC) ⊕ mR} (h : hh18 M n a b e v pc l st S k = some (.inr x)) : False := by
  simp only [hh18, asB] at h
  repeat' (split at h)
  all_goals first | (exact nx_no h) | (exact gx_no h) | (cases h; done)
theorem nc_19 {M : mM} {n a b e pc : Nat} {v : Int32} {l st : List Value} {S : mS} {k : Nat} {x : (Nat × List Value × mC) ⊕ mR} (h : hh19 M n a b e v pc l st S k = some (.inr x)) : False := by
  simp only [hh19, len] at h
  repeat' (split at h)
  all_goals first | (exact nx_no h) | (exact gx_no h) | (cases h; done)
theorem nc_20 {M : mM} {n a b e pc : Nat} {v : Int32} {l st : List Value} {S : mS} {k : Nat} {x : (Nat × List Value × mC) ⊕ mR} (h : hh20 M n a b e v pc l st S k = some (.inr x)) : False := by
  simp only [hh20] at h
  repeat' (split at h)
  all_goals first | (exact nx_no h) | (exact gx_no h) | (cases h; done)
theorem nc_21 {M : mM} {n a b e pc : Nat} {v : Int32} {l st : List Value} {S : mS} {k : Nat} {x : (Nat × List Value × mC) ⊕ mR} (h : hh21 M n a b e v pc l st S k = some (.inr x)) : False := by
  simp only [hh21] at h
  repeat' (split at h)
  all_goals first | (exact nx_no h) | (exact gx_no h) | (cases h; done)
theorem nc_22 {M : mM} {n a b e pc : Nat} {v : Int32} {l st : List Value} {S : mS} {k : Nat} {x : (Nat × List Value × mC) ⊕ mR} (h : hh22 M n a b e v pc l st S k = some (.inr x)) : False := by
  simp only [hh22] at h
  repeat' (split at h)
  all_goals first | (exact nx_no h) | (exact gx_no h) | (cases h; done)
theorem nc_26 {M : mM} {n a b e pc : Nat} {v : Int32} {l st : List Value} {S : mS} {k : Nat} {x : (Nat × List Value × mC) ⊕ mR} (h : hh26 M n a b e v pc l st S k = some (.inr x)) : False := by
  simp only [hh26] at h
  repeat' (split at h)
  all_goals first | (exact nx_no h) | (exact gx_no h) | (cases h; done)
theorem nc_27 {M : mM} {n a b e pc : Nat} {v : Int32} {l st : List Value} {S : mS} {k : Nat} {x : (Nat × List Value × mC) ⊕ mR} (h : hh27 M n a b e v pc l st S k = some (.inr x)) : False := by
  simp only [hh27] at h
  repeat' (split at h)
  all_goals first | (exact nx_no h) | (exact gx_no h) | (cases h; done)
theorem nc_28 {M : mM} {n a b e pc : Nat} {v : Int32} {l st : List Value} {S : mS} {k : Nat} {x : (Nat × List Value × mC) ⊕ mR} (h : hh28 M n a b e v pc l st S k = some (.inr x)) : False := by
  simp only [hh28, alA] at h
  repeat' (split at h)
  all_goals first | (exact nx_no h) | (exact gx_no h) | (cases h; done)
theorem nc_29 {M : mM} {n a b e pc : Nat} {v : Int32} {l st : List Value} {S : mS} {k : Nat} {x : (Nat × List Value × mC) ⊕ mR} (h : hh29 M n a b e v pc l st S k = some (.inr x)) : False := by
  simp only [hh29] at h
  repeat' (split at h)
  all_goals first | (exact nx_no h) | (exact gx_no h) | (cases h; done)
theorem nc_33 {M : mM} {n a b e pc : Nat} {v : Int32} {l st : List Value} {S : mS} {k : Nat} {x : (Nat × List Value × mC) ⊕ mR} (h : hh33 M n a b e v pc l st S k = some (.inr x)) : False := by
  simp only [hh33, mth] at h
  repeat' (split at h)
  all_goals first | (exact nx_no h) | (exact gx_no h) | (cases h; done)
theorem nc_34 {M : mM} {n a b e pc : Nat} {v : Int32} {l st : List Value} {S : mS} {k : Nat} {x : (Nat × List Value × mC) ⊕ mR} (h : hh34 M n a b e v pc l st S k = some (.inr x)) : False := by
  simp only [hh34, cpy] at h
  repeat' (split at h)
  all_goals first | (exact nx_no h) | (exact gx_no h) | (cases h; done)
theorem nc_36 {M : mM} {n a b e pc : Nat} {v : Int32} {l st : List Value} {S : mS} {k : Nat} {x : (Nat × List Value × mC) ⊕ mR} (h : hh36 M n a b e v pc l st S k = some (.inr x)) : False := by
  simp only [hh36] at h
  repeat' (split at h)
  all_goals first | (exact nx_no h) | (exact gx_no h) | (cases h; done)
theorem nc_37 {M : mM} {n a b e pc : Nat} {v : Int32} {l st : List Value} {S : mS} {k : Nat} {x : (Nat × List Value × mC) ⊕ mR} (h : hh37 M n a b e v pc l st S k = some (.inr x)) : False := by
  simp only [hh37] at h
  repeat' (split at h)
  all_goals first | (exact nx_no h) | (exact gx_no h) | (cases h; done)
theorem nc_38 {M : mM} {n a b e pc : Nat} {v : Int32} {l st : List Value} {S : mS} {k : Nat} {x : (Nat × List Value × mC) ⊕ mR} (h : hh38 M n a b e v pc l st S k = some (.inr x)) : False := by
  simp only [hh38] at h
  repeat' (split at h)
  all_goals first | (exact nx_no h) | (exact gx_no h) | (cases h; done)
theorem nc_39 {M : mM} {n a b e pc : Nat} {v : Int32} {l st : List Value} {S : mS} {k : Nat} {x : (Nat × List Value × mC) ⊕ mR} (h : hh39 M n a b e v pc l st S k = some (.inr x)) : False := by
  simp only [hh39] at h
  repeat' (split at h)
  all_goals first | (exact nx_no h) | (exact gx_no h) | (cases h; done)
theorem nc_40 {M : mM} {n a b e pc : Nat} {v : Int32} {l st : List Value} {S : mS} {k : Nat} {x : (Nat × List Value × mC) ⊕ mR} (h : hh40 M n a b e v pc l st S k = some (.inr x)) : False := by
  simp only [hh40] at h
  repeat' (split at h)
  all_goals first | (exact nx_no h) | (exact gx_no h) | (cases h; done)
theorem nc_41 {M : mM} {n a b e pc : Nat} {v : Int32} {l st : List Value} {S : mS} {k : Nat} {x : (Nat × List Value × mC) ⊕ mR} (h : hh41 M n a b e v pc l st S k = some (.inr x)) : False := by
  simp only [hh41] at h
  repeat' (split at h)
  all_goals first | (exact nx_no h) | (exact gx_no h) | (cases h; done)
theorem nc_42 {M : mM} {n a b e pc : Nat} {v : Int32} {l st : List Value} {S : mS} {k : Nat} {x : (Nat × List Value × mC) ⊕ mR} (h : hh42 M n a b e v pc l st S k = some (.inr x)) : False := by
  simp only [hh42] at h
  repeat' (split at h)
  all_goals first | (exact nx_no h) | (exact gx_no h) | (cases h; done)
theorem nc_43 {M : mM} {n a b e pc : Nat} {v : Int32} {l st : List Value} {S : mS} {k : Nat} {x : (Nat × List Value × mC) ⊕ mR} (h : hh43 M n a b e v pc l st S k = some (.inr x)) : False := by
  unfold hh43 at h
  rcases st with _ | ⟨w, r⟩
  · cases h
  · cases w with
    | ref i =>
      dsimp only at h
      generalize mStr[i - 1000]? = q at h
      generalize sm (Value.ref i :: r) = b at h
      cases q <;> cases b <;> first | (exact gx_no h) | (cases h; done)
    | _ => cases h
theorem nc_44 {M : mM} {n a b e pc : Nat} {v : Int32} {l st : List Value} {S : mS} {k : Nat} {x : (Nat × List Value × mC) ⊕ mR} (h : hh44 M n a b e v pc l st S k = some (.inr x)) : False := by
  unfold hh44 at h
  rcases st with _ | ⟨w, r⟩
  · cases h
  · cases w with
    | int y =>
      rcases r with _ | ⟨w, r⟩
      · cases h
      · cases w with
        | ref i =>
          dsimp only at h
          generalize mStr[i - 1000]? = q at h
          generalize sm (Value.int y :: Value.ref i :: r) = b at h
          cases q <;> cases b <;> first | (exact gx_no h) | (cases h; done)
        | _ => cases h
    | _ => cases h
theorem nc_47 {M : mM} {n a b e pc : Nat} {v : Int32} {l st : List Value} {S : mS} {k : Nat} {x : (Nat × List Value × mC) ⊕ mR} (h : hh47 M n a b e v pc l st S k = some (.inr x)) : False := by
  simp only [hh47] at h
  repeat' (split at h)
  all_goals first | (exact nx_no h) | (exact gx_no h) | (cases h; done)
theorem nc_48 {M : mM} {n a b e pc : Nat} {v : Int32} {l st : List Value} {S : mS} {k : Nat} {x : (Nat × List Value × mC) ⊕ mR} (h : hh48 M n a b e v pc l st S k = some (.inr x)) : False := by
  simp only [hh48, gf] at h
  repeat' (split at h)
  all_goals first | (exact nx_no h) | (exact gx_no h) | (cases h; done)
theorem is_call {M : mM} {code n a b e0 pc : Nat} {v : Int32} {l st : List Value} {S : mS} {k : Nat} {x : Nat × List Value × mC} (h : mx1 M (code, n, a, b, e0, v) pc l st S k = some (.inr (.inl x))) : code = 30 ∨ code = 31 ∨ code = 32 ∨ code = 45 ∨ code = 46 := by
  match code, h with
  | 0, h => exact (nc_0 (show hh0 M n a b e0 v pc l st S k = some (.inr (.inl x)) from h)).elim
  | 1, h => exact (nc_1 (show hh1 M n a b e0 v pc l st S k = some (.inr (.inl x)) from h)).elim
  | 2, h => exact (nc_2 (show hh2 M n a b e0 v pc l st S k = some (.inr (.inl x)) from h)).elim
  | 3, h => exact (nc_3 (show hh3 M n a b e0 v pc l st S k = some (.inr (.inl x)) from h)).elim
  | 4, h => exact (nc_4 (show hh4 M n a b e0 v pc l st S k = some (.inr (.inl x)) from h)).elim
  | 5, h => exact (nc_5 (show hh5 M n a b e0 v pc l st S k = some (.inr (.inl x)) from h)).elim
  | 6, h => exact (nc_6 (show hh6 M n a b e0 v pc l st S k = some (.inr (.inl x)) from h)).elim
  | 7, h => exact (nc_7 (show hh7 M n a b e0 v pc l st S k = some (.inr (.inl x)) from h)).elim
  | 8, h => exact (nc_8 (show hh8 M n a b e0 v pc l st S k = some (.inr (.inl x)) from h)).elim
  | 9, h => exact (nc_9 (show hh9 M n a b e0 v pc l st S k = some (.inr (.inl x)) from h)).elim
  | 10, h => exact (nc_10 (show hh10 M n a b e0 v pc l st S k = some (.inr (.inl x)) from h)).elim
  | 11, h => exact (nc_11 (show hh11 M n a b e0 v pc l st S k = some (.inr (.inl x)) from h)).elim
  | 12, h => exact (nc_12 (show hh12 M n a b e0 v pc l st S k = some (.inr (.inl x)) from h)).elim
  | 13, h => exact (nc_13 (show hh13 M n a b e0 v pc l st S k = some (.inr (.inl x)) from h)).elim
  | 14, h => exact (nc_14 (show hh14 M n a b e0 v pc l st S k = some (.inr (.inl x)) from h)).elim
  | 15, h => exact (nc_15 (show hh15 M n a b e0 v pc l st S k = some (.inr (.inl x)) from h)).elim
  | 16, h => exact (nc_16 (show hh16 M n a b e0 v pc l st S k = some (.inr (.inl x)) from h)).elim
  | 17, h => exact (nc_17 (show hh17 M n a b e0 v pc l st S k = some (.inr (.inl x)) from h)).elim
  | 18, h => exact (nc_18 (show hh18 M n a b e0 v pc l st S k = some (.inr (.inl x)) from h)).elim
  | 19, h => exact (nc_19 (show hh19 M n a b e0 v pc l st S k = some (.inr (.inl x)) from h)).elim
  | 20, h => exact (nc_20 (show hh20 M n a b e0 v pc l st S k = some (.inr (.inl x)) from h)).elim
  | 21, h => exact (nc_21 (show hh21 M n a b e0 v pc l st S k = some (.inr (.inl x)) from h)).elim
  | 22, h => exact (nc_22 (show hh22 M n a b e0 v pc l st S k = some (.inr (.inl x)) from h)).elim
  | 23, h => exact absurd (show hh23 M n a b e0 v pc l st S k = some (.inr (.inl x)) from h) (by unfold hh23; split <;> (intro q; cases q))
  | 24, h => exact absurd (show hh24 M n a b e0 v pc l st S k = some (.inr (.inl x)) from h) (by unfold hh24; split <;> (intro q; cases q))
  | 25, h => exact absurd (show hh25 M n a b e0 v pc l st S k = some (.inr (.inl x)) from h) (by unfold hh25; split <;> (intro q; cases q))
  | 26, h => exact (nc_26 (show hh26 M n a b e0 v pc l st S k = some (.inr (.inl x)) from h)).elim
  | 27, h => exact (nc_27 (show hh27 M n a b e0 v pc l st S k = some (.inr (.inl x)) from h)).elim
  | 28, h => exact (nc_28 (show hh28 M n a b e0 v pc l st S k = some (.inr (.inl x)) from h)).elim
  | 29, h => exact (nc_29 (show hh29 M n a b e0 v pc l st S k = some (.inr (.inl x)) from h)).elim
  | 30, _ => simp
  | 31, _ => simp
  | 32, _ => simp
  | 33, h => exact (nc_33 (show hh33 M n a b e0 v pc l st S k = some (.inr (.inl x)) from h)).elim
  | 34, h => exact (nc_34 (show hh34 M n a b e0 v pc l st S k = some (.inr (.inl x)) from h)).elim
  | 35, h => exact absurd (show hh35 M n a b e0 v pc l st S k = some (.inr (.inl x)) from h) (by unfold hh35; split <;> (intro q; cases q))
  | 36, h => exact (nc_36 (show hh36 M n a b e0 v pc l st S k = some (.inr (.inl x)) from h)).elim
  | 37, h => exact (nc_37 (show hh37 M n a b e0 v pc l st S k = some (.inr (.inl x)) from h)).elim
  | 38, h => exact (nc_38 (show hh38 M n a b e0 v pc l st S k = some (.inr (.inl x)) from h)).elim
  | 39, h => exact (nc_39 (show hh39 M n a b e0 v pc l st S k = some (.inr (.inl x)) from h)).elim
  | 40, h => exact (nc_40 (show hh40 M n a b e0 v pc l st S k = some (.inr (.inl x)) from h)).elim
  | 41, h => exact (nc_41 (show hh41 M n a b e0 v pc l st S k = some (.inr (.inl x)) from h)).elim
  | 42, h => exact (nc_42 (show hh42 M n a b e0 v pc l st S k = some (.inr (.inl x)) from h)).elim
  | 43, h => exact (nc_43 (show hh43 M n a b e0 v pc l st S k = some (.inr (.inl x)) from h)).elim
  | 44, h => exact (nc_44 (show hh44 M n a b e0 v pc l st S k = some (.inr (.inl x)) from h)).elim
  | 45, _ => simp
  | 46, _ => simp
  | 47, h => exact (nc_47 (show hh47 M n a b e0 v pc l st S k = some (.inr (.inl x)) from h)).elim
  | 48, h => exact (nc_48 (show hh48 M n a b e0 v pc l st S k = some (.inr (.inl x)) from h)).elim
  | q + 49, h => exact absurd (show none = some _ from h) (by intro q; cases q)
theorem is_fin {M : mM} {code n a b e0 pc : Nat} {v : Int32} {l st : List Value} {S : mS} {k : Nat} {x : mR} (h : mx1 M (code, n, a, b, e0, v) pc l st S k = some (.inr (.inr x))) : code = 23 ∨ code = 24 ∨ code = 25 ∨ code = 35 := by
  match code, h with
  | 0, h => exact (nc_0 (show hh0 M n a b e0 v pc l st S k = some (.inr (.inr x)) from h)).elim
  | 1, h => exact (nc_1 (show hh1 M n a b e0 v pc l st S k = some (.inr (.inr x)) from h)).elim
  | 2, h => exact (nc_2 (show hh2 M n a b e0 v pc l st S k = some (.inr (.inr x)) from h)).elim
  | 3, h => exact (nc_3 (show hh3 M n a b e0 v pc l st S k = some (.inr (.inr x)) from h)).elim
  | 4, h => exact (nc_4 (show hh4 M n a b e0 v pc l st S k = some (.inr (.inr x)) from h)).elim
  | 5, h => exact (nc_5 (show hh5 M n a b e0 v pc l st S k = some (.inr (.inr x)) from h)).elim
  | 6, h => exact (nc_6 (show hh6 M n a b e0 v pc l st S k = some (.inr (.inr x)) from h)).elim
  | 7, h => exact (nc_7 (show hh7 M n a b e0 v pc l st S k = some (.inr (.inr x)) from h)).elim
  | 8, h => exact (nc_8 (show hh8 M n a b e0 v pc l st S k = some (.inr (.inr x)) from h)).elim
  | 9, h => exact (nc_9 (show hh9 M n a b e0 v pc l st S k = some (.inr (.inr x)) from h)).elim
  | 10, h => exact (nc_10 (show hh10 M n a b e0 v pc l st S k = some (.inr (.inr x)) from h)).elim
  | 11, h => exact (nc_11 (show hh11 M n a b e0 v pc l st S k = some (.inr (.inr x)) from h)).elim
  | 12, h => exact (nc_12 (show hh12 M n a b e0 v pc l st S k = some (.inr (.inr x)) from h)).elim
  | 13, h => exact (nc_13 (show hh13 M n a b e0 v pc l st S k = some (.inr (.inr x)) from h)).elim
  | 14, h => exact (nc_14 (show hh14 M n a b e0 v pc l st S k = some (.inr (.inr x)) from h)).elim
  | 15, h => exact (nc_15 (show hh15 M n a b e0 v pc l st S k = some (.inr (.inr x)) from h)).elim
  | 16, h => exact (nc_16 (show hh16 M n a b e0 v pc l st S k = some (.inr (.inr x)) from h)).elim
  | 17, h => exact (nc_17 (show hh17 M n a b e0 v pc l st S k = some (.inr (.inr x)) from h)).elim
  | 18, h => exact (nc_18 (show hh18 M n a b e0 v pc l st S k = some (.inr (.inr x)) from h)).elim
  | 19, h => exact (nc_19 (show hh19 M n a b e0 v pc l st S k = some (.inr (.inr x)) from h)).elim
  | 20, h => exact (nc_20 (show hh20 M n a b e0 v pc l st S k = some (.inr (.inr x)) from h)).elim
  | 21, h => exact (nc_21 (show hh21 M n a b e0 v pc l st S k = some (.inr (.inr x)) from h)).elim
  | 22, h => exact (nc_22 (show hh22 M n a b e0 v pc l st S k = some (.inr (.inr x)) from h)).elim
  | 23, _ => simp
  | 24, _ => simp
  | 25, _ => simp
  | 26, h => exact (nc_26 (show hh26 M n a b e0 v pc l st S k = some (.inr (.inr x)) from h)).elim
  | 27, h => exact (nc_27 (show hh27 M n a b e0 v pc l st S k = some (.inr (.inr x)) from h)).elim
  | 28, h => exact (nc_28 (show hh28 M n a b e0 v pc l st S k = some (.inr (.inr x)) from h)).elim
  | 29, h => exact (nc_29 (show hh29 M n a b e0 v pc l st S k = some (.inr (.inr x)) from h)).elim
  | 30, h => exact (cal_nf (show hh30 M n a b e0 v pc l st S k = some (.inr (.inr x)) from h)).elim
  | 31, h => exact (cal_nf (show hh31 M n a b e0 v pc l st S k = some (.inr (.inr x)) from h)).elim
  | 32, h => exact (cal_nf (show hh32 M n a b e0 v pc l st S k = some (.inr (.inr x)) from h)).elim
  | 33, h => exact (nc_33 (show hh33 M n a b e0 v pc l st S k = some (.inr (.inr x)) from h)).elim
  | 34, h => exact (nc_34 (show hh34 M n a b e0 v pc l st S k = some (.inr (.inr x)) from h)).elim
  | 35, _ => simp
  | 36, h => exact (nc_36 (show hh36 M n a b e0 v pc l st S k = some (.inr (.inr x)) from h)).elim
  | 37, h => exact (nc_37 (show hh37 M n a b e0 v pc l st S k = some (.inr (.inr x)) from h)).elim
  | 38, h => exact (nc_38 (show hh38 M n a b e0 v pc l st S k = some (.inr (.inr x)) from h)).elim
  | 39, h => exact (nc_39 (show hh39 M n a b e0 v pc l st S k = some (.inr (.inr x)) from h)).elim
  | 40, h => exact (nc_40 (show hh40 M n a b e0 v pc l st S k = some (.inr (.inr x)) from h)).elim
  | 41, h => exact (nc_41 (show hh41 M n a b e0 v pc l st S k = some (.inr (.inr x)) from h)).elim
  | 42, h => exact (nc_42 (show hh42 M n a b e0 v pc l st S k = some (.inr (.inr x)) from h)).elim
  | 43, h => exact (nc_43 (show hh43 M n a b e0 v pc l st S k = some (.inr (.inr x)) from h)).elim
  | 44, h => exact (nc_44 (show hh44 M n a b e0 v pc l st S k = some (.inr (.inr x)) from h)).elim
  | 45, h => exact (cal_nf (show hh45 M n a b e0 v pc l st S k = some (.inr (.inr x)) from h)).elim
  | 46, h =>
    replace h : hh46 M n a b e0 v pc l st S k = some (.inr (.inr x)) := h
    unfold hh46 at h
    split at h
    · split at h <;> exact (cal_nf h).elim
    · cases h
  | 47, h => exact (nc_47 (show hh47 M n a b e0 v pc l st S k = some (.inr (.inr x)) from h)).elim
  | 48, h => exact (nc_48 (show hh48 M n a b e0 v pc l st S k = some (.inr (.inr x)) from h)).elim
  | q + 49, h => exact absurd (show none = some _ from h) (by intro q; cases q)
theorem snd (hSt : StrOK) (htab : ∀ j M, tab j = some M → okM tab M ∧ plainName M.1.cls = true) (hst : lau.stackTraces = false) : ∀ (n d : Nat) (M : mM) (cf : mC) (r : mR), okM tab M → run tab n d M cf = some r →
    ∀ {p : Program} {e : Env} {s : State} {m : MethodId} {args : Array Value} {below : List Frame} {meth : Method} {c : Code}, Fr D cy M p s m args meth c → z ≤ s.heap.size → mX z ad s →
      Wt p lau e (mRm d M) s m args below meth c (mQQ below z D ad cy M r args s) z D ad cy M cf := by
  intro n
  induction n with
  | zero => intro d M cf r _ h; cases h
  | succ n ih =>
    intro d M cf r hM h p e s m args below meth c F hz hX
    obtain ⟨pc, l, st, S, k⟩ := cf
    simp only [run] at h
    split at h
    · rename_i c1 c2 hb hm
      have hkm : k ≤ M.2.2.2.2.1 := Nat.le_of_ble_eq_true hb
      simp only [mx] at hm
      split at hm
      · rename_i o hlk
        obtain ⟨ps, hok⟩ := hM pc o hlk
        obtain ⟨code, n0, a, b, e0, v⟩ := o
        exact mx_step hSt F hX hz rfl hkm hok hm (fun _ => ih d M c1 r hM h F hz hX) (fun q => by cases q)
      · cases hm
    · rename_i c1 c2 hb hm
      have hkm : k ≤ M.2.2.2.2.1 := Nat.le_of_ble_eq_true hb
      simp only [mx] at hm
      split at hm
      · rename_i o hlk
        obtain ⟨ps, hok⟩ := hM pc o hlk
        obtain ⟨code, n0, a, b, e0, v⟩ := o
        exact mx_step hSt F hX hz rfl hkm hok hm (fun q => by cases q) (fun _ => ⟨c2, rfl, ih d M c2 r hM h F hz hX⟩)
      · cases hm
    · rename_i j as ct hb hm
      have hkm : k ≤ M.2.2.2.2.1 := Nat.le_of_ble_eq_true hb
      simp only [mx] at hm
      split at hm
      · rename_i o hlk
        obtain ⟨ps, hok⟩ := hM pc o hlk
        obtain ⟨code, n0, a, b, e0, v⟩ := o
        split at h
        · rename_i d' M' htj
          have hcon : ∀ r', ct.2.2.2.1 = S → Nat.ble as.length M'.2.2.1 = true → as.all (fun v => v.category == 1) = true → run tab n d' M' (0, mkM M'.2.2.2.2.2.2 0 (mIn M'.2.2.1 as), [], ct.2.2.2.1, 0) = some r' → mCon lau z D ad cy (mX z ad) d' M' as S r' := by
            intro r' hcs hlen hall hrun
            refine mCon_of (htab j M' htj).2 (Nat.le_of_ble_eq_true hlen) (fun w hw => by simpa using List.all_eq_true.mp hall w hw) ?_
            intro p e s m args below meth c F hz hX
            rw [hcs] at hrun
            exact ih d' M' _ r' (htab j M' htj).1 hrun F hz hX
          have fin : ∀ (r' : mR), (ct.2.2.2.1 = S → mCon lau z D ad cy (mX z ad) d' M' as S r') → (∀ w, r'.1 = .inl w → Wt p lau e (mRm (d' + 1) M) s m args below meth c (mQQ below z D ad cy M r args s) z D ad cy M (mPu w ct r'.2)) → (∀ x, r'.1 = .inr x → r = r' ∧ M'.2.2.2.2.1 ≠ 0) →
              Wt p lau e (mRm (d' + 1) M) s m args below meth c (mQQ below z D ad cy M r args s) z D ad cy M (pc, l, st, S, k) := by
            intro r' hc kk kx
            have hS : ∀ {x : Nat} {j0 n' b' mc' : Nat}, cal M x j0 n' b' mc' l st S k = some (.inr (.inl (j, as, ct))) → ct.2.2.2.1 = S ∧ j = j0 := fun q => by
              obtain ⟨h8, -, h9, -⟩ := cal_inv q
              rw [h9]
              exact ⟨rfl, h8⟩
            have ex : M'.2.2.2.2.1 = 0 → ∃ w, r'.1 = .inl w := fun h0 => by
              cases hr : r'.1 with
              | inl w => exact ⟨w, rfl⟩
              | inr x => exact absurd h0 (kx x hr).2
            rcases is_call hm with rfl | rfl | rfl | rfl | rfl
            · replace hm : cal M (pc + n0) a b (v.toNatClampNeg / 64) (v.toNatClampNeg % 64) l st S k = some (.inr (.inl (j, as, ct))) := hm
              have hk2 := (dk2 hok).2
              have h3 : n0 = 3 := by
                simp only [okV] at hk2
                split at hk2
                · simp only [Bool.and_eq_true, beq_iff_eq] at hk2
                  exact hk2.1.1.1.1.1.1.1.1.1.1.1.1.1
                · cases hk2
              subst h3
              exact call_30 F hz hX rfl (dk2 hok).1 hk2 hm htj (hc (hS hm).1) kk (fun x hx => (kx x hx).1)
            · replace hm : cal M (pc + n0) a b 0 (v.toNatClampNeg % 64) l st S k = some (.inr (.inl (j, as, ct))) := hm
              have hk2 := (dk2 hok).2
              have h3 : n0 = 3 := by
                simp only [okS] at hk2
                split at hk2
                · simp only [Bool.and_eq_true, beq_iff_eq] at hk2
                  exact hk2.1.1.1.1.1.1.1.1.1
                · cases hk2
              subst h3
              exact call_31 F hz hX rfl (dk2 hok).1 hk2 hm htj (hc (hS hm).1) kk (fun x hx => (kx x hx).1)
            · replace hm : cal M (pc + n0) a b 0 (v.toNatClampNeg % 64) l st S k = some (.inr (.inl (j, as, ct))) := hm
              have hk2 := (dk2 hok).2
              obtain ⟨hcs, rfl⟩ := hS hm
              obtain ⟨w, hw⟩ := ex (okN_0 hk2 htj)
              have h3 : n0 = 3 := by
                simp only [okN, htj, Bool.and_eq_true, beq_iff_eq] at hk2
                exact hk2.1.1.1.1.1.1.1.1.1.1
              subst h3
              exact call_32 F hz hX rfl (dk2 hok).1 hk2 hm htj (hc hcs) hw (kk w hw)
            · replace hm : cal M (pc + n0) a b (v.toNatClampNeg / 64) (v.toNatClampNeg % 64) l st S k = some (.inr (.inl (j, as, ct))) := hm
              have hk2 := (dk2 hok).2
              obtain ⟨hcs, rfl⟩ := hS hm
              obtain ⟨w, hw⟩ := ex (okU_0 hk2 htj)
              have h3 : n0 = 3 := by
                simp only [okU] at hk2
                split at hk2
                · simp only [Bool.and_eq_true, beq_iff_eq] at hk2
                  exact hk2.1.1.1.1.1.1.1.1.1.1.1.1.1.1
                · cases hk2
              subst h3
              exact call_45 F hz hX rfl (dk2 hok).1 hk2 hm htj (hc hcs) hw (kk w hw)
            · replace hm : hh46 M n0 a b e0 v pc l st S k = some (.inr (.inl (j, as, ct))) := hm
              have hk2 := (dk2 hok).2
              simp only [okA, Bool.and_eq_true] at hk2
              unfold hh46 at hm
              split at hm
              · split at hm
                · obtain ⟨hcs, rfl⟩ := hS hm
                  obtain ⟨w, hw⟩ := ex (okA1_0 hk2.1 htj)
                  have h3 : n0 = 3 := by
                    have h9 := hk2.1
                    simp only [okA1] at h9
                    split at h9
                    · simp only [Bool.and_eq_true, beq_iff_eq] at h9
                      exact h9.1.1.1.1.1.1.1.1.1.1
                    · cases h9
                  subst h3
                  exact call_46 F hz hX rfl (dk2 hok).1 hk2.1 hm htj (hc hcs) hw (kk w hw)
                · obtain ⟨hcs, rfl⟩ := hS hm
                  obtain ⟨w, hw⟩ := ex (okA1_0 hk2.2 htj)
                  have h3 : n0 = 3 := by
                    have h9 := hk2.2
                    simp only [okA1] at h9
                    split at h9
                    · simp only [Bool.and_eq_true, beq_iff_eq] at h9
                      exact h9.1.1.1.1.1.1.1.1.1.1
                    · cases h9
                  subst h3
                  exact call_46 F hz hX rfl (dk2 hok).1 hk2.2 hm htj (hc hcs) hw (kk w hw)
              · cases hm
          split at h
          · rename_i w S' h1 h2 h3
            exact fin (.inl w, S') (fun hcs => hcon _ hcs h1 h2 h3) (fun w' hw' => by cases hw'; exact ih (d' + 1) M _ r hM h F hz hX) (fun x hx => by cases hx)
          · rename_i x S' h1 h2 h3
            split at h
            · cases h
            · rename_i q hq
              cases h
              exact fin (.inr x, S') (fun hcs => hcon _ hcs h1 h2 h3) (fun w' hw' => by cases hw') (fun x hx => ⟨rfl, by rw [hq]; exact Nat.succ_ne_zero q⟩)
          · cases h
        · cases h
      · cases hm
    · rename_i r0 hb hm
      have hkm : k ≤ M.2.2.2.2.1 := Nat.le_of_ble_eq_true hb
      cases h
      simp only [mx] at hm
      split at hm
      · rename_i o hlk
        obtain ⟨ps, hok⟩ := hM pc o hlk
        obtain ⟨code, n0, a, b, e0, v⟩ := o
        rcases is_fin hm with rfl | rfl | rfl | rfl
        · exact fin_23 F (dk2 hok).1 (dk2 hok).2 hm hkm
        · exact fin_24 F (dk2 hok).1 (dk2 hok).2 hm hkm
        · exact fin_25 F (dk2 hok).1 (dk2 hok).2 hm hkm
        · exact fin_35 F hst hX rfl hok hm
      · cases hm
    · cases h
/-- a run of a method of the table is its contract -/
theorem snd_con (hSt : StrOK) (htab : ∀ j M, tab j = some M → okM tab M ∧ plainName M.1.cls = true) (hst : lau.stackTraces = false) {n d : Nat} {M : mM} {as : List Value} {S : mS} {r : mR} {j : Nat} (hj : tab j = some M) (hn : as.length ≤ M.2.2.1) (hc : ∀ w ∈ as, w.category = 1)
    (h : run tab n d M (0, mkM M.2.2.2.2.2.2 0 (mIn M.2.2.1 as), [], S, 0) = some r) : mCon lau z D ad cy (mX z ad) d M as S r :=
  mCon_of (htab j M hj).2 hn hc (fun F hz hX => snd hSt htab hst n d M _ r (htab j M hj).1 h F hz hX)
end MN4
