/-! ahead, when, late -/
section D
variable {F : Nat} {S : mS} {A : aL}
/-- alike for one ledge -/
def AgL (l : Nat) (c c' : Nat → Int32) : Prop := c 3 = c' 3 ∧ c 4 = c' 4 ∧ ∀ w, w < 5 → c (16 + l * 5 + w) = c' (16 + l * 5 + w)
theorem AgL.fresh {l : Nat} {c c' : Nat → Int32} (h : AgL l c c') : freshV c l = freshV c' l := by
  unfold freshV; rw [h.2.2 3 (by omega), h.2.2 2 (by omega)]
theorem AgL.isF {l : Nat} {c c' : Nat → Int32} (h : AgL l c c') : isF c l = isF c' l := by
  show decide (nI 0 < freshV c l) = decide (nI 0 < freshV c' l)
  rw [h.fresh]
theorem AgL.facts {l : Nat} {c c' : Nat → Int32} {k w : Int32} (h : AgL l c c') : facts c l k w = facts c' l k w := by
  funext i
  show (if i < 5 then _ else _) = (if i < 5 then _ else _)
  rw [h.1, h.isF]
  split
  · rename_i hi; exact h.2.2 i hi
  · rfl
theorem AgL.sum {l kind : Nat} {c c' : Nat → Int32} {k w : Int32} (h : AgL l c c') : sumV A kind c l k w = sumV A kind c' l k w := by
  unfold sumV
  rw [h.facts]
theorem AgL.lays {l : Nat} {c c' : Nat → Int32} (h : AgL l c c') : laysV A c l = laysV A c' l := by
  unfold laysV
  rw [h.sum, h.2.1, h.2.2 4 (by omega)]
end D
