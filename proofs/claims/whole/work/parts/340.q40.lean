/-! texts: THE LAW's conditions, as such -/
def gNi (i : Nat) : Nat := if i = 0 then 17 else if i < 5 then i else i + 13
def gNm (l : List Nat) : Option Nat := eg_fd (fun i => decide (l = strN (gNi i))) 8 0
abbrev gR : Type := Nat ⊕ (Nat × List Nat)
def gB (r : gR) (f : Nat → List Nat → gR) : gR := match r with
  | .inl e => .inl e
  | .inr (p, cs) => f p cs
def gPart (B : Nat → Nat) (t p : Nat) : gR :=
  if p < t ∧ tDig (B p) = true then (match tN B t 0 999 p with
    | some v => .inr (tSk B t (tE B t p), [v])
    | none => .inl p)
  else (match gNm (tWl B t p) with
    | some i => .inr (tSk B t (tWd B t p), [1000 + i])
    | none => .inl p)
def gSL (B : Nat → Nat) (t : Nat) : Nat → Nat → gR
  | 0, p => .inl p
  | m + 1, p => if tSg B t p 43 = true then gB (gPart B t (tSk B t (p + 1))) (fun p1 c => gB (gSL B t m p1) (fun p2 cs => .inr (p2, c ++ 2005 :: cs))) else .inr (p, [])
def gSum (B : Nat → Nat) (t p : Nat) : gR := gB (gPart B t p) (fun p1 c => gB (gSL B t 401 p1) (fun p2 cs => .inr (p2, c ++ cs)))
def gC (B : Nat → Nat) (t : Nat) : Nat → Nat → Nat → Nat → gR
  | 0, _, _, p => .inl p
  | n + 1, g, d, p => match g with
    | 0 =>
      if d < 6 ∧ tWl B t p = strN 15 then gB (gC B t n 0 (d + 1) (tSk B t (tWd B t p))) (fun p1 cs => .inr (p1, cs ++ [2000]))
      else if d < 6 ∧ tSg B t p 40 = true then gB (gC B t n 1 (d + 1) (tSk B t (p + 1))) (fun p1 cs => if tSg B t p1 41 = true then .inr (tSk B t (p1 + 1), cs) else .inl p1)
      else if tWl B t p = strN 16 then .inr (tSk B t (tWd B t p), [1008])
      else gB (gSum B t p) (fun p1 c1 =>
        if tSg B t p1 60 = true then gB (gSum B t (tSk B t (p1 + 1))) (fun p2 c2 => .inr (p2, c1 ++ (c2 ++ [2003])))
        else if tSg B t p1 62 = true then gB (gSum B t (tSk B t (p1 + 1))) (fun p2 c2 => .inr (p2, c1 ++ (c2 ++ [2004]))) else .inl p1)
    | 1 => gB (gC B t n 2 d p) (fun p1 c1 => gB (gC B t n 4 d p1) (fun p2 c2 => .inr (p2, c1 ++ c2)))
    | 2 => gB (gC B t n 0 d p) (fun p1 c1 => gB (gC B t n 3 d p1) (fun p2 c2 => .inr (p2, c1 ++ c2)))
    | 3 => if tWl B t p = strN 21 then gB (gC B t n 0 d (tSk B t (tWd B t p))) (fun p1 c1 => gB (gC B t n 3 d p1) (fun p2 c2 => .inr (p2, c1 ++ 2001 :: c2))) else .inr (p, [])
    | _ => if tWl B t p = strN 22 then gB (gC B t n 2 d (tSk B t (tWd B t p))) (fun p1 c1 => gB (gC B t n 4 d p1) (fun p2 c2 => .inr (p2, c1 ++ 2002 :: c2))) else .inr (p, [])
theorem gB_inr {r : gR} {f : Nat → List Nat → gR} {x : Nat × List Nat} (h : gB r f = .inr x) : ∃ p1 c1, r = .inr (p1, c1) ∧ f p1 c1 = .inr x := by
  match r, h with
  | .inl _, h => cases h
  | .inr (p1, c1), h => exact ⟨p1, c1, rfl, h⟩
section T
variable {B : Nat → Nat} {t : Nat}
theorem gC_0 {n d p : Nat} : gC B t (n + 1) 0 d p =
      (if d < 6 ∧ tWl B t p = strN 15 then gB (gC B t n 0 (d + 1) (tSk B t (tWd B t p))) (fun p1 cs => .inr (p1, cs ++ [2000]))
      else if d < 6 ∧ tSg B t p 40 = true then gB (gC B t n 1 (d + 1) (tSk B t (p + 1))) (fun p1 cs => if tSg B t p1 41 = true then .inr (tSk B t (p1 + 1), cs) else .inl p1)
      else if tWl B t p = strN 16 then .inr (tSk B t (tWd B t p), [1008])
      else gB (gSum B t p) (fun p1 c1 =>
        if tSg B t p1 60 = true then gB (gSum B t (tSk B t (p1 + 1))) (fun p2 c2 => .inr (p2, c1 ++ (c2 ++ [2003])))
        else if tSg B t p1 62 = true then gB (gSum B t (tSk B t (p1 + 1))) (fun p2 c2 => .inr (p2, c1 ++ (c2 ++ [2004]))) else .inl p1)) := rfl
theorem gC_1 {n d p : Nat} : gC B t (n + 1) 1 d p = gB (gC B t n 2 d p) (fun p1 c1 => gB (gC B t n 4 d p1) (fun p2 c2 => .inr (p2, c1 ++ c2))) := rfl
theorem gC_2 {n d p : Nat} : gC B t (n + 1) 2 d p = gB (gC B t n 0 d p) (fun p1 c1 => gB (gC B t n 3 d p1) (fun p2 c2 => .inr (p2, c1 ++ c2))) := rfl
theorem gC_3 {n d p : Nat} : gC B t (n + 1) 3 d p = (if tWl B t p = strN 21 then gB (gC B t n 0 d (tSk B t (tWd B t p))) (fun p1 c1 => gB (gC B t n 3 d p1) (fun p2 c2 => .inr (p2, c1 ++ 2001 :: c2))) else .inr (p, [])) := rfl
theorem gC_4 {n d p : Nat} : gC B t (n + 1) 4 d p = (if tWl B t p = strN 22 then gB (gC B t n 2 d (tSk B t (tWd B t p))) (fun p1 c1 => gB (gC B t n 4 d p1) (fun p2 c2 => .inr (p2, c1 ++ 2002 :: c2))) else .inr (p, [])) := rfl
theorem tSg_p {p s : Nat} (h : tSg B t p s = true) : p < t ∧ B p = s := of_decide_eq_true h
theorem tWd_str {p k : Nat} (hk : k < 23) (h : tWl B t p = strN k) : p + 2 ≤ tWd B t p := by
  have := sw_len hk
  unfold tWd; rw [h]; omega
theorem gNi_lt {i : Nat} (h : i < 8) : gNi i < 23 := by
  unfold gNi; split
  · omega
  · split <;> omega
theorem gNm_p {l : List Nat} {i : Nat} (h : gNm l = some i) : i < 8 ∧ l = strN (gNi i) := by
  unfold gNm at h
  have hl := eg_fd_lt h
  refine ⟨by omega, ?_⟩
  have key : ∀ (m j : Nat), eg_fd (fun i => decide (l = strN (gNi i))) m j = some i → l = strN (gNi i) := by
    intro m
    induction m with
    | zero => intro j h; cases h
    | succ m ih =>
      intro j h
      rw [eg_fd] at h
      split at h
      · rename_i g; cases h; exact of_decide_eq_true g
      · exact ih (j + 1) h
  exact key 8 0 h
theorem gNm_n {l : List Nat} (h : gNm l = none) {i : Nat} (hi : i < 8) : ¬ l = strN (gNi i) := by
  intro e
  obtain ⟨j, hj⟩ := eg_fd_ex (P := fun i => decide (l = strN (gNi i))) (m := 8) (i := 0) (j := i) (by omega) (by omega) (decide_eq_true e)
  unfold gNm at h
  rw [hj] at h; cases h
theorem gPart_p {p p' : Nat} {cs : List Nat} (hp : p ≤ t) (h : gPart B t p = .inr (p', cs)) : cs.length = 1 ∧ p + 1 ≤ p' ∧ p' ≤ t := by
  unfold gPart at h
  split at h
  · split at h
    · rename_i v hv
      cases h
      have h1 := tN_p hv
      have h2 := tE_p (B := B) hp
      have h3 := tSk_ge (B := B) h2.2.1
      exact ⟨rfl, by omega, tSk_le h2.2.1⟩
    · cases h
  · split at h
    · rename_i i hi
      cases h
      have h1 := gNm_p hi
      have h2 := tWd_str (gNi_lt h1.1) h1.2
      have h3 := tSk_ge (B := B) (tWd_le (B := B) hp)
      exact ⟨rfl, by omega, tSk_le (tWd_le hp)⟩
    · cases h
theorem gSL_p : ∀ {m p p' : Nat} {cs : List Nat}, p ≤ t → gSL B t m p = .inr (p', cs) → p + cs.length ≤ p' ∧ p' ≤ t
  | 0, _, _, _, _, h => by cases h
  | m + 1, p, p', cs, hp, h => by
    rw [gSL] at h
    split at h
    · rename_i g
      have hg := tSg_p g
      obtain ⟨p1, c1, h1, h2⟩ := gB_inr h
      obtain ⟨p2, c2, h3, h4⟩ := gB_inr h2
      cases h4
      have hs := tSk_ge (B := B) (show p + 1 ≤ t by omega)
      have q1 := gPart_p (tSk_le (by omega)) h1
      have q2 := gSL_p q1.2.2 h3
      rw [List.length_append, List.length_cons]
      omega
    · cases h; exact ⟨by simp, hp⟩
theorem gSum_p {p p' : Nat} {cs : List Nat} (hp : p ≤ t) (h : gSum B t p = .inr (p', cs)) : 1 ≤ cs.length ∧ p + cs.length ≤ p' ∧ p' ≤ t := by
  unfold gSum at h
  obtain ⟨p1, c1, h1, h2⟩ := gB_inr h
  obtain ⟨p2, c2, h3, h4⟩ := gB_inr h2
  cases h4
  have q1 := gPart_p hp h1
  have q2 := gSL_p q1.2.2 h3
  rw [List.length_append]; omega
theorem gC_p : ∀ {n g d p p' : Nat} {cs : List Nat}, p ≤ t → gC B t n g d p = .inr (p', cs) → p + cs.length ≤ p' ∧ p' ≤ t ∧ (g ≤ 2 → 1 ≤ cs.length)
  | 0, _, _, _, _, _, _, h => by cases h
  | n + 1, 0, d, p, p', cs, hp, h => by
    rw [gC_0] at h
    have hw := tSk_ge (B := B) (tWd_le (B := B) hp)
    have hw2 := tSk_le (B := B) (tWd_le (B := B) hp)
    split at h
    · rename_i g
      obtain ⟨p1, c1, h1, h2⟩ := gB_inr h
      cases h2
      have hs := tWd_str (by omega) g.2
      have q := gC_p hw2 h1
      rw [List.length_append, List.length_singleton]; omega
    · split at h
      · rename_i g
        have hg := tSg_p g.2
        obtain ⟨p1, c1, h1, h2⟩ := gB_inr h
        have hs := tSk_ge (B := B) (show p + 1 ≤ t by omega)
        have q := gC_p (tSk_le (by omega)) h1
        split at h2
        · rename_i g2
          have hg2 := tSg_p g2
          cases h2
          have hs2 := tSk_ge (B := B) (show p1 + 1 ≤ t by omega)
          exact ⟨by omega, tSk_le (by omega), fun _ => q.2.2 (by omega)⟩
        · cases h2
      · split at h
        · rename_i g
          cases h
          have hs := tWd_str (by omega) g
          rw [List.length_singleton]; omega
        · obtain ⟨p1, c1, h1, h2⟩ := gB_inr h
          have q1 := gSum_p hp h1
          split at h2
          · rename_i g
            have hg := tSg_p g
            obtain ⟨p2, c2, h3, h4⟩ := gB_inr h2
            cases h4
            have hs := tSk_ge (B := B) (show p1 + 1 ≤ t by omega)
            have q2 := gSum_p (tSk_le (by omega)) h3
            rw [List.length_append, List.length_append, List.length_singleton]; omega
          · split at h2
            · rename_i g
              have hg := tSg_p g
              obtain ⟨p2, c2, h3, h4⟩ := gB_inr h2
              cases h4
              have hs := tSk_ge (B := B) (show p1 + 1 ≤ t by omega)
              have q2 := gSum_p (tSk_le (by omega)) h3
              rw [List.length_append, List.length_append, List.length_singleton]; omega
            · cases h2
  | n + 1, 1, d, p, p', cs, hp, h => by
    rw [gC_1] at h
    obtain ⟨p1, c1, h1, h2⟩ := gB_inr h
    obtain ⟨p2, c2, h3, h4⟩ := gB_inr h2
    cases h4
    have q1 := gC_p hp h1
    have q2 := gC_p q1.2.1 h3
    rw [List.length_append]; omega
  | n + 1, 2, d, p, p', cs, hp, h => by
    rw [gC_2] at h
    obtain ⟨p1, c1, h1, h2⟩ := gB_inr h
    obtain ⟨p2, c2, h3, h4⟩ := gB_inr h2
    cases h4
    have q1 := gC_p hp h1
    have q2 := gC_p q1.2.1 h3
    rw [List.length_append]; omega
  | n + 1, 3, d, p, p', cs, hp, h => by
    rw [gC_3] at h
    split at h
    · rename_i g
      have hs := tWd_str (by omega) g
      have hw := tSk_ge (B := B) (tWd_le (B := B) hp)
      obtain ⟨p1, c1, h1, h2⟩ := gB_inr h
      obtain ⟨p2, c2, h3, h4⟩ := gB_inr h2
      cases h4
      have q1 := gC_p (tSk_le (tWd_le hp)) h1
      have q2 := gC_p q1.2.1 h3
      rw [List.length_append, List.length_cons]; omega
    · cases h; exact ⟨by simp, hp, by omega⟩
  | n + 1, g + 4, d, p, p', cs, hp, h => by
    have h : (if tWl B t p = strN 22 then gB (gC B t n 2 d (tSk B t (tWd B t p))) (fun p1 c1 => gB (gC B t n 4 d p1) (fun p2 c2 => .inr (p2, c1 ++ 2002 :: c2))) else .inr (p, [])) = (.inr (p', cs) : gR) := h
    split at h
    · rename_i g
      have hs := tWd_str (by omega) g
      have hw := tSk_ge (B := B) (tWd_le (B := B) hp)
      obtain ⟨p1, c1, h1, h2⟩ := gB_inr h
      obtain ⟨p2, c2, h3, h4⟩ := gB_inr h2
      cases h4
      have q1 := gC_p (tSk_le (tWd_le hp)) h1
      have q2 := gC_p q1.2.1 h3
      rw [List.length_append, List.length_cons]; omega
    · cases h; exact ⟨by simp, hp, by omega⟩
/-- types -/
def tyL : List Nat → List Bool → Option (List Bool)
  | [], T => some T
  | c :: cs, T => (tyStep c T).bind (tyL cs)
theorem tyL_app : ∀ {a b : List Nat} {T : List Bool}, tyL (a ++ b) T = (tyL a T).bind (tyL b)
  | [], b, T => rfl
  | c :: a, b, T => by
    show (tyStep c T).bind (tyL (a ++ b)) = ((tyStep c T).bind (tyL a)).bind (tyL b)
    cases tyStep c T with
    | none => rfl
    | some T' => show tyL (a ++ b) T' = (tyL a T').bind (tyL b); exact tyL_app
theorem ty_num {x : Nat} {T : List Bool} (h : x < 1008) (hT : T.length < 20) : tyStep x T = some (false :: T) := by
  unfold tyStep; rw [if_pos h, if_pos hT]
theorem ty_fr {T : List Bool} (hT : T.length < 20) : tyStep 1008 T = some (true :: T) := by
  unfold tyStep; rw [if_neg (by omega), if_pos rfl, if_pos hT]
theorem ty_not {T : List Bool} : tyStep 2000 (true :: T) = some (true :: T) := rfl
theorem ty_and {T : List Bool} : tyStep 2001 (true :: true :: T) = some (true :: T) := rfl
theorem ty_or {T : List Bool} : tyStep 2002 (true :: true :: T) = some (true :: T) := rfl
theorem ty_lt' {T : List Bool} : tyStep 2003 (false :: false :: T) = some (true :: T) := rfl
theorem ty_gt {T : List Bool} : tyStep 2004 (false :: false :: T) = some (true :: T) := rfl
theorem ty_pl {T : List Bool} : tyStep 2005 (false :: false :: T) = some (false :: T) := rfl
theorem gPart_ty {p p' : Nat} {cs : List Nat} {T : List Bool} (h : gPart B t p = .inr (p', cs)) (hT : T.length < 20) : tyL cs T = some (false :: T) := by
  unfold gPart at h
  split at h
  · split at h
    · rename_i v hv
      cases h
      have h1 := tN_p hv
      show (tyStep v T).bind (tyL []) = _
      rw [ty_num (by omega) hT]; rfl
    · cases h
  · split at h
    · rename_i i hi
      cases h
      have h1 := gNm_p hi
      show (tyStep (1000 + i) T).bind (tyL []) = _
      rw [ty_num (by omega) hT]; rfl
    · cases h
theorem gSL_ty : ∀ {m p p' : Nat} {cs : List Nat} {T : List Bool}, gSL B t m p = .inr (p', cs) → T.length + 1 < 20 → tyL cs (false :: T) = some (false :: T)
  | 0, _, _, _, _, h, _ => by cases h
  | m + 1, p, p', cs, T, h, hT => by
    rw [gSL] at h
    split at h
    · obtain ⟨p1, c1, h1, h2⟩ := gB_inr h
      obtain ⟨p2, c2, h3, h4⟩ := gB_inr h2
      cases h4
      rw [tyL_app, gPart_ty h1 (by rw [List.length_cons]; omega), Option.bind_some]
      show (tyStep 2005 (false :: false :: T)).bind (tyL c2) = _
      rw [ty_pl, Option.bind_some]
      exact gSL_ty h3 hT
    · cases h; rfl
theorem gSum_ty {p p' : Nat} {cs : List Nat} {T : List Bool} (h : gSum B t p = .inr (p', cs)) (hT : T.length + 1 < 20) : tyL cs T = some (false :: T) := by
  unfold gSum at h
  obtain ⟨p1, c1, h1, h2⟩ := gB_inr h
  obtain ⟨p2, c2, h3, h4⟩ := gB_inr h2
  cases h4
  rw [tyL_app, gPart_ty h1 (by omega), Option.bind_some]
  exact gSL_ty h3 hT
theorem gC_ty : ∀ {n g d p p' : Nat} {cs : List Nat} {T : List Bool}, d ≤ 6 → gC B t n g d p = .inr (p', cs) →
    (g = 0 → T.length ≤ 2 * d + 2 → tyL cs T = some (true :: T)) ∧ (g = 1 → T.length ≤ 2 * d → tyL cs T = some (true :: T)) ∧ (g = 2 → T.length ≤ 2 * d + 1 → tyL cs T = some (true :: T))
    ∧ (g = 3 → T.length ≤ 2 * d + 1 → tyL cs (true :: T) = some (true :: T)) ∧ (4 ≤ g → T.length ≤ 2 * d → tyL cs (true :: T) = some (true :: T))
  | 0, _, _, _, _, _, _, _, h => by cases h
  | n + 1, 0, d, p, p', cs, T, hd, h => by
    refine ⟨fun _ hT => ?_, fun e => by omega, fun e => by omega, fun e => by omega, fun e => by omega⟩
    rw [gC_0] at h
    split at h
    · rename_i g
      obtain ⟨p1, c1, h1, h2⟩ := gB_inr h
      cases h2
      rw [tyL_app, (gC_ty (T := T) (by omega) h1).1 rfl (by omega), Option.bind_some]
      show (tyStep 2000 (true :: T)).bind (tyL []) = _
      rw [ty_not]; rfl
    · split at h
      · rename_i g
        obtain ⟨p1, c1, h1, h2⟩ := gB_inr h
        split at h2
        · cases h2
          exact (gC_ty (T := T) (by omega) h1).2.1 rfl (by omega)
        · cases h2
      · split at h
        · cases h
          show (tyStep 1008 T).bind (tyL []) = _
          rw [ty_fr (by omega)]; rfl
        · obtain ⟨p1, c1, h1, h2⟩ := gB_inr h
          split at h2
          · obtain ⟨p2, c2, h3, h4⟩ := gB_inr h2
            cases h4
            rw [tyL_app, gSum_ty h1 (by omega), Option.bind_some, tyL_app, gSum_ty h3 (by rw [List.length_cons]; omega), Option.bind_some]
            show (tyStep 2003 (false :: false :: T)).bind (tyL []) = _
            rw [ty_lt']; rfl
          · split at h2
            · obtain ⟨p2, c2, h3, h4⟩ := gB_inr h2
              cases h4
              rw [tyL_app, gSum_ty h1 (by omega), Option.bind_some, tyL_app, gSum_ty h3 (by rw [List.length_cons]; omega), Option.bind_some]
              show (tyStep 2004 (false :: false :: T)).bind (tyL []) = _
              rw [ty_gt]; rfl
            · cases h2
  | n + 1, 1, d, p, p', cs, T, hd, h => by
    refine ⟨fun e => by omega, fun _ hT => ?_, fun e => by omega, fun e => by omega, fun e => by omega⟩
    rw [gC_1] at h
    obtain ⟨p1, c1, h1, h2⟩ := gB_inr h
    obtain ⟨p2, c2, h3, h4⟩ := gB_inr h2
    cases h4
    rw [tyL_app, (gC_ty (T := T) hd h1).2.2.1 rfl (by omega), Option.bind_some]
    exact (gC_ty (T := T) hd h3).2.2.2.2 (by omega) hT
  | n + 1, 2, d, p, p', cs, T, hd, h => by
    refine ⟨fun e => by omega, fun e => by omega, fun _ hT => ?_, fun e => by omega, fun e => by omega⟩
    rw [gC_2] at h
    obtain ⟨p1, c1, h1, h2⟩ := gB_inr h
    obtain ⟨p2, c2, h3, h4⟩ := gB_inr h2
    cases h4
    rw [tyL_app, (gC_ty (T := T) hd h1).1 rfl (by omega), Option.bind_some]
    exact (gC_ty (T := T) hd h3).2.2.2.1 rfl hT
  | n + 1, 3, d, p, p', cs, T, hd, h => by
    refine ⟨fun e => by omega, fun e => by omega, fun e => by omega, fun _ hT => ?_, fun e => by omega⟩
    rw [gC_3] at h
    split at h
    · obtain ⟨p1, c1, h1, h2⟩ := gB_inr h
      obtain ⟨p2, c2, h3, h4⟩ := gB_inr h2
      cases h4
      rw [tyL_app, (gC_ty (T := true :: T) hd h1).1 rfl (by rw [List.length_cons]; omega), Option.bind_some]
      show (tyStep 2001 (true :: true :: T)).bind (tyL c2) = _
      rw [ty_and, Option.bind_some]
      exact (gC_ty (T := T) hd h3).2.2.2.1 rfl hT
    · cases h; rfl
  | n + 1, g + 4, d, p, p', cs, T, hd, h => by
    refine ⟨fun e => by omega, fun e => by omega, fun e => by omega, fun e => by omega, fun _ hT => ?_⟩
    have h : (if tWl B t p = strN 22 then gB (gC B t n 2 d (tSk B t (tWd B t p))) (fun p1 c1 => gB (gC B t n 4 d p1) (fun p2 c2 => .inr (p2, c1 ++ 2002 :: c2))) else .inr (p, [])) = (.inr (p', cs) : gR) := h
    split at h
    · obtain ⟨p1, c1, h1, h2⟩ := gB_inr h
      obtain ⟨p2, c2, h3, h4⟩ := gB_inr h2
      cases h4
      rw [tyL_app, (gC_ty (T := true :: T) hd h1).2.2.1 rfl (by rw [List.length_cons]; omega), Option.bind_some]
      show (tyStep 2002 (true :: true :: T)).bind (tyL c2) = _
      rw [ty_or, Option.bind_some]
      exact (gC_ty (T := T) hd h3).2.2.2.2 (by omega) hT
    · cases h; rfl
/-- codes into the class's row, into the model's -/
def exF (h : Nat → Int32) (n : Nat) : List Nat → Nat → Int32
  | [] => h
  | c :: cs => exF (upd h n (nI c)) (n + 1) cs
def emF (w : Nat → Int32) (s : Nat) : List Nat → Nat → Int32
  | [] => w
  | c :: cs => emF (upd (upd w (1345 + 2 * s) (nI (stepOf c))) (1345 + 2 * s + 1) (nI (argOf c))) (s + 1) cs
theorem exF_app : ∀ {a b : List Nat} {h : Nat → Int32} {n : Nat}, exF h n (a ++ b) = exF (exF h n a) (n + a.length) b
  | [], b, h, n => rfl
  | c :: a, b, h, n => by
    show exF (upd h n (nI c)) (n + 1) (a ++ b) = exF (exF (upd h n (nI c)) (n + 1) a) (n + (a.length + 1)) b
    rw [exF_app, show n + 1 + a.length = n + (a.length + 1) by omega]
theorem emF_app : ∀ {a b : List Nat} {w : Nat → Int32} {s : Nat}, emF w s (a ++ b) = emF (emF w s a) (s + a.length) b
  | [], b, w, s => rfl
  | c :: a, b, w, s => by
    show emF _ (s + 1) (a ++ b) = emF (emF _ (s + 1) a) (s + (a.length + 1)) b
    rw [emF_app, show s + 1 + a.length = s + (a.length + 1) by omega]
theorem exF_lo : ∀ {cs : List Nat} {h : Nat → Int32} {n i : Nat}, i < n → exF h n cs i = h i
  | [], _, _, _, _ => rfl
  | c :: cs, h, n, i, hi => by
    show exF (upd h n (nI c)) (n + 1) cs i = h i
    rw [exF_lo (by omega), upd_n (by omega)]
theorem exF_at : ∀ {cs : List Nat} {h : Nat → Int32} {n i : Nat}, i < cs.length → exF h n cs (n + i) = nI (cs.getD i 0)
  | [], _, _, _, hi => absurd hi (by simp)
  | c :: cs, h, n, 0, _ => by
    show exF (upd h n (nI c)) (n + 1) cs (n + 0) = nI c
    rw [exF_lo (by omega), Nat.add_zero, upd_s]
  | c :: cs, h, n, i + 1, hi => by
    show exF (upd h n (nI c)) (n + 1) cs (n + (i + 1)) = nI (cs.getD i 0)
    rw [show n + (i + 1) = n + 1 + i by omega]
    exact exF_at (by simpa using hi)
theorem emF_lo : ∀ {cs : List Nat} {w : Nat → Int32} {s k : Nat}, k < 1345 + 2 * s → emF w s cs k = w k
  | [], _, _, _, _ => rfl
  | c :: cs, w, s, k, hk => by
    show emF _ (s + 1) cs k = w k
    rw [emF_lo (by omega), upd_n (by omega), upd_n (by omega)]
theorem emF_at : ∀ {cs : List Nat} {w : Nat → Int32} {s i : Nat}, i < cs.length → emF w s cs (1345 + 2 * (s + i)) = nI (stepOf (cs.getD i 0)) ∧ emF w s cs (1345 + 2 * (s + i) + 1) = nI (argOf (cs.getD i 0))
  | [], _, _, _, hi => absurd hi (by simp)
  | c :: cs, w, s, 0, _ => by
    constructor
    · show emF _ (s + 1) cs (1345 + 2 * (s + 0)) = nI (stepOf c)
      rw [Nat.add_zero s, emF_lo (by omega), upd_n (by omega), upd_s]
    · show emF _ (s + 1) cs (1345 + 2 * (s + 0) + 1) = nI (argOf c)
      rw [Nat.add_zero s, emF_lo (by omega), upd_s]
  | c :: cs, w, s, i + 1, hi => by
    have ih := emF_at (cs := cs) (w := upd (upd w (1345 + 2 * s) (nI (stepOf c))) (1345 + 2 * s + 1) (nI (argOf c))) (s := s + 1) (i := i) (by simpa using hi)
    rw [show s + 1 + i = s + (i + 1) by omega] at ih
    exact ih
end T
