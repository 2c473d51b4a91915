/-! texts: THE LAW's conditions, as such -/
def gNi (i : Nat) : Nat := if i = 0 then 17 else if i < 5 then i else i + 13
def gNm (l : List Nat) : Option Nat := eg_fd (fun i => decide (l = strN (gNi i))) 8 0
abbrev gR : Type := Nat ⊕ (Nat × List Nat)
def gB (r : gR) (f : Nat → List Nat → gR) : gR := match r with
  | .inl e => .inl e
  | .inr (p, cs) => f p cs
def gPart (B : Nat → Nat) (t p : Nat) : gR :=
  if p < t ∧ tDig (B p) = true then (match tN B t 0 999 p with
    | some v => .inr (tSk B t (tE B t p), [v])
    | none => .inl p)
  else (match gNm (tWl B t p) with
    | some i => .inr (tSk B t (tWd B t p), [1000 + i])
    | none => .inl p)
def gSL (B : Nat → Nat) (t : Nat) : Nat → Nat → gR
  | 0, p => .inl p
  | m + 1, p => if tSg B t p 43 = true then gB (gPart B t (tSk B t (p + 1))) (fun p1 c => gB (gSL B t m p1) (fun p2 cs => .inr (p2, c ++ 2005 :: cs))) else .inr (p, [])
def gSum (B : Nat → Nat) (t p : Nat) : gR := gB (gPart B t p) (fun p1 c => gB (gSL B t 401 p1) (fun p2 cs => .inr (p2, c ++ cs)))
def gC (B : Nat → Nat) (t : Nat) : Nat → Nat → Nat → Nat → gR
  | 0, _, _, p => .inl p
  | n + 1, g, d, p => match g with
    | 0 =>
      if d < 6 ∧ tWl B t p = strN 15 then gB (gC B t n 0 (d + 1) (tSk B t (tWd B t p))) (fun p1 cs => .inr (p1, cs ++ [2000]))
      else if d < 6 ∧ tSg B t p 40 = true then gB (gC B t n 1 (d + 1) (tSk B t (p + 1))) (fun p1 cs => if tSg B t p1 41 = true then .inr (tSk B t (p1 + 1), cs) else .inl p1)
      else if tWl B t p = strN 16 then .inr (tSk B t (tWd B t p), [1008])
      else gB (gSum B t p) (fun p1 c1 =>
        if tSg B t p1 60 = true then gB (gSum B t (tSk B t (p1 + 1))) (fun p2 c2 => .inr (p2, c1 ++ (c2 ++ [2003])))
        else if tSg B t p1 62 = true then gB (gSum B t (tSk B t (p1 + 1))) (fun p2 c2 => .inr (p2, c1 ++ (c2 ++ [2004]))) else .inl p1)
    | 1 => gB (gC B t n 2 d p) (fun p1 c1 => gB (gC B t n 4 d p1) (fun p2 c2 => .inr (p2, c1 ++ c2)))
    | 2 => gB (gC B t n 0 d p) (fun p1 c1 => gB (gC B t n 3 d p1) (fun p2 c2 => .inr (p2, c1 ++ c2)))
    | 3 => if tWl B t p = strN 21 then gB (gC B t n 0 d (tSk B t (tWd B t p))) (fun p1 c1 => gB (gC B t n 3 d p1) (fun p2 c2 => .inr (p2, c1 ++ 2001 :: c2))) else .inr (p, [])
    | _ => if tWl B t p = strN 22 then gB (gC B t n 2 d (tSk B t (tWd B t p))) (fun p1 c1 => gB (gC B t n 4 d p1) (fun p2 c2 => .inr (p2, c1 ++ 2002 :: c2))) else .inr (p, [])
theorem gB_inr {r : gR} {f : Nat → List Nat → gR} {x : Nat × List Nat} (h : gB r f = .inr x) : ∃ p1 c1, r = .inr (p1, c1) ∧ f p1 c1 = .inr x := by
  match r, h with
  | .inl _, h => cases h
  | .inr (p1, c1), h => exact ⟨p1, c1, rfl, h⟩
section T
variable {B : Nat → Nat} {t : Nat}
theorem gC_0 {n d p : Nat} : gC B t (n + 1) 0 d p =
      (if d < 6 ∧ tWl B t p = strN 15 then gB (gC B t n 0 (d + 1) (tSk B t (tWd B t p))) (fun p1 cs => .inr (p1, cs ++ [2000]))
      else if d < 6 ∧ tSg B t p 40 = true then gB (gC B t n 1 (d + 1) (tSk B t (p + 1))) (fun p1 cs => if tSg B t p1 41 = true then .inr (tSk B t (p1 + 1), cs) else .inl p1)
      else if tWl B t p = strN 16 then .inr (tSk B t (tWd B t p), [1008])
      else gB (gSum B t p) (fun p1 c1 =>
        if tSg B t p1 60 = true then gB (gSum B t (tSk B t (p1 + 1))) (fun p2 c2 => .inr (p2, c1 ++ (c2 ++ [2003])))
        else if tSg B t p1 62 = true then gB (gSum B t (tSk B t (p1 + 1))) (fun p2 c2 => .inr (p2, c1 ++ (c2 ++ [2004]))) else .inl p1)) := rfl
theorem gC_1 {n d p : Nat} : gC B t (n + 1) 1 d p = gB (gC B t n 2 d p) (fun p1 c1 => gB (gC B t n 4 d p1) (fun p2 c2 => .inr (p2, c1 ++ c2))) := rfl
theorem gC_2 {n d p : Nat} : gC B t (n + 1) 2 d p = gB (gC B t n 0 d p) (fun p1 c1 => gB (gC B t n 3 d p1) (fun p2 c2 => .inr (p2, c1 ++ c2))) := rfl
theorem gC_3 {n d p : Nat} : gC B t (n + 1) 3 d p = (if tWl B t p = strN 21 then gB (gC B t n 0 d (tSk B t (tWd B t p))) (fun p1 c1 => gB (gC B t n 3 d p1) (fun p2 c2 => .inr (p2, c1 ++ 2001 :: c2))) else .inr (p, [])) := rfl
theorem gC_4 {n d p : Nat} : gC B t (n + 1) 4 d p = (if tWl B t p = strN 22 then gB (gC B t n 2 d (tSk B t (tWd B t p))) (fun p1 c1 => gB (gC B t n 4 d p1) (fun p2 c2 => .inr (p2, c1 ++ 2002 :: c2))) else .inr (p, [])) := rfl
theorem tSg_p {p s : Nat} (h : tSg B t p s = true) : p < t ∧ B p = s := of_decide_eq_true h
theorem tWd_str {p k : Nat} (hk : k < 23) (h : tWl B t p = strN k) : p + 2 ≤ tWd B t p := by
  have := sw_len hk
  unfold tWd; rw [h]; omega
theorem gNi_lt {i : Nat} (h : i < 8) : gNi i < 23 := by
  unfold gNi; split
  · omega
  · split <;> omega
theorem gNm_p {l : List Nat} {i : Nat} (h : gNm l = some i) : i < 8 ∧ l = strN (gNi i) := by
  unfold gNm at h
  have hl := eg_fd_lt h
  refine ⟨by omega, ?_⟩
  have key : ∀ (m j : Nat), eg_fd (fun i => decide (l = strN (gNi i))) m j = some i → l = strN (gNi i) := by
    intro m
    induction m with
    | zero => intro j h; cases h
    | succ m ih =>
      intro j h
      rw [eg_fd] at h
      split at h
      · rename_i g; cases h; exact of_decide_eq_true g
      · exact ih (j + 1) h
  exact key 8 0 h
theorem gNm_n {l : List Nat} (h : gNm l = none) {i : Nat} (hi : i < 8) : ¬ l = strN (gNi i) := by
  intro e
  obtain ⟨j, hj⟩ := eg_fd_ex (P := fun i => decide (l = strN (gNi i))) (m := 8) (i := 0) (j := i) (by omega) (by omega) (decide_eq_true e)
  unfold gNm at h
  rw [hj] at h; cases h
theorem gPart_p {p p' : Nat} {cs : List Nat} (hp : p ≤ t) (h : gPart B t p = .inr (p', cs)) : cs.length = 1 ∧ p + 1 ≤ p' ∧ p' ≤ t := by
  unfold gPart at h
  split at h
  · split at h
    · rename_i v hv
      cases h
      have h1 := tN_p hv
      have h2 := tE_p (B := B) hp
      have h3 := tSk_ge (B := B) h2.2.1
      exact ⟨rfl, by omega, tSk_le h2.2.1⟩
    · cases h
  · split at h
    · rename_i i hi
      cases h
      have h1 := gNm_p hi
      have h2 := tWd_str (gNi_lt h1.1) h1.2
      have h3 := tSk_ge (B := B) (tWd_le (B := B) hp)
      exact ⟨rfl, by omega, tSk_le (tWd_le hp)⟩
    · cases h
theorem gSL_p : ∀ {m p p' : Nat} {cs : List Nat}, p ≤ t → gSL B t m p = .inr (p', cs) → p + cs.length ≤ p' ∧ p' ≤ t
  | 0, _, _, _, _, h => by cases h
  | m + 1, p, p', cs, hp, h => by
    rw [gSL] at h
    split at h
    · rename_i g
      have hg := tSg_p g
      obtain ⟨p1, c1, h1, h2⟩ := gB_inr h
      obtain ⟨p2, c2, h3, h4⟩ := gB_inr h2
      cases h4
      have hs := tSk_ge (B := B) (show p + 1 ≤ t by omega)
      have q1 := gPart_p (tSk_le (by omega)) h1
      have q2 := gSL_p q1.2.2 h3
      rw [List.length_append, List.length_cons]
      omega
    · cases h; exact ⟨by simp, hp⟩
theorem gSum_p {p p' : Nat} {cs : List Nat} (hp : p ≤ t) (h : gSum B t p = .inr (p', cs)) : 1 ≤ cs.length ∧ p + cs.length ≤ p' ∧ p' ≤ t := by
  unfold gSum at h
  obtain ⟨p1, c1, h1, h2⟩ := gB_inr h
  obtain ⟨p2, c2, h3, h4⟩ := gB_inr h2
  cases h4
  have q1 := gPart_p hp h1
  have q2 := gSL_p q1.2.2 h3
  rw [List.length_append]; omega
theorem gC_p : ∀ {n g d p p' : Nat} {cs : List Nat}, p ≤ t → gC B t n g d p = .inr (p', cs) → p + cs.length ≤ p' ∧ p' ≤ t ∧ (g ≤ 2 → 1 ≤ cs.length)
  | 0, _, _, _, _, _, _, h => by cases h
  | n + 1, 0, d, p, p', cs, hp, h => by
    rw [gC_0] at h
    have hw := tSk_ge (B := B) (tWd_le (B := B) hp)
    have hw2 := tSk_le (B := B) (tWd_le (B := B) hp)
    split at h
    · rename_i g
      obtain ⟨p1, c1, h1, h2⟩ := gB_inr h
      cases h2
      have hs := tWd_str (by omega) g.2
      have q := gC_p hw2 h1
      rw [List.length_append, List.length_singleton]; omega
    · split at h
      · rename_i g
        have hg := tSg_p g.2
        obtain ⟨p1, c1, h1, h2⟩ := gB_inr h
        have hs := tSk_ge (B := B) (show p + 1 ≤ t by omega)
        have q := gC_p (tSk_le (by omega)) h1
        split at h2
        · rename_i g2
          have hg2 := tSg_p g2
          cases h2
          have hs2 := tSk_ge (B := B) (show p1 + 1 ≤ t by omega)
          exact ⟨by omega, tSk_le (by omega), fun _ => q.2.2 (by omega)⟩
        · cases h2
      · split at h
        · rename_i g
          cases h
          have hs := tWd_str (by omega) g
          rw [List.length_singleton]; omega
        · obtain ⟨p1, c1, h1, h2⟩ := gB_inr h
          have q1 := gSum_p hp h1
          split at h2
          · rename_i g
            have hg := tSg_p g
            obtain ⟨p2, c2, h3, h4⟩ := gB_inr h2
            cases h4
            have hs := tSk_ge (B := B) (show p1 + 1 ≤ t by omega)
            have q2 := gSum_p (tSk_le (by omega)) h3
            rw [List.length_append, List.length_append, List.length_singleton]; omega
          · split at h2
            · rename_i g
              have hg := tSg_p g
              obtain ⟨p2, c2, h3, h4⟩ := gB_inr h2
              cases h4
              have hs := tSk_ge (B := B) (show p1 + 1 ≤ t by omega)
              have q2 := gSum_p (tSk_le (by omega)) h3
              rw [List.length_append, List.length_append, List.length_singleton]; omega
            · cases h2
  | n + 1, 1, d, p, p', cs, hp, h => by
    rw [gC_1] at h
    obtain ⟨p1, c1, h1, h2⟩ := gB_inr h
    obtain ⟨p2, c2, h3, h4⟩ := gB_inr h2
    cases h4
    have q1 := gC_p hp h1
    have q2 := gC_p q1.2.1 h3
    rw [List.length_append]; omega
  | n + 1, 2, d, p, p', cs, hp, h => by
    rw [gC_2] at h
    obtain ⟨p1, c1, h1, h2⟩ := gB_inr h
    obtain ⟨p2, c2, h3, h4⟩ := gB_inr h2
    cases h4
    have q1 := gC_p hp h1
    have q2 := gC_p q1.2.1 h3
    rw [List.length_append]; omega
  | n + 1, 3, d, p, p', cs, hp, h => by
    rw [gC_3] at h
    split at h
    · rename_i g
      have hs := tWd_str (by omega) g
      have hw := tSk_ge (B := B) (tWd_le (B := B) hp)
      obtain ⟨p1, c1, h1, h2⟩ := gB_inr h
      obtain ⟨p2, c2, h3, h4⟩ := gB_inr h2
      cases h4
      have q1 := gC_p (tSk_le (tWd_le hp)) h1
      have q2 := gC_p q1.2.1 h3
      rw [List.length_append, List.length_cons]; omega
    · cases h; exact ⟨by simp, hp, by omega⟩
  | n + 1, g + 4, d, p, p', cs, hp, h => by
    have h : (if tWl B t p = strN 22 then gB (gC B t n 2 d (tSk B t (tWd B t p))) (fun p1 c1 => gB (gC B t n 4 d p1) (fun p2 c2 => .inr (p2, c1 ++ 2002 :: c2))) else .inr (p, [])) = (.inr (p', cs) : gR) := h
    split at h
    · rename_i g
      have hs := tWd_str (by omega) g
      have hw := tSk_ge (B := B) (tWd_le (B := B) hp)
      obtain ⟨p1, c1, h1, h2⟩ := gB_inr h
      obtain ⟨p2, c2, h3, h4⟩ := gB_inr h2
      cases h4
      have q1 := gC_p (tSk_le (tWd_le hp)) h1
      have q2 := gC_p q1.2.1 h3
      rw [List.length_append, List.length_cons]; omega
    · cases h; exact ⟨by simp, hp, by omega⟩
/-- types -/
def tyL : List Nat → List Bool → Option (List Bool)
  | [], T => some T
  | c :: cs, T => (tyStep c T).bind (tyL cs)
theorem tyL_app : ∀ {a b : List Nat} {T : List Bool}, tyL (a ++ b) T = (tyL a T).bind (tyL b)
  | [], b, T => rfl
  | c :: a, b, T => by
    show (tyStep c T).bind (tyL (a ++ b)) = ((tyStep c T).bind (tyL a)).bind (tyL b)
    cases tyStep c T with
    | none => rfl
    | some T' => show tyL (a ++ b) T' = (tyL a T').bind (tyL b); exact tyL_app
theorem ty_num {x : Nat} {T : List Bool} (h : x < 1008) (hT : T.length < 20) : tyStep x T = some (false :: T) := by
  unfold tyStep; rw [if_pos h, if_pos hT]
theorem ty_fr {T : List Bool} (hT : T.length < 20) : tyStep 1008 T = some (true :: T) := by
  unfold tyStep; rw [if_neg (by omega), if_pos rfl, if_pos hT]
theorem ty_not {T : List Bool} : tyStep 2000 (true :: T) = some (true :: T) := rfl
theorem ty_and {T : List Bool} : tyStep 2001 (true :: true :: T) = some (true :: T) := rfl
theorem ty_or {T : List Bool} : tyStep 2002 (true :: true :: T) = some (true :: T) := rfl
theorem ty_lt' {T : List Bool} : tyStep 2003 (false :: false :: T) = some (true :: T) := rfl
theorem ty_gt {T : List Bool} : tyStep 2004 (false :: false :: T) = some (true :: T) := rfl
theorem ty_pl {T : List Bool} : tyStep 2005 (false :: false :: T) = some (false :: T) := rfl
theorem gPart_ty {p p' : Nat} {cs : List Nat} {T : List Bool} (h : gPart B t p = .inr (p', cs)) (hT : T.length < 20) : tyL cs T = some (false :: T) := by
  unfold gPart at h
  split at h
  · split at h
    · rename_i v hv
      cases h
      have h1 := tN_p hv
      show (tyStep v T).bind (tyL []) = _
      rw [ty_num (by omega) hT]; rfl
    · cases h
  · split at h
    · rename_i i hi
      cases h
      have h1 := gNm_p hi
      show (tyStep (1000 + i) T).bind (tyL []) = _
      rw [ty_num (by omega) hT]; rfl
    · cases h
theorem gSL_ty : ∀ {m p p' : Nat} {cs : List Nat} {T : List Bool}, gSL B t m p = .inr (p', cs) → T.length + 1 < 20 → tyL cs (false :: T) = some (false :: T)
  | 0, _, _, _, _, h, _ => by cases h
  | m + 1, p, p', cs, T, h, hT => by
    rw [gSL] at h
    split at h
    · obtain ⟨p1, c1, h1, h2⟩ := gB_inr h
      obtain ⟨p2, c2, h3, h4⟩ := gB_inr h2
      cases h4
      rw [tyL_app, gPart_ty h1 (by rw [List.length_cons]; omega), Option.bind_some]
      show (tyStep 2005 (false :: false :: T)).bind (tyL c2) = _
      rw [ty_pl, Option.bind_some]
      exact gSL_ty h3 hT
    · cases h; rfl
theorem gSum_ty {p p' : Nat} {cs : List Nat} {T : List Bool} (h : gSum B t p = .inr (p', cs)) (hT : T.length + 1 < 20) : tyL cs T = some (false :: T) := by
  unfold gSum at h
  obtain ⟨p1, c1, h1, h2⟩ := gB_inr h
  obtain ⟨p2, c2, h3, h4⟩ := gB_inr h2
  cases h4
  rw [tyL_app, gPart_ty h1 (by omega), Option.bind_some]
  exact gSL_ty h3 hT
theorem gC_ty : ∀ {n g d p p' : Nat} {cs : List Nat} {T : List Bool}, d ≤ 6 → gC B t n g d p = .inr (p', cs) →
    (g = 0 → T.length ≤ 2 * d + 2 → tyL cs T = some (true :: T)) ∧ (g = 1 → T.length ≤ 2 * d → tyL cs T = some (true :: T)) ∧ (g = 2 → T.length ≤ 2 * d + 1 → tyL cs T = some (true :: T))
    ∧ (g = 3 → T.length ≤ 2 * d + 1 → tyL cs (true :: T) = some (true :: T)) ∧ (4 ≤ g → T.length ≤ 2 * d → tyL cs (true :: T) = some (true :: T))
  | 0, _, _, _, _, _, _, _, h => by cases h
  | n + 1, 0, d, p, p', cs, T, hd, h => by
    refine ⟨fun _ hT => ?_, fun e => by omega, fun e => by omega, fun e => by omega, fun e => by omega⟩
    rw [gC_0] at h
    split at h
    · rename_i g
      obtain ⟨p1, c1, h1, h2⟩ := gB_inr h
      cases h2
      rw [tyL_app, (gC_ty (T := T) (by omega) h1).1 rfl (by omega), Option.bind_some]
      show (tyStep 2000 (true :: T)).bind (tyL []) = _
      rw [ty_not]; rfl
    · split at h
      · rename_i g
        obtain ⟨p1, c1, h1, h2⟩ := gB_inr h
        split at h2
        · cases h2
          exact (gC_ty (T := T) (by omega) h1).2.1 rfl (by omega)
        · cases h2
      · split at h
        · cases h
          show (tyStep 1008 T).bind (tyL []) = _
          rw [ty_fr (by omega)]; rfl
        · obtain ⟨p1, c1, h1, h2⟩ := gB_inr h
          split at h2
          · obtain ⟨p2, c2, h3, h4⟩ := gB_inr h2
            cases h4
            rw [tyL_app, gSum_ty h1 (by omega), Option.bind_some, tyL_app, gSum_ty h3 (by rw [List.length_cons]; omega), Option.bind_some]
            show (tyStep 2003 (false :: false :: T)).bind (tyL []) = _
            rw [ty_lt']; rfl
          · split at h2
            · obtain ⟨p2, c2, h3, h4⟩ := gB_inr h2
              cases h4
              rw [tyL_app, gSum_ty h1 (by omega), Option.bind_some, tyL_app, gSum_ty h3 (by rw [List.length_cons]; omega), Option.bind_some]
              show (tyStep 2004 (false :: false :: T)).bind (tyL []) = _
              rw [ty_gt]; rfl
            · cases h2
  | n + 1, 1, d, p, p', cs, T, hd, h => by
    refine ⟨fun e => by omega, fun _ hT => ?_, fun e => by omega, fun e => by omega, fun e => by omega⟩
    rw [gC_1] at h
    obtain ⟨p1, c1, h1, h2⟩ := gB_inr h
    obtain ⟨p2, c2, h3, h4⟩ := gB_inr h2
    cases h4
    rw [tyL_app, (gC_ty (T := T) hd h1).2.2.1 rfl (by omega), Option.bind_some]
    exact (gC_ty (T := T) hd h3).2.2.2.2 (by omega) hT
  | n + 1, 2, d, p, p', cs, T, hd, h => by
    refine ⟨fun e => by omega, fun e => by omega, fun _ hT => ?_, fun e => by omega, fun e => by omega⟩
    rw [gC_2] at h
    obtain ⟨p1, c1, h1, h2⟩ := gB_inr h
    obtain ⟨p2, c2, h3, h4⟩ := gB_inr h2
    cases h4
    rw [tyL_app, (gC_ty (T := T) hd h1).1 rfl (by omega), Option.bind_some]
    exact (gC_ty (T := T) hd h3).2.2.2.1 rfl hT
  | n + 1, 3, d, p, p', cs, T, hd, h => by
    refine ⟨fun e => by omega, fun e => by omega, fun e => by omega, fun _ hT => ?_, fun e => by omega⟩
    rw [gC_3] at h
    split at h
    · obtain ⟨p1, c1, h1, h2⟩ := gB_inr h
      obtain ⟨p2, c2, h3, h4⟩ := gB_inr h2
      cases h4
      rw [tyL_app, (gC_ty (T := true :: T) hd h1).1 rfl (by rw [List.length_cons]; omega), Option.bind_some]
      show (tyStep 2001 (true :: true :: T)).bind (tyL c2) = _
      rw [ty_and, Option.bind_some]
      exact (gC_ty (T := T) hd h3).2.2.2.1 rfl hT
    · cases h; rfl
  | n + 1, g + 4, d, p, p', cs, T, hd, h => by
    refine ⟨fun e => by omega, fun e => by omega, fun e => by omega, fun e => by omega, fun _ hT => ?_⟩
    have h : (if tWl B t p = strN 22 then gB (gC B t n 2 d (tSk B t (tWd B t p))) (fun p1 c1 => gB (gC B t n 4 d p1) (fun p2 c2 => .inr (p2, c1 ++ 2002 :: c2))) else .inr (p, [])) = (.inr (p', cs) : gR) := h
    split at h
    · obtain ⟨p1, c1, h1, h2⟩ := gB_inr h
      obtain ⟨p2, c2, h3, h4⟩ := gB_inr h2
      cases h4
      rw [tyL_app, (gC_ty (T := true :: T) hd h1).2.2.1 rfl (by rw [List.length_cons]; omega), Option.bind_some]
      show (tyStep 2002 (true :: true :: T)).bind (tyL c2) = _
      rw [ty_or, Option.bind_some]
      exact (gC_ty (T := T) hd h3).2.2.2.2 (by omega) hT
    · cases h; rfl
/-- codes into the class's row, into the model's -/
def exF (h : Nat → Int32) (n : Nat) : List Nat → Nat → Int32
  | [] => h
  | c :: cs => exF (upd h n (nI c)) (n + 1) cs
def emF (w : Nat → Int32) (s : Nat) : List Nat → Nat → Int32
  | [] => w
  | c :: cs => emF (upd (upd w (1345 + 2 * s) (nI (stepOf c))) (1345 + 2 * s + 1) (nI (argOf c))) (s + 1) cs
theorem exF_app : ∀ {a b : List Nat} {h : Nat → Int32} {n : Nat}, exF h n (a ++ b) = exF (exF h n a) (n + a.length) b
  | [], b, h, n => rfl
  | c :: a, b, h, n => by
    show exF (upd h n (nI c)) (n + 1) (a ++ b) = exF (exF (upd h n (nI c)) (n + 1) a) (n + (a.length + 1)) b
    rw [exF_app, show n + 1 + a.length = n + (a.length + 1) by omega]
theorem emF_app : ∀ {a b : List Nat} {w : Nat → Int32} {s : Nat}, emF w s (a ++ b) = emF (emF w s a) (s + a.length) b
  | [], b, w, s => rfl
  | c :: a, b, w, s => by
    show emF _ (s + 1) (a ++ b) = emF (emF _ (s + 1) a) (s + (a.length + 1)) b
    rw [emF_app, show s + 1 + a.length = s + (a.length + 1) by omega]
theorem exF_lo : ∀ {cs : List Nat} {h : Nat → Int32} {n i : Nat}, i < n → exF h n cs i = h i
  | [], _, _, _, _ => rfl
  | c :: cs, h, n, i, hi => by
    show exF (upd h n (nI c)) (n + 1) cs i = h i
    rw [exF_lo (by omega), upd_n (by omega)]
theorem exF_at : ∀ {cs : List Nat} {h : Nat → Int32} {n i : Nat}, i < cs.length → exF h n cs (n + i) = nI (cs.getD i 0)
  | [], _, _, _, hi => absurd hi (by simp)
  | c :: cs, h, n, 0, _ => by
    show exF (upd h n (nI c)) (n + 1) cs (n + 0) = nI c
    rw [exF_lo (by omega), Nat.add_zero, upd_s]
  | c :: cs, h, n, i + 1, hi => by
    show exF (upd h n (nI c)) (n + 1) cs (n + (i + 1)) = nI (cs.getD i 0)
    rw [show n + (i + 1) = n + 1 + i by omega]
    exact exF_at (by simpa using hi)
theorem emF_lo : ∀ {cs : List Nat} {w : Nat → Int32} {s k : Nat}, k < 1345 + 2 * s → emF w s cs k = w k
  | [], _, _, _, _ => rfl
  | c :: cs, w, s, k, hk => by
    show emF _ (s + 1) cs k = w k
    rw [emF_lo (by omega), upd_n (by omega), upd_n (by omega)]
theorem emF_at : ∀ {cs : List Nat} {w : Nat → Int32} {s i : Nat}, i < cs.length → emF w s cs (1345 + 2 * (s + i)) = nI (stepOf (cs.getD i 0)) ∧ emF w s cs (1345 + 2 * (s + i) + 1) = nI (argOf (cs.getD i 0))
  | [], _, _, _, hi => absurd hi (by simp)
  | c :: cs, w, s, 0, _ => by
    constructor
    · show emF _ (s + 1) cs (1345 + 2 * (s + 0)) = nI (stepOf c)
      rw [Nat.add_zero s, emF_lo (by omega), upd_n (by omega), upd_s]
    · show emF _ (s + 1) cs (1345 + 2 * (s + 0) + 1) = nI (argOf c)
      rw [Nat.add_zero s, emF_lo (by omega), upd_s]
  | c :: cs, w, s, i + 1, hi => by
    have ih := emF_at (cs := cs) (w := upd (upd w (1345 + 2 * s) (nI (stepOf c))) (1345 + 2 * s + 1) (nI (argOf c))) (s := s + 1) (i := i) (by simpa using hi)
    rw [show s + 1 + i = s + (i + 1) by omega] at ih
    exact ih
end T
/-! texts: the class reads THE LAW's conditions -/
section T
variable {B : Nat → Nat} {t : Nat} {S : mS} {p n : Nat} {w : Int32} {c h : Nat → Int32} {F : Nat}
theorem x_wT {k : Nat} (hF : 6000 ≤ F) (hk : k < 23) (hT : TB S B t) (hp : p ≤ t) (e : tWl B t p = strN k) : f_X8_takesWord F k (yS S p w c n h) = some (.inl (some (.int (nI 1))), yS S (tSk B t (tWd B t p)) w c n h) := by
  have := x_takesWord (F := F) (w := w) (c := c) (n := n) (h := h) hF hk hT hp
  rw [decide_eq_true e, if_pos e, bT] at this; exact this
theorem x_wF {k : Nat} (hF : 6000 ≤ F) (hk : k < 23) (hT : TB S B t) (hp : p ≤ t) (e : ¬ tWl B t p = strN k) : f_X8_takesWord F k (yS S p w c n h) = some (.inl (some (.int (nI 0))), yS S p w c n h) := by
  have := x_takesWord (F := F) (w := w) (c := c) (n := n) (h := h) hF hk hT hp
  rw [decide_eq_false e, if_neg e, bF] at this; exact this
theorem x_sT {s : Nat} (hF : 6000 ≤ F) (hs : s < 256) (hT : TB S B t) (hp : p ≤ t) (e : tSg B t p s = true) : f_X8_takesSign F (nI s) (yS S p w c n h) = some (.inl (some (.int (nI 1))), yS S (tSk B t (p + 1)) w c n h) := by
  have := x_takesSign (F := F) (w := w) (c := c) (n := n) (h := h) hF hs hT hp
  rw [e, if_pos rfl, bT] at this; exact this
theorem x_sF {s : Nat} (hF : 6000 ≤ F) (hs : s < 256) (hT : TB S B t) (hp : p ≤ t) (e : ¬ tSg B t p s = true) : f_X8_takesSign F (nI s) (yS S p w c n h) = some (.inl (some (.int (nI 0))), yS S p w c n h) := by
  have := x_takesSign (F := F) (w := w) (c := c) (n := n) (h := h) hF hs hT hp
  rw [if_neg e, (Bool.not_eq_true _).mp e, bF] at this; exact this
theorem x_addCode {v : Nat} (hn : n < 400) : f_X2_addCode (nI v) (yS S p w c n h) = some (.inl none, yS S p w c (n + 1) (upd h n (nI v))) := by
  unfold f_X2_addCode f_X2_addCode_b37
  simp (disch := omega) only [fa_lit, nI_ad, nI_mul, nI_cl, inb_nI, nI_ltE, nI_leE, nI_eqE, nI_m1, nI_m1', m1_lt, lt_m1, m1_le, le_m1, eq_self, not_true_eq_false, not_false_eq_true, ↓reduceIte, leT, leF, ltT, ltF, eqT, eqF, decide_true, decide_false, true_and, and_true, Nat.reduceAdd, bI0_i, bI_i, bI_x, bV0_v, bV_v, bV_x, ↓bnd_e, gd_t, y_107, y_u14, y_u107]
theorem x_b37d {K : Int32 → mS → Option mR} {f i v j : Nat} {Y : mS} (hv : v < 2147483648) : f_X3_readSum_b37 K F (f + 1) (nI i) (nI v) (nI j) Y = f_X3_readSum_b74 K F (nI i) (nI v) Y := by
  rw [f_X3_readSum_b37]
  have e : ¬ nI v = -nI 1 := by rw [nI_m1 hv]; exact fun h => h
  have e1 : (-1 : Int32) = -nI 1 := rfl
  rw [e1, if_pos e, ite_self]
theorem x_names {K : Int32 → mS → Option mR} {i : Nat} (hF : 6000 ≤ F) (hT : TB S B t) (hp : p ≤ t) : ∀ (m j f : Nat), j + m = 8 → m + 1 < f →
    f_X3_readSum_b37 K F f (nI i) (-nI 1) (nI j) (yS S p w c n h) = (match eg_fd (fun i => decide (tWl B t p = strN (gNi i))) m j with
      | some a => f_X3_readSum_b74 K F (nI i) (nI (1000 + a)) (yS S (tSk B t (tWd B t p)) w c n h)
      | none => f_X3_readSum_b74 K F (nI i) (-nI 1) (yS S p w c n h))
  | 0, j, f + 1, hj, hf => by
    have : j = 8 := by omega
    subst this
    rw [f_X3_readSum_b37, eg_fd]
    simp (disch := omega) only [fa_lit, nI_ad, nI_mul, nI_cl, inb_nI, nI_ltE, nI_leE, nI_eqE, nI_m1, nI_m1', m1_lt, lt_m1, m1_le, le_m1, eq_self, not_true_eq_false, not_false_eq_true, ↓reduceIte, leT, leF, ltT, ltF, eqT, eqF, decide_true, decide_false, true_and, and_true, Nat.reduceAdd, bI0_i, bI_i, bI_x, bV0_v, bV_v, bV_x, ↓bnd_e, gd_t, Nat.le_refl]
  | m + 1, j, f + 2, hj, hf => by
    have ih := x_names (K := K) (i := i) hF hT hp m (j + 1) (f + 1) (by omega) (by omega)
    have hdn := fun (Y : mS) => x_b37d (F := F) (K := K) (f := f) (i := i) (v := 1000 + j) (j := j + 1) (Y := Y) (by omega)
    have hk := gNi_lt (i := j) (by omega)
    rw [f_X3_readSum_b37, eg_fd]
    unfold f_X3_readSum_b68
    by_cases g : tWl B t p = strN (gNi j)
    · have hw := x_wT (F := F) (w := w) (c := c) (n := n) (h := h) hF hk hT hp g
      rw [decide_eq_true g, if_pos rfl]
      have hj8 : j < 8 := by omega
      match j, hj8 with
      | 0, _ => simp (disch := omega) only [fa_lit, nI_ad, nI_mul, nI_cl, inb_nI, nI_ltE, nI_leE, nI_eqE, nI_m1, nI_m1', m1_lt, lt_m1, m1_le, le_m1, eq_self, not_true_eq_false, not_false_eq_true, ↓reduceIte, leT, leF, ltT, ltF, eqT, eqF, decide_true, decide_false, true_and, and_true, Nat.reduceAdd, bI0_i, bI_i, bI_x, bV0_v, bV_v, bV_x, ↓bnd_e, gd_t, show f_X8_takesWord F 17 (yS S p w c n h) = _ from hw]; exact hdn _
      | 1, _ => simp (disch := omega) only [fa_lit, nI_ad, nI_mul, nI_cl, inb_nI, nI_ltE, nI_leE, nI_eqE, nI_m1, nI_m1', m1_lt, lt_m1, m1_le, le_m1, eq_self, not_true_eq_false, not_false_eq_true, ↓reduceIte, leT, leF, ltT, ltF, eqT, eqF, decide_true, decide_false, true_and, and_true, Nat.reduceAdd, bI0_i, bI_i, bI_x, bV0_v, bV_v, bV_x, ↓bnd_e, gd_t, show f_X8_takesWord F 1 (yS S p w c n h) = _ from hw]; exact hdn _
      | 2, _ => simp (disch := omega) only [fa_lit, nI_ad, nI_mul, nI_cl, inb_nI, nI_ltE, nI_leE, nI_eqE, nI_m1, nI_m1', m1_lt, lt_m1, m1_le, le_m1, eq_self, not_true_eq_false, not_false_eq_true, ↓reduceIte, leT, leF, ltT, ltF, eqT, eqF, decide_true, decide_false, true_and, and_true, Nat.reduceAdd, bI0_i, bI_i, bI_x, bV0_v, bV_v, bV_x, ↓bnd_e, gd_t, show f_X8_takesWord F 2 (yS S p w c n h) = _ from hw]; exact hdn _
      | 3, _ => simp (disch := omega) only [fa_lit, nI_ad, nI_mul, nI_cl, inb_nI, nI_ltE, nI_leE, nI_eqE, nI_m1, nI_m1', m1_lt, lt_m1, m1_le, le_m1, eq_self, not_true_eq_false, not_false_eq_true, ↓reduceIte, leT, leF, ltT, ltF, eqT, eqF, decide_true, decide_false, true_and, and_true, Nat.reduceAdd, bI0_i, bI_i, bI_x, bV0_v, bV_v, bV_x, ↓bnd_e, gd_t, show f_X8_takesWord F 3 (yS S p w c n h) = _ from hw]; exact hdn _
      | 4, _ => simp (disch := omega) only [fa_lit, nI_ad, nI_mul, nI_cl, inb_nI, nI_ltE, nI_leE, nI_eqE, nI_m1, nI_m1', m1_lt, lt_m1, m1_le, le_m1, eq_self, not_true_eq_false, not_false_eq_true, ↓reduceIte, leT, leF, ltT, ltF, eqT, eqF, decide_true, decide_false, true_and, and_true, Nat.reduceAdd, bI0_i, bI_i, bI_x, bV0_v, bV_v, bV_x, ↓bnd_e, gd_t, show f_X8_takesWord F 4 (yS S p w c n h) = _ from hw]; exact hdn _
      | 5, _ => simp (disch := omega) only [fa_lit, nI_ad, nI_mul, nI_cl, inb_nI, nI_ltE, nI_leE, nI_eqE, nI_m1, nI_m1', m1_lt, lt_m1, m1_le, le_m1, eq_self, not_true_eq_false, not_false_eq_true, ↓reduceIte, leT, leF, ltT, ltF, eqT, eqF, decide_true, decide_false, true_and, and_true, Nat.reduceAdd, bI0_i, bI_i, bI_x, bV0_v, bV_v, bV_x, ↓bnd_e, gd_t, show f_X8_takesWord F 18 (yS S p w c n h) = _ from hw]; exact hdn _
      | 6, _ => simp (disch := omega) only [fa_lit, nI_ad, nI_mul, nI_cl, inb_nI, nI_ltE, nI_leE, nI_eqE, nI_m1, nI_m1', m1_lt, lt_m1, m1_le, le_m1, eq_self, not_true_eq_false, not_false_eq_true, ↓reduceIte, leT, leF, ltT, ltF, eqT, eqF, decide_true, decide_false, true_and, and_true, Nat.reduceAdd, bI0_i, bI_i, bI_x, bV0_v, bV_v, bV_x, ↓bnd_e, gd_t, show f_X8_takesWord F 19 (yS S p w c n h) = _ from hw]; exact hdn _
      | 7, _ => simp (disch := omega) only [fa_lit, nI_ad, nI_mul, nI_cl, inb_nI, nI_ltE, nI_leE, nI_eqE, nI_m1, nI_m1', m1_lt, lt_m1, m1_le, le_m1, eq_self, not_true_eq_false, not_false_eq_true, ↓reduceIte, leT, leF, ltT, ltF, eqT, eqF, decide_true, decide_false, true_and, and_true, Nat.reduceAdd, bI0_i, bI_i, bI_x, bV0_v, bV_v, bV_x, ↓bnd_e, gd_t, show f_X8_takesWord F 20 (yS S p w c n h) = _ from hw]; exact hdn _
    · have hw := x_wF (F := F) (w := w) (c := c) (n := n) (h := h) hF hk hT hp g
      rw [decide_eq_false g]
      have hj8 : j < 8 := by omega
      match j, hj8 with
      | 0, _ => simp (disch := omega) only [fa_lit, nI_ad, nI_mul, nI_cl, inb_nI, nI_ltE, nI_leE, nI_eqE, nI_m1, nI_m1', m1_lt, lt_m1, m1_le, le_m1, eq_self, not_true_eq_false, not_false_eq_true, ↓reduceIte, leT, leF, ltT, ltF, eqT, eqF, decide_true, decide_false, true_and, and_true, Nat.reduceAdd, bI0_i, bI_i, bI_x, bV0_v, bV_v, bV_x, ↓bnd_e, gd_t, show f_X8_takesWord F 17 (yS S p w c n h) = _ from hw, Bool.false_eq_true]; exact ih
      | 1, _ => simp (disch := omega) only [fa_lit, nI_ad, nI_mul, nI_cl, inb_nI, nI_ltE, nI_leE, nI_eqE, nI_m1, nI_m1', m1_lt, lt_m1, m1_le, le_m1, eq_self, not_true_eq_false, not_false_eq_true, ↓reduceIte, leT, leF, ltT, ltF, eqT, eqF, decide_true, decide_false, true_and, and_true, Nat.reduceAdd, bI0_i, bI_i, bI_x, bV0_v, bV_v, bV_x, ↓bnd_e, gd_t, show f_X8_takesWord F 1 (yS S p w c n h) = _ from hw, Bool.false_eq_true]; exact ih
      | 2, _ => simp (disch := omega) only [fa_lit, nI_ad, nI_mul, nI_cl, inb_nI, nI_ltE, nI_leE, nI_eqE, nI_m1, nI_m1', m1_lt, lt_m1, m1_le, le_m1, eq_self, not_true_eq_false, not_false_eq_true, ↓reduceIte, leT, leF, ltT, ltF, eqT, eqF, decide_true, decide_false, true_and, and_true, Nat.reduceAdd, bI0_i, bI_i, bI_x, bV0_v, bV_v, bV_x, ↓bnd_e, gd_t, show f_X8_takesWord F 2 (yS S p w c n h) = _ from hw, Bool.false_eq_true]; exact ih
      | 3, _ => simp (disch := omega) only [fa_lit, nI_ad, nI_mul, nI_cl, inb_nI, nI_ltE, nI_leE, nI_eqE, nI_m1, nI_m1', m1_lt, lt_m1, m1_le, le_m1, eq_self, not_true_eq_false, not_false_eq_true, ↓reduceIte, leT, leF, ltT, ltF, eqT, eqF, decide_true, decide_false, true_and, and_true, Nat.reduceAdd, bI0_i, bI_i, bI_x, bV0_v, bV_v, bV_x, ↓bnd_e, gd_t, show f_X8_takesWord F 3 (yS S p w c n h) = _ from hw, Bool.false_eq_true]; exact ih
      | 4, _ => simp (disch := omega) only [fa_lit, nI_ad, nI_mul, nI_cl, inb_nI, nI_ltE, nI_leE, nI_eqE, nI_m1, nI_m1', m1_lt, lt_m1, m1_le, le_m1, eq_self, not_true_eq_false, not_false_eq_true, ↓reduceIte, leT, leF, ltT, ltF, eqT, eqF, decide_true, decide_false, true_and, and_true, Nat.reduceAdd, bI0_i, bI_i, bI_x, bV0_v, bV_v, bV_x, ↓bnd_e, gd_t, show f_X8_takesWord F 4 (yS S p w c n h) = _ from hw, Bool.false_eq_true]; exact ih
      | 5, _ => simp (disch := omega) only [fa_lit, nI_ad, nI_mul, nI_cl, inb_nI, nI_ltE, nI_leE, nI_eqE, nI_m1, nI_m1', m1_lt, lt_m1, m1_le, le_m1, eq_self, not_true_eq_false, not_false_eq_true, ↓reduceIte, leT, leF, ltT, ltF, eqT, eqF, decide_true, decide_false, true_and, and_true, Nat.reduceAdd, bI0_i, bI_i, bI_x, bV0_v, bV_v, bV_x, ↓bnd_e, gd_t, show f_X8_takesWord F 18 (yS S p w c n h) = _ from hw, Bool.false_eq_true]; exact ih
      | 6, _ => simp (disch := omega) only [fa_lit, nI_ad, nI_mul, nI_cl, inb_nI, nI_ltE, nI_leE, nI_eqE, nI_m1, nI_m1', m1_lt, lt_m1, m1_le, le_m1, eq_self, not_true_eq_false, not_false_eq_true, ↓reduceIte, leT, leF, ltT, ltF, eqT, eqF, decide_true, decide_false, true_and, and_true, Nat.reduceAdd, bI0_i, bI_i, bI_x, bV0_v, bV_v, bV_x, ↓bnd_e, gd_t, show f_X8_takesWord F 19 (yS S p w c n h) = _ from hw, Bool.false_eq_true]; exact ih
      | 7, _ => simp (disch := omega) only [fa_lit, nI_ad, nI_mul, nI_cl, inb_nI, nI_ltE, nI_leE, nI_eqE, nI_m1, nI_m1', m1_lt, lt_m1, m1_le, le_m1, eq_self, not_true_eq_false, not_false_eq_true, ↓reduceIte, leT, leF, ltT, ltF, eqT, eqF, decide_true, decide_false, true_and, and_true, Nat.reduceAdd, bI0_i, bI_i, bI_x, bV0_v, bV_v, bV_x, ↓bnd_e, gd_t, show f_X8_takesWord F 20 (yS S p w c n h) = _ from hw, Bool.false_eq_true]; exact ih
theorem tWl_dig {p : Nat} (hp : p < t) (hd : tDig (B p) = true) : tWl B t p = [] := by
  have h : 48 ≤ B p ∧ B p ≤ 57 := of_decide_eq_true hd
  exact tWl_n hp (decide_eq_false (by omega))
theorem sw_nil {k : Nat} (hk : k < 23) : ¬ ([] : List Nat) = strN k := by
  intro e
  have := (sw_len hk).1
  rw [← e] at this
  simp at this
theorem gNm_nil : gNm [] = none := by
  cases g : gNm [] with
  | none => rfl
  | some i => exact absurd (gNm_p g).2 (sw_nil (gNi_lt (gNm_p g).1))
/-- a part -/
theorem x_part {f i : Nat} (hF : 6000 ≤ F) (hi : i < 400) (hT : TB S B t) (hp : p ≤ t) : f_X3_readSum_b2 F (f + 1) (nI i) (yS S p (-nI 1) c n h) = (match gPart B t p with
    | .inr (p1, cs) => f_X3_readSum_b74 (fun x1 S => f_X3_readSum_b2 F f x1 S) F (nI i) (nI (cs.getD 0 0)) (yS S p1 (-nI 1) c n h)
    | .inl e => some (.inl (some (.int (nI 0))), yS S p (nI e) c n h)) := by
  have hd := x_isAtDigit (w := -nI 1) (c := c) (n := n) (h := h) hT hp
  have hN := fun (w : Int32) => x_names (F := F) (K := fun x1 S => f_X3_readSum_b2 F f x1 S) (i := i) (w := w) (c := c) (n := n) (h := h) hF hT hp 8 0 F (by omega) (by omega)
  have hfail : ∀ w : Int32, w = -nI 1 ∨ w = nI p → f_X3_readSum_b74 (fun x1 S => f_X3_readSum_b2 F f x1 S) F (nI i) (-nI 1) (yS S p w c n h) = some (.inl (some (.int (nI 0))), yS S p (nI p) c n h) := by
    intro w hw
    have hr := x_refuse (S := S) (p := p) (w := w) (c := c) (n := n) (h := h)
    have et : tRf w p = nI p := by
      unfold tRf
      rcases hw with e | e
      · rw [if_pos e]
      · rw [e]; exact ite_self _
    unfold f_X3_readSum_b74
    simp (disch := omega) only [fa_lit, nI_ad, nI_mul, nI_cl, inb_nI, nI_ltE, nI_leE, nI_eqE, nI_m1, nI_m1', m1_lt, lt_m1, m1_le, le_m1, eq_self, not_true_eq_false, not_false_eq_true, ↓reduceIte, leT, leF, ltT, ltF, eqT, eqF, decide_true, decide_false, true_and, and_true, Nat.reduceAdd, bI0_i, bI_i, bI_x, bV0_v, bV_v, bV_x, ↓bnd_e, gd_t, hr, et, and00]
  rw [f_X3_readSum_b2]
  unfold f_X3_readSum_b34 gPart
  by_cases g : p < t ∧ tDig (B p) = true
  · rw [decide_eq_true g.1, g.2] at hd
    have hwl := tWl_dig g.1 g.2
    have hn := x_takeNumber (F := F) (lo := 0) (hi := 999) (w := -nI 1) (c := c) (n := n) (h := h) hF (by omega) (by omega) hT hp
    rw [if_pos g]
    cases gv : tN B t 0 999 p with
    | none =>
      rw [gv] at hn
      have h8 := hN (tRf (-nI 1) p)
      have e8 : eg_fd (fun i => decide (tWl B t p = strN (gNi i))) 8 0 = none := by rw [hwl]; exact gNm_nil
      rw [e8] at h8
      simp (disch := omega) only [fa_lit, nI_ad, nI_mul, nI_cl, inb_nI, nI_ltE, nI_leE, nI_eqE, nI_m1, nI_m1', m1_lt, lt_m1, m1_le, le_m1, eq_self, not_true_eq_false, not_false_eq_true, ↓reduceIte, leT, leF, ltT, ltF, eqT, eqF, decide_true, decide_false, true_and, and_true, Nat.reduceAdd, bI0_i, bI_i, bI_x, bV0_v, bV_v, bV_x, ↓bnd_e, gd_t, hd, Bool.and_self, bT, hn]
      refine Eq.trans h8 ?_
      exact hfail _ (Or.inr (by unfold tRf; rw [if_pos rfl]))
    | some v =>
      rw [gv] at hn
      have hv := tN_p gv
      obtain ⟨G, rfl⟩ : ∃ G, F = G + 1 := ⟨F - 1, by omega⟩
      simp (disch := omega) only [fa_lit, nI_ad, nI_mul, nI_cl, inb_nI, nI_ltE, nI_leE, nI_eqE, nI_m1, nI_m1', m1_lt, lt_m1, m1_le, le_m1, eq_self, not_true_eq_false, not_false_eq_true, ↓reduceIte, leT, leF, ltT, ltF, eqT, eqF, decide_true, decide_false, true_and, and_true, Nat.reduceAdd, bI0_i, bI_i, bI_x, bV0_v, bV_v, bV_x, ↓bnd_e, gd_t, hd, Bool.and_self, bT, hn]
      exact x_b37d (by omega)
  · have hdf : (decide (p < t) && tDig (B p)) = false := by
      cases g2 : tDig (B p) with
      | true => rw [decide_eq_false (fun e => g ⟨e, g2⟩)]; rfl
      | false => exact Bool.and_false _
    rw [hdf] at hd
    rw [if_neg g]
    have h8 := hN (-nI 1)
    have e8 : eg_fd (fun i => decide (tWl B t p = strN (gNi i))) 8 0 = gNm (tWl B t p) := rfl
    rw [e8] at h8
    simp (disch := omega) only [fa_lit, nI_ad, nI_mul, nI_cl, inb_nI, nI_ltE, nI_leE, nI_eqE, nI_m1, nI_m1', m1_lt, lt_m1, m1_le, le_m1, eq_self, not_true_eq_false, not_false_eq_true, ↓reduceIte, leT, leF, ltT, ltF, eqT, eqF, decide_true, decide_false, true_and, and_true, Nat.reduceAdd, bI0_i, bI_i, bI_x, bV0_v, bV_v, bV_x, ↓bnd_e, gd_t, hd, bF]
    refine Eq.trans h8 ?_
    cases gn : gNm (tWl B t p) with
    | none => exact hfail _ (Or.inl rfl)
    | some a => rfl
theorem gB_r {p : Nat} {cs : List Nat} {f : Nat → List Nat → gR} : gB (.inr (p, cs)) f = f p cs := rfl
theorem gB_l {e : Nat} {f : Nat → List Nat → gR} : gB (.inl e) f = .inl e := rfl
def XL (S : mS) (c : Nat → Int32) (n : Nat) (h : Nat → Int32) (r : gR) (o : Option mR) (K : mS → Option mR) : Prop := match r with
  | .inr (p', cs) => o = K (yS S p' (-nI 1) c (n + cs.length) (exF h n cs))
  | .inl e => ∃ p' n' h', o = some (.inl (some (.int (nI 0))), yS S p' (nI e) c n' h')
def x1K (Y : mS) : Option mR := some (.inl (some (.int (nI 1))), Y)
theorem gPart_1 {p p' : Nat} {cs : List Nat} (hp : p ≤ t) (h : gPart B t p = .inr (p', cs)) : ∃ v, cs = [v] := by
  have := (gPart_p hp h).1
  match cs, this with
  | [v], _ => exact ⟨v, rfl⟩
theorem x_sumL (hF : 6000 ≤ F) (hT : TB S B t) : ∀ (m i f p n : Nat) (h : Nat → Int32), p ≤ t → n + 6 ≤ p → 2 * i ≤ p → t - p < m → t - p < f →
    XL S c n h (gSL B t m p) (f_X3_readSum_b109 (fun x1 S => f_X3_readSum_b2 F f x1 S) F (nI i) (yS S p (-nI 1) c n h)) x1K
  | 0, i, f, p, n, h, hp, hn, hi, hm, hf => absurd hm (by omega)
  | m + 1, i, f, p, n, h, hp, hn, hi, hm, hf => by
    have ht := hT.1
    rw [gSL]
    unfold f_X3_readSum_b109
    by_cases g : tSg B t p 43 = true
    · have hg := tSg_p g
      have hs := x_sT (F := F) (w := -nI 1) (c := c) (n := n) (h := h) hF (by omega) hT hp g
      have hsk := tSk_ge (B := B) (show p + 1 ≤ t by omega)
      have hsk2 := tSk_le (B := B) (show p + 1 ≤ t by omega)
      obtain ⟨f, rfl⟩ : ∃ k, f = k + 1 := ⟨f - 1, by omega⟩
      have hP := x_part (F := F) (f := f) (i := i + 1) (p := tSk B t (p + 1)) (c := c) (n := n) (h := h) hF (by omega) hT hsk2
      rw [if_pos g]
      simp (disch := omega) only [fa_lit, nI_ad, nI_mul, nI_cl, inb_nI, nI_ltE, nI_leE, nI_eqE, nI_m1, nI_m1', m1_lt, lt_m1, m1_le, le_m1, eq_self, not_true_eq_false, not_false_eq_true, ↓reduceIte, leT, leF, ltT, ltF, eqT, eqF, decide_true, decide_false, true_and, and_true, Nat.reduceAdd, bI0_i, bI_i, bI_x, bV0_v, bV_v, bV_x, ↓bnd_e, gd_t, hs]
      cases gp : gPart B t (tSk B t (p + 1)) with
      | inl e =>
        rw [gp] at hP
        exact ⟨_, _, _, hP⟩
      | inr x =>
        obtain ⟨p1, cs⟩ := x
        obtain ⟨v, rfl⟩ := gPart_1 hsk2 gp
        have q := gPart_p hsk2 gp
        rw [gp] at hP
        have ih := x_sumL hF hT m (i + 1) f p1 (n + 2) (upd (upd h n (nI v)) (n + 1) (nI 2005)) q.2.2 (by omega) (by omega) (by omega) (by omega)
        have hP2 : f_X3_readSum_b74 (fun x1 S => f_X3_readSum_b2 F f x1 S) F (nI (i + 1)) (nI v) (yS S p1 (-nI 1) c n h) = f_X3_readSum_b109 (fun x1 S => f_X3_readSum_b2 F f x1 S) F (nI (i + 1)) (yS S p1 (-nI 1) c (n + 2) (upd (upd h n (nI v)) (n + 1) (nI 2005))) := by
          have hv : v < 2147483648 := by
            have := gPart_ty (T := []) gp (by simp)
            have h2 : (tyStep v []).bind (tyL []) = some [false] := this
            cases e : tyStep v [] with
            | none => rw [e] at h2; cases h2
            | some T => have := ty_lt e; omega
          have a1 := x_addCode (S := S) (p := p1) (w := -nI 1) (c := c) (n := n) (h := h) (v := v) (by omega)
          have a2 := x_addCode (S := S) (p := p1) (w := -nI 1) (c := c) (n := n + 1) (h := upd h n (nI v)) (v := 2005) (by omega)
          unfold f_X3_readSum_b74
          simp (disch := omega) only [fa_lit, nI_ad, nI_mul, nI_cl, inb_nI, nI_ltE, nI_leE, nI_eqE, nI_m1, nI_m1', m1_lt, lt_m1, m1_le, le_m1, eq_self, not_true_eq_false, not_false_eq_true, ↓reduceIte, leT, leF, ltT, ltF, eqT, eqF, decide_true, decide_false, true_and, and_true, Nat.reduceAdd, bI0_i, bI_i, bI_x, bV0_v, bV_v, bV_x, ↓bnd_e, gd_t, a1, a2]
        have hP3 := hP.trans hP2
        cases gs : gSL B t m p1 with
        | inl e =>
          rw [gs] at ih
          obtain ⟨p', n', h', e2⟩ := ih
          rw [gB_r, gs, gB_l]
          exact ⟨p', n', h', hP3.trans e2⟩
        | inr y =>
          obtain ⟨p2, c2⟩ := y
          rw [gs] at ih
          rw [gB_r, gs, gB_r]
          refine (hP3.trans ih).trans ?_
          show x1K (yS S p2 (-nI 1) c (n + 2 + c2.length) (exF (upd (upd h n (nI v)) (n + 1) (nI 2005)) (n + 2) c2)) = x1K (yS S p2 (-nI 1) c (n + (c2.length + 1 + 1)) (exF h n (v :: 2005 :: c2)))
          rw [show n + (c2.length + 1 + 1) = n + 2 + c2.length by omega]
          rfl
    · have hs := x_sF (F := F) (w := -nI 1) (c := c) (n := n) (h := h) hF (by omega) hT hp g
      rw [if_neg g]
      show _ = x1K (yS S p (-nI 1) c (n + 0) h)
      simp (disch := omega) only [fa_lit, nI_ad, nI_mul, nI_cl, inb_nI, nI_ltE, nI_leE, nI_eqE, nI_m1, nI_m1', m1_lt, lt_m1, m1_le, le_m1, eq_self, not_true_eq_false, not_false_eq_true, ↓reduceIte, leT, leF, ltT, ltF, eqT, eqF, decide_true, decide_false, true_and, and_true, Nat.reduceAdd, bI0_i, bI_i, bI_x, bV0_v, bV_v, bV_x, ↓bnd_e, gd_t, hs, and10, Nat.add_zero]
      rfl
theorem x_readSum (hF : 6000 ≤ F) (hT : TB S B t) (hp : p ≤ t) (hn : n + 6 ≤ p) : XL S c n h (gSum B t p) (f_X3_readSum F (yS S p (-nI 1) c n h)) x1K := by
  have ht := hT.1
  obtain ⟨G, rfl⟩ : ∃ G, F = G + 1 := ⟨F - 1, by omega⟩
  have hP := x_part (F := G + 1) (f := G) (i := 0) (p := p) (c := c) (n := n) (h := h) hF (by omega) hT hp
  unfold gSum
  show XL S c n h _ (f_X3_readSum_b2 (G + 1) (G + 1) (nI 0) (yS S p (-nI 1) c n h)) x1K
  cases gp : gPart B t p with
  | inl e =>
    rw [gp] at hP
    exact ⟨_, _, _, hP⟩
  | inr x =>
    obtain ⟨p1, cs⟩ := x
    obtain ⟨v, rfl⟩ := gPart_1 hp gp
    have q := gPart_p hp gp
    rw [gp] at hP
    have ih := x_sumL (c := c) hF hT 401 0 G p1 (n + 1) (upd h n (nI v)) q.2.2 (by omega) (by omega) (by omega) (by omega)
    have hP2 : f_X3_readSum_b74 (fun x1 S => f_X3_readSum_b2 (G + 1) G x1 S) (G + 1) (nI 0) (nI v) (yS S p1 (-nI 1) c n h) = f_X3_readSum_b109 (fun x1 S => f_X3_readSum_b2 (G + 1) G x1 S) (G + 1) (nI 0) (yS S p1 (-nI 1) c (n + 1) (upd h n (nI v))) := by
      have hv : v < 2147483648 := by
        have := gPart_ty (T := []) gp (by simp)
        have h2 : (tyStep v []).bind (tyL []) = some [false] := this
        cases e : tyStep v [] with
        | none => rw [e] at h2; cases h2
        | some T => have := ty_lt e; omega
      have a1 := x_addCode (S := S) (p := p1) (w := -nI 1) (c := c) (n := n) (h := h) (v := v) (by omega)
      unfold f_X3_readSum_b74
      simp (disch := omega) only [fa_lit, nI_ad, nI_mul, nI_cl, inb_nI, nI_ltE, nI_leE, nI_eqE, nI_m1, nI_m1', m1_lt, lt_m1, m1_le, le_m1, eq_self, not_true_eq_false, not_false_eq_true, ↓reduceIte, leT, leF, ltT, ltF, eqT, eqF, decide_true, decide_false, true_and, and_true, Nat.reduceAdd, bI0_i, bI_i, bI_x, bV0_v, bV_v, bV_x, ↓bnd_e, gd_t, a1, Nat.le_refl]
    have hP3 := hP.trans hP2
    cases gs : gSL B t 401 p1 with
    | inl e =>
      rw [gs] at ih
      obtain ⟨p', n', h', e2⟩ := ih
      rw [gB_r, gs, gB_l]
      exact ⟨p', n', h', hP3.trans e2⟩
    | inr y =>
      obtain ⟨p2, c2⟩ := y
      rw [gs] at ih
      rw [gB_r, gs, gB_r]
      refine (hP3.trans ih).trans ?_
      show x1K (yS S p2 (-nI 1) c (n + 1 + c2.length) (exF (upd h n (nI v)) (n + 1) c2)) = x1K (yS S p2 (-nI 1) c (n + (c2.length + 1)) (exF h n (v :: c2)))
      rw [show n + (c2.length + 1) = n + 1 + c2.length by omega]
      rfl
end T
