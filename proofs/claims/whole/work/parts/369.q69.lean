/-! the law from its entry, and the claim -/
theorem wi_0 : Cond.instantiable RX0 1 ∈ lw_tbl := List.mem_of_getElem? (i := 192) (by decide +kernel)
theorem wi_1 : Cond.instantiable RX1 2 ∈ lw_tbl := List.mem_of_getElem? (i := 202) (by decide +kernel)
theorem wi_2 : Cond.instantiable RX2 8 ∈ lw_tbl := List.mem_of_getElem? (i := 161) (by decide +kernel)
theorem wi_3 : Cond.instantiable RX3 2 ∈ lw_tbl := List.mem_of_getElem? (i := 222) (by decide +kernel)
theorem wi_4 : Cond.instantiable RX5 3 ∈ lw_tbl := List.mem_of_getElem? (i := 268) (by decide +kernel)
theorem wi_5 : Cond.instantiable RX6 6 ∈ lw_tbl := List.mem_of_getElem? (i := 243) (by decide +kernel)
theorem wi_6 : Cond.instantiable RX7 1 ∈ lw_tbl := List.mem_of_getElem? (i := 233) (by decide +kernel)
theorem wi_7 : Cond.instantiable RX8 4 ∈ lw_tbl := List.mem_of_getElem? (i := 141) (by decide +kernel)
theorem wi_8 : Cond.instantiable RX9 14 ∈ lw_tbl := List.mem_of_getElem? (i := 133) (by decide +kernel)
theorem wi_9 : Cond.instantiable RX10 23 ∈ lw_tbl := List.mem_of_getElem? (i := 1347) (by decide +kernel)
theorem wAO : Cond.arrayOver (.object "LedgeEggs$Cliff") ∈ lw_tbl := List.mem_of_getElem? (i := 274) (by decide +kernel)
theorem kn_of {args : Array Value} {s : State} (hts : ∀ w ∈ lw_tbl, w.before args s = true) (htm : ∀ w ∈ mTs, w.before args s = true) : ∃ (D : va_G) (cy : Nat → ClassId), va_K D vwCl (mT cy) s := by
  obtain ⟨c0, i0, h0⟩ := u_known (C := RX0) (T := TX0) (N := 1) (n := 1) htm (vw_in (b := 0) rfl) (hts _ wi_0)
  obtain ⟨c1, i1, h1⟩ := u_known (C := RX1) (T := TX1) (N := 2) (n := 2) htm (vw_in (b := 1) rfl) (hts _ wi_1)
  obtain ⟨c2, i2, h2⟩ := u_known (C := RX2) (T := TX2) (N := 8) (n := 8) htm (vw_in (b := 2) rfl) (hts _ wi_2)
  obtain ⟨c3, i3, h3⟩ := u_known (C := RX3) (T := TX3) (N := 2) (n := 2) htm (vw_in (b := 3) rfl) (hts _ wi_3)
  obtain ⟨c4, i4, h4⟩ := u_known (C := RX5) (T := TX5) (N := 3) (n := 3) htm (vw_in (b := 4) rfl) (hts _ wi_4)
  obtain ⟨c5, i5, h5⟩ := u_known (C := RX6) (T := TX6) (N := 6) (n := 6) htm (vw_in (b := 5) rfl) (hts _ wi_5)
  obtain ⟨c6, i6, h6⟩ := u_known (C := RX7) (T := TX7) (N := 1) (n := 1) htm (vw_in (b := 6) rfl) (hts _ wi_6)
  obtain ⟨c7, i7, h7⟩ := u_known (C := RX8) (T := TX8) (N := 4) (n := 4) htm (vw_in (b := 7) rfl) (hts _ wi_7)
  obtain ⟨c8, i8, h8⟩ := u_known (C := RX9) (T := TX9) (N := 14) (n := 14) htm (vw_in (b := 8) rfl) (hts _ wi_8)
  obtain ⟨c9, i9, h9⟩ := u_known (C := RX10) (T := TX10) (N := 23) (n := 23) htm (vw_in (b := 9) rfl) (hts _ wi_9)
  obtain ⟨a0, ka0, co0, e0, f0, g0⟩ := Cond.arrayClass_spec (args := args) (first := s) (o := none) (s := s) (idx := []) (htm _ wI)
  obtain ⟨a1, ka1, co1, e1, f1, g1⟩ := Cond.arrayClass_spec (args := args) (first := s) (o := none) (s := s) (idx := []) (htm _ wB)
  obtain ⟨a3, ka3, co3, e3, f3, g3⟩ := Cond.arrayClass_spec (args := args) (first := s) (o := none) (s := s) (idx := []) (htm _ wJ)
  obtain ⟨co2, a2, ka2, d2, -, f2, g2, e2⟩ := Cond.arrayOver_spec (args := args) (first := s) (o := none) (s := s) (idx := []) (hts _ wAO)
  refine ⟨(fun k => ([c0, c1, c2, c3, c4, c5, c6, c7, c8, c9] : List ClassId).getD k c0, fun k => ([i0, i1, i2, i3, i4, i5, i6, i7, i8, i9] : List (Nat → Nat)).getD k i0), fun k => ([a0, a1, a2, a3] : List ClassId).getD k a0, fun k q hq => ?_, fun k q hq => ?_⟩
  · match k, hq with
    | 0, hq => cases hq; exact h0
    | 1, hq => cases hq; exact h1
    | 2, hq => cases hq; exact h2
    | 3, hq => cases hq; exact h3
    | 4, hq => cases hq; exact h4
    | 5, hq => cases hq; exact h5
    | 6, hq => cases hq; exact h6
    | 7, hq => cases hq; exact h7
    | 8, hq => cases hq; exact h8
    | 9, hq => cases hq; exact h9
    | k + 10, hq => simp [vwCl] at hq
  · match k, hq with
    | 0, hq => cases hq; exact ⟨fun N z => ⟨fun k h => (by cases h), ka0, f0, co0, g0⟩, e0⟩
    | 1, hq => cases hq; exact ⟨fun N z => ⟨fun k h => (by cases h), ka1, f1, co1, g1⟩, e1⟩
    | 2, hq => cases hq; exact ⟨fun N z => ⟨fun k h => (by cases h), ka2, f2, co2, g2⟩, ka2, co2, f2, g2, d2, e2⟩
    | 3, hq => cases hq; exact ⟨fun N z => ⟨fun k h => (by cases h), ka3, f3, co3, g3⟩, e3⟩
    | k + 4, hq => simp [mT] at hq
set_option maxRecDepth 20000 in
theorem nk_law_x : nOK RL 8 8 [132, 133, 106] = true := by decide +kernel
set_option maxRecDepth 20000 in
theorem nk_law_m : nOK RL 133 9 [1346, 1347, 116] = true := by decide +kernel
set_option maxRecDepth 20000 in
theorem ik_law_x : iOK RL 132 yX9_init cX9_init 1 0 [134, 135, 106, 136] = true := by decide +kernel
set_option maxRecDepth 20000 in
theorem ik_law_m : iOK RL 135 yX10_init cX10_init 1 0 [1348, 1349, 116, 1350] = true := by decide +kernel
