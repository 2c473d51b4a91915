def R_law : String := "LedgeEggsLaw"
def lw_P (b : Addr) (xs : List Int32) (args : Array Value) (s : State) : Prop := args = #[.ref b] ∧ s.IntsAt b xs ∧ xs.length ≤ 3072 ∧ (Jvm.Cond.and given_1 narrow_1).before args s = true
def lw_Q (_ : Array Value) (s : State) (o : Outcome) (t : State) : Prop := o = .returned (some (.int 1)) ∧ Framed s o t [] 601024 7293034
def lw_Z (below : List Frame) (a : Array Value) (s : State) : State → Prop := fun t => ∃ o, t.status = .running ∧ Ended t below o ∧ lw_Q a s o t
/-- the law's own end, with 1 on the stack, nothing written that was there before, its room as the claim has it -/
theorem lw_ret {p : Program} {l : Launch} {e : Env} {s : State} {m : MethodId} {below : List Frame} {meth : Method} {c : Code} {b : Nat} (hx : p.tables.exec = Jvm.exec) (hb : c.code = code) (hr : meth.sig.returnType = ret) (hlocks : meth.locks = false) {pc : Nat} {H : Heap} {ls : Array Slot} (hdg : decode code pc = .ok (.ireturn, 1)) : W p l e room_1 s m #[Value.ref b] below meth c H [] 601024 7293034 (lw_Z below #[Value.ref b] s) (F0 m pc ls [.int 1]) := by
  intro T hT X
  obtain ⟨fs, hret, hrun, hended, hW, hframe⟩ := X.leave (v := some (.int 1)) (hlocks := hlocks) (fun h => by rw [hr] at h; cases h)
  have hmeth' : T.vm.method? m = some meth := X.method'
  refine ⟨T.setFrames fs, ?_, .returned (some (.int 1)), hrun, hended, rfl, ⟨_, rfl⟩, hW, hframe⟩
  jvm_step X.here [X.here.top, hx, hb, hdg, hmeth', hr, ret, narrow_b1]
  (try refine ⟨rfl, ?_⟩); (try refine ⟨rfl, ?_⟩)
  first | (intro acts; rw [hret _ acts rfl rfl rfl]) | rw [hret _ _ rfl rfl rfl]
  exact Steps.refl _
/-- what holds at the law's entry: the machine, the code, the tables' words (any of lw_tbl by 'hts w (by decide +kernel)'), the script of L ints xs at the cell b, what the Statement gives of the start (any of its parts by flat_of_before) -/
def lw_At (p : Program) (s : State) (m : MethodId) (meth : Method) (c : Code) (b L : Nat) (xs : Nat → Int32) : Prop :=
  p.tables.exec = Jvm.exec ∧ c.code = code ∧ meth.sig.returnType = ret ∧ c.maxLocals = 7 ∧ s.vm.findClass R_law = some m.cls ∧ (∀ w ∈ lw_tbl, w.before #[Value.ref b] s = true) ∧ va_X b L xs s s.heap ∧ b < s.heap.size ∧ meth.locks = false ∧ (Jvm.Cond.and given_1 narrow_1).before #[Value.ref b] s = true
/-! the law's loop and its start -/
set_option maxHeartbeats 4000000 in
set_option maxRecDepth 100000 in
theorem swd : decode code 40 = .ok (.tableswitch 3037 0 51 #[224, 297, 322, 366, 410, 423, 491, 575, 643, 711, 791, 859, 946, 1026, 1082, 1095, 1151, 1207, 1303, 1316, 1384, 1440, 1508, 1564, 1632, 1700, 1768, 1781, 1861, 1917, 1985, 2053, 2109, 2165, 2233, 2308, 2388, 2413, 2454, 2538, 2551, 2604, 2617, 2701, 2785, 2869, 2882, 2950, 2975, 2988, 2999, 3012], 224) := by decide +kernel
theorem lw_gt {n L : Nat} (h : L < 6 * n + 6) (hL : L ≤ 3072) (hn : n ≤ 512) : Int32.ofNat L - 6 < nI (6 * n) := by
  have e1 : (Int32.ofNat L - 6).toInt = (L : Int) - 6 := by
    rw [Int32.toInt_sub, show (Int32.ofNat L).toInt = (L : Int) from nI_toInt (by omega), show (6 : Int32).toInt = 6 from rfl]
    apply Int.bmod_eq_of_le <;> omega
  rw [Int32.lt_iff_toInt_lt, e1, nI_toInt (by omega)]
  omega
set_option maxHeartbeats 4000000 in
set_option maxRecDepth 100000 in
theorem law_loop {p : Program} {lau : Launch} {e : Env} {s : State} {m : MethodId} {below : List Frame} {meth : Method} {c : Code} {z : Nat} {D : va_G} {ad : Nat → Nat} {cy : Nat → ClassId} {b L : Nat} {xs : Nat → Int32} (C : LwC p lau s m meth c b L xs z D ad cy) (hr : meth.sig.returnType = ret) (hlocks : meth.locks = false) :
    ∀ (w n : Nat), n + w = 512 → ∀ (S : mS) (H : Heap) (locs : List Loc) (ls : Array Slot), Inv S → va_P D vwCl (mW ad cy S) H → va_D (mAz z) (mW ad cy S) → va_S (mAz z) s.heap H locs → lv_has ls 7 (lvs b ad (6 * n)) →
      W p lau e room_1 s m #[Value.ref b] below meth c H locs (100 + 64 * n) (60000 + 384 * n) (lw_Z below #[Value.ref b] s) (F0 m 23 ls []) := by
  obtain ⟨⟨hx, hb, hml, hown, hts⟩, hXs, hbl, hz, hK, hX0, hst, hL⟩ := id C
  intro w
  induction w with
  | zero =>
    intro n hn S H locs ls hI hP hD hS hl
    refine lv_iload hx hb (by decide +kernel : decode code 23 = .ok (.iload 4, 2)) (lv_at hl 4 rfl) ?_
    refine lv_aload_n hx hb (by decide +kernel : decode code 25 = .ok (.aload_n 0, 1)) rfl (lv_at hl 0 rfl) ?_
    refine va_slen (A := mAz z) hx hb hXs hbl (by rw [hz]; exact Nat.not_le.mpr hbl) hS (by decide +kernel : decode code 26 = .ok (.arraylength, 1)) ?_
    refine lv_bipush (v := 6) hx hb (by decide +kernel : decode code 27 = .ok (.bipush 6, 2)) (by decide) ?_
    refine lv_isub hx hb (by decide +kernel : decode code 29 = .ok (.isub, 1)) ?_
    refine lv_icmp_gt (tgt := 3083) hx hb (by decide +kernel : decode code 30 = .ok (.if_icmp .gt 3053, 3)) (by decide) (fun _ => ?_) (fun q => absurd (lw_gt (by omega) hL (by omega)) q)
    refine lv_iconst (v := 1) hx hb (by decide +kernel : decode code 3083 = .ok (.iconst 1, 1)) (by decide) ?_
    refine va_forget (fun q hq => by rw [← hz]; exact hS.2.2 q hq) ?_
    exact W.widen (by omega) (by omega) (lw_ret hx hb hr hlocks (by decide +kernel : decode code 3084 = .ok (.ireturn, 1)))
  | succ w ih =>
    intro n hn S H locs ls hI hP hD hS hl
    refine lv_iload hx hb (by decide +kernel : decode code 23 = .ok (.iload 4, 2)) (lv_at hl 4 rfl) ?_
    refine lv_aload_n hx hb (by decide +kernel : decode code 25 = .ok (.aload_n 0, 1)) rfl (lv_at hl 0 rfl) ?_
    refine va_slen (A := mAz z) hx hb hXs hbl (by rw [hz]; exact Nat.not_le.mpr hbl) hS (by decide +kernel : decode code 26 = .ok (.arraylength, 1)) ?_
    refine lv_bipush (v := 6) hx hb (by decide +kernel : decode code 27 = .ok (.bipush 6, 2)) (by decide) ?_
    refine lv_isub hx hb (by decide +kernel : decode code 29 = .ok (.isub, 1)) ?_
    refine lv_icmp_gt (tgt := 3083) hx hb (by decide +kernel : decode code 30 = .ok (.if_icmp .gt 3053, 3)) (by decide) (fun _ => ?_) (fun q => ?_)
    · refine lv_iconst (v := 1) hx hb (by decide +kernel : decode code 3083 = .ok (.iconst 1, 1)) (by decide) ?_
      refine va_forget (fun q hq => by rw [← hz]; exact hS.2.2 q hq) ?_
      exact W.widen (by omega) (by omega) (lw_ret hx hb hr hlocks (by decide +kernel : decode code 3084 = .ok (.ireturn, 1)))
    · have hi : 6 * n + 6 ≤ L := by
        rcases Nat.lt_or_ge L (6 * n + 6) with h | h
        · exact absurd (lw_gt h hL (by omega)) q
        · exact h
      have hn5 : n < 512 := by omega
      have kk : LK p lau e s m below meth c (lw_Z below #[Value.ref b] s) b z D ad cy n (6 * n) := by
        intro S H locs ls hI hP hD hS hl
        refine lv_iinc (v := nI (6 * (n + 1))) (lv' := [(4, .int (nI (6 * (n + 1)))), (0, .ref b), (1, .ref (ad 0)), (2, .ref (ad 63)), (3, .ref (ad 75))]) hx hb (by decide +kernel : decode code 3077 = .ok (.iinc 4 6, 3)) hl (k := 4) rfl (nI_ad (6 * n) 6) (by decide) rfl (fun ls hl => ?_)
        refine lv_goto (tgt := 23) hx hb (by decide +kernel : decode code 3080 = .ok (.goto (-3057), 3)) (by decide) ?_
        exact ih (n + 1) (by omega) S H locs ls hI hP hD hS (lv_sub hl [1, 2, 3, 4, 0] rfl)
      refine lv_aload_n hx hb (by decide +kernel : decode code 33 = .ok (.aload_n 0, 1)) rfl (lv_at hl 0 rfl) ?_
      refine lv_iload hx hb (by decide +kernel : decode code 34 = .ok (.iload 4, 2)) (lv_at hl 4 rfl) ?_
      refine va_sld (A := mAz z) hx hb hXs hbl (by rw [hz]; exact Nat.not_le.mpr hbl) hS (vp_in_nI (by omega) (by omega)) (by decide +kernel : decode code 36 = .ok (.iaload, 1)) ?_
      refine lv_bipush (v := 63) hx hb (by decide +kernel : decode code 37 = .ok (.bipush 63, 2)) (by decide) ?_
      refine lv_iand hx hb (by decide +kernel : decode code 39 = .ok (.iand, 1)) ?_
      refine lv_topi (fun y ey => ?_)
      by_cases ho : y.toInt < 0 ∨ 51 < y.toInt
      · refine lv_tableOut hx hb swd ho (tgt := 3077) (by decide) ?_
        exact W.widen (by omega) (by omega) (kk S H locs ls hI hP hD hS hl)
      · have h1 : ¬ y.toInt < 0 := fun q => ho (Or.inl q)
        have h2 : ¬ (51 : Int) < y.toInt := fun q => ho (Or.inr q)
        have h3 : y.toInt = ((y.toInt - 0).toNat : Int) := by omega
        have h4 : (y.toInt - 0).toNat < 52 := by omega
        generalize hq : (y.toInt - 0).toNat = q9 at h3 h4
        match q9, h4, hq with
        | 0, _, hq => exact lv_tableIn hx hb swd h1 h2 (off := 224) (by rw [hq]; rfl) (tgt := 264) (by decide) (lc_feed C hn5 hi hI hP hD hS hl kk)
        | 1, _, hq => exact lv_tableIn hx hb swd h1 h2 (off := 297) (by rw [hq]; rfl) (tgt := 337) (by decide) (lc_end C hn5 hi hI hP hD hS hl kk)
        | 2, _, hq => exact lv_tableIn hx hb swd h1 h2 (off := 322) (by rw [hq]; rfl) (tgt := 362) (by decide) (lc_isle C hn5 hi hI hP hD hS hl kk)
        | 3, _, hq => exact lv_tableIn hx hb swd h1 h2 (off := 366) (by rw [hq]; rfl) (tgt := 406) (by decide) (lc_law C hn5 hi hI hP hD hS hl kk)
        | 4, _, hq => exact lv_tableIn hx hb swd h1 h2 (off := 410) (by rw [hq]; rfl) (tgt := 450) (by decide) (lc_fault C hn5 hi hI hP hD hS hl kk)
        | 5, _, hq => exact lv_tableIn hx hb swd h1 h2 (off := 423) (by rw [hq]; rfl) (tgt := 463) (by decide) (lc_ledge C hn5 hi hI hP hD hS hl kk)
        | 6, _, hq => exact lv_tableIn hx hb swd h1 h2 (off := 491) (by rw [hq]; rfl) (tgt := 531) (by decide) (lc_holder C hn5 hi hI hP hD hS hl kk)
        | 7, _, hq => exact lv_tableIn hx hb swd h1 h2 (off := 575) (by rw [hq]; rfl) (tgt := 615) (by decide) (lc_climber C hn5 hi hI hP hD hS hl kk)
        | 8, _, hq => exact lv_tableIn hx hb swd h1 h2 (off := 643) (by rw [hq]; rfl) (tgt := 683) (by decide) (lc_kicks C hn5 hi hI hP hD hS hl kk)
        | 9, _, hq => exact lv_tableIn hx hb swd h1 h2 (off := 711) (by rw [hq]; rfl) (tgt := 751) (by decide) (lc_swing C hn5 hi hI hP hD hS hl kk)
        | 10, _, hq => exact lv_tableIn hx hb swd h1 h2 (off := 791) (by rw [hq]; rfl) (tgt := 831) (by decide) (lc_load C hn5 hi hI hP hD hS hl kk)
        | 11, _, hq => exact lv_tableIn hx hb swd h1 h2 (off := 859) (by rw [hq]; rfl) (tgt := 899) (by decide) (lc_held C hn5 hi hI hP hD hS hl kk)
        | 12, _, hq => exact lv_tableIn hx hb swd h1 h2 (off := 946) (by rw [hq]; rfl) (tgt := 986) (by decide) (lc_let C hn5 hi hI hP hD hS hl kk)
        | 13, _, hq => exact lv_tableIn hx hb swd h1 h2 (off := 1026) (by rw [hq]; rfl) (tgt := 1066) (by decide) (lc_clear C hn5 hi hI hP hD hS hl kk)
        | 14, _, hq => exact lv_tableIn hx hb swd h1 h2 (off := 1082) (by rw [hq]; rfl) (tgt := 1122) (by decide) (lc_turn C hn5 hi hI hP hD hS hl kk)
        | 15, _, hq => exact lv_tableIn hx hb swd h1 h2 (off := 1095) (by rw [hq]; rfl) (tgt := 1135) (by decide) (lc_rest C hn5 hi hI hP hD hS hl kk)
        | 16, _, hq => exact lv_tableIn hx hb swd h1 h2 (off := 1151) (by rw [hq]; rfl) (tgt := 1191) (by decide) (lc_days C hn5 hi hI hP hD hS hl kk)
        | 17, _, hq => exact lv_tableIn hx hb swd h1 h2 (off := 1207) (by rw [hq]; rfl) (tgt := 1247) (by decide) (lc_ahead C hn5 hi hI hP hD hS hl kk)
        | 18, _, hq => exact lv_tableIn hx hb swd h1 h2 (off := 1303) (by rw [hq]; rfl) (tgt := 1343) (by decide) (lc_fresh C hn5 hi hI hP hD hS hl kk)
        | 19, _, hq => exact lv_tableIn hx hb swd h1 h2 (off := 1316) (by rw [hq]; rfl) (tgt := 1356) (by decide) (lc_when C hn5 hi hI hP hD hS hl kk)
        | 20, _, hq => exact lv_tableIn hx hb swd h1 h2 (off := 1384) (by rw [hq]; rfl) (tgt := 1424) (by decide) (lc_late C hn5 hi hI hP hD hS hl kk)
        | 21, _, hq => exact lv_tableIn hx hb swd h1 h2 (off := 1440) (by rw [hq]; rfl) (tgt := 1480) (by decide) (lc_harvest C hn5 hi hI hP hD hS hl kk)
        | 22, _, hq => exact lv_tableIn hx hb swd h1 h2 (off := 1508) (by rw [hq]; rfl) (tgt := 1548) (by decide) (lc_leave C hn5 hi hI hP hD hS hl kk)
        | 23, _, hq => exact lv_tableIn hx hb swd h1 h2 (off := 1564) (by rw [hq]; rfl) (tgt := 1604) (by decide) (lc_lasts C hn5 hi hI hP hD hS hl kk)
        | 24, _, hq => exact lv_tableIn hx hb swd h1 h2 (off := 1632) (by rw [hq]; rfl) (tgt := 1672) (by decide) (lc_enough C hn5 hi hI hP hD hS hl kk)
        | 25, _, hq => exact lv_tableIn hx hb swd h1 h2 (off := 1700) (by rw [hq]; rfl) (tgt := 1740) (by decide) (lc_shifts C hn5 hi hI hP hD hS hl kk)
        | 26, _, hq => exact lv_tableIn hx hb swd h1 h2 (off := 1768) (by rw [hq]; rfl) (tgt := 1808) (by decide) (lc_who C hn5 hi hI hP hD hS hl kk)
        | 27, _, hq => exact lv_tableIn hx hb swd h1 h2 (off := 1781) (by rw [hq]; rfl) (tgt := 1821) (by decide) (lc_farthest C hn5 hi hI hP hD hS hl kk)
        | 28, _, hq => exact lv_tableIn hx hb swd h1 h2 (off := 1861) (by rw [hq]; rfl) (tgt := 1901) (by decide) (lc_calm C hn5 hi hI hP hD hS hl kk)
        | 29, _, hq => exact lv_tableIn hx hb swd h1 h2 (off := 1917) (by rw [hq]; rfl) (tgt := 1957) (by decide) (lc_trips C hn5 hi hI hP hD hS hl kk)
        | 30, _, hq => exact lv_tableIn hx hb swd h1 h2 (off := 1985) (by rw [hq]; rfl) (tgt := 2025) (by decide) (lc_recovers C hn5 hi hI hP hD hS hl kk)
        | 31, _, hq => exact lv_tableIn hx hb swd h1 h2 (off := 2053) (by rw [hq]; rfl) (tgt := 2093) (by decide) (lc_loss C hn5 hi hI hP hD hS hl kk)
        | 32, _, hq => exact lv_tableIn hx hb swd h1 h2 (off := 2109) (by rw [hq]; rfl) (tgt := 2149) (by decide) (lc_pairs C hn5 hi hI hP hD hS hl kk)
        | 33, _, hq => exact lv_tableIn hx hb swd h1 h2 (off := 2165) (by rw [hq]; rfl) (tgt := 2205) (by decide) (lc_jerks C hn5 hi hI hP hD hS hl kk)
        | 34, _, hq => exact lv_tableIn hx hb swd h1 h2 (off := 2233) (by rw [hq]; rfl) (tgt := 2273) (by decide) (lc_safe C hn5 hi hI hP hD hS hl kk)
        | 35, _, hq => exact lv_tableIn hx hb swd h1 h2 (off := 2308) (by rw [hq]; rfl) (tgt := 2348) (by decide) (lc_heard C hn5 hi hI hP hD hS hl kk)
        | 36, _, hq => exact lv_tableIn hx hb swd h1 h2 (off := 2388) (by rw [hq]; rfl) (tgt := 2428) (by decide) (lc_round C hn5 hi hI hP hD hS hl kk)
        | 37, _, hq => exact lv_tableIn hx hb swd h1 h2 (off := 2413) (by rw [hq]; rfl) (tgt := 2453) (by decide) (lc_split C hn5 hi hI hP hD hS hl kk)
        | 38, _, hq => exact lv_tableIn hx hb swd h1 h2 (off := 2454) (by rw [hq]; rfl) (tgt := 2494) (by decide) (lc_share C hn5 hi hI hP hD hS hl kk)
        | 39, _, hq => exact lv_tableIn hx hb swd h1 h2 (off := 2538) (by rw [hq]; rfl) (tgt := 2578) (by decide) (lc_rests C hn5 hi hI hP hD hS hl kk)
        | 40, _, hq => exact lv_tableIn hx hb swd h1 h2 (off := 2551) (by rw [hq]; rfl) (tgt := 2591) (by decide) (lc_how C hn5 hi hI hP hD hS hl kk)
        | 41, _, hq => exact lv_tableIn hx hb swd h1 h2 (off := 2604) (by rw [hq]; rfl) (tgt := 2644) (by decide) (lc_lightest C hn5 hi hI hP hD hS hl kk)
        | 42, _, hq => exact lv_tableIn hx hb swd h1 h2 (off := 2617) (by rw [hq]; rfl) (tgt := 2657) (by decide) (lc_trial C hn5 hi hI hP hD hS hl kk)
        | 43, _, hq => exact lv_tableIn hx hb swd h1 h2 (off := 2701) (by rw [hq]; rfl) (tgt := 2741) (by decide) (lc_span C hn5 hi hI hP hD hS hl kk)
        | 44, _, hq => exact lv_tableIn hx hb swd h1 h2 (off := 2785) (by rw [hq]; rfl) (tgt := 2825) (by decide) (lc_led C hn5 hi hI hP hD hS hl kk)
        | 45, _, hq => exact lv_tableIn hx hb swd h1 h2 (off := 2869) (by rw [hq]; rfl) (tgt := 2909) (by decide) (lc_lucky C hn5 hi hI hP hD hS hl kk)
        | 46, _, hq => exact lv_tableIn hx hb swd h1 h2 (off := 2882) (by rw [hq]; rfl) (tgt := 2922) (by decide) (lc_log C hn5 hi hI hP hD hS hl kk)
        | 47, _, hq => exact lv_tableIn hx hb swd h1 h2 (off := 2950) (by rw [hq]; rfl) (tgt := 2990) (by decide) (lc_seed C hn5 hi hI hP hD hS hl kk)
        | 48, _, hq => exact lv_tableIn hx hb swd h1 h2 (off := 2975) (by rw [hq]; rfl) (tgt := 3015) (by decide) (lc_undo C hn5 hi hI hP hD hS hl kk)
        | 49, _, hq => exact lv_tableIn hx hb swd h1 h2 (off := 2988) (by rw [hq]; rfl) (tgt := 3028) (by decide) (lc_image C hn5 hi hI hP hD hS hl kk)
        | 50, _, hq => exact lv_tableIn hx hb swd h1 h2 (off := 2999) (by rw [hq]; rfl) (tgt := 3039) (by decide) (lc_back C hn5 hi hI hP hD hS hl kk)
        | 51, _, hq => exact lv_tableIn hx hb swd h1 h2 (off := 3012) (by rw [hq]; rfl) (tgt := 3052) (by decide) (lc_count C hn5 hi hI hP hD hS hl kk)
        | q9 + 52, h4, _ => exact absurd h4 (by omega)
