section LC1
variable {p : Program} {lau : Launch} {e : Env} {s : State} {m : MethodId} {below : List Frame} {meth : Method} {c : Code} {Q : State → Prop} {z : Nat} {D : va_G} {ad : Nat → Nat} {cy : Nat → ClassId}
variable {H : Heap} {locs : List Loc} {ls : Array Slot} {S : mS} {b L i n : Nat} {xs : Nat → Int32}
set_option maxRecDepth 20000 in
theorem gm_rests : gOK RL 278 Mx271 (RX10, TX10, 23) 0 [1911, 1912, 1913, 116, 1914] = true := by decide +kernel
set_option maxRecDepth 20000 in
theorem gx_rests : gOK RL 275 Mx129 (RX9, TX9, 14) 0 [511, 512, 513, 106, 514] = true := by decide +kernel
set_option maxRecDepth 20000 in
set_option maxHeartbeats 4000000 in
theorem lc_rests (C : LwC p lau s m meth c b L xs z D ad cy) (hn : n < 512) (hi : i + 6 ≤ L) (hI : Inv S) (hP : va_P D vwCl (mW ad cy S) H) (hD : va_D (mAz z) (mW ad cy S)) (hS : va_S (mAz z) s.heap H locs) (hl : lv_has ls 7 (lvs b ad i)) (kk : LK p lau e s m below meth c Q b z D ad cy n i) :
    W p lau e room_1 s m #[Value.ref b] below meth c H locs (100 + 64 * n) (60000 + 384 * n) Q (F0 m 2578 ls []) := by
  obtain ⟨⟨hx, hb, hml, hown, hts⟩, hXs, hbl, hz, hK, hX0, hst, hL⟩ := id C
  obtain ⟨r1, S1, hf, hg⟩ := ag_rests (F := 6000)  (Nat.le_refl _) hI
  refine lv_aload_n hx hb (by decide +kernel : decode code 2578 = .ok (.aload_n 1, 1)) rfl (lv_at hl 1 rfl) ?_
  obtain ⟨b2, T2, hf2, hI2, hres⟩ := hg S1 (fun _ _ => rfl)
  refine gCall (own := RL) (as := []) (i := 0) (r := (r1, S1)) (M' := Mx129) (d := 60) (rest := []) ⟨hx, hb, hml, hown, hts⟩ gx_rests (mX_m z ad) (Nat.le_of_eq hz) hX0.1 hK (con_of hst (j := 129) rfl (Nat.le_of_ble_eq_true rfl) (fun w hw => by simp only [List.mem_cons, List.not_mem_nil, or_false] at hw; rcases hw with rfl <;> rfl) (f_X9_rests_ok (d := 57) hf)) hP hD hS hl.1 (ci := 8) rfl rfl (Nat.le_of_ble_eq_true rfl) (by decide +kernel : decode code 2579 = .ok (.invokevirtual 275, 3)) ⟨by decide, by decide⟩ ⟨by show 100 + 64 * n + 16 ≤ 601024; omega, by show 60000 + 384 * n + 96 ≤ 7293034; omega⟩ (fun v hv H1 locs1 hP hD hS => ?_) (fun k9 hk9 _ _ _ _ _ _ _ _ _ _ => (Res_no hres hk9).elim)
  obtain rfl := Res_in hres hv
  refine W.eq (g2 := F0 m 2582 ls [.int b2]) rfl ?_
  refine lv_aload_n hx hb (by decide +kernel : decode code 2582 = .ok (.aload_n 2, 1)) rfl (lv_at hl 2 rfl) ?_
  refine gCall (own := RL) (as := []) (i := 63) (r := (.inl (some (.int b2)), T2)) (M' := Mx271) (d := 60) (rest := [.int b2]) ⟨hx, hb, hml, hown, hts⟩ gm_rests (mX_m z ad) (Nat.le_of_eq hz) hX0.1 hK (con_of hst (j := 271) rfl (Nat.le_of_ble_eq_true rfl) (fun w hw => by simp only [List.mem_cons, List.not_mem_nil, or_false] at hw; rcases hw with rfl <;> rfl) (f_X10_rests_ok (d := 57) hf2)) hP hD hS hl.1 (ci := 9) rfl rfl (Nat.le_of_ble_eq_true rfl) (by decide +kernel : decode code 2583 = .ok (.invokevirtual 278, 3)) ⟨by decide, by decide⟩ ⟨by show 100 + 64 * n + 16 + 16 ≤ 601024; omega, by show 60000 + 384 * n + 96 + 96 ≤ 7293034; omega⟩ (fun v hv H1 locs1 hP hD hS => ?_) (fun k9 hk9 _ _ _ _ _ _ _ _ _ _ => by cases hk9)
  cases hv
  refine W.eq (g2 := F0 m 2586 ls [.int b2, .int b2]) rfl ?_
  refine lv_icmp_eq (tgt := 3077) hx hb (by decide +kernel : decode code 2586 = .ok (.if_icmp .eq 491, 3)) (by decide) (fun _ => ?_) (fun q => absurd rfl q)
  exact W.widen (by omega) (by omega) (kk T2 _ _ _ hI2 hP hD hS (lv_sub hl [0, 1, 2, 3, 4] rfl))
set_option maxRecDepth 20000 in
theorem gm_how : gOK RL 282 Mx272 (RX10, TX10, 23) 2 [1915, 1916, 1917, 116, 1918] = true := by decide +kernel
set_option maxRecDepth 20000 in
theorem gx_how : gOK RL 279 Mx130 (RX9, TX9, 14) 2 [515, 516, 517, 106, 518] = true := by decide +kernel
set_option maxRecDepth 20000 in
set_option maxHeartbeats 4000000 in
theorem lc_how (C : LwC p lau s m meth c b L xs z D ad cy) (hn : n < 512) (hi : i + 6 ≤ L) (hI : Inv S) (hP : va_P D vwCl (mW ad cy S) H) (hD : va_D (mAz z) (mW ad cy S)) (hS : va_S (mAz z) s.heap H locs) (hl : lv_has ls 7 (lvs b ad i)) (kk : LK p lau e s m below meth c Q b z D ad cy n i) :
    W p lau e room_1 s m #[Value.ref b] below meth c H locs (100 + 64 * n) (60000 + 384 * n) Q (F0 m 2591 ls []) := by
  obtain ⟨⟨hx, hb, hml, hown, hts⟩, hXs, hbl, hz, hK, hX0, hst, hL⟩ := id C
  obtain ⟨r1, S1, hf, hg⟩ := ag_how (F := 6000) (p1 := (sx xs i 1)) (p2 := (bx xs i 2)) (Nat.le_refl _) hI
  refine lv_aload_n hx hb (by decide +kernel : decode code 2591 = .ok (.aload_n 1, 1)) rfl (lv_at hl 1 rfl) ?_
  refine lw_ld C hS hl (x0 := 0) (x4 := 4) rfl rfl 1 (by decide) hi (by decide +kernel : decode code 2592 = .ok (.aload_n 0, 1)) (by decide +kernel : decode code 2593 = .ok (.iload 4, 2)) (by decide +kernel : decode code 2595 = .ok (.iconst 1, 1)) rfl (by decide +kernel : decode code 2596 = .ok (.iadd, 1)) (by decide +kernel : decode code 2597 = .ok (.iaload, 1)) ?_
  refine lw_ldb C hS hl (x0 := 0) (x4 := 4) rfl rfl 2 (by decide) hi (by decide +kernel : decode code 2598 = .ok (.aload_n 0, 1)) (by decide +kernel : decode code 2599 = .ok (.iload 4, 2)) (by decide +kernel : decode code 2601 = .ok (.iconst 2, 1)) rfl (by decide +kernel : decode code 2602 = .ok (.iadd, 1)) (by decide +kernel : decode code 2603 = .ok (.iaload, 1)) (by decide +kernel : decode code 2604 = .ok (.ifCond .eq 7, 3)) (by decide +kernel : decode code 2607 = .ok (.iconst 1, 1)) (by decide +kernel : decode code 2608 = .ok (.goto 4, 3)) (by decide +kernel : decode code 2611 = .ok (.iconst 0, 1)) ?_
  obtain ⟨b2, T2, hf2, hI2, hres⟩ := hg S1 (fun _ _ => rfl)
  refine gCall (own := RL) (as := [.int (sx xs i 1), .int (bx xs i 2)]) (i := 0) (r := (r1, S1)) (M' := Mx130) (d := 60) (rest := []) ⟨hx, hb, hml, hown, hts⟩ gx_how (mX_m z ad) (Nat.le_of_eq hz) hX0.1 hK (con_of hst (j := 130) rfl (Nat.le_of_ble_eq_true rfl) (fun w hw => by simp only [List.mem_cons, List.not_mem_nil, or_false] at hw; rcases hw with rfl | rfl | rfl <;> rfl) (f_X9_how_ok (d := 57) hf)) hP hD hS hl.1 (ci := 8) rfl rfl (Nat.le_of_ble_eq_true rfl) (by decide +kernel : decode code 2612 = .ok (.invokevirtual 279, 3)) ⟨by decide, by decide⟩ ⟨by show 100 + 64 * n + 16 ≤ 601024; omega, by show 60000 + 384 * n + 96 ≤ 7293034; omega⟩ (fun v hv H1 locs1 hP hD hS => ?_) (fun k9 hk9 _ _ _ _ _ _ _ _ _ _ => (Res_no hres hk9).elim)
  obtain rfl := Res_in hres hv
  refine W.eq (g2 := F0 m 2615 ls [.int b2]) rfl ?_
  refine lv_aload_n hx hb (by decide +kernel : decode code 2615 = .ok (.aload_n 2, 1)) rfl (lv_at hl 2 rfl) ?_
  refine lw_ld C hS hl (x0 := 0) (x4 := 4) rfl rfl 1 (by decide) hi (by decide +kernel : decode code 2616 = .ok (.aload_n 0, 1)) (by decide +kernel : decode code 2617 = .ok (.iload 4, 2)) (by decide +kernel : decode code 2619 = .ok (.iconst 1, 1)) rfl (by decide +kernel : decode code 2620 = .ok (.iadd, 1)) (by decide +kernel : decode code 2621 = .ok (.iaload, 1)) ?_
  refine lw_ldb C hS hl (x0 := 0) (x4 := 4) rfl rfl 2 (by decide) hi (by decide +kernel : decode code 2622 = .ok (.aload_n 0, 1)) (by decide +kernel : decode code 2623 = .ok (.iload 4, 2)) (by decide +kernel : decode code 2625 = .ok (.iconst 2, 1)) rfl (by decide +kernel : decode code 2626 = .ok (.iadd, 1)) (by decide +kernel : decode code 2627 = .ok (.iaload, 1)) (by decide +kernel : decode code 2628 = .ok (.ifCond .eq 7, 3)) (by decide +kernel : decode code 2631 = .ok (.iconst 1, 1)) (by decide +kernel : decode code 2632 = .ok (.goto 4, 3)) (by decide +kernel : decode code 2635 = .ok (.iconst 0, 1)) ?_
  refine gCall (own := RL) (as := [.int (sx xs i 1), .int (bx xs i 2)]) (i := 63) (r := (.inl (some (.int b2)), T2)) (M' := Mx272) (d := 60) (rest := [.int b2]) ⟨hx, hb, hml, hown, hts⟩ gm_how (mX_m z ad) (Nat.le_of_eq hz) hX0.1 hK (con_of hst (j := 272) rfl (Nat.le_of_ble_eq_true rfl) (fun w hw => by simp only [List.mem_cons, List.not_mem_nil, or_false] at hw; rcases hw with rfl | rfl | rfl <;> rfl) (f_X10_how_ok (d := 57) hf2)) hP hD hS hl.1 (ci := 9) rfl rfl (Nat.le_of_ble_eq_true rfl) (by decide +kernel : decode code 2636 = .ok (.invokevirtual 282, 3)) ⟨by decide, by decide⟩ ⟨by show 100 + 64 * n + 16 + 16 ≤ 601024; omega, by show 60000 + 384 * n + 96 + 96 ≤ 7293034; omega⟩ (fun v hv H1 locs1 hP hD hS => ?_) (fun k9 hk9 _ _ _ _ _ _ _ _ _ _ => by cases hk9)
  cases hv
  refine W.eq (g2 := F0 m 2639 ls [.int b2, .int b2]) rfl ?_
  refine lv_icmp_eq (tgt := 3077) hx hb (by decide +kernel : decode code 2639 = .ok (.if_icmp .eq 438, 3)) (by decide) (fun _ => ?_) (fun q => absurd rfl q)
  exact W.widen (by omega) (by omega) (kk T2 _ _ _ hI2 hP hD hS (lv_sub hl [0, 1, 2, 3, 4] rfl))
set_option maxRecDepth 20000 in
theorem gm_lightest : gOK RL 286 Mx234 (RX10, TX10, 23) 0 [1752, 1753, 1754, 116, 1755] = true := by decide +kernel
set_option maxRecDepth 20000 in
theorem gx_lightest : gOK RL 283 Mx121 (RX9, TX9, 14) 0 [481, 482, 483, 106, 484] = true := by decide +kernel
set_option maxRecDepth 20000 in
set_option maxHeartbeats 4000000 in
theorem lc_lightest (C : LwC p lau s m meth c b L xs z D ad cy) (hn : n < 512) (hi : i + 6 ≤ L) (hI : Inv S) (hP : va_P D vwCl (mW ad cy S) H) (hD : va_D (mAz z) (mW ad cy S)) (hS : va_S (mAz z) s.heap H locs) (hl : lv_has ls 7 (lvs b ad i)) (kk : LK p lau e s m below meth c Q b z D ad cy n i) :
    W p lau e room_1 s m #[Value.ref b] below meth c H locs (100 + 64 * n) (60000 + 384 * n) Q (F0 m 2644 ls []) := by
  obtain ⟨⟨hx, hb, hml, hown, hts⟩, hXs, hbl, hz, hK, hX0, hst, hL⟩ := id C
  obtain ⟨r1, S1, hf, hg⟩ := ag_lightest (F := 6000)  (Nat.le_refl _) hI
  refine lv_aload_n hx hb (by decide +kernel : decode code 2644 = .ok (.aload_n 1, 1)) rfl (lv_at hl 1 rfl) ?_
  obtain ⟨b2, T2, hf2, hI2, hres⟩ := hg S1 (fun _ _ => rfl)
  refine gCall (own := RL) (as := []) (i := 0) (r := (r1, S1)) (M' := Mx121) (d := 60) (rest := []) ⟨hx, hb, hml, hown, hts⟩ gx_lightest (mX_m z ad) (Nat.le_of_eq hz) hX0.1 hK (con_of hst (j := 121) rfl (Nat.le_of_ble_eq_true rfl) (fun w hw => by simp only [List.mem_cons, List.not_mem_nil, or_false] at hw; rcases hw with rfl <;> rfl) (f_X9_lightest_ok (d := 57) hf)) hP hD hS hl.1 (ci := 8) rfl rfl (Nat.le_of_ble_eq_true rfl) (by decide +kernel : decode code 2645 = .ok (.invokevirtual 283, 3)) ⟨by decide, by decide⟩ ⟨by show 100 + 64 * n + 16 ≤ 601024; omega, by show 60000 + 384 * n + 96 ≤ 7293034; omega⟩ (fun v hv H1 locs1 hP hD hS => ?_) (fun k9 hk9 _ _ _ _ _ _ _ _ _ _ => (Res_no hres hk9).elim)
  obtain rfl := Res_in hres hv
  refine W.eq (g2 := F0 m 2648 ls [.int b2]) rfl ?_
  refine lv_aload_n hx hb (by decide +kernel : decode code 2648 = .ok (.aload_n 2, 1)) rfl (lv_at hl 2 rfl) ?_
  refine gCall (own := RL) (as := []) (i := 63) (r := (.inl (some (.int b2)), T2)) (M' := Mx234) (d := 60) (rest := [.int b2]) ⟨hx, hb, hml, hown, hts⟩ gm_lightest (mX_m z ad) (Nat.le_of_eq hz) hX0.1 hK (con_of hst (j := 234) rfl (Nat.le_of_ble_eq_true rfl) (fun w hw => by simp only [List.mem_cons, List.not_mem_nil, or_false] at hw; rcases hw with rfl <;> rfl) (f_X10_lightest_ok (d := 59) hf2)) hP hD hS hl.1 (ci := 9) rfl rfl (Nat.le_of_ble_eq_true rfl) (by decide +kernel : decode code 2649 = .ok (.invokevirtual 286, 3)) ⟨by decide, by decide⟩ ⟨by show 100 + 64 * n + 16 + 16 ≤ 601024; omega, by show 60000 + 384 * n + 96 + 96 ≤ 7293034; omega⟩ (fun v hv H1 locs1 hP hD hS => ?_) (fun k9 hk9 _ _ _ _ _ _ _ _ _ _ => by cases hk9)
  cases hv
  refine W.eq (g2 := F0 m 2652 ls [.int b2, .int b2]) rfl ?_
  refine lv_icmp_eq (tgt := 3077) hx hb (by decide +kernel : decode code 2652 = .ok (.if_icmp .eq 425, 3)) (by decide) (fun _ => ?_) (fun q => absurd rfl q)
  exact W.widen (by omega) (by omega) (kk T2 _ _ _ hI2 hP hD hS (lv_sub hl [0, 1, 2, 3, 4] rfl))
set_option maxRecDepth 20000 in
theorem gm_trial : gOK RL 289 Mx273 (RX10, TX10, 23) 2 [1919, 1920, 1921, 116, 1922] = true := by decide +kernel
set_option maxRecDepth 20000 in
theorem gx_trial : hOK 287 yL_trial cL_trial 5 [(0, 10, 13, 13)] 4 [1304, 1305, 105, 1306] = true := by decide +kernel
set_option maxRecDepth 20000 in
set_option maxHeartbeats 4000000 in
theorem lc_trial (C : LwC p lau s m meth c b L xs z D ad cy) (hn : n < 512) (hi : i + 6 ≤ L) (hI : Inv S) (hP : va_P D vwCl (mW ad cy S) H) (hD : va_D (mAz z) (mW ad cy S)) (hS : va_S (mAz z) s.heap H locs) (hl : lv_has ls 7 (lvs b ad i)) (kk : LK p lau e s m below meth c Q b z D ad cy n i) :
    W p lau e room_1 s m #[Value.ref b] below meth c H locs (100 + 64 * n) (60000 + 384 * n) Q (F0 m 2657 ls []) := by
  obtain ⟨⟨hx, hb, hml, hown, hts⟩, hXs, hbl, hz, hK, hX0, hst, hL⟩ := id C
  obtain ⟨r1, S1, hf, hg⟩ := ag_trial (F := 6000) (p1 := (sx xs i 1)) (p2 := (bx xs i 2)) (Nat.le_refl _) hI
  refine lv_aload_n hx hb (by decide +kernel : decode code 2657 = .ok (.aload_n 1, 1)) rfl (lv_at hl 1 rfl) ?_
  refine lw_ld C hS hl (x0 := 0) (x4 := 4) rfl rfl 1 (by decide) hi (by decide +kernel : decode code 2658 = .ok (.aload_n 0, 1)) (by decide +kernel : decode code 2659 = .ok (.iload 4, 2)) (by decide +kernel : decode code 2661 = .ok (.iconst 1, 1)) rfl (by decide +kernel : decode code 2662 = .ok (.iadd, 1)) (by decide +kernel : decode code 2663 = .ok (.iaload, 1)) ?_
  refine lw_ldb C hS hl (x0 := 0) (x4 := 4) rfl rfl 2 (by decide) hi (by decide +kernel : decode code 2664 = .ok (.aload_n 0, 1)) (by decide +kernel : decode code 2665 = .ok (.iload 4, 2)) (by decide +kernel : decode code 2667 = .ok (.iconst 2, 1)) rfl (by decide +kernel : decode code 2668 = .ok (.iadd, 1)) (by decide +kernel : decode code 2669 = .ok (.iaload, 1)) (by decide +kernel : decode code 2670 = .ok (.ifCond .eq 7, 3)) (by decide +kernel : decode code 2673 = .ok (.iconst 1, 1)) (by decide +kernel : decode code 2674 = .ok (.goto 4, 3)) (by decide +kernel : decode code 2677 = .ok (.iconst 0, 1)) ?_
  obtain ⟨k0, S2, b2, T2, hHR, hf2, hI2, ht, ho⟩ := hr_of hg
  have h75 : T2 75 = S2 75 := ev75 (f_X10_trial_ok (d := 51) hf2)
  refine lv_aload_n hx hb (by decide +kernel : decode code 2678 = .ok (.aload_n 3, 1)) rfl (lv_at hl 3 rfl) ?_
  refine gHelp (as := [.ref 0, .int (sx xs i 1), .int (bx xs i 2), .ref 75]) (k := k0) (S2 := S2) (rest := []) ⟨hx, hb, hml, hown, hts⟩ gx_trial (Nat.le_of_eq hz) hX0 hK (hc_trial (F := 6000) hst hf hHR) hP hD hS hl.1 (Nat.le_of_ble_eq_true rfl) (by decide +kernel : decode code 2679 = .ok (.invokestatic 287, 3)) ⟨by decide, by decide⟩ ⟨by show 100 + 64 * n + 16 ≤ 601024; omega, by show 60000 + 384 * n + 96 ≤ 7293034; omega⟩ (fun H1 locs1 hP hD hS => ?_)
  refine lv_istore (lv' := (5, .int k0) :: lvs b ad i) hx hb (by decide +kernel : decode code 2682 = .ok (.istore 5, 2)) hl (by decide) rfl (fun ls hl => ?_)
  refine lv_aload_n hx hb (by decide +kernel : decode code 2684 = .ok (.aload_n 2, 1)) rfl (lv_at hl 3 rfl) ?_
  refine lw_ld C hS hl (x0 := 1) (x4 := 5) rfl rfl 1 (by decide) hi (by decide +kernel : decode code 2685 = .ok (.aload_n 0, 1)) (by decide +kernel : decode code 2686 = .ok (.iload 4, 2)) (by decide +kernel : decode code 2688 = .ok (.iconst 1, 1)) rfl (by decide +kernel : decode code 2689 = .ok (.iadd, 1)) (by decide +kernel : decode code 2690 = .ok (.iaload, 1)) ?_
  refine lw_ldb C hS hl (x0 := 1) (x4 := 5) rfl rfl 2 (by decide) hi (by decide +kernel : decode code 2691 = .ok (.aload_n 0, 1)) (by decide +kernel : decode code 2692 = .ok (.iload 4, 2)) (by decide +kernel : decode code 2694 = .ok (.iconst 2, 1)) rfl (by decide +kernel : decode code 2695 = .ok (.iadd, 1)) (by decide +kernel : decode code 2696 = .ok (.iaload, 1)) (by decide +kernel : decode code 2697 = .ok (.ifCond .eq 7, 3)) (by decide +kernel : decode code 2700 = .ok (.iconst 1, 1)) (by decide +kernel : decode code 2701 = .ok (.goto 4, 3)) (by decide +kernel : decode code 2704 = .ok (.iconst 0, 1)) ?_
  refine gCall (own := RL) (as := [.int (sx xs i 1), .int (bx xs i 2)]) (i := 63) (r := (.inl (some (.int b2)), T2)) (M' := Mx273) (d := 60) (rest := []) ⟨hx, hb, hml, hown, hts⟩ gm_trial (mX_m z ad) (Nat.le_of_eq hz) hX0.1 hK (con_of hst (j := 273) rfl (Nat.le_of_ble_eq_true rfl) (fun w hw => by simp only [List.mem_cons, List.not_mem_nil, or_false] at hw; rcases hw with rfl | rfl | rfl <;> rfl) (f_X10_trial_ok (d := 51) hf2)) hP hD hS hl.1 (ci := 9) rfl rfl (Nat.le_of_ble_eq_true rfl) (by decide +kernel : decode code 2705 = .ok (.invokevirtual 289, 3)) ⟨by decide, by decide⟩ ⟨by show 100 + 64 * n + 16 + 16 ≤ 601024; omega, by show 60000 + 384 * n + 96 + 96 ≤ 7293034; omega⟩ (fun v hv H1 locs1 hP hD hS => ?_) (fun k9 hk9 _ _ _ _ _ _ _ _ _ _ => by cases hk9)
  cases hv
  refine W.eq (g2 := F0 m 2708 ls [.int b2]) rfl ?_
  refine lv_istore (lv' := (6, .int b2) :: (5, .int k0) :: lvs b ad i) hx hb (by decide +kernel : decode code 2708 = .ok (.istore 6, 2)) hl (by decide) rfl (fun ls hl => ?_)
  refine lv_aload_n hx hb (by decide +kernel : decode code 2710 = .ok (.aload_n 2, 1)) rfl (lv_at hl 4 rfl) ?_
  refine gCall (own := RL) (as := []) (i := 63) (r := (.inl (some (.int (T2 63 0))), T2)) (M' := Mx154) (d := 60) (rest := []) ⟨hx, hb, hml, hown, hts⟩ gt_thrown (mX_m z ad) (Nat.le_of_eq hz) hX0.1 hK (con_of hst (j := 154) rfl (Nat.le_of_ble_eq_true rfl) (fun w hw => by simp only [List.mem_cons, List.not_mem_nil, or_false] at hw; rcases hw with rfl <;> rfl) (f_X10_thrown_ok (d := 60) thr_ok)) hP hD hS hl.1 (ci := 9) rfl rfl (Nat.le_of_ble_eq_true rfl) (by decide +kernel : decode code 2711 = .ok (.invokevirtual 152, 3)) ⟨by decide, by decide⟩ ⟨by show 100 + 64 * n + 16 + 16 + 16 ≤ 601024; omega, by show 60000 + 384 * n + 96 + 96 + 96 ≤ 7293034; omega⟩ (fun v hv H1 locs1 hP hD hS => ?_) (fun k9 hk9 _ _ _ _ _ _ _ _ _ _ => by cases hk9)
  cases hv
  replace hP : va_P D vwCl (mW ad cy T2) H1 := hP
  refine W.eq (g2 := F0 m 2714 ls [.int (T2 63 0)]) rfl ?_
  refine lv_iload hx hb (by decide +kernel : decode code 2714 = .ok (.iload 5, 2)) (lv_at hl 1 rfl) ?_
  refine lv_icmp_eq (tgt := 2721) hx hb (by decide +kernel : decode code 2716 = .ok (.if_icmp .eq 5, 3)) (by decide) (fun _ => ?_) (fun q => absurd ht q)
  refine lv_iload hx hb (by decide +kernel : decode code 2721 = .ok (.iload 5, 2)) (lv_at hl 1 rfl) ?_
  have KE : W p lau e room_1 s m #[Value.ref b] below meth c H1 locs1 (100 + 64 * n + 16 + 16 + 16) (60000 + 384 * n + 96 + 96 + 96) Q (F0 m 2738 ls []) := by
    refine lv_goto (tgt := 3077) hx hb (by decide +kernel : decode code 2738 = .ok (.goto 339, 3)) (by decide) ?_
    exact W.widen (by omega) (by omega) (kk T2 _ _ _ hI2 hP hD hS (lv_sub hl [2, 3, 4, 5, 6] rfl))
  refine lv_if_ne (tgt := 2738) hx hb (by decide +kernel : decode code 2723 = .ok (.ifCond .ne 15, 3)) (by decide) (fun _ => KE) (fun q0 => ?_)
  refine lv_aload_n hx hb (by decide +kernel : decode code 2726 = .ok (.aload_n 3, 1)) rfl (lv_at hl 5 rfl) ?_
  refine lv_iconst (v := 0) hx hb (by decide +kernel : decode code 2727 = .ok (.iconst 0, 1)) (by decide) ?_
  refine va_lald hx hb hK hP 75 3 (mW_get (i := 75) rfl) rfl vin0 (by decide +kernel : decode code 2728 = .ok (.laload, 1)) ?_
  rw [show (T2 75 ((0 : Int32).toNatClampNeg)) = b2 from (congrFun h75 0).trans (ho q0)]
  refine lv_iload hx hb (by decide +kernel : decode code 2729 = .ok (.iload 6, 2)) (lv_at hl 0 rfl) ?_
  refine lv_i2l hx hb (by decide +kernel : decode code 2731 = .ok (.i2l, 1)) rfl ?_
  refine W.lcmp hx hb (by decide +kernel : decode code 2732 = .ok (.lcmp, 1)) ?_
  refine lv_if_eq (tgt := 2738) hx hb (by decide +kernel : decode code 2733 = .ok (.ifCond .eq 5, 3)) (by decide) (fun _ => KE) (fun q => absurd (lg_cmp_self _) q)
set_option maxRecDepth 20000 in
theorem gm_span : gOK RL 292 Mx275 (RX10, TX10, 23) 2 [1923, 1924, 1925, 116, 1926] = true := by decide +kernel
set_option maxRecDepth 20000 in
theorem gx_span : hOK 290 yL_span cL_span 5 [(0, 10, 13, 13)] 4 [1311, 1312, 105, 1313] = true := by decide +kernel
set_option maxRecDepth 20000 in
set_option maxHeartbeats 4000000 in
theorem lc_span (C : LwC p lau s m meth c b L xs z D ad cy) (hn : n < 512) (hi : i + 6 ≤ L) (hI : Inv S) (hP : va_P D vwCl (mW ad cy S) H) (hD : va_D (mAz z) (mW ad cy S)) (hS : va_S (mAz z) s.heap H locs) (hl : lv_has ls 7 (lvs b ad i)) (kk : LK p lau e s m below meth c Q b z D ad cy n i) :
    W p lau e room_1 s m #[Value.ref b] below meth c H locs (100 + 64 * n) (60000 + 384 * n) Q (F0 m 2741 ls []) := by
  obtain ⟨⟨hx, hb, hml, hown, hts⟩, hXs, hbl, hz, hK, hX0, hst, hL⟩ := id C
  obtain ⟨r1, S1, hf, hg⟩ := ag_span (F := 6000) (p1 := (sx xs i 1)) (p2 := (bx xs i 2)) (Nat.le_refl _) hI
  refine lv_aload_n hx hb (by decide +kernel : decode code 2741 = .ok (.aload_n 1, 1)) rfl (lv_at hl 1 rfl) ?_
  refine lw_ld C hS hl (x0 := 0) (x4 := 4) rfl rfl 1 (by decide) hi (by decide +kernel : decode code 2742 = .ok (.aload_n 0, 1)) (by decide +kernel : decode code 2743 = .ok (.iload 4, 2)) (by decide +kernel : decode code 2745 = .ok (.iconst 1, 1)) rfl (by decide +kernel : decode code 2746 = .ok (.iadd, 1)) (by decide +kernel : decode code 2747 = .ok (.iaload, 1)) ?_
  refine lw_ldb C hS hl (x0 := 0) (x4 := 4) rfl rfl 2 (by decide) hi (by decide +kernel : decode code 2748 = .ok (.aload_n 0, 1)) (by decide +kernel : decode code 2749 = .ok (.iload 4, 2)) (by decide +kernel : decode code 2751 = .ok (.iconst 2, 1)) rfl (by decide +kernel : decode code 2752 = .ok (.iadd, 1)) (by decide +kernel : decode code 2753 = .ok (.iaload, 1)) (by decide +kernel : decode code 2754 = .ok (.ifCond .eq 7, 3)) (by decide +kernel : decode code 2757 = .ok (.iconst 1, 1)) (by decide +kernel : decode code 2758 = .ok (.goto 4, 3)) (by decide +kernel : decode code 2761 = .ok (.iconst 0, 1)) ?_
  obtain ⟨k0, S2, b2, T2, hHR, hf2, hI2, ht, ho⟩ := hr_of hg
  have h75 : T2 75 = S2 75 := ev75 (f_X10_span_ok (d := 51) hf2)
  refine lv_aload_n hx hb (by decide +kernel : decode code 2762 = .ok (.aload_n 3, 1)) rfl (lv_at hl 3 rfl) ?_
  refine gHelp (as := [.ref 0, .int (sx xs i 1), .int (bx xs i 2), .ref 75]) (k := k0) (S2 := S2) (rest := []) ⟨hx, hb, hml, hown, hts⟩ gx_span (Nat.le_of_eq hz) hX0 hK (hc_span (F := 6000) hst hf hHR) hP hD hS hl.1 (Nat.le_of_ble_eq_true rfl) (by decide +kernel : decode code 2763 = .ok (.invokestatic 290, 3)) ⟨by decide, by decide⟩ ⟨by show 100 + 64 * n + 16 ≤ 601024; omega, by show 60000 + 384 * n + 96 ≤ 7293034; omega⟩ (fun H1 locs1 hP hD hS => ?_)
  refine lv_istore (lv' := (5, .int k0) :: lvs b ad i) hx hb (by decide +kernel : decode code 2766 = .ok (.istore 5, 2)) hl (by decide) rfl (fun ls hl => ?_)
  refine lv_aload_n hx hb (by decide +kernel : decode code 2768 = .ok (.aload_n 2, 1)) rfl (lv_at hl 3 rfl) ?_
  refine lw_ld C hS hl (x0 := 1) (x4 := 5) rfl rfl 1 (by decide) hi (by decide +kernel : decode code 2769 = .ok (.aload_n 0, 1)) (by decide +kernel : decode code 2770 = .ok (.iload 4, 2)) (by decide +kernel : decode code 2772 = .ok (.iconst 1, 1)) rfl (by decide +kernel : decode code 2773 = .ok (.iadd, 1)) (by decide +kernel : decode code 2774 = .ok (.iaload, 1)) ?_
  refine lw_ldb C hS hl (x0 := 1) (x4 := 5) rfl rfl 2 (by decide) hi (by decide +kernel : decode code 2775 = .ok (.aload_n 0, 1)) (by decide +kernel : decode code 2776 = .ok (.iload 4, 2)) (by decide +kernel : decode code 2778 = .ok (.iconst 2, 1)) rfl (by decide +kernel : decode code 2779 = .ok (.iadd, 1)) (by decide +kernel : decode code 2780 = .ok (.iaload, 1)) (by decide +kernel : decode code 2781 = .ok (.ifCond .eq 7, 3)) (by decide +kernel : decode code 2784 = .ok (.iconst 1, 1)) (by decide +kernel : decode code 2785 = .ok (.goto 4, 3)) (by decide +kernel : decode code 2788 = .ok (.iconst 0, 1)) ?_
  refine gCall (own := RL) (as := [.int (sx xs i 1), .int (bx xs i 2)]) (i := 63) (r := (.inl (some (.int b2)), T2)) (M' := Mx275) (d := 60) (rest := []) ⟨hx, hb, hml, hown, hts⟩ gm_span (mX_m z ad) (Nat.le_of_eq hz) hX0.1 hK (con_of hst (j := 275) rfl (Nat.le_of_ble_eq_true rfl) (fun w hw => by simp only [List.mem_cons, List.not_mem_nil, or_false] at hw; rcases hw with rfl | rfl | rfl <;> rfl) (f_X10_span_ok (d := 51) hf2)) hP hD hS hl.1 (ci := 9) rfl rfl (Nat.le_of_ble_eq_true rfl) (by decide +kernel : decode code 2789 = .ok (.invokevirtual 292, 3)) ⟨by decide, by decide⟩ ⟨by show 100 + 64 * n + 16 + 16 ≤ 601024; omega, by show 60000 + 384 * n + 96 + 96 ≤ 7293034; omega⟩ (fun v hv H1 locs1 hP hD hS => ?_) (fun k9 hk9 _ _ _ _ _ _ _ _ _ _ => by cases hk9)
  cases hv
  refine W.eq (g2 := F0 m 2792 ls [.int b2]) rfl ?_
  refine lv_istore (lv' := (6, .int b2) :: (5, .int k0) :: lvs b ad i) hx hb (by decide +kernel : decode code 2792 = .ok (.istore 6, 2)) hl (by decide) rfl (fun ls hl => ?_)
  refine lv_aload_n hx hb (by decide +kernel : decode code 2794 = .ok (.aload_n 2, 1)) rfl (lv_at hl 4 rfl) ?_
  refine gCall (own := RL) (as := []) (i := 63) (r := (.inl (some (.int (T2 63 0))), T2)) (M' := Mx154) (d := 60) (rest := []) ⟨hx, hb, hml, hown, hts⟩ gt_thrown (mX_m z ad) (Nat.le_of_eq hz) hX0.1 hK (con_of hst (j := 154) rfl (Nat.le_of_ble_eq_true rfl) (fun w hw => by simp only [List.mem_cons, List.not_mem_nil, or_false] at hw; rcases hw with rfl <;> rfl) (f_X10_thrown_ok (d := 60) thr_ok)) hP hD hS hl.1 (ci := 9) rfl rfl (Nat.le_of_ble_eq_true rfl) (by decide +kernel : decode code 2795 = .ok (.invokevirtual 152, 3)) ⟨by decide, by decide⟩ ⟨by show 100 + 64 * n + 16 + 16 + 16 ≤ 601024; omega, by show 60000 + 384 * n + 96 + 96 + 96 ≤ 7293034; omega⟩ (fun v hv H1 locs1 hP hD hS => ?_) (fun k9 hk9 _ _ _ _ _ _ _ _ _ _ => by cases hk9)
  cases hv
  replace hP : va_P D vwCl (mW ad cy T2) H1 := hP
  refine W.eq (g2 := F0 m 2798 ls [.int (T2 63 0)]) rfl ?_
  refine lv_iload hx hb (by decide +kernel : decode code 2798 = .ok (.iload 5, 2)) (lv_at hl 1 rfl) ?_
  refine lv_icmp_eq (tgt := 2805) hx hb (by decide +kernel : decode code 2800 = .ok (.if_icmp .eq 5, 3)) (by decide) (fun _ => ?_) (fun q => absurd ht q)
  refine lv_iload hx hb (by decide +kernel : decode code 2805 = .ok (.iload 5, 2)) (lv_at hl 1 rfl) ?_
  have KE : W p lau e room_1 s m #[Value.ref b] below meth c H1 locs1 (100 + 64 * n + 16 + 16 + 16) (60000 + 384 * n + 96 + 96 + 96) Q (F0 m 2822 ls []) := by
    refine lv_goto (tgt := 3077) hx hb (by decide +kernel : decode code 2822 = .ok (.goto 255, 3)) (by decide) ?_
    exact W.widen (by omega) (by omega) (kk T2 _ _ _ hI2 hP hD hS (lv_sub hl [2, 3, 4, 5, 6] rfl))
  refine lv_if_ne (tgt := 2822) hx hb (by decide +kernel : decode code 2807 = .ok (.ifCond .ne 15, 3)) (by decide) (fun _ => KE) (fun q0 => ?_)
  refine lv_aload_n hx hb (by decide +kernel : decode code 2810 = .ok (.aload_n 3, 1)) rfl (lv_at hl 5 rfl) ?_
  refine lv_iconst (v := 0) hx hb (by decide +kernel : decode code 2811 = .ok (.iconst 0, 1)) (by decide) ?_
  refine va_lald hx hb hK hP 75 3 (mW_get (i := 75) rfl) rfl vin0 (by decide +kernel : decode code 2812 = .ok (.laload, 1)) ?_
  rw [show (T2 75 ((0 : Int32).toNatClampNeg)) = b2 from (congrFun h75 0).trans (ho q0)]
  refine lv_iload hx hb (by decide +kernel : decode code 2813 = .ok (.iload 6, 2)) (lv_at hl 0 rfl) ?_
  refine lv_i2l hx hb (by decide +kernel : decode code 2815 = .ok (.i2l, 1)) rfl ?_
  refine W.lcmp hx hb (by decide +kernel : decode code 2816 = .ok (.lcmp, 1)) ?_
  refine lv_if_eq (tgt := 2822) hx hb (by decide +kernel : decode code 2817 = .ok (.ifCond .eq 5, 3)) (by decide) (fun _ => KE) (fun q => absurd (lg_cmp_self _) q)
set_option maxRecDepth 20000 in
theorem gm_led : gOK RL 295 Mx278 (RX10, TX10, 23) 2 [1931, 1932, 1933, 116, 1934] = true := by decide +kernel
set_option maxRecDepth 20000 in
theorem gx_led : hOK 293 yL_led cL_led 5 [(0, 10, 13, 24)] 4 [1323, 1324, 105, 1325] = true := by decide +kernel
set_option maxRecDepth 20000 in
set_option maxHeartbeats 4000000 in
theorem lc_led (C : LwC p lau s m meth c b L xs z D ad cy) (hn : n < 512) (hi : i + 6 ≤ L) (hI : Inv S) (hP : va_P D vwCl (mW ad cy S) H) (hD : va_D (mAz z) (mW ad cy S)) (hS : va_S (mAz z) s.heap H locs) (hl : lv_has ls 7 (lvs b ad i)) (kk : LK p lau e s m below meth c Q b z D ad cy n i) :
    W p lau e room_1 s m #[Value.ref b] below meth c H locs (100 + 64 * n) (60000 + 384 * n) Q (F0 m 2825 ls []) := by
  obtain ⟨⟨hx, hb, hml, hown, hts⟩, hXs, hbl, hz, hK, hX0, hst, hL⟩ := id C
  obtain ⟨r1, S1, hf, hg⟩ := ag_led (F := 6000) (p1 := (sx xs i 1)) (p2 := (bx xs i 2)) (Nat.le_refl _) hI
  refine lv_aload_n hx hb (by decide +kernel : decode code 2825 = .ok (.aload_n 1, 1)) rfl (lv_at hl 1 rfl) ?_
  refine lw_ld C hS hl (x0 := 0) (x4 := 4) rfl rfl 1 (by decide) hi (by decide +kernel : decode code 2826 = .ok (.aload_n 0, 1)) (by decide +kernel : decode code 2827 = .ok (.iload 4, 2)) (by decide +kernel : decode code 2829 = .ok (.iconst 1, 1)) rfl (by decide +kernel : decode code 2830 = .ok (.iadd, 1)) (by decide +kernel : decode code 2831 = .ok (.iaload, 1)) ?_
  refine lw_ldb C hS hl (x0 := 0) (x4 := 4) rfl rfl 2 (by decide) hi (by decide +kernel : decode code 2832 = .ok (.aload_n 0, 1)) (by decide +kernel : decode code 2833 = .ok (.iload 4, 2)) (by decide +kernel : decode code 2835 = .ok (.iconst 2, 1)) rfl (by decide +kernel : decode code 2836 = .ok (.iadd, 1)) (by decide +kernel : decode code 2837 = .ok (.iaload, 1)) (by decide +kernel : decode code 2838 = .ok (.ifCond .eq 7, 3)) (by decide +kernel : decode code 2841 = .ok (.iconst 1, 1)) (by decide +kernel : decode code 2842 = .ok (.goto 4, 3)) (by decide +kernel : decode code 2845 = .ok (.iconst 0, 1)) ?_
  obtain ⟨k0, S2, b2, T2, hHR, hf2, hI2, ht, ho⟩ := hr_of hg
  have h75 : T2 75 = S2 75 := ev75 (f_X10_led_ok (d := 58) hf2)
  refine lv_aload_n hx hb (by decide +kernel : decode code 2846 = .ok (.aload_n 3, 1)) rfl (lv_at hl 3 rfl) ?_
  refine gHelp (as := [.ref 0, .int (sx xs i 1), .int (bx xs i 2), .ref 75]) (k := k0) (S2 := S2) (rest := []) ⟨hx, hb, hml, hown, hts⟩ gx_led (Nat.le_of_eq hz) hX0 hK (hc_led (F := 6000) hst hf hHR) hP hD hS hl.1 (Nat.le_of_ble_eq_true rfl) (by decide +kernel : decode code 2847 = .ok (.invokestatic 293, 3)) ⟨by decide, by decide⟩ ⟨by show 100 + 64 * n + 16 ≤ 601024; omega, by show 60000 + 384 * n + 96 ≤ 7293034; omega⟩ (fun H1 locs1 hP hD hS => ?_)
  refine lv_istore (lv' := (5, .int k0) :: lvs b ad i) hx hb (by decide +kernel : decode code 2850 = .ok (.istore 5, 2)) hl (by decide) rfl (fun ls hl => ?_)
  refine lv_aload_n hx hb (by decide +kernel : decode code 2852 = .ok (.aload_n 2, 1)) rfl (lv_at hl 3 rfl) ?_
  refine lw_ld C hS hl (x0 := 1) (x4 := 5) rfl rfl 1 (by decide) hi (by decide +kernel : decode code 2853 = .ok (.aload_n 0, 1)) (by decide +kernel : decode code 2854 = .ok (.iload 4, 2)) (by decide +kernel : decode code 2856 = .ok (.iconst 1, 1)) rfl (by decide +kernel : decode code 2857 = .ok (.iadd, 1)) (by decide +kernel : decode code 2858 = .ok (.iaload, 1)) ?_
  refine lw_ldb C hS hl (x0 := 1) (x4 := 5) rfl rfl 2 (by decide) hi (by decide +kernel : decode code 2859 = .ok (.aload_n 0, 1)) (by decide +kernel : decode code 2860 = .ok (.iload 4, 2)) (by decide +kernel : decode code 2862 = .ok (.iconst 2, 1)) rfl (by decide +kernel : decode code 2863 = .ok (.iadd, 1)) (by decide +kernel : decode code 2864 = .ok (.iaload, 1)) (by decide +kernel : decode code 2865 = .ok (.ifCond .eq 7, 3)) (by decide +kernel : decode code 2868 = .ok (.iconst 1, 1)) (by decide +kernel : decode code 2869 = .ok (.goto 4, 3)) (by decide +kernel : decode code 2872 = .ok (.iconst 0, 1)) ?_
  refine gCall (own := RL) (as := [.int (sx xs i 1), .int (bx xs i 2)]) (i := 63) (r := (.inl (some (.int b2)), T2)) (M' := Mx278) (d := 60) (rest := []) ⟨hx, hb, hml, hown, hts⟩ gm_led (mX_m z ad) (Nat.le_of_eq hz) hX0.1 hK (con_of hst (j := 278) rfl (Nat.le_of_ble_eq_true rfl) (fun w hw => by simp only [List.mem_cons, List.not_mem_nil, or_false] at hw; rcases hw with rfl | rfl | rfl <;> rfl) (f_X10_led_ok (d := 58) hf2)) hP hD hS hl.1 (ci := 9) rfl rfl (Nat.le_of_ble_eq_true rfl) (by decide +kernel : decode code 2873 = .ok (.invokevirtual 295, 3)) ⟨by decide, by decide⟩ ⟨by show 100 + 64 * n + 16 + 16 ≤ 601024; omega, by show 60000 + 384 * n + 96 + 96 ≤ 7293034; omega⟩ (fun v hv H1 locs1 hP hD hS => ?_) (fun k9 hk9 _ _ _ _ _ _ _ _ _ _ => by cases hk9)
  cases hv
  refine W.eq (g2 := F0 m 2876 ls [.int b2]) rfl ?_
  refine lv_istore (lv' := (6, .int b2) :: (5, .int k0) :: lvs b ad i) hx hb (by decide +kernel : decode code 2876 = .ok (.istore 6, 2)) hl (by decide) rfl (fun ls hl => ?_)
  refine lv_aload_n hx hb (by decide +kernel : decode code 2878 = .ok (.aload_n 2, 1)) rfl (lv_at hl 4 rfl) ?_
  refine gCall (own := RL) (as := []) (i := 63) (r := (.inl (some (.int (T2 63 0))), T2)) (M' := Mx154) (d := 60) (rest := []) ⟨hx, hb, hml, hown, hts⟩ gt_thrown (mX_m z ad) (Nat.le_of_eq hz) hX0.1 hK (con_of hst (j := 154) rfl (Nat.le_of_ble_eq_true rfl) (fun w hw => by simp only [List.mem_cons, List.not_mem_nil, or_false] at hw; rcases hw with rfl <;> rfl) (f_X10_thrown_ok (d := 60) thr_ok)) hP hD hS hl.1 (ci := 9) rfl rfl (Nat.le_of_ble_eq_true rfl) (by decide +kernel : decode code 2879 = .ok (.invokevirtual 152, 3)) ⟨by decide, by decide⟩ ⟨by show 100 + 64 * n + 16 + 16 + 16 ≤ 601024; omega, by show 60000 + 384 * n + 96 + 96 + 96 ≤ 7293034; omega⟩ (fun v hv H1 locs1 hP hD hS => ?_) (fun k9 hk9 _ _ _ _ _ _ _ _ _ _ => by cases hk9)
  cases hv
  replace hP : va_P D vwCl (mW ad cy T2) H1 := hP
  refine W.eq (g2 := F0 m 2882 ls [.int (T2 63 0)]) rfl ?_
  refine lv_iload hx hb (by decide +kernel : decode code 2882 = .ok (.iload 5, 2)) (lv_at hl 1 rfl) ?_
  refine lv_icmp_eq (tgt := 2889) hx hb (by decide +kernel : decode code 2884 = .ok (.if_icmp .eq 5, 3)) (by decide) (fun _ => ?_) (fun q => absurd ht q)
  refine lv_iload hx hb (by decide +kernel : decode code 2889 = .ok (.iload 5, 2)) (lv_at hl 1 rfl) ?_
  have KE : W p lau e room_1 s m #[Value.ref b] below meth c H1 locs1 (100 + 64 * n + 16 + 16 + 16) (60000 + 384 * n + 96 + 96 + 96) Q (F0 m 2906 ls []) := by
    refine lv_goto (tgt := 3077) hx hb (by decide +kernel : decode code 2906 = .ok (.goto 171, 3)) (by decide) ?_
    exact W.widen (by omega) (by omega) (kk T2 _ _ _ hI2 hP hD hS (lv_sub hl [2, 3, 4, 5, 6] rfl))
  refine lv_if_ne (tgt := 2906) hx hb (by decide +kernel : decode code 2891 = .ok (.ifCond .ne 15, 3)) (by decide) (fun _ => KE) (fun q0 => ?_)
  refine lv_aload_n hx hb (by decide +kernel : decode code 2894 = .ok (.aload_n 3, 1)) rfl (lv_at hl 5 rfl) ?_
  refine lv_iconst (v := 0) hx hb (by decide +kernel : decode code 2895 = .ok (.iconst 0, 1)) (by decide) ?_
  refine va_lald hx hb hK hP 75 3 (mW_get (i := 75) rfl) rfl vin0 (by decide +kernel : decode code 2896 = .ok (.laload, 1)) ?_
  rw [show (T2 75 ((0 : Int32).toNatClampNeg)) = b2 from (congrFun h75 0).trans (ho q0)]
  refine lv_iload hx hb (by decide +kernel : decode code 2897 = .ok (.iload 6, 2)) (lv_at hl 0 rfl) ?_
  refine lv_i2l hx hb (by decide +kernel : decode code 2899 = .ok (.i2l, 1)) rfl ?_
  refine W.lcmp hx hb (by decide +kernel : decode code 2900 = .ok (.lcmp, 1)) ?_
  refine lv_if_eq (tgt := 2906) hx hb (by decide +kernel : decode code 2901 = .ok (.ifCond .eq 5, 3)) (by decide) (fun _ => KE) (fun q => absurd (lg_cmp_self _) q)
set_option maxRecDepth 20000 in
theorem gm_lucky : gOK RL 299 Mx279 (RX10, TX10, 23) 0 [1943, 1944, 1945, 116, 1946] = true := by decide +kernel
set_option maxRecDepth 20000 in
theorem gx_lucky : gOK RL 296 Mx132 (RX9, TX9, 14) 0 [519, 520, 521, 106, 522] = true := by decide +kernel
set_option maxRecDepth 20000 in
set_option maxHeartbeats 4000000 in
theorem lc_lucky (C : LwC p lau s m meth c b L xs z D ad cy) (hn : n < 512) (hi : i + 6 ≤ L) (hI : Inv S) (hP : va_P D vwCl (mW ad cy S) H) (hD : va_D (mAz z) (mW ad cy S)) (hS : va_S (mAz z) s.heap H locs) (hl : lv_has ls 7 (lvs b ad i)) (kk : LK p lau e s m below meth c Q b z D ad cy n i) :
    W p lau e room_1 s m #[Value.ref b] below meth c H locs (100 + 64 * n) (60000 + 384 * n) Q (F0 m 2909 ls []) := by
  obtain ⟨⟨hx, hb, hml, hown, hts⟩, hXs, hbl, hz, hK, hX0, hst, hL⟩ := id C
  obtain ⟨r1, S1, hf, hg⟩ := ag_lucky (F := 6000)  (Nat.le_refl _) hI
  refine lv_aload_n hx hb (by decide +kernel : decode code 2909 = .ok (.aload_n 1, 1)) rfl (lv_at hl 1 rfl) ?_
  obtain ⟨b2, T2, hf2, hI2, hres⟩ := hg S1 (fun _ _ => rfl)
  refine gCall (own := RL) (as := []) (i := 0) (r := (r1, S1)) (M' := Mx132) (d := 60) (rest := []) ⟨hx, hb, hml, hown, hts⟩ gx_lucky (mX_m z ad) (Nat.le_of_eq hz) hX0.1 hK (con_of hst (j := 132) rfl (Nat.le_of_ble_eq_true rfl) (fun w hw => by simp only [List.mem_cons, List.not_mem_nil, or_false] at hw; rcases hw with rfl <;> rfl) (f_X9_lucky_ok (d := 57) hf)) hP hD hS hl.1 (ci := 8) rfl rfl (Nat.le_of_ble_eq_true rfl) (by decide +kernel : decode code 2910 = .ok (.invokevirtual 296, 3)) ⟨by decide, by decide⟩ ⟨by show 100 + 64 * n + 16 ≤ 601024; omega, by show 60000 + 384 * n + 96 ≤ 7293034; omega⟩ (fun v hv H1 locs1 hP hD hS => ?_) (fun k9 hk9 _ _ _ _ _ _ _ _ _ _ => (Res_no hres hk9).elim)
  obtain rfl := Res_in hres hv
  refine W.eq (g2 := F0 m 2913 ls [.int b2]) rfl ?_
  refine lv_aload_n hx hb (by decide +kernel : decode code 2913 = .ok (.aload_n 2, 1)) rfl (lv_at hl 2 rfl) ?_
  refine gCall (own := RL) (as := []) (i := 63) (r := (.inl (some (.int b2)), T2)) (M' := Mx279) (d := 60) (rest := [.int b2]) ⟨hx, hb, hml, hown, hts⟩ gm_lucky (mX_m z ad) (Nat.le_of_eq hz) hX0.1 hK (con_of hst (j := 279) rfl (Nat.le_of_ble_eq_true rfl) (fun w hw => by simp only [List.mem_cons, List.not_mem_nil, or_false] at hw; rcases hw with rfl <;> rfl) (f_X10_lucky_ok (d := 58) hf2)) hP hD hS hl.1 (ci := 9) rfl rfl (Nat.le_of_ble_eq_true rfl) (by decide +kernel : decode code 2914 = .ok (.invokevirtual 299, 3)) ⟨by decide, by decide⟩ ⟨by show 100 + 64 * n + 16 + 16 ≤ 601024; omega, by show 60000 + 384 * n + 96 + 96 ≤ 7293034; omega⟩ (fun v hv H1 locs1 hP hD hS => ?_) (fun k9 hk9 _ _ _ _ _ _ _ _ _ _ => by cases hk9)
  cases hv
  refine W.eq (g2 := F0 m 2917 ls [.int b2, .int b2]) rfl ?_
  refine lv_icmp_eq (tgt := 3077) hx hb (by decide +kernel : decode code 2917 = .ok (.if_icmp .eq 160, 3)) (by decide) (fun _ => ?_) (fun q => absurd rfl q)
  exact W.widen (by omega) (by omega) (kk T2 _ _ _ hI2 hP hD hS (lv_sub hl [0, 1, 2, 3, 4] rfl))
set_option maxRecDepth 20000 in
theorem gm_log : gOK RL 302 Mx280 (RX10, TX10, 23) 2 [1947, 1948, 1949, 116, 1950] = true := by decide +kernel
set_option maxRecDepth 20000 in
theorem gx_log : hOK 300 yL_log cL_log 5 [(0, 10, 13, 26)] 4 [1334, 1335, 105, 1336] = true := by decide +kernel
set_option maxRecDepth 20000 in
set_option maxHeartbeats 4000000 in
theorem lc_log (C : LwC p lau s m meth c b L xs z D ad cy) (hn : n < 512) (hi : i + 6 ≤ L) (hI : Inv S) (hP : va_P D vwCl (mW ad cy S) H) (hD : va_D (mAz z) (mW ad cy S)) (hS : va_S (mAz z) s.heap H locs) (hl : lv_has ls 7 (lvs b ad i)) (kk : LK p lau e s m below meth c Q b z D ad cy n i) :
    W p lau e room_1 s m #[Value.ref b] below meth c H locs (100 + 64 * n) (60000 + 384 * n) Q (F0 m 2922 ls []) := by
  obtain ⟨⟨hx, hb, hml, hown, hts⟩, hXs, hbl, hz, hK, hX0, hst, hL⟩ := id C
  obtain ⟨r1, S1, hf, hg⟩ := ag_log (p1 := (sx xs i 1)) (p2 := (sx xs i 2)) hI
  refine lv_aload_n hx hb (by decide +kernel : decode code 2922 = .ok (.aload_n 1, 1)) rfl (lv_at hl 1 rfl) ?_
  refine lw_ld C hS hl (x0 := 0) (x4 := 4) rfl rfl 1 (by decide) hi (by decide +kernel : decode code 2923 = .ok (.aload_n 0, 1)) (by decide +kernel : decode code 2924 = .ok (.iload 4, 2)) (by decide +kernel : decode code 2926 = .ok (.iconst 1, 1)) rfl (by decide +kernel : decode code 2927 = .ok (.iadd, 1)) (by decide +kernel : decode code 2928 = .ok (.iaload, 1)) ?_
  refine lw_ld C hS hl (x0 := 0) (x4 := 4) rfl rfl 2 (by decide) hi (by decide +kernel : decode code 2929 = .ok (.aload_n 0, 1)) (by decide +kernel : decode code 2930 = .ok (.iload 4, 2)) (by decide +kernel : decode code 2932 = .ok (.iconst 2, 1)) rfl (by decide +kernel : decode code 2933 = .ok (.iadd, 1)) (by decide +kernel : decode code 2934 = .ok (.iaload, 1)) ?_
  obtain ⟨k0, S2, b2, T2, hHR, hf2, hI2, ht, ho⟩ := hr_of hg
  have h75 : T2 75 = S2 75 := ev75 (f_X10_log_ok (d := 59) hf2)
  refine lv_aload_n hx hb (by decide +kernel : decode code 2935 = .ok (.aload_n 3, 1)) rfl (lv_at hl 3 rfl) ?_
  refine gHelp (as := [.ref 0, .int (sx xs i 1), .int (sx xs i 2), .ref 75]) (k := k0) (S2 := S2) (rest := []) ⟨hx, hb, hml, hown, hts⟩ gx_log (Nat.le_of_eq hz) hX0 hK (hc_log (F := 6000) hst hf hHR) hP hD hS hl.1 (Nat.le_of_ble_eq_true rfl) (by decide +kernel : decode code 2936 = .ok (.invokestatic 300, 3)) ⟨by decide, by decide⟩ ⟨by show 100 + 64 * n + 16 ≤ 601024; omega, by show 60000 + 384 * n + 96 ≤ 7293034; omega⟩ (fun H1 locs1 hP hD hS => ?_)
  refine lv_istore (lv' := (5, .int k0) :: lvs b ad i) hx hb (by decide +kernel : decode code 2939 = .ok (.istore 5, 2)) hl (by decide) rfl (fun ls hl => ?_)
  refine lv_aload_n hx hb (by decide +kernel : decode code 2941 = .ok (.aload_n 2, 1)) rfl (lv_at hl 3 rfl) ?_
  refine lw_ld C hS hl (x0 := 1) (x4 := 5) rfl rfl 1 (by decide) hi (by decide +kernel : decode code 2942 = .ok (.aload_n 0, 1)) (by decide +kernel : decode code 2943 = .ok (.iload 4, 2)) (by decide +kernel : decode code 2945 = .ok (.iconst 1, 1)) rfl (by decide +kernel : decode code 2946 = .ok (.iadd, 1)) (by decide +kernel : decode code 2947 = .ok (.iaload, 1)) ?_
  refine lw_ld C hS hl (x0 := 1) (x4 := 5) rfl rfl 2 (by decide) hi (by decide +kernel : decode code 2948 = .ok (.aload_n 0, 1)) (by decide +kernel : decode code 2949 = .ok (.iload 4, 2)) (by decide +kernel : decode code 2951 = .ok (.iconst 2, 1)) rfl (by decide +kernel : decode code 2952 = .ok (.iadd, 1)) (by decide +kernel : decode code 2953 = .ok (.iaload, 1)) ?_
  refine gCall (own := RL) (as := [.int (sx xs i 1), .int (sx xs i 2)]) (i := 63) (r := (.inl (some (.int b2)), T2)) (M' := Mx280) (d := 60) (rest := []) ⟨hx, hb, hml, hown, hts⟩ gm_log (mX_m z ad) (Nat.le_of_eq hz) hX0.1 hK (con_of hst (j := 280) rfl (Nat.le_of_ble_eq_true rfl) (fun w hw => by simp only [List.mem_cons, List.not_mem_nil, or_false] at hw; rcases hw with rfl | rfl | rfl <;> rfl) (f_X10_log_ok (d := 59) hf2)) hP hD hS hl.1 (ci := 9) rfl rfl (Nat.le_of_ble_eq_true rfl) (by decide +kernel : decode code 2954 = .ok (.invokevirtual 302, 3)) ⟨by decide, by decide⟩ ⟨by show 100 + 64 * n + 16 + 16 ≤ 601024; omega, by show 60000 + 384 * n + 96 + 96 ≤ 7293034; omega⟩ (fun v hv H1 locs1 hP hD hS => ?_) (fun k9 hk9 _ _ _ _ _ _ _ _ _ _ => by cases hk9)
  cases hv
  refine W.eq (g2 := F0 m 2957 ls [.int b2]) rfl ?_
  refine lv_istore (lv' := (6, .int b2) :: (5, .int k0) :: lvs b ad i) hx hb (by decide +kernel : decode code 2957 = .ok (.istore 6, 2)) hl (by decide) rfl (fun ls hl => ?_)
  refine lv_aload_n hx hb (by decide +kernel : decode code 2959 = .ok (.aload_n 2, 1)) rfl (lv_at hl 4 rfl) ?_
  refine gCall (own := RL) (as := []) (i := 63) (r := (.inl (some (.int (T2 63 0))), T2)) (M' := Mx154) (d := 60) (rest := []) ⟨hx, hb, hml, hown, hts⟩ gt_thrown (mX_m z ad) (Nat.le_of_eq hz) hX0.1 hK (con_of hst (j := 154) rfl (Nat.le_of_ble_eq_true rfl) (fun w hw => by simp only [List.mem_cons, List.not_mem_nil, or_false] at hw; rcases hw with rfl <;> rfl) (f_X10_thrown_ok (d := 60) thr_ok)) hP hD hS hl.1 (ci := 9) rfl rfl (Nat.le_of_ble_eq_true rfl) (by decide +kernel : decode code 2960 = .ok (.invokevirtual 152, 3)) ⟨by decide, by decide⟩ ⟨by show 100 + 64 * n + 16 + 16 + 16 ≤ 601024; omega, by show 60000 + 384 * n + 96 + 96 + 96 ≤ 7293034; omega⟩ (fun v hv H1 locs1 hP hD hS => ?_) (fun k9 hk9 _ _ _ _ _ _ _ _ _ _ => by cases hk9)
  cases hv
  replace hP : va_P D vwCl (mW ad cy T2) H1 := hP
  refine W.eq (g2 := F0 m 2963 ls [.int (T2 63 0)]) rfl ?_
  refine lv_iload hx hb (by decide +kernel : decode code 2963 = .ok (.iload 5, 2)) (lv_at hl 1 rfl) ?_
  refine lv_icmp_eq (tgt := 2970) hx hb (by decide +kernel : decode code 2965 = .ok (.if_icmp .eq 5, 3)) (by decide) (fun _ => ?_) (fun q => absurd ht q)
  refine lv_iload hx hb (by decide +kernel : decode code 2970 = .ok (.iload 5, 2)) (lv_at hl 1 rfl) ?_
  have KE : W p lau e room_1 s m #[Value.ref b] below meth c H1 locs1 (100 + 64 * n + 16 + 16 + 16) (60000 + 384 * n + 96 + 96 + 96) Q (F0 m 2987 ls []) := by
    refine lv_goto (tgt := 3077) hx hb (by decide +kernel : decode code 2987 = .ok (.goto 90, 3)) (by decide) ?_
    exact W.widen (by omega) (by omega) (kk T2 _ _ _ hI2 hP hD hS (lv_sub hl [2, 3, 4, 5, 6] rfl))
  refine lv_if_ne (tgt := 2987) hx hb (by decide +kernel : decode code 2972 = .ok (.ifCond .ne 15, 3)) (by decide) (fun _ => KE) (fun q0 => ?_)
  refine lv_aload_n hx hb (by decide +kernel : decode code 2975 = .ok (.aload_n 3, 1)) rfl (lv_at hl 5 rfl) ?_
  refine lv_iconst (v := 0) hx hb (by decide +kernel : decode code 2976 = .ok (.iconst 0, 1)) (by decide) ?_
  refine va_lald hx hb hK hP 75 3 (mW_get (i := 75) rfl) rfl vin0 (by decide +kernel : decode code 2977 = .ok (.laload, 1)) ?_
  rw [show (T2 75 ((0 : Int32).toNatClampNeg)) = b2 from (congrFun h75 0).trans (ho q0)]
  refine lv_iload hx hb (by decide +kernel : decode code 2978 = .ok (.iload 6, 2)) (lv_at hl 0 rfl) ?_
  refine lv_i2l hx hb (by decide +kernel : decode code 2980 = .ok (.i2l, 1)) rfl ?_
  refine W.lcmp hx hb (by decide +kernel : decode code 2981 = .ok (.lcmp, 1)) ?_
  refine lv_if_eq (tgt := 2987) hx hb (by decide +kernel : decode code 2982 = .ok (.ifCond .eq 5, 3)) (by decide) (fun _ => KE) (fun q => absurd (lg_cmp_self _) q)
set_option maxRecDepth 20000 in
theorem gm_seed : gOK RL 306 Mx281 (RX10, TX10, 23) 1 [1951, 1952, 1953, 116, 1954] = true := by decide +kernel
set_option maxRecDepth 20000 in
theorem gx_seed : gOK RL 303 Mx134 (RX9, TX9, 14) 1 [531, 532, 533, 106, 534] = true := by decide +kernel
set_option maxRecDepth 20000 in
set_option maxHeartbeats 4000000 in
theorem lc_seed (C : LwC p lau s m meth c b L xs z D ad cy) (hn : n < 512) (hi : i + 6 ≤ L) (hI : Inv S) (hP : va_P D vwCl (mW ad cy S) H) (hD : va_D (mAz z) (mW ad cy S)) (hS : va_S (mAz z) s.heap H locs) (hl : lv_has ls 7 (lvs b ad i)) (kk : LK p lau e s m below meth c Q b z D ad cy n i) :
    W p lau e room_1 s m #[Value.ref b] below meth c H locs (100 + 64 * n) (60000 + 384 * n) Q (F0 m 2990 ls []) := by
  obtain ⟨⟨hx, hb, hml, hown, hts⟩, hXs, hbl, hz, hK, hX0, hst, hL⟩ := id C
  obtain ⟨r1, S1, hf, hg⟩ := ag_seed (p1 := (sx xs i 1)) hI
  refine lv_aload_n hx hb (by decide +kernel : decode code 2990 = .ok (.aload_n 1, 1)) rfl (lv_at hl 1 rfl) ?_
  refine lw_ld C hS hl (x0 := 0) (x4 := 4) rfl rfl 1 (by decide) hi (by decide +kernel : decode code 2991 = .ok (.aload_n 0, 1)) (by decide +kernel : decode code 2992 = .ok (.iload 4, 2)) (by decide +kernel : decode code 2994 = .ok (.iconst 1, 1)) rfl (by decide +kernel : decode code 2995 = .ok (.iadd, 1)) (by decide +kernel : decode code 2996 = .ok (.iaload, 1)) ?_
  obtain ⟨b2, T2, hf2, hI2, hres⟩ := hg S1 (fun _ _ => rfl)
  refine gCall (own := RL) (as := [.int (sx xs i 1)]) (i := 0) (r := (r1, S1)) (M' := Mx134) (d := 60) (rest := []) ⟨hx, hb, hml, hown, hts⟩ gx_seed (mX_m z ad) (Nat.le_of_eq hz) hX0.1 hK (con_of hst (j := 134) rfl (Nat.le_of_ble_eq_true rfl) (fun w hw => by simp only [List.mem_cons, List.not_mem_nil, or_false] at hw; rcases hw with rfl | rfl <;> rfl) (f_X9_seed_ok (d := 59) hf)) hP hD hS hl.1 (ci := 8) rfl rfl (Nat.le_of_ble_eq_true rfl) (by decide +kernel : decode code 2997 = .ok (.invokevirtual 303, 3)) ⟨by decide, by decide⟩ ⟨by show 100 + 64 * n + 16 ≤ 601024; omega, by show 60000 + 384 * n + 96 ≤ 7293034; omega⟩ (fun v hv H1 locs1 hP hD hS => ?_) (fun k9 hk9 _ _ _ _ _ _ _ _ _ _ => (Res_no hres hk9).elim)
  obtain rfl := Res_in hres hv
  refine W.eq (g2 := F0 m 3000 ls [.int b2]) rfl ?_
  refine lv_aload_n hx hb (by decide +kernel : decode code 3000 = .ok (.aload_n 2, 1)) rfl (lv_at hl 2 rfl) ?_
  refine lw_ld C hS hl (x0 := 0) (x4 := 4) rfl rfl 1 (by decide) hi (by decide +kernel : decode code 3001 = .ok (.aload_n 0, 1)) (by decide +kernel : decode code 3002 = .ok (.iload 4, 2)) (by decide +kernel : decode code 3004 = .ok (.iconst 1, 1)) rfl (by decide +kernel : decode code 3005 = .ok (.iadd, 1)) (by decide +kernel : decode code 3006 = .ok (.iaload, 1)) ?_
  refine gCall (own := RL) (as := [.int (sx xs i 1)]) (i := 63) (r := (.inl (some (.int b2)), T2)) (M' := Mx281) (d := 60) (rest := [.int b2]) ⟨hx, hb, hml, hown, hts⟩ gm_seed (mX_m z ad) (Nat.le_of_eq hz) hX0.1 hK (con_of hst (j := 281) rfl (Nat.le_of_ble_eq_true rfl) (fun w hw => by simp only [List.mem_cons, List.not_mem_nil, or_false] at hw; rcases hw with rfl | rfl <;> rfl) (f_X10_seed_ok (d := 60) hf2)) hP hD hS hl.1 (ci := 9) rfl rfl (Nat.le_of_ble_eq_true rfl) (by decide +kernel : decode code 3007 = .ok (.invokevirtual 306, 3)) ⟨by decide, by decide⟩ ⟨by show 100 + 64 * n + 16 + 16 ≤ 601024; omega, by show 60000 + 384 * n + 96 + 96 ≤ 7293034; omega⟩ (fun v hv H1 locs1 hP hD hS => ?_) (fun k9 hk9 _ _ _ _ _ _ _ _ _ _ => by cases hk9)
  cases hv
  refine W.eq (g2 := F0 m 3010 ls [.int b2, .int b2]) rfl ?_
  refine lv_icmp_eq (tgt := 3077) hx hb (by decide +kernel : decode code 3010 = .ok (.if_icmp .eq 67, 3)) (by decide) (fun _ => ?_) (fun q => absurd rfl q)
  exact W.widen (by omega) (by omega) (kk T2 _ _ _ hI2 hP hD hS (lv_sub hl [0, 1, 2, 3, 4] rfl))
set_option maxRecDepth 20000 in
theorem gm_undo : gOK RL 311 Mx161 (RX10, TX10, 23) 0 [1430, 1431, 1432, 116, 1433] = true := by decide +kernel
set_option maxRecDepth 20000 in
theorem gx_undo : gOK RL 307 Mx135 (RX9, TX9, 14) 0 [535, 536, 537, 106, 538] = true := by decide +kernel
set_option maxRecDepth 20000 in
set_option maxHeartbeats 4000000 in
theorem lc_undo (C : LwC p lau s m meth c b L xs z D ad cy) (hn : n < 512) (hi : i + 6 ≤ L) (hI : Inv S) (hP : va_P D vwCl (mW ad cy S) H) (hD : va_D (mAz z) (mW ad cy S)) (hS : va_S (mAz z) s.heap H locs) (hl : lv_has ls 7 (lvs b ad i)) (kk : LK p lau e s m below meth c Q b z D ad cy n i) :
    W p lau e room_1 s m #[Value.ref b] below meth c H locs (100 + 64 * n) (60000 + 384 * n) Q (F0 m 3015 ls []) := by
  obtain ⟨⟨hx, hb, hml, hown, hts⟩, hXs, hbl, hz, hK, hX0, hst, hL⟩ := id C
  obtain ⟨r1, S1, hf, hg⟩ := ag_undo (F := 6000)  (Nat.le_refl _) hI
  refine lv_aload_n hx hb (by decide +kernel : decode code 3015 = .ok (.aload_n 1, 1)) rfl (lv_at hl 1 rfl) ?_
  obtain ⟨b2, T2, hf2, hI2, hres⟩ := hg S1 (fun _ _ => rfl)
  refine gCall (own := RL) (as := []) (i := 0) (r := (r1, S1)) (M' := Mx135) (d := 60) (rest := []) ⟨hx, hb, hml, hown, hts⟩ gx_undo (mX_m z ad) (Nat.le_of_eq hz) hX0.1 hK (con_of hst (j := 135) rfl (Nat.le_of_ble_eq_true rfl) (fun w hw => by simp only [List.mem_cons, List.not_mem_nil, or_false] at hw; rcases hw with rfl <;> rfl) (f_X9_undo_ok (d := 58) hf)) hP hD hS hl.1 (ci := 8) rfl rfl (Nat.le_of_ble_eq_true rfl) (by decide +kernel : decode code 3016 = .ok (.invokevirtual 307, 3)) ⟨by decide, by decide⟩ ⟨by show 100 + 64 * n + 16 ≤ 601024; omega, by show 60000 + 384 * n + 96 ≤ 7293034; omega⟩ (fun v hv H1 locs1 hP hD hS => ?_) (fun k9 hk9 _ _ _ _ _ _ _ _ _ _ => (Res_no hres hk9).elim)
  obtain rfl := Res_in hres hv
  refine W.eq (g2 := F0 m 3019 ls [.int b2]) rfl ?_
  refine lv_aload_n hx hb (by decide +kernel : decode code 3019 = .ok (.aload_n 2, 1)) rfl (lv_at hl 2 rfl) ?_
  refine gCall (own := RL) (as := []) (i := 63) (r := (.inl (some (.int b2)), T2)) (M' := Mx161) (d := 60) (rest := [.int b2]) ⟨hx, hb, hml, hown, hts⟩ gm_undo (mX_m z ad) (Nat.le_of_eq hz) hX0.1 hK (con_of hst (j := 161) rfl (Nat.le_of_ble_eq_true rfl) (fun w hw => by simp only [List.mem_cons, List.not_mem_nil, or_false] at hw; rcases hw with rfl <;> rfl) (f_X10_undo_ok (d := 60) hf2)) hP hD hS hl.1 (ci := 9) rfl rfl (Nat.le_of_ble_eq_true rfl) (by decide +kernel : decode code 3020 = .ok (.invokevirtual 311, 3)) ⟨by decide, by decide⟩ ⟨by show 100 + 64 * n + 16 + 16 ≤ 601024; omega, by show 60000 + 384 * n + 96 + 96 ≤ 7293034; omega⟩ (fun v hv H1 locs1 hP hD hS => ?_) (fun k9 hk9 _ _ _ _ _ _ _ _ _ _ => by cases hk9)
  cases hv
  refine W.eq (g2 := F0 m 3023 ls [.int b2, .int b2]) rfl ?_
  refine lv_icmp_eq (tgt := 3077) hx hb (by decide +kernel : decode code 3023 = .ok (.if_icmp .eq 54, 3)) (by decide) (fun _ => ?_) (fun q => absurd rfl q)
  exact W.widen (by omega) (by omega) (kk T2 _ _ _ hI2 hP hD hS (lv_sub hl [0, 1, 2, 3, 4] rfl))
set_option maxRecDepth 20000 in
theorem gm_image : gOK RL 315 Mx158 (RX10, TX10, 23) 0 [1422, 1423, 1424, 116, 1425] = true := by decide +kernel
set_option maxRecDepth 20000 in
theorem gx_image : gOK RL 312 Mx136 (RX9, TX9, 14) 0 [543, 544, 545, 106, 546] = true := by decide +kernel
set_option maxRecDepth 20000 in
set_option maxHeartbeats 4000000 in
theorem lc_image (C : LwC p lau s m meth c b L xs z D ad cy) (hn : n < 512) (hi : i + 6 ≤ L) (hI : Inv S) (hP : va_P D vwCl (mW ad cy S) H) (hD : va_D (mAz z) (mW ad cy S)) (hS : va_S (mAz z) s.heap H locs) (hl : lv_has ls 7 (lvs b ad i)) (kk : LK p lau e s m below meth c Q b z D ad cy n i) :
    W p lau e room_1 s m #[Value.ref b] below meth c H locs (100 + 64 * n) (60000 + 384 * n) Q (F0 m 3028 ls []) := by
  obtain ⟨⟨hx, hb, hml, hown, hts⟩, hXs, hbl, hz, hK, hX0, hst, hL⟩ := id C
  obtain ⟨S1, hf, hg⟩ := ag_image (F := 6000)  (Nat.le_refl _) hI
  refine lv_aload_n hx hb (by decide +kernel : decode code 3028 = .ok (.aload_n 1, 1)) rfl (lv_at hl 1 rfl) ?_
  refine gCall (own := RL) (as := []) (i := 0) (r := (.inl none, S1)) (M' := Mx136) (d := 60) (rest := []) ⟨hx, hb, hml, hown, hts⟩ gx_image (mX_m z ad) (Nat.le_of_eq hz) hX0.1 hK (con_of hst (j := 136) rfl (Nat.le_of_ble_eq_true rfl) (fun w hw => by simp only [List.mem_cons, List.not_mem_nil, or_false] at hw; rcases hw with rfl <;> rfl) (f_X9_image_ok (d := 59) hf)) hP hD hS hl.1 (ci := 8) rfl rfl (Nat.le_of_ble_eq_true rfl) (by decide +kernel : decode code 3029 = .ok (.invokevirtual 312, 3)) ⟨by decide, by decide⟩ ⟨by show 100 + 64 * n + 16 ≤ 601024; omega, by show 60000 + 384 * n + 96 ≤ 7293034; omega⟩ (fun v hv H1 locs1 hP hD hS => ?_) (fun k9 hk9 _ _ _ _ _ _ _ _ _ _ => by cases hk9)
  cases hv
  obtain ⟨T2, hf2, hI2⟩ := hg S1 (fun _ _ => rfl)
  refine W.eq (g2 := F0 m 3032 ls []) rfl ?_
  refine lv_aload_n hx hb (by decide +kernel : decode code 3032 = .ok (.aload_n 2, 1)) rfl (lv_at hl 2 rfl) ?_
  refine gCall (own := RL) (as := []) (i := 63) (r := (.inl none, T2)) (M' := Mx158) (d := 60) (rest := []) ⟨hx, hb, hml, hown, hts⟩ gm_image (mX_m z ad) (Nat.le_of_eq hz) hX0.1 hK (con_of hst (j := 158) rfl (Nat.le_of_ble_eq_true rfl) (fun w hw => by simp only [List.mem_cons, List.not_mem_nil, or_false] at hw; rcases hw with rfl <;> rfl) (f_X10_image_ok (d := 60) hf2)) hP hD hS hl.1 (ci := 9) rfl rfl (Nat.le_of_ble_eq_true rfl) (by decide +kernel : decode code 3033 = .ok (.invokevirtual 315, 3)) ⟨by decide, by decide⟩ ⟨by show 100 + 64 * n + 16 + 16 ≤ 601024; omega, by show 60000 + 384 * n + 96 + 96 ≤ 7293034; omega⟩ (fun v hv H1 locs1 hP hD hS => ?_) (fun k9 hk9 _ _ _ _ _ _ _ _ _ _ => by cases hk9)
  cases hv
  refine W.eq (g2 := F0 m 3036 ls []) rfl ?_
  refine lv_goto (tgt := 3077) hx hb (by decide +kernel : decode code 3036 = .ok (.goto 41, 3)) (by decide) ?_
  exact W.widen (by omega) (by omega) (kk T2 _ _ _ hI2 hP hD hS (lv_sub hl [0, 1, 2, 3, 4] rfl))
set_option maxRecDepth 20000 in
theorem gm_back : gOK RL 319 Mx159 (RX10, TX10, 23) 0 [1426, 1427, 1428, 116, 1429] = true := by decide +kernel
set_option maxRecDepth 20000 in
theorem gx_back : gOK RL 316 Mx137 (RX9, TX9, 14) 0 [553, 554, 555, 106, 556] = true := by decide +kernel
set_option maxRecDepth 20000 in
set_option maxHeartbeats 4000000 in
theorem lc_back (C : LwC p lau s m meth c b L xs z D ad cy) (hn : n < 512) (hi : i + 6 ≤ L) (hI : Inv S) (hP : va_P D vwCl (mW ad cy S) H) (hD : va_D (mAz z) (mW ad cy S)) (hS : va_S (mAz z) s.heap H locs) (hl : lv_has ls 7 (lvs b ad i)) (kk : LK p lau e s m below meth c Q b z D ad cy n i) :
    W p lau e room_1 s m #[Value.ref b] below meth c H locs (100 + 64 * n) (60000 + 384 * n) Q (F0 m 3039 ls []) := by
  obtain ⟨⟨hx, hb, hml, hown, hts⟩, hXs, hbl, hz, hK, hX0, hst, hL⟩ := id C
  obtain ⟨r1, S1, hf, hg⟩ := ag_back (F := 6000)  (Nat.le_refl _) hI
  refine lv_aload_n hx hb (by decide +kernel : decode code 3039 = .ok (.aload_n 1, 1)) rfl (lv_at hl 1 rfl) ?_
  obtain ⟨b2, T2, hf2, hI2, hres⟩ := hg S1 (fun _ _ => rfl)
  refine gCall (own := RL) (as := []) (i := 0) (r := (r1, S1)) (M' := Mx137) (d := 60) (rest := []) ⟨hx, hb, hml, hown, hts⟩ gx_back (mX_m z ad) (Nat.le_of_eq hz) hX0.1 hK (con_of hst (j := 137) rfl (Nat.le_of_ble_eq_true rfl) (fun w hw => by simp only [List.mem_cons, List.not_mem_nil, or_false] at hw; rcases hw with rfl <;> rfl) (f_X9_back_ok (d := 59) hf)) hP hD hS hl.1 (ci := 8) rfl rfl (Nat.le_of_ble_eq_true rfl) (by decide +kernel : decode code 3040 = .ok (.invokevirtual 316, 3)) ⟨by decide, by decide⟩ ⟨by show 100 + 64 * n + 16 ≤ 601024; omega, by show 60000 + 384 * n + 96 ≤ 7293034; omega⟩ (fun v hv H1 locs1 hP hD hS => ?_) (fun k9 hk9 _ _ _ _ _ _ _ _ _ _ => (Res_no hres hk9).elim)
  obtain rfl := Res_in hres hv
  refine W.eq (g2 := F0 m 3043 ls [.int b2]) rfl ?_
  refine lv_aload_n hx hb (by decide +kernel : decode code 3043 = .ok (.aload_n 2, 1)) rfl (lv_at hl 2 rfl) ?_
  refine gCall (own := RL) (as := []) (i := 63) (r := (.inl (some (.int b2)), T2)) (M' := Mx159) (d := 60) (rest := [.int b2]) ⟨hx, hb, hml, hown, hts⟩ gm_back (mX_m z ad) (Nat.le_of_eq hz) hX0.1 hK (con_of hst (j := 159) rfl (Nat.le_of_ble_eq_true rfl) (fun w hw => by simp only [List.mem_cons, List.not_mem_nil, or_false] at hw; rcases hw with rfl <;> rfl) (f_X10_back_ok (d := 60) hf2)) hP hD hS hl.1 (ci := 9) rfl rfl (Nat.le_of_ble_eq_true rfl) (by decide +kernel : decode code 3044 = .ok (.invokevirtual 319, 3)) ⟨by decide, by decide⟩ ⟨by show 100 + 64 * n + 16 + 16 ≤ 601024; omega, by show 60000 + 384 * n + 96 + 96 ≤ 7293034; omega⟩ (fun v hv H1 locs1 hP hD hS => ?_) (fun k9 hk9 _ _ _ _ _ _ _ _ _ _ => by cases hk9)
  cases hv
  refine W.eq (g2 := F0 m 3047 ls [.int b2, .int b2]) rfl ?_
  refine lv_icmp_eq (tgt := 3077) hx hb (by decide +kernel : decode code 3047 = .ok (.if_icmp .eq 30, 3)) (by decide) (fun _ => ?_) (fun q => absurd rfl q)
  exact W.widen (by omega) (by omega) (kk T2 _ _ _ hI2 hP hD hS (lv_sub hl [0, 1, 2, 3, 4] rfl))
set_option maxRecDepth 20000 in
theorem gm_count : gOK RL 323 Mx282 (RX10, TX10, 23) 1 [1955, 1956, 1957, 116, 1958] = true := by decide +kernel
set_option maxRecDepth 20000 in
theorem gx_count : gOK RL 320 Mx138 (RX9, TX9, 14) 1 [561, 562, 563, 106, 564] = true := by decide +kernel
set_option maxRecDepth 20000 in
set_option maxHeartbeats 4000000 in
theorem lc_count (C : LwC p lau s m meth c b L xs z D ad cy) (hn : n < 512) (hi : i + 6 ≤ L) (hI : Inv S) (hP : va_P D vwCl (mW ad cy S) H) (hD : va_D (mAz z) (mW ad cy S)) (hS : va_S (mAz z) s.heap H locs) (hl : lv_has ls 7 (lvs b ad i)) (kk : LK p lau e s m below meth c Q b z D ad cy n i) :
    W p lau e room_1 s m #[Value.ref b] below meth c H locs (100 + 64 * n) (60000 + 384 * n) Q (F0 m 3052 ls []) := by
  obtain ⟨⟨hx, hb, hml, hown, hts⟩, hXs, hbl, hz, hK, hX0, hst, hL⟩ := id C
  obtain ⟨r1, S1, hf, hg⟩ := ag_count (F := 6000) (p1 := (sx xs i 1)) (Nat.le_refl _) hI
  refine lv_aload_n hx hb (by decide +kernel : decode code 3052 = .ok (.aload_n 1, 1)) rfl (lv_at hl 1 rfl) ?_
  refine lw_ld C hS hl (x0 := 0) (x4 := 4) rfl rfl 1 (by decide) hi (by decide +kernel : decode code 3053 = .ok (.aload_n 0, 1)) (by decide +kernel : decode code 3054 = .ok (.iload 4, 2)) (by decide +kernel : decode code 3056 = .ok (.iconst 1, 1)) rfl (by decide +kernel : decode code 3057 = .ok (.iadd, 1)) (by decide +kernel : decode code 3058 = .ok (.iaload, 1)) ?_
  obtain ⟨b2, T2, hf2, hI2, hres⟩ := hg S1 (fun _ _ => rfl)
  refine gCall (own := RL) (as := [.int (sx xs i 1)]) (i := 0) (r := (r1, S1)) (M' := Mx138) (d := 60) (rest := []) ⟨hx, hb, hml, hown, hts⟩ gx_count (mX_m z ad) (Nat.le_of_eq hz) hX0.1 hK (con_of hst (j := 138) rfl (Nat.le_of_ble_eq_true rfl) (fun w hw => by simp only [List.mem_cons, List.not_mem_nil, or_false] at hw; rcases hw with rfl | rfl <;> rfl) (f_X9_count_ok (d := 57) hf)) hP hD hS hl.1 (ci := 8) rfl rfl (Nat.le_of_ble_eq_true rfl) (by decide +kernel : decode code 3059 = .ok (.invokevirtual 320, 3)) ⟨by decide, by decide⟩ ⟨by show 100 + 64 * n + 16 ≤ 601024; omega, by show 60000 + 384 * n + 96 ≤ 7293034; omega⟩ (fun v hv H1 locs1 hP hD hS => ?_) (fun k9 hk9 _ _ _ _ _ _ _ _ _ _ => (Res_no hres hk9).elim)
  obtain rfl := Res_in hres hv
  refine W.eq (g2 := F0 m 3062 ls [.int b2]) rfl ?_
  refine lv_aload_n hx hb (by decide +kernel : decode code 3062 = .ok (.aload_n 2, 1)) rfl (lv_at hl 2 rfl) ?_
  refine lw_ld C hS hl (x0 := 0) (x4 := 4) rfl rfl 1 (by decide) hi (by decide +kernel : decode code 3063 = .ok (.aload_n 0, 1)) (by decide +kernel : decode code 3064 = .ok (.iload 4, 2)) (by decide +kernel : decode code 3066 = .ok (.iconst 1, 1)) rfl (by decide +kernel : decode code 3067 = .ok (.iadd, 1)) (by decide +kernel : decode code 3068 = .ok (.iaload, 1)) ?_
  refine gCall (own := RL) (as := [.int (sx xs i 1)]) (i := 63) (r := (.inl (some (.int b2)), T2)) (M' := Mx282) (d := 60) (rest := [.int b2]) ⟨hx, hb, hml, hown, hts⟩ gm_count (mX_m z ad) (Nat.le_of_eq hz) hX0.1 hK (con_of hst (j := 282) rfl (Nat.le_of_ble_eq_true rfl) (fun w hw => by simp only [List.mem_cons, List.not_mem_nil, or_false] at hw; rcases hw with rfl | rfl <;> rfl) (f_X10_count_ok (d := 57) hf2)) hP hD hS hl.1 (ci := 9) rfl rfl (Nat.le_of_ble_eq_true rfl) (by decide +kernel : decode code 3069 = .ok (.invokevirtual 323, 3)) ⟨by decide, by decide⟩ ⟨by show 100 + 64 * n + 16 + 16 ≤ 601024; omega, by show 60000 + 384 * n + 96 + 96 ≤ 7293034; omega⟩ (fun v hv H1 locs1 hP hD hS => ?_) (fun k9 hk9 _ _ _ _ _ _ _ _ _ _ => by cases hk9)
  cases hv
  refine W.eq (g2 := F0 m 3072 ls [.int b2, .int b2]) rfl ?_
  refine lv_icmp_eq (tgt := 3077) hx hb (by decide +kernel : decode code 3072 = .ok (.if_icmp .eq 5, 3)) (by decide) (fun _ => ?_) (fun q => absurd rfl q)
  exact W.widen (by omega) (by omega) (kk T2 _ _ _ hI2 hP hD hS (lv_sub hl [0, 1, 2, 3, 4] rfl))
end LC1
