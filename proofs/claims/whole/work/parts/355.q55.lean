set_option maxRecDepth 20000 in
theorem gt_thrown : gOK RL 152 Mx154 (RX10, TX10, 23) 0 [1342, 1343, 1344, 116, 1345] = true := by decide +kernel
section LC1
variable {p : Program} {lau : Launch} {e : Env} {s : State} {m : MethodId} {below : List Frame} {meth : Method} {c : Code} {Q : State → Prop} {z : Nat} {D : va_G} {ad : Nat → Nat} {cy : Nat → ClassId}
variable {H : Heap} {locs : List Loc} {ls : Array Slot} {S : mS} {b L i n : Nat} {xs : Nat → Int32}
set_option maxRecDepth 20000 in
theorem gm_feed : gOK RL 140 Mx174 (RX10, TX10, 23) 5 [1434, 1435, 1436, 116, 1437] = true := by decide +kernel
set_option maxRecDepth 20000 in
theorem gx_feed : gOK RL 136 Mx87 (RX9, TX9, 14) 5 [329, 330, 331, 106, 332] = true := by decide +kernel
set_option maxRecDepth 20000 in
set_option maxHeartbeats 4000000 in
theorem lc_feed (C : LwC p lau s m meth c b L xs z D ad cy) (hn : n < 512) (hi : i + 6 ≤ L) (hI : Inv S) (hP : va_P D vwCl (mW ad cy S) H) (hD : va_D (mAz z) (mW ad cy S)) (hS : va_S (mAz z) s.heap H locs) (hl : lv_has ls 7 (lvs b ad i)) (kk : LK p lau e s m below meth c Q b z D ad cy n i) :
    W p lau e room_1 s m #[Value.ref b] below meth c H locs (100 + 64 * n) (60000 + 384 * n) Q (F0 m 264 ls []) := by
  obtain ⟨⟨hx, hb, hml, hown, hts⟩, hXs, hbl, hz, hK, hX0, hst, hL⟩ := id C
  obtain ⟨r1, S1, hf, hg⟩ := ag_feed (F := 6000) (p1 := (sx xs i 1)) (p2 := (sx xs i 2)) (p3 := (sx xs i 3)) (p4 := (sx xs i 4)) (p5 := (sx xs i 5)) (Nat.le_refl _) hI
  refine lv_aload_n hx hb (by decide +kernel : decode code 264 = .ok (.aload_n 1, 1)) rfl (lv_at hl 1 rfl) ?_
  refine lw_ld C hS hl (x0 := 0) (x4 := 4) rfl rfl 1 (by decide) hi (by decide +kernel : decode code 265 = .ok (.aload_n 0, 1)) (by decide +kernel : decode code 266 = .ok (.iload 4, 2)) (by decide +kernel : decode code 268 = .ok (.iconst 1, 1)) rfl (by decide +kernel : decode code 269 = .ok (.iadd, 1)) (by decide +kernel : decode code 270 = .ok (.iaload, 1)) ?_
  refine lw_ld C hS hl (x0 := 0) (x4 := 4) rfl rfl 2 (by decide) hi (by decide +kernel : decode code 271 = .ok (.aload_n 0, 1)) (by decide +kernel : decode code 272 = .ok (.iload 4, 2)) (by decide +kernel : decode code 274 = .ok (.iconst 2, 1)) rfl (by decide +kernel : decode code 275 = .ok (.iadd, 1)) (by decide +kernel : decode code 276 = .ok (.iaload, 1)) ?_
  refine lw_ld C hS hl (x0 := 0) (x4 := 4) rfl rfl 3 (by decide) hi (by decide +kernel : decode code 277 = .ok (.aload_n 0, 1)) (by decide +kernel : decode code 278 = .ok (.iload 4, 2)) (by decide +kernel : decode code 280 = .ok (.iconst 3, 1)) rfl (by decide +kernel : decode code 281 = .ok (.iadd, 1)) (by decide +kernel : decode code 282 = .ok (.iaload, 1)) ?_
  refine lw_ld C hS hl (x0 := 0) (x4 := 4) rfl rfl 4 (by decide) hi (by decide +kernel : decode code 283 = .ok (.aload_n 0, 1)) (by decide +kernel : decode code 284 = .ok (.iload 4, 2)) (by decide +kernel : decode code 286 = .ok (.iconst 4, 1)) rfl (by decide +kernel : decode code 287 = .ok (.iadd, 1)) (by decide +kernel : decode code 288 = .ok (.iaload, 1)) ?_
  refine lw_ld C hS hl (x0 := 0) (x4 := 4) rfl rfl 5 (by decide) hi (by decide +kernel : decode code 289 = .ok (.aload_n 0, 1)) (by decide +kernel : decode code 290 = .ok (.iload 4, 2)) (by decide +kernel : decode code 292 = .ok (.iconst 5, 1)) rfl (by decide +kernel : decode code 293 = .ok (.iadd, 1)) (by decide +kernel : decode code 294 = .ok (.iaload, 1)) ?_
  obtain ⟨b2, T2, hf2, hI2, hres⟩ := hg S1 (fun _ _ => rfl)
  refine gCall (own := RL) (as := [.int (sx xs i 1), .int (sx xs i 2), .int (sx xs i 3), .int (sx xs i 4), .int (sx xs i 5)]) (i := 0) (r := (r1, S1)) (M' := Mx87) (d := 60) (rest := []) ⟨hx, hb, hml, hown, hts⟩ gx_feed (mX_m z ad) (Nat.le_of_eq hz) hX0.1 hK (con_of hst (j := 87) rfl (Nat.le_of_ble_eq_true rfl) (fun w hw => by simp only [List.mem_cons, List.not_mem_nil, or_false] at hw; rcases hw with rfl | rfl | rfl | rfl | rfl | rfl <;> rfl) (f_X9_feed_ok (d := 59) hf)) hP hD hS hl.1 (ci := 8) rfl rfl (Nat.le_of_ble_eq_true rfl) (by decide +kernel : decode code 295 = .ok (.invokevirtual 136, 3)) ⟨by decide, by decide⟩ ⟨by show 100 + 64 * n + 16 ≤ 601024; omega, by show 60000 + 384 * n + 96 ≤ 7293034; omega⟩ (fun v hv H1 locs1 hP hD hS => ?_) (fun k9 hk9 _ _ _ _ _ _ _ _ _ _ => (Res_no hres hk9).elim)
  obtain rfl := Res_in hres hv
  refine W.eq (g2 := F0 m 298 ls [.int b2]) rfl ?_
  refine lv_aload_n hx hb (by decide +kernel : decode code 298 = .ok (.aload_n 2, 1)) rfl (lv_at hl 2 rfl) ?_
  refine lw_ld C hS hl (x0 := 0) (x4 := 4) rfl rfl 1 (by decide) hi (by decide +kernel : decode code 299 = .ok (.aload_n 0, 1)) (by decide +kernel : decode code 300 = .ok (.iload 4, 2)) (by decide +kernel : decode code 302 = .ok (.iconst 1, 1)) rfl (by decide +kernel : decode code 303 = .ok (.iadd, 1)) (by decide +kernel : decode code 304 = .ok (.iaload, 1)) ?_
  refine lw_ld C hS hl (x0 := 0) (x4 := 4) rfl rfl 2 (by decide) hi (by decide +kernel : decode code 305 = .ok (.aload_n 0, 1)) (by decide +kernel : decode code 306 = .ok (.iload 4, 2)) (by decide +kernel : decode code 308 = .ok (.iconst 2, 1)) rfl (by decide +kernel : decode code 309 = .ok (.iadd, 1)) (by decide +kernel : decode code 310 = .ok (.iaload, 1)) ?_
  refine lw_ld C hS hl (x0 := 0) (x4 := 4) rfl rfl 3 (by decide) hi (by decide +kernel : decode code 311 = .ok (.aload_n 0, 1)) (by decide +kernel : decode code 312 = .ok (.iload 4, 2)) (by decide +kernel : decode code 314 = .ok (.iconst 3, 1)) rfl (by decide +kernel : decode code 315 = .ok (.iadd, 1)) (by decide +kernel : decode code 316 = .ok (.iaload, 1)) ?_
  refine lw_ld C hS hl (x0 := 0) (x4 := 4) rfl rfl 4 (by decide) hi (by decide +kernel : decode code 317 = .ok (.aload_n 0, 1)) (by decide +kernel : decode code 318 = .ok (.iload 4, 2)) (by decide +kernel : decode code 320 = .ok (.iconst 4, 1)) rfl (by decide +kernel : decode code 321 = .ok (.iadd, 1)) (by decide +kernel : decode code 322 = .ok (.iaload, 1)) ?_
  refine lw_ld C hS hl (x0 := 0) (x4 := 4) rfl rfl 5 (by decide) hi (by decide +kernel : decode code 323 = .ok (.aload_n 0, 1)) (by decide +kernel : decode code 324 = .ok (.iload 4, 2)) (by decide +kernel : decode code 326 = .ok (.iconst 5, 1)) rfl (by decide +kernel : decode code 327 = .ok (.iadd, 1)) (by decide +kernel : decode code 328 = .ok (.iaload, 1)) ?_
  refine gCall (own := RL) (as := [.int (sx xs i 1), .int (sx xs i 2), .int (sx xs i 3), .int (sx xs i 4), .int (sx xs i 5)]) (i := 63) (r := (.inl (some (.int b2)), T2)) (M' := Mx174) (d := 60) (rest := [.int b2]) ⟨hx, hb, hml, hown, hts⟩ gm_feed (mX_m z ad) (Nat.le_of_eq hz) hX0.1 hK (con_of hst (j := 174) rfl (Nat.le_of_ble_eq_true rfl) (fun w hw => by simp only [List.mem_cons, List.not_mem_nil, or_false] at hw; rcases hw with rfl | rfl | rfl | rfl | rfl | rfl <;> rfl) (f_X10_feed_ok (d := 60) hf2)) hP hD hS hl.1 (ci := 9) rfl rfl (Nat.le_of_ble_eq_true rfl) (by decide +kernel : decode code 329 = .ok (.invokevirtual 140, 3)) ⟨by decide, by decide⟩ ⟨by show 100 + 64 * n + 16 + 16 ≤ 601024; omega, by show 60000 + 384 * n + 96 + 96 ≤ 7293034; omega⟩ (fun v hv H1 locs1 hP hD hS => ?_) (fun k9 hk9 _ _ _ _ _ _ _ _ _ _ => by cases hk9)
  cases hv
  refine W.eq (g2 := F0 m 332 ls [.int b2, .int b2]) rfl ?_
  refine lv_icmp_eq (tgt := 3077) hx hb (by decide +kernel : decode code 332 = .ok (.if_icmp .eq 2745, 3)) (by decide) (fun _ => ?_) (fun q => absurd rfl q)
  exact W.widen (by omega) (by omega) (kk T2 _ _ _ hI2 hP hD hS (lv_sub hl [0, 1, 2, 3, 4] rfl))
set_option maxRecDepth 20000 in
theorem gm_end : gOK RL 145 Mx175 (RX10, TX10, 23) 1 [1438, 1439, 1440, 116, 1441] = true := by decide +kernel
set_option maxRecDepth 20000 in
theorem gx_end : gOK RL 141 Mx88 (RX9, TX9, 14) 1 [341, 342, 343, 106, 344] = true := by decide +kernel
set_option maxRecDepth 20000 in
set_option maxHeartbeats 4000000 in
theorem lc_end (C : LwC p lau s m meth c b L xs z D ad cy) (hn : n < 512) (hi : i + 6 ≤ L) (hI : Inv S) (hP : va_P D vwCl (mW ad cy S) H) (hD : va_D (mAz z) (mW ad cy S)) (hS : va_S (mAz z) s.heap H locs) (hl : lv_has ls 7 (lvs b ad i)) (kk : LK p lau e s m below meth c Q b z D ad cy n i) :
    W p lau e room_1 s m #[Value.ref b] below meth c H locs (100 + 64 * n) (60000 + 384 * n) Q (F0 m 337 ls []) := by
  obtain ⟨⟨hx, hb, hml, hown, hts⟩, hXs, hbl, hz, hK, hX0, hst, hL⟩ := id C
  obtain ⟨r1, S1, hf, hg⟩ := ag_end (p1 := (sx xs i 1)) hI
  refine lv_aload_n hx hb (by decide +kernel : decode code 337 = .ok (.aload_n 1, 1)) rfl (lv_at hl 1 rfl) ?_
  refine lw_ld C hS hl (x0 := 0) (x4 := 4) rfl rfl 1 (by decide) hi (by decide +kernel : decode code 338 = .ok (.aload_n 0, 1)) (by decide +kernel : decode code 339 = .ok (.iload 4, 2)) (by decide +kernel : decode code 341 = .ok (.iconst 1, 1)) rfl (by decide +kernel : decode code 342 = .ok (.iadd, 1)) (by decide +kernel : decode code 343 = .ok (.iaload, 1)) ?_
  obtain ⟨b2, T2, hf2, hI2, hres⟩ := hg S1 (fun _ _ => rfl)
  refine gCall (own := RL) (as := [.int (sx xs i 1)]) (i := 0) (r := (r1, S1)) (M' := Mx88) (d := 60) (rest := []) ⟨hx, hb, hml, hown, hts⟩ gx_end (mX_m z ad) (Nat.le_of_eq hz) hX0.1 hK (con_of hst (j := 88) rfl (Nat.le_of_ble_eq_true rfl) (fun w hw => by simp only [List.mem_cons, List.not_mem_nil, or_false] at hw; rcases hw with rfl | rfl <;> rfl) (f_X9_end_ok (d := 59) hf)) hP hD hS hl.1 (ci := 8) rfl rfl (Nat.le_of_ble_eq_true rfl) (by decide +kernel : decode code 344 = .ok (.invokevirtual 141, 3)) ⟨by decide, by decide⟩ ⟨by show 100 + 64 * n + 16 ≤ 601024; omega, by show 60000 + 384 * n + 96 ≤ 7293034; omega⟩ (fun v hv H1 locs1 hP hD hS => ?_) (fun k9 hk9 _ _ _ _ _ _ _ _ _ _ => (Res_no hres hk9).elim)
  obtain rfl := Res_in hres hv
  refine W.eq (g2 := F0 m 347 ls [.int b2]) rfl ?_
  refine lv_aload_n hx hb (by decide +kernel : decode code 347 = .ok (.aload_n 2, 1)) rfl (lv_at hl 2 rfl) ?_
  refine lw_ld C hS hl (x0 := 0) (x4 := 4) rfl rfl 1 (by decide) hi (by decide +kernel : decode code 348 = .ok (.aload_n 0, 1)) (by decide +kernel : decode code 349 = .ok (.iload 4, 2)) (by decide +kernel : decode code 351 = .ok (.iconst 1, 1)) rfl (by decide +kernel : decode code 352 = .ok (.iadd, 1)) (by decide +kernel : decode code 353 = .ok (.iaload, 1)) ?_
  refine gCall (own := RL) (as := [.int (sx xs i 1)]) (i := 63) (r := (.inl (some (.int b2)), T2)) (M' := Mx175) (d := 60) (rest := [.int b2]) ⟨hx, hb, hml, hown, hts⟩ gm_end (mX_m z ad) (Nat.le_of_eq hz) hX0.1 hK (con_of hst (j := 175) rfl (Nat.le_of_ble_eq_true rfl) (fun w hw => by simp only [List.mem_cons, List.not_mem_nil, or_false] at hw; rcases hw with rfl | rfl <;> rfl) (f_X10_end_ok (d := 60) hf2)) hP hD hS hl.1 (ci := 9) rfl rfl (Nat.le_of_ble_eq_true rfl) (by decide +kernel : decode code 354 = .ok (.invokevirtual 145, 3)) ⟨by decide, by decide⟩ ⟨by show 100 + 64 * n + 16 + 16 ≤ 601024; omega, by show 60000 + 384 * n + 96 + 96 ≤ 7293034; omega⟩ (fun v hv H1 locs1 hP hD hS => ?_) (fun k9 hk9 _ _ _ _ _ _ _ _ _ _ => by cases hk9)
  cases hv
  refine W.eq (g2 := F0 m 357 ls [.int b2, .int b2]) rfl ?_
  refine lv_icmp_eq (tgt := 3077) hx hb (by decide +kernel : decode code 357 = .ok (.if_icmp .eq 2720, 3)) (by decide) (fun _ => ?_) (fun q => absurd rfl q)
  exact W.widen (by omega) (by omega) (kk T2 _ _ _ hI2 hP hD hS (lv_sub hl [0, 1, 2, 3, 4] rfl))
set_option maxRecDepth 20000 in
theorem gm_isle : gOK RL 151 Mx201 (RX10, TX10, 23) 0 [1446, 1447, 1448, 116, 1449] = true := by decide +kernel
set_option maxRecDepth 20000 in
theorem gx_isle : hOK 146 yL_isle cL_isle 3 [(0, 8, 11, 13), (0, 8, 14, 15)] 2 [573, 574, 105, 575] = true := by decide +kernel
set_option maxRecDepth 20000 in
set_option maxHeartbeats 4000000 in
theorem lc_isle (C : LwC p lau s m meth c b L xs z D ad cy) (hn : n < 512) (hi : i + 6 ≤ L) (hI : Inv S) (hP : va_P D vwCl (mW ad cy S) H) (hD : va_D (mAz z) (mW ad cy S)) (hS : va_S (mAz z) s.heap H locs) (hl : lv_has ls 7 (lvs b ad i)) (kk : LK p lau e s m below meth c Q b z D ad cy n i) :
    W p lau e room_1 s m #[Value.ref b] below meth c H locs (100 + 64 * n) (60000 + 384 * n) Q (F0 m 362 ls []) := by
  obtain ⟨⟨hx, hb, hml, hown, hts⟩, hXs, hbl, hz, hK, hX0, hst, hL⟩ := id C
  obtain ⟨r1, S1, hf, hg⟩ := ag_isle (F := 6000)  (Nat.le_refl _) hI
  refine lv_aload_n hx hb (by decide +kernel : decode code 362 = .ok (.aload_n 1, 1)) rfl (lv_at hl 1 rfl) ?_
  obtain ⟨k0, S2, b2, T2, hHR, hf2, hI2, ht, ho⟩ := hr_of hg
  have h75 : T2 75 = S2 75 := ev75 (f_X10_isle_ok (d := 12) hf2)
  refine lv_aload_n hx hb (by decide +kernel : decode code 363 = .ok (.aload_n 3, 1)) rfl (lv_at hl 3 rfl) ?_
  refine gHelp (as := [.ref 0, .ref 75]) (k := k0) (S2 := S2) (rest := []) ⟨hx, hb, hml, hown, hts⟩ gx_isle (Nat.le_of_eq hz) hX0 hK (hc_isle (F := 6000) hst hf hHR) hP hD hS hl.1 (Nat.le_of_ble_eq_true rfl) (by decide +kernel : decode code 364 = .ok (.invokestatic 146, 3)) ⟨by decide, by decide⟩ ⟨by show 100 + 64 * n + 16 ≤ 601024; omega, by show 60000 + 384 * n + 96 ≤ 7293034; omega⟩ (fun H1 locs1 hP hD hS => ?_)
  refine lv_istore (lv' := (5, .int k0) :: lvs b ad i) hx hb (by decide +kernel : decode code 367 = .ok (.istore 5, 2)) hl (by decide) rfl (fun ls hl => ?_)
  refine lv_aload_n hx hb (by decide +kernel : decode code 369 = .ok (.aload_n 2, 1)) rfl (lv_at hl 3 rfl) ?_
  refine gCall (own := RL) (as := []) (i := 63) (r := (.inl (some (.int b2)), T2)) (M' := Mx201) (d := 60) (rest := []) ⟨hx, hb, hml, hown, hts⟩ gm_isle (mX_m z ad) (Nat.le_of_eq hz) hX0.1 hK (con_of hst (j := 201) rfl (Nat.le_of_ble_eq_true rfl) (fun w hw => by simp only [List.mem_cons, List.not_mem_nil, or_false] at hw; rcases hw with rfl <;> rfl) (f_X10_isle_ok (d := 12) hf2)) hP hD hS hl.1 (ci := 9) rfl rfl (Nat.le_of_ble_eq_true rfl) (by decide +kernel : decode code 370 = .ok (.invokevirtual 151, 3)) ⟨by decide, by decide⟩ ⟨by show 100 + 64 * n + 16 + 16 ≤ 601024; omega, by show 60000 + 384 * n + 96 + 96 ≤ 7293034; omega⟩ (fun v hv H1 locs1 hP hD hS => ?_) (fun k9 hk9 _ _ _ _ _ _ _ _ _ _ => by cases hk9)
  cases hv
  refine W.eq (g2 := F0 m 373 ls [.int b2]) rfl ?_
  refine lv_istore (lv' := (6, .int b2) :: (5, .int k0) :: lvs b ad i) hx hb (by decide +kernel : decode code 373 = .ok (.istore 6, 2)) hl (by decide) rfl (fun ls hl => ?_)
  refine lv_aload_n hx hb (by decide +kernel : decode code 375 = .ok (.aload_n 2, 1)) rfl (lv_at hl 4 rfl) ?_
  refine gCall (own := RL) (as := []) (i := 63) (r := (.inl (some (.int (T2 63 0))), T2)) (M' := Mx154) (d := 60) (rest := []) ⟨hx, hb, hml, hown, hts⟩ gt_thrown (mX_m z ad) (Nat.le_of_eq hz) hX0.1 hK (con_of hst (j := 154) rfl (Nat.le_of_ble_eq_true rfl) (fun w hw => by simp only [List.mem_cons, List.not_mem_nil, or_false] at hw; rcases hw with rfl <;> rfl) (f_X10_thrown_ok (d := 60) thr_ok)) hP hD hS hl.1 (ci := 9) rfl rfl (Nat.le_of_ble_eq_true rfl) (by decide +kernel : decode code 376 = .ok (.invokevirtual 152, 3)) ⟨by decide, by decide⟩ ⟨by show 100 + 64 * n + 16 + 16 + 16 ≤ 601024; omega, by show 60000 + 384 * n + 96 + 96 + 96 ≤ 7293034; omega⟩ (fun v hv H1 locs1 hP hD hS => ?_) (fun k9 hk9 _ _ _ _ _ _ _ _ _ _ => by cases hk9)
  cases hv
  replace hP : va_P D vwCl (mW ad cy T2) H1 := hP
  refine W.eq (g2 := F0 m 379 ls [.int (T2 63 0)]) rfl ?_
  refine lv_iload hx hb (by decide +kernel : decode code 379 = .ok (.iload 5, 2)) (lv_at hl 1 rfl) ?_
  refine lv_icmp_eq (tgt := 386) hx hb (by decide +kernel : decode code 381 = .ok (.if_icmp .eq 5, 3)) (by decide) (fun _ => ?_) (fun q => absurd ht q)
  refine lv_iload hx hb (by decide +kernel : decode code 386 = .ok (.iload 5, 2)) (lv_at hl 1 rfl) ?_
  have KE : W p lau e room_1 s m #[Value.ref b] below meth c H1 locs1 (100 + 64 * n + 16 + 16 + 16) (60000 + 384 * n + 96 + 96 + 96) Q (F0 m 403 ls []) := by
    refine lv_goto (tgt := 3077) hx hb (by decide +kernel : decode code 403 = .ok (.goto 2674, 3)) (by decide) ?_
    exact W.widen (by omega) (by omega) (kk T2 _ _ _ hI2 hP hD hS (lv_sub hl [2, 3, 4, 5, 6] rfl))
  refine lv_if_ne (tgt := 403) hx hb (by decide +kernel : decode code 388 = .ok (.ifCond .ne 15, 3)) (by decide) (fun _ => KE) (fun q0 => ?_)
  refine lv_aload_n hx hb (by decide +kernel : decode code 391 = .ok (.aload_n 3, 1)) rfl (lv_at hl 5 rfl) ?_
  refine lv_iconst (v := 0) hx hb (by decide +kernel : decode code 392 = .ok (.iconst 0, 1)) (by decide) ?_
  refine va_lald hx hb hK hP 75 3 (mW_get (i := 75) rfl) rfl vin0 (by decide +kernel : decode code 393 = .ok (.laload, 1)) ?_
  rw [show (T2 75 ((0 : Int32).toNatClampNeg)) = b2 from (congrFun h75 0).trans (ho q0)]
  refine lv_iload hx hb (by decide +kernel : decode code 394 = .ok (.iload 6, 2)) (lv_at hl 0 rfl) ?_
  refine lv_i2l hx hb (by decide +kernel : decode code 396 = .ok (.i2l, 1)) rfl ?_
  refine W.lcmp hx hb (by decide +kernel : decode code 397 = .ok (.lcmp, 1)) ?_
  refine lv_if_eq (tgt := 403) hx hb (by decide +kernel : decode code 398 = .ok (.ifCond .eq 5, 3)) (by decide) (fun _ => KE) (fun q => absurd (lg_cmp_self _) q)
set_option maxRecDepth 20000 in
theorem gm_law : gOK RL 157 Mx202 (RX10, TX10, 23) 0 [1590, 1591, 1592, 116, 1593] = true := by decide +kernel
set_option maxRecDepth 20000 in
theorem gx_law : hOK 155 yL_law cL_law 3 [(0, 8, 11, 13)] 2 [881, 882, 105, 883] = true := by decide +kernel
set_option maxRecDepth 20000 in
set_option maxHeartbeats 4000000 in
theorem lc_law (C : LwC p lau s m meth c b L xs z D ad cy) (hn : n < 512) (hi : i + 6 ≤ L) (hI : Inv S) (hP : va_P D vwCl (mW ad cy S) H) (hD : va_D (mAz z) (mW ad cy S)) (hS : va_S (mAz z) s.heap H locs) (hl : lv_has ls 7 (lvs b ad i)) (kk : LK p lau e s m below meth c Q b z D ad cy n i) :
    W p lau e room_1 s m #[Value.ref b] below meth c H locs (100 + 64 * n) (60000 + 384 * n) Q (F0 m 406 ls []) := by
  obtain ⟨⟨hx, hb, hml, hown, hts⟩, hXs, hbl, hz, hK, hX0, hst, hL⟩ := id C
  obtain ⟨r1, S1, hf, hg⟩ := ag_law (F := 6000)  (Nat.le_refl _) hI
  refine lv_aload_n hx hb (by decide +kernel : decode code 406 = .ok (.aload_n 1, 1)) rfl (lv_at hl 1 rfl) ?_
  obtain ⟨k0, S2, b2, T2, hHR, hf2, hI2, ht, ho⟩ := hr_of hg
  have h75 : T2 75 = S2 75 := ev75 (f_X10_law_ok (d := 12) hf2)
  refine lv_aload_n hx hb (by decide +kernel : decode code 407 = .ok (.aload_n 3, 1)) rfl (lv_at hl 3 rfl) ?_
  refine gHelp (as := [.ref 0, .ref 75]) (k := k0) (S2 := S2) (rest := []) ⟨hx, hb, hml, hown, hts⟩ gx_law (Nat.le_of_eq hz) hX0 hK (hc_law (F := 6000) hst hf hHR) hP hD hS hl.1 (Nat.le_of_ble_eq_true rfl) (by decide +kernel : decode code 408 = .ok (.invokestatic 155, 3)) ⟨by decide, by decide⟩ ⟨by show 100 + 64 * n + 16 ≤ 601024; omega, by show 60000 + 384 * n + 96 ≤ 7293034; omega⟩ (fun H1 locs1 hP hD hS => ?_)
  refine lv_istore (lv' := (5, .int k0) :: lvs b ad i) hx hb (by decide +kernel : decode code 411 = .ok (.istore 5, 2)) hl (by decide) rfl (fun ls hl => ?_)
  refine lv_aload_n hx hb (by decide +kernel : decode code 413 = .ok (.aload_n 2, 1)) rfl (lv_at hl 3 rfl) ?_
  refine gCall (own := RL) (as := []) (i := 63) (r := (.inl (some (.int b2)), T2)) (M' := Mx202) (d := 60) (rest := []) ⟨hx, hb, hml, hown, hts⟩ gm_law (mX_m z ad) (Nat.le_of_eq hz) hX0.1 hK (con_of hst (j := 202) rfl (Nat.le_of_ble_eq_true rfl) (fun w hw => by simp only [List.mem_cons, List.not_mem_nil, or_false] at hw; rcases hw with rfl <;> rfl) (f_X10_law_ok (d := 12) hf2)) hP hD hS hl.1 (ci := 9) rfl rfl (Nat.le_of_ble_eq_true rfl) (by decide +kernel : decode code 414 = .ok (.invokevirtual 157, 3)) ⟨by decide, by decide⟩ ⟨by show 100 + 64 * n + 16 + 16 ≤ 601024; omega, by show 60000 + 384 * n + 96 + 96 ≤ 7293034; omega⟩ (fun v hv H1 locs1 hP hD hS => ?_) (fun k9 hk9 _ _ _ _ _ _ _ _ _ _ => by cases hk9)
  cases hv
  refine W.eq (g2 := F0 m 417 ls [.int b2]) rfl ?_
  refine lv_istore (lv' := (6, .int b2) :: (5, .int k0) :: lvs b ad i) hx hb (by decide +kernel : decode code 417 = .ok (.istore 6, 2)) hl (by decide) rfl (fun ls hl => ?_)
  refine lv_aload_n hx hb (by decide +kernel : decode code 419 = .ok (.aload_n 2, 1)) rfl (lv_at hl 4 rfl) ?_
  refine gCall (own := RL) (as := []) (i := 63) (r := (.inl (some (.int (T2 63 0))), T2)) (M' := Mx154) (d := 60) (rest := []) ⟨hx, hb, hml, hown, hts⟩ gt_thrown (mX_m z ad) (Nat.le_of_eq hz) hX0.1 hK (con_of hst (j := 154) rfl (Nat.le_of_ble_eq_true rfl) (fun w hw => by simp only [List.mem_cons, List.not_mem_nil, or_false] at hw; rcases hw with rfl <;> rfl) (f_X10_thrown_ok (d := 60) thr_ok)) hP hD hS hl.1 (ci := 9) rfl rfl (Nat.le_of_ble_eq_true rfl) (by decide +kernel : decode code 420 = .ok (.invokevirtual 152, 3)) ⟨by decide, by decide⟩ ⟨by show 100 + 64 * n + 16 + 16 + 16 ≤ 601024; omega, by show 60000 + 384 * n + 96 + 96 + 96 ≤ 7293034; omega⟩ (fun v hv H1 locs1 hP hD hS => ?_) (fun k9 hk9 _ _ _ _ _ _ _ _ _ _ => by cases hk9)
  cases hv
  replace hP : va_P D vwCl (mW ad cy T2) H1 := hP
  refine W.eq (g2 := F0 m 423 ls [.int (T2 63 0)]) rfl ?_
  refine lv_iload hx hb (by decide +kernel : decode code 423 = .ok (.iload 5, 2)) (lv_at hl 1 rfl) ?_
  refine lv_icmp_eq (tgt := 430) hx hb (by decide +kernel : decode code 425 = .ok (.if_icmp .eq 5, 3)) (by decide) (fun _ => ?_) (fun q => absurd ht q)
  refine lv_iload hx hb (by decide +kernel : decode code 430 = .ok (.iload 5, 2)) (lv_at hl 1 rfl) ?_
  have KE : W p lau e room_1 s m #[Value.ref b] below meth c H1 locs1 (100 + 64 * n + 16 + 16 + 16) (60000 + 384 * n + 96 + 96 + 96) Q (F0 m 447 ls []) := by
    refine lv_goto (tgt := 3077) hx hb (by decide +kernel : decode code 447 = .ok (.goto 2630, 3)) (by decide) ?_
    exact W.widen (by omega) (by omega) (kk T2 _ _ _ hI2 hP hD hS (lv_sub hl [2, 3, 4, 5, 6] rfl))
  refine lv_if_ne (tgt := 447) hx hb (by decide +kernel : decode code 432 = .ok (.ifCond .ne 15, 3)) (by decide) (fun _ => KE) (fun q0 => ?_)
  refine lv_aload_n hx hb (by decide +kernel : decode code 435 = .ok (.aload_n 3, 1)) rfl (lv_at hl 5 rfl) ?_
  refine lv_iconst (v := 0) hx hb (by decide +kernel : decode code 436 = .ok (.iconst 0, 1)) (by decide) ?_
  refine va_lald hx hb hK hP 75 3 (mW_get (i := 75) rfl) rfl vin0 (by decide +kernel : decode code 437 = .ok (.laload, 1)) ?_
  rw [show (T2 75 ((0 : Int32).toNatClampNeg)) = b2 from (congrFun h75 0).trans (ho q0)]
  refine lv_iload hx hb (by decide +kernel : decode code 438 = .ok (.iload 6, 2)) (lv_at hl 0 rfl) ?_
  refine lv_i2l hx hb (by decide +kernel : decode code 440 = .ok (.i2l, 1)) rfl ?_
  refine W.lcmp hx hb (by decide +kernel : decode code 441 = .ok (.lcmp, 1)) ?_
  refine lv_if_eq (tgt := 447) hx hb (by decide +kernel : decode code 442 = .ok (.ifCond .eq 5, 3)) (by decide) (fun _ => KE) (fun q => absurd (lg_cmp_self _) q)
set_option maxRecDepth 20000 in
theorem gm_fault : gOK RL 161 Mx184 (RX10, TX10, 23) 0 [1442, 1443, 1444, 116, 1445] = true := by decide +kernel
set_option maxRecDepth 20000 in
theorem gx_fault : gOK RL 158 Mx91 (RX9, TX9, 14) 0 [349, 350, 351, 106, 352] = true := by decide +kernel
set_option maxRecDepth 20000 in
set_option maxHeartbeats 4000000 in
theorem lc_fault (C : LwC p lau s m meth c b L xs z D ad cy) (hn : n < 512) (hi : i + 6 ≤ L) (hI : Inv S) (hP : va_P D vwCl (mW ad cy S) H) (hD : va_D (mAz z) (mW ad cy S)) (hS : va_S (mAz z) s.heap H locs) (hl : lv_has ls 7 (lvs b ad i)) (kk : LK p lau e s m below meth c Q b z D ad cy n i) :
    W p lau e room_1 s m #[Value.ref b] below meth c H locs (100 + 64 * n) (60000 + 384 * n) Q (F0 m 450 ls []) := by
  obtain ⟨⟨hx, hb, hml, hown, hts⟩, hXs, hbl, hz, hK, hX0, hst, hL⟩ := id C
  obtain ⟨r1, S1, hf, hg⟩ := ag_fault  hI
  refine lv_aload_n hx hb (by decide +kernel : decode code 450 = .ok (.aload_n 1, 1)) rfl (lv_at hl 1 rfl) ?_
  obtain ⟨b2, T2, hf2, hI2, hres⟩ := hg S1 (fun _ _ => rfl)
  refine gCall (own := RL) (as := []) (i := 0) (r := (r1, S1)) (M' := Mx91) (d := 60) (rest := []) ⟨hx, hb, hml, hown, hts⟩ gx_fault (mX_m z ad) (Nat.le_of_eq hz) hX0.1 hK (con_of hst (j := 91) rfl (Nat.le_of_ble_eq_true rfl) (fun w hw => by simp only [List.mem_cons, List.not_mem_nil, or_false] at hw; rcases hw with rfl <;> rfl) (f_X9_fault_ok (d := 59) hf)) hP hD hS hl.1 (ci := 8) rfl rfl (Nat.le_of_ble_eq_true rfl) (by decide +kernel : decode code 451 = .ok (.invokevirtual 158, 3)) ⟨by decide, by decide⟩ ⟨by show 100 + 64 * n + 16 ≤ 601024; omega, by show 60000 + 384 * n + 96 ≤ 7293034; omega⟩ (fun v hv H1 locs1 hP hD hS => ?_) (fun k9 hk9 _ _ _ _ _ _ _ _ _ _ => (Res_no hres hk9).elim)
  obtain rfl := Res_in hres hv
  refine W.eq (g2 := F0 m 454 ls [.int b2]) rfl ?_
  refine lv_aload_n hx hb (by decide +kernel : decode code 454 = .ok (.aload_n 2, 1)) rfl (lv_at hl 2 rfl) ?_
  refine gCall (own := RL) (as := []) (i := 63) (r := (.inl (some (.int b2)), T2)) (M' := Mx184) (d := 60) (rest := [.int b2]) ⟨hx, hb, hml, hown, hts⟩ gm_fault (mX_m z ad) (Nat.le_of_eq hz) hX0.1 hK (con_of hst (j := 184) rfl (Nat.le_of_ble_eq_true rfl) (fun w hw => by simp only [List.mem_cons, List.not_mem_nil, or_false] at hw; rcases hw with rfl <;> rfl) (f_X10_fault_ok (d := 60) hf2)) hP hD hS hl.1 (ci := 9) rfl rfl (Nat.le_of_ble_eq_true rfl) (by decide +kernel : decode code 455 = .ok (.invokevirtual 161, 3)) ⟨by decide, by decide⟩ ⟨by show 100 + 64 * n + 16 + 16 ≤ 601024; omega, by show 60000 + 384 * n + 96 + 96 ≤ 7293034; omega⟩ (fun v hv H1 locs1 hP hD hS => ?_) (fun k9 hk9 _ _ _ _ _ _ _ _ _ _ => by cases hk9)
  cases hv
  refine W.eq (g2 := F0 m 458 ls [.int b2, .int b2]) rfl ?_
  refine lv_icmp_eq (tgt := 3077) hx hb (by decide +kernel : decode code 458 = .ok (.if_icmp .eq 2619, 3)) (by decide) (fun _ => ?_) (fun q => absurd rfl q)
  exact W.widen (by omega) (by omega) (kk T2 _ _ _ hI2 hP hD hS (lv_sub hl [0, 1, 2, 3, 4] rfl))
set_option maxRecDepth 20000 in
theorem gm_ledge : gOK RL 165 Mx214 (RX10, TX10, 23) 2 [1594, 1595, 1596, 116, 1597] = true := by decide +kernel
set_option maxRecDepth 20000 in
theorem gx_ledge : hOK 162 yL_ledge cL_ledge 5 [(0, 10, 13, 24), (0, 10, 17, 26)] 4 [895, 896, 105, 897] = true := by decide +kernel
set_option maxRecDepth 20000 in
set_option maxHeartbeats 4000000 in
theorem lc_ledge (C : LwC p lau s m meth c b L xs z D ad cy) (hn : n < 512) (hi : i + 6 ≤ L) (hI : Inv S) (hP : va_P D vwCl (mW ad cy S) H) (hD : va_D (mAz z) (mW ad cy S)) (hS : va_S (mAz z) s.heap H locs) (hl : lv_has ls 7 (lvs b ad i)) (kk : LK p lau e s m below meth c Q b z D ad cy n i) :
    W p lau e room_1 s m #[Value.ref b] below meth c H locs (100 + 64 * n) (60000 + 384 * n) Q (F0 m 463 ls []) := by
  obtain ⟨⟨hx, hb, hml, hown, hts⟩, hXs, hbl, hz, hK, hX0, hst, hL⟩ := id C
  obtain ⟨r1, S1, hf, hg⟩ := ag_ledge (F := 6000) (p1 := (sx xs i 1)) (p2 := (sx xs i 2)) (Nat.le_refl _) hI
  refine lv_aload_n hx hb (by decide +kernel : decode code 463 = .ok (.aload_n 1, 1)) rfl (lv_at hl 1 rfl) ?_
  refine lw_ld C hS hl (x0 := 0) (x4 := 4) rfl rfl 1 (by decide) hi (by decide +kernel : decode code 464 = .ok (.aload_n 0, 1)) (by decide +kernel : decode code 465 = .ok (.iload 4, 2)) (by decide +kernel : decode code 467 = .ok (.iconst 1, 1)) rfl (by decide +kernel : decode code 468 = .ok (.iadd, 1)) (by decide +kernel : decode code 469 = .ok (.iaload, 1)) ?_
  refine lw_ld C hS hl (x0 := 0) (x4 := 4) rfl rfl 2 (by decide) hi (by decide +kernel : decode code 470 = .ok (.aload_n 0, 1)) (by decide +kernel : decode code 471 = .ok (.iload 4, 2)) (by decide +kernel : decode code 473 = .ok (.iconst 2, 1)) rfl (by decide +kernel : decode code 474 = .ok (.iadd, 1)) (by decide +kernel : decode code 475 = .ok (.iaload, 1)) ?_
  obtain ⟨k0, S2, b2, T2, hHR, hf2, hI2, ht, ho⟩ := hr_of hg
  have h75 : T2 75 = S2 75 := ev75 (f_X10_ledge_ok (d := 50) hf2)
  refine lv_aload_n hx hb (by decide +kernel : decode code 476 = .ok (.aload_n 3, 1)) rfl (lv_at hl 3 rfl) ?_
  refine gHelp (as := [.ref 0, .int (sx xs i 1), .int (sx xs i 2), .ref 75]) (k := k0) (S2 := S2) (rest := []) ⟨hx, hb, hml, hown, hts⟩ gx_ledge (Nat.le_of_eq hz) hX0 hK (hc_ledge (F := 6000) hst hf hHR) hP hD hS hl.1 (Nat.le_of_ble_eq_true rfl) (by decide +kernel : decode code 477 = .ok (.invokestatic 162, 3)) ⟨by decide, by decide⟩ ⟨by show 100 + 64 * n + 16 ≤ 601024; omega, by show 60000 + 384 * n + 96 ≤ 7293034; omega⟩ (fun H1 locs1 hP hD hS => ?_)
  refine lv_istore (lv' := (5, .int k0) :: lvs b ad i) hx hb (by decide +kernel : decode code 480 = .ok (.istore 5, 2)) hl (by decide) rfl (fun ls hl => ?_)
  refine lv_aload_n hx hb (by decide +kernel : decode code 482 = .ok (.aload_n 2, 1)) rfl (lv_at hl 3 rfl) ?_
  refine lw_ld C hS hl (x0 := 1) (x4 := 5) rfl rfl 1 (by decide) hi (by decide +kernel : decode code 483 = .ok (.aload_n 0, 1)) (by decide +kernel : decode code 484 = .ok (.iload 4, 2)) (by decide +kernel : decode code 486 = .ok (.iconst 1, 1)) rfl (by decide +kernel : decode code 487 = .ok (.iadd, 1)) (by decide +kernel : decode code 488 = .ok (.iaload, 1)) ?_
  refine lw_ld C hS hl (x0 := 1) (x4 := 5) rfl rfl 2 (by decide) hi (by decide +kernel : decode code 489 = .ok (.aload_n 0, 1)) (by decide +kernel : decode code 490 = .ok (.iload 4, 2)) (by decide +kernel : decode code 492 = .ok (.iconst 2, 1)) rfl (by decide +kernel : decode code 493 = .ok (.iadd, 1)) (by decide +kernel : decode code 494 = .ok (.iaload, 1)) ?_
  refine gCall (own := RL) (as := [.int (sx xs i 1), .int (sx xs i 2)]) (i := 63) (r := (.inl (some (.int b2)), T2)) (M' := Mx214) (d := 60) (rest := []) ⟨hx, hb, hml, hown, hts⟩ gm_ledge (mX_m z ad) (Nat.le_of_eq hz) hX0.1 hK (con_of hst (j := 214) rfl (Nat.le_of_ble_eq_true rfl) (fun w hw => by simp only [List.mem_cons, List.not_mem_nil, or_false] at hw; rcases hw with rfl | rfl | rfl <;> rfl) (f_X10_ledge_ok (d := 50) hf2)) hP hD hS hl.1 (ci := 9) rfl rfl (Nat.le_of_ble_eq_true rfl) (by decide +kernel : decode code 495 = .ok (.invokevirtual 165, 3)) ⟨by decide, by decide⟩ ⟨by show 100 + 64 * n + 16 + 16 ≤ 601024; omega, by show 60000 + 384 * n + 96 + 96 ≤ 7293034; omega⟩ (fun v hv H1 locs1 hP hD hS => ?_) (fun k9 hk9 _ _ _ _ _ _ _ _ _ _ => by cases hk9)
  cases hv
  refine W.eq (g2 := F0 m 498 ls [.int b2]) rfl ?_
  refine lv_istore (lv' := (6, .int b2) :: (5, .int k0) :: lvs b ad i) hx hb (by decide +kernel : decode code 498 = .ok (.istore 6, 2)) hl (by decide) rfl (fun ls hl => ?_)
  refine lv_aload_n hx hb (by decide +kernel : decode code 500 = .ok (.aload_n 2, 1)) rfl (lv_at hl 4 rfl) ?_
  refine gCall (own := RL) (as := []) (i := 63) (r := (.inl (some (.int (T2 63 0))), T2)) (M' := Mx154) (d := 60) (rest := []) ⟨hx, hb, hml, hown, hts⟩ gt_thrown (mX_m z ad) (Nat.le_of_eq hz) hX0.1 hK (con_of hst (j := 154) rfl (Nat.le_of_ble_eq_true rfl) (fun w hw => by simp only [List.mem_cons, List.not_mem_nil, or_false] at hw; rcases hw with rfl <;> rfl) (f_X10_thrown_ok (d := 60) thr_ok)) hP hD hS hl.1 (ci := 9) rfl rfl (Nat.le_of_ble_eq_true rfl) (by decide +kernel : decode code 501 = .ok (.invokevirtual 152, 3)) ⟨by decide, by decide⟩ ⟨by show 100 + 64 * n + 16 + 16 + 16 ≤ 601024; omega, by show 60000 + 384 * n + 96 + 96 + 96 ≤ 7293034; omega⟩ (fun v hv H1 locs1 hP hD hS => ?_) (fun k9 hk9 _ _ _ _ _ _ _ _ _ _ => by cases hk9)
  cases hv
  replace hP : va_P D vwCl (mW ad cy T2) H1 := hP
  refine W.eq (g2 := F0 m 504 ls [.int (T2 63 0)]) rfl ?_
  refine lv_iload hx hb (by decide +kernel : decode code 504 = .ok (.iload 5, 2)) (lv_at hl 1 rfl) ?_
  refine lv_icmp_eq (tgt := 511) hx hb (by decide +kernel : decode code 506 = .ok (.if_icmp .eq 5, 3)) (by decide) (fun _ => ?_) (fun q => absurd ht q)
  refine lv_iload hx hb (by decide +kernel : decode code 511 = .ok (.iload 5, 2)) (lv_at hl 1 rfl) ?_
  have KE : W p lau e room_1 s m #[Value.ref b] below meth c H1 locs1 (100 + 64 * n + 16 + 16 + 16) (60000 + 384 * n + 96 + 96 + 96) Q (F0 m 528 ls []) := by
    refine lv_goto (tgt := 3077) hx hb (by decide +kernel : decode code 528 = .ok (.goto 2549, 3)) (by decide) ?_
    exact W.widen (by omega) (by omega) (kk T2 _ _ _ hI2 hP hD hS (lv_sub hl [2, 3, 4, 5, 6] rfl))
  refine lv_if_ne (tgt := 528) hx hb (by decide +kernel : decode code 513 = .ok (.ifCond .ne 15, 3)) (by decide) (fun _ => KE) (fun q0 => ?_)
  refine lv_aload_n hx hb (by decide +kernel : decode code 516 = .ok (.aload_n 3, 1)) rfl (lv_at hl 5 rfl) ?_
  refine lv_iconst (v := 0) hx hb (by decide +kernel : decode code 517 = .ok (.iconst 0, 1)) (by decide) ?_
  refine va_lald hx hb hK hP 75 3 (mW_get (i := 75) rfl) rfl vin0 (by decide +kernel : decode code 518 = .ok (.laload, 1)) ?_
  rw [show (T2 75 ((0 : Int32).toNatClampNeg)) = b2 from (congrFun h75 0).trans (ho q0)]
  refine lv_iload hx hb (by decide +kernel : decode code 519 = .ok (.iload 6, 2)) (lv_at hl 0 rfl) ?_
  refine lv_i2l hx hb (by decide +kernel : decode code 521 = .ok (.i2l, 1)) rfl ?_
  refine W.lcmp hx hb (by decide +kernel : decode code 522 = .ok (.lcmp, 1)) ?_
  refine lv_if_eq (tgt := 528) hx hb (by decide +kernel : decode code 523 = .ok (.ifCond .eq 5, 3)) (by decide) (fun _ => KE) (fun q => absurd (lg_cmp_self _) q)
set_option maxRecDepth 20000 in
theorem gm_holder : gOK RL 169 Mx215 (RX10, TX10, 23) 2 [1652, 1653, 1654, 116, 1655] = true := by decide +kernel
set_option maxRecDepth 20000 in
theorem gx_holder : hOK 166 yL_holder cL_holder 5 [(0, 10, 13, 24)] 4 [958, 959, 105, 960] = true := by decide +kernel
set_option maxRecDepth 20000 in
set_option maxHeartbeats 4000000 in
theorem lc_holder (C : LwC p lau s m meth c b L xs z D ad cy) (hn : n < 512) (hi : i + 6 ≤ L) (hI : Inv S) (hP : va_P D vwCl (mW ad cy S) H) (hD : va_D (mAz z) (mW ad cy S)) (hS : va_S (mAz z) s.heap H locs) (hl : lv_has ls 7 (lvs b ad i)) (kk : LK p lau e s m below meth c Q b z D ad cy n i) :
    W p lau e room_1 s m #[Value.ref b] below meth c H locs (100 + 64 * n) (60000 + 384 * n) Q (F0 m 531 ls []) := by
  obtain ⟨⟨hx, hb, hml, hown, hts⟩, hXs, hbl, hz, hK, hX0, hst, hL⟩ := id C
  obtain ⟨r1, S1, hf, hg⟩ := ag_holder (p1 := (sx xs i 1)) (p2 := (bx xs i 2)) hI
  refine lv_aload_n hx hb (by decide +kernel : decode code 531 = .ok (.aload_n 1, 1)) rfl (lv_at hl 1 rfl) ?_
  refine lw_ld C hS hl (x0 := 0) (x4 := 4) rfl rfl 1 (by decide) hi (by decide +kernel : decode code 532 = .ok (.aload_n 0, 1)) (by decide +kernel : decode code 533 = .ok (.iload 4, 2)) (by decide +kernel : decode code 535 = .ok (.iconst 1, 1)) rfl (by decide +kernel : decode code 536 = .ok (.iadd, 1)) (by decide +kernel : decode code 537 = .ok (.iaload, 1)) ?_
  refine lw_ldb C hS hl (x0 := 0) (x4 := 4) rfl rfl 2 (by decide) hi (by decide +kernel : decode code 538 = .ok (.aload_n 0, 1)) (by decide +kernel : decode code 539 = .ok (.iload 4, 2)) (by decide +kernel : decode code 541 = .ok (.iconst 2, 1)) rfl (by decide +kernel : decode code 542 = .ok (.iadd, 1)) (by decide +kernel : decode code 543 = .ok (.iaload, 1)) (by decide +kernel : decode code 544 = .ok (.ifCond .eq 7, 3)) (by decide +kernel : decode code 547 = .ok (.iconst 1, 1)) (by decide +kernel : decode code 548 = .ok (.goto 4, 3)) (by decide +kernel : decode code 551 = .ok (.iconst 0, 1)) ?_
  obtain ⟨k0, S2, b2, T2, hHR, hf2, hI2, ht, ho⟩ := hr_of hg
  have h75 : T2 75 = S2 75 := ev75 (f_X10_holder_ok (d := 58) hf2)
  refine lv_aload_n hx hb (by decide +kernel : decode code 552 = .ok (.aload_n 3, 1)) rfl (lv_at hl 3 rfl) ?_
  refine gHelp (as := [.ref 0, .int (sx xs i 1), .int (bx xs i 2), .ref 75]) (k := k0) (S2 := S2) (rest := []) ⟨hx, hb, hml, hown, hts⟩ gx_holder (Nat.le_of_eq hz) hX0 hK (hc_holder (F := 6000) hst hf hHR) hP hD hS hl.1 (Nat.le_of_ble_eq_true rfl) (by decide +kernel : decode code 553 = .ok (.invokestatic 166, 3)) ⟨by decide, by decide⟩ ⟨by show 100 + 64 * n + 16 ≤ 601024; omega, by show 60000 + 384 * n + 96 ≤ 7293034; omega⟩ (fun H1 locs1 hP hD hS => ?_)
  refine lv_istore (lv' := (5, .int k0) :: lvs b ad i) hx hb (by decide +kernel : decode code 556 = .ok (.istore 5, 2)) hl (by decide) rfl (fun ls hl => ?_)
  refine lv_aload_n hx hb (by decide +kernel : decode code 558 = .ok (.aload_n 2, 1)) rfl (lv_at hl 3 rfl) ?_
  refine lw_ld C hS hl (x0 := 1) (x4 := 5) rfl rfl 1 (by decide) hi (by decide +kernel : decode code 559 = .ok (.aload_n 0, 1)) (by decide +kernel : decode code 560 = .ok (.iload 4, 2)) (by decide +kernel : decode code 562 = .ok (.iconst 1, 1)) rfl (by decide +kernel : decode code 563 = .ok (.iadd, 1)) (by decide +kernel : decode code 564 = .ok (.iaload, 1)) ?_
  refine lw_ldb C hS hl (x0 := 1) (x4 := 5) rfl rfl 2 (by decide) hi (by decide +kernel : decode code 565 = .ok (.aload_n 0, 1)) (by decide +kernel : decode code 566 = .ok (.iload 4, 2)) (by decide +kernel : decode code 568 = .ok (.iconst 2, 1)) rfl (by decide +kernel : decode code 569 = .ok (.iadd, 1)) (by decide +kernel : decode code 570 = .ok (.iaload, 1)) (by decide +kernel : decode code 571 = .ok (.ifCond .eq 7, 3)) (by decide +kernel : decode code 574 = .ok (.iconst 1, 1)) (by decide +kernel : decode code 575 = .ok (.goto 4, 3)) (by decide +kernel : decode code 578 = .ok (.iconst 0, 1)) ?_
  refine gCall (own := RL) (as := [.int (sx xs i 1), .int (bx xs i 2)]) (i := 63) (r := (.inl (some (.int b2)), T2)) (M' := Mx215) (d := 60) (rest := []) ⟨hx, hb, hml, hown, hts⟩ gm_holder (mX_m z ad) (Nat.le_of_eq hz) hX0.1 hK (con_of hst (j := 215) rfl (Nat.le_of_ble_eq_true rfl) (fun w hw => by simp only [List.mem_cons, List.not_mem_nil, or_false] at hw; rcases hw with rfl | rfl | rfl <;> rfl) (f_X10_holder_ok (d := 58) hf2)) hP hD hS hl.1 (ci := 9) rfl rfl (Nat.le_of_ble_eq_true rfl) (by decide +kernel : decode code 579 = .ok (.invokevirtual 169, 3)) ⟨by decide, by decide⟩ ⟨by show 100 + 64 * n + 16 + 16 ≤ 601024; omega, by show 60000 + 384 * n + 96 + 96 ≤ 7293034; omega⟩ (fun v hv H1 locs1 hP hD hS => ?_) (fun k9 hk9 _ _ _ _ _ _ _ _ _ _ => by cases hk9)
  cases hv
  refine W.eq (g2 := F0 m 582 ls [.int b2]) rfl ?_
  refine lv_istore (lv' := (6, .int b2) :: (5, .int k0) :: lvs b ad i) hx hb (by decide +kernel : decode code 582 = .ok (.istore 6, 2)) hl (by decide) rfl (fun ls hl => ?_)
  refine lv_aload_n hx hb (by decide +kernel : decode code 584 = .ok (.aload_n 2, 1)) rfl (lv_at hl 4 rfl) ?_
  refine gCall (own := RL) (as := []) (i := 63) (r := (.inl (some (.int (T2 63 0))), T2)) (M' := Mx154) (d := 60) (rest := []) ⟨hx, hb, hml, hown, hts⟩ gt_thrown (mX_m z ad) (Nat.le_of_eq hz) hX0.1 hK (con_of hst (j := 154) rfl (Nat.le_of_ble_eq_true rfl) (fun w hw => by simp only [List.mem_cons, List.not_mem_nil, or_false] at hw; rcases hw with rfl <;> rfl) (f_X10_thrown_ok (d := 60) thr_ok)) hP hD hS hl.1 (ci := 9) rfl rfl (Nat.le_of_ble_eq_true rfl) (by decide +kernel : decode code 585 = .ok (.invokevirtual 152, 3)) ⟨by decide, by decide⟩ ⟨by show 100 + 64 * n + 16 + 16 + 16 ≤ 601024; omega, by show 60000 + 384 * n + 96 + 96 + 96 ≤ 7293034; omega⟩ (fun v hv H1 locs1 hP hD hS => ?_) (fun k9 hk9 _ _ _ _ _ _ _ _ _ _ => by cases hk9)
  cases hv
  replace hP : va_P D vwCl (mW ad cy T2) H1 := hP
  refine W.eq (g2 := F0 m 588 ls [.int (T2 63 0)]) rfl ?_
  refine lv_iload hx hb (by decide +kernel : decode code 588 = .ok (.iload 5, 2)) (lv_at hl 1 rfl) ?_
  refine lv_icmp_eq (tgt := 595) hx hb (by decide +kernel : decode code 590 = .ok (.if_icmp .eq 5, 3)) (by decide) (fun _ => ?_) (fun q => absurd ht q)
  refine lv_iload hx hb (by decide +kernel : decode code 595 = .ok (.iload 5, 2)) (lv_at hl 1 rfl) ?_
  have KE : W p lau e room_1 s m #[Value.ref b] below meth c H1 locs1 (100 + 64 * n + 16 + 16 + 16) (60000 + 384 * n + 96 + 96 + 96) Q (F0 m 612 ls []) := by
    refine lv_goto (tgt := 3077) hx hb (by decide +kernel : decode code 612 = .ok (.goto 2465, 3)) (by decide) ?_
    exact W.widen (by omega) (by omega) (kk T2 _ _ _ hI2 hP hD hS (lv_sub hl [2, 3, 4, 5, 6] rfl))
  refine lv_if_ne (tgt := 612) hx hb (by decide +kernel : decode code 597 = .ok (.ifCond .ne 15, 3)) (by decide) (fun _ => KE) (fun q0 => ?_)
  refine lv_aload_n hx hb (by decide +kernel : decode code 600 = .ok (.aload_n 3, 1)) rfl (lv_at hl 5 rfl) ?_
  refine lv_iconst (v := 0) hx hb (by decide +kernel : decode code 601 = .ok (.iconst 0, 1)) (by decide) ?_
  refine va_lald hx hb hK hP 75 3 (mW_get (i := 75) rfl) rfl vin0 (by decide +kernel : decode code 602 = .ok (.laload, 1)) ?_
  rw [show (T2 75 ((0 : Int32).toNatClampNeg)) = b2 from (congrFun h75 0).trans (ho q0)]
  refine lv_iload hx hb (by decide +kernel : decode code 603 = .ok (.iload 6, 2)) (lv_at hl 0 rfl) ?_
  refine lv_i2l hx hb (by decide +kernel : decode code 605 = .ok (.i2l, 1)) rfl ?_
  refine W.lcmp hx hb (by decide +kernel : decode code 606 = .ok (.lcmp, 1)) ?_
  refine lv_if_eq (tgt := 612) hx hb (by decide +kernel : decode code 607 = .ok (.ifCond .eq 5, 3)) (by decide) (fun _ => KE) (fun q => absurd (lg_cmp_self _) q)
set_option maxRecDepth 20000 in
theorem gm_climber : gOK RL 172 Mx232 (RX10, TX10, 23) 2 [1736, 1737, 1738, 116, 1739] = true := by decide +kernel
set_option maxRecDepth 20000 in
theorem gx_climber : hOK 170 yL_climber cL_climber 5 [(0, 10, 13, 24), (0, 10, 17, 26)] 4 [971, 972, 105, 973] = true := by decide +kernel
set_option maxRecDepth 20000 in
set_option maxHeartbeats 4000000 in
theorem lc_climber (C : LwC p lau s m meth c b L xs z D ad cy) (hn : n < 512) (hi : i + 6 ≤ L) (hI : Inv S) (hP : va_P D vwCl (mW ad cy S) H) (hD : va_D (mAz z) (mW ad cy S)) (hS : va_S (mAz z) s.heap H locs) (hl : lv_has ls 7 (lvs b ad i)) (kk : LK p lau e s m below meth c Q b z D ad cy n i) :
    W p lau e room_1 s m #[Value.ref b] below meth c H locs (100 + 64 * n) (60000 + 384 * n) Q (F0 m 615 ls []) := by
  obtain ⟨⟨hx, hb, hml, hown, hts⟩, hXs, hbl, hz, hK, hX0, hst, hL⟩ := id C
  obtain ⟨r1, S1, hf, hg⟩ := ag_climber (F := 6000) (p1 := (sx xs i 1)) (p2 := (sx xs i 2)) (Nat.le_refl _) hI
  refine lv_aload_n hx hb (by decide +kernel : decode code 615 = .ok (.aload_n 1, 1)) rfl (lv_at hl 1 rfl) ?_
  refine lw_ld C hS hl (x0 := 0) (x4 := 4) rfl rfl 1 (by decide) hi (by decide +kernel : decode code 616 = .ok (.aload_n 0, 1)) (by decide +kernel : decode code 617 = .ok (.iload 4, 2)) (by decide +kernel : decode code 619 = .ok (.iconst 1, 1)) rfl (by decide +kernel : decode code 620 = .ok (.iadd, 1)) (by decide +kernel : decode code 621 = .ok (.iaload, 1)) ?_
  refine lw_ld C hS hl (x0 := 0) (x4 := 4) rfl rfl 2 (by decide) hi (by decide +kernel : decode code 622 = .ok (.aload_n 0, 1)) (by decide +kernel : decode code 623 = .ok (.iload 4, 2)) (by decide +kernel : decode code 625 = .ok (.iconst 2, 1)) rfl (by decide +kernel : decode code 626 = .ok (.iadd, 1)) (by decide +kernel : decode code 627 = .ok (.iaload, 1)) ?_
  obtain ⟨k0, S2, b2, T2, hHR, hf2, hI2, ht, ho⟩ := hr_of hg
  have h75 : T2 75 = S2 75 := ev75 (f_X10_climber_ok (d := 49) hf2)
  refine lv_aload_n hx hb (by decide +kernel : decode code 628 = .ok (.aload_n 3, 1)) rfl (lv_at hl 3 rfl) ?_
  refine gHelp (as := [.ref 0, .int (sx xs i 1), .int (sx xs i 2), .ref 75]) (k := k0) (S2 := S2) (rest := []) ⟨hx, hb, hml, hown, hts⟩ gx_climber (Nat.le_of_eq hz) hX0 hK (hc_climber (F := 6000) hst hf hHR) hP hD hS hl.1 (Nat.le_of_ble_eq_true rfl) (by decide +kernel : decode code 629 = .ok (.invokestatic 170, 3)) ⟨by decide, by decide⟩ ⟨by show 100 + 64 * n + 16 ≤ 601024; omega, by show 60000 + 384 * n + 96 ≤ 7293034; omega⟩ (fun H1 locs1 hP hD hS => ?_)
  refine lv_istore (lv' := (5, .int k0) :: lvs b ad i) hx hb (by decide +kernel : decode code 632 = .ok (.istore 5, 2)) hl (by decide) rfl (fun ls hl => ?_)
  refine lv_aload_n hx hb (by decide +kernel : decode code 634 = .ok (.aload_n 2, 1)) rfl (lv_at hl 3 rfl) ?_
  refine lw_ld C hS hl (x0 := 1) (x4 := 5) rfl rfl 1 (by decide) hi (by decide +kernel : decode code 635 = .ok (.aload_n 0, 1)) (by decide +kernel : decode code 636 = .ok (.iload 4, 2)) (by decide +kernel : decode code 638 = .ok (.iconst 1, 1)) rfl (by decide +kernel : decode code 639 = .ok (.iadd, 1)) (by decide +kernel : decode code 640 = .ok (.iaload, 1)) ?_
  refine lw_ld C hS hl (x0 := 1) (x4 := 5) rfl rfl 2 (by decide) hi (by decide +kernel : decode code 641 = .ok (.aload_n 0, 1)) (by decide +kernel : decode code 642 = .ok (.iload 4, 2)) (by decide +kernel : decode code 644 = .ok (.iconst 2, 1)) rfl (by decide +kernel : decode code 645 = .ok (.iadd, 1)) (by decide +kernel : decode code 646 = .ok (.iaload, 1)) ?_
  refine gCall (own := RL) (as := [.int (sx xs i 1), .int (sx xs i 2)]) (i := 63) (r := (.inl (some (.int b2)), T2)) (M' := Mx232) (d := 60) (rest := []) ⟨hx, hb, hml, hown, hts⟩ gm_climber (mX_m z ad) (Nat.le_of_eq hz) hX0.1 hK (con_of hst (j := 232) rfl (Nat.le_of_ble_eq_true rfl) (fun w hw => by simp only [List.mem_cons, List.not_mem_nil, or_false] at hw; rcases hw with rfl | rfl | rfl <;> rfl) (f_X10_climber_ok (d := 49) hf2)) hP hD hS hl.1 (ci := 9) rfl rfl (Nat.le_of_ble_eq_true rfl) (by decide +kernel : decode code 647 = .ok (.invokevirtual 172, 3)) ⟨by decide, by decide⟩ ⟨by show 100 + 64 * n + 16 + 16 ≤ 601024; omega, by show 60000 + 384 * n + 96 + 96 ≤ 7293034; omega⟩ (fun v hv H1 locs1 hP hD hS => ?_) (fun k9 hk9 _ _ _ _ _ _ _ _ _ _ => by cases hk9)
  cases hv
  refine W.eq (g2 := F0 m 650 ls [.int b2]) rfl ?_
  refine lv_istore (lv' := (6, .int b2) :: (5, .int k0) :: lvs b ad i) hx hb (by decide +kernel : decode code 650 = .ok (.istore 6, 2)) hl (by decide) rfl (fun ls hl => ?_)
  refine lv_aload_n hx hb (by decide +kernel : decode code 652 = .ok (.aload_n 2, 1)) rfl (lv_at hl 4 rfl) ?_
  refine gCall (own := RL) (as := []) (i := 63) (r := (.inl (some (.int (T2 63 0))), T2)) (M' := Mx154) (d := 60) (rest := []) ⟨hx, hb, hml, hown, hts⟩ gt_thrown (mX_m z ad) (Nat.le_of_eq hz) hX0.1 hK (con_of hst (j := 154) rfl (Nat.le_of_ble_eq_true rfl) (fun w hw => by simp only [List.mem_cons, List.not_mem_nil, or_false] at hw; rcases hw with rfl <;> rfl) (f_X10_thrown_ok (d := 60) thr_ok)) hP hD hS hl.1 (ci := 9) rfl rfl (Nat.le_of_ble_eq_true rfl) (by decide +kernel : decode code 653 = .ok (.invokevirtual 152, 3)) ⟨by decide, by decide⟩ ⟨by show 100 + 64 * n + 16 + 16 + 16 ≤ 601024; omega, by show 60000 + 384 * n + 96 + 96 + 96 ≤ 7293034; omega⟩ (fun v hv H1 locs1 hP hD hS => ?_) (fun k9 hk9 _ _ _ _ _ _ _ _ _ _ => by cases hk9)
  cases hv
  replace hP : va_P D vwCl (mW ad cy T2) H1 := hP
  refine W.eq (g2 := F0 m 656 ls [.int (T2 63 0)]) rfl ?_
  refine lv_iload hx hb (by decide +kernel : decode code 656 = .ok (.iload 5, 2)) (lv_at hl 1 rfl) ?_
  refine lv_icmp_eq (tgt := 663) hx hb (by decide +kernel : decode code 658 = .ok (.if_icmp .eq 5, 3)) (by decide) (fun _ => ?_) (fun q => absurd ht q)
  refine lv_iload hx hb (by decide +kernel : decode code 663 = .ok (.iload 5, 2)) (lv_at hl 1 rfl) ?_
  have KE : W p lau e room_1 s m #[Value.ref b] below meth c H1 locs1 (100 + 64 * n + 16 + 16 + 16) (60000 + 384 * n + 96 + 96 + 96) Q (F0 m 680 ls []) := by
    refine lv_goto (tgt := 3077) hx hb (by decide +kernel : decode code 680 = .ok (.goto 2397, 3)) (by decide) ?_
    exact W.widen (by omega) (by omega) (kk T2 _ _ _ hI2 hP hD hS (lv_sub hl [2, 3, 4, 5, 6] rfl))
  refine lv_if_ne (tgt := 680) hx hb (by decide +kernel : decode code 665 = .ok (.ifCond .ne 15, 3)) (by decide) (fun _ => KE) (fun q0 => ?_)
  refine lv_aload_n hx hb (by decide +kernel : decode code 668 = .ok (.aload_n 3, 1)) rfl (lv_at hl 5 rfl) ?_
  refine lv_iconst (v := 0) hx hb (by decide +kernel : decode code 669 = .ok (.iconst 0, 1)) (by decide) ?_
  refine va_lald hx hb hK hP 75 3 (mW_get (i := 75) rfl) rfl vin0 (by decide +kernel : decode code 670 = .ok (.laload, 1)) ?_
  rw [show (T2 75 ((0 : Int32).toNatClampNeg)) = b2 from (congrFun h75 0).trans (ho q0)]
  refine lv_iload hx hb (by decide +kernel : decode code 671 = .ok (.iload 6, 2)) (lv_at hl 0 rfl) ?_
  refine lv_i2l hx hb (by decide +kernel : decode code 673 = .ok (.i2l, 1)) rfl ?_
  refine W.lcmp hx hb (by decide +kernel : decode code 674 = .ok (.lcmp, 1)) ?_
  refine lv_if_eq (tgt := 680) hx hb (by decide +kernel : decode code 675 = .ok (.ifCond .eq 5, 3)) (by decide) (fun _ => KE) (fun q => absurd (lg_cmp_self _) q)
set_option maxRecDepth 20000 in
theorem gm_kicks : gOK RL 175 Mx216 (RX10, TX10, 23) 2 [1664, 1665, 1666, 116, 1667] = true := by decide +kernel
set_option maxRecDepth 20000 in
theorem gx_kicks : hOK 173 yL_kicks cL_kicks 5 [(0, 10, 13, 24), (0, 10, 17, 13)] 4 [983, 984, 105, 985] = true := by decide +kernel
set_option maxRecDepth 20000 in
set_option maxHeartbeats 4000000 in
theorem lc_kicks (C : LwC p lau s m meth c b L xs z D ad cy) (hn : n < 512) (hi : i + 6 ≤ L) (hI : Inv S) (hP : va_P D vwCl (mW ad cy S) H) (hD : va_D (mAz z) (mW ad cy S)) (hS : va_S (mAz z) s.heap H locs) (hl : lv_has ls 7 (lvs b ad i)) (kk : LK p lau e s m below meth c Q b z D ad cy n i) :
    W p lau e room_1 s m #[Value.ref b] below meth c H locs (100 + 64 * n) (60000 + 384 * n) Q (F0 m 683 ls []) := by
  obtain ⟨⟨hx, hb, hml, hown, hts⟩, hXs, hbl, hz, hK, hX0, hst, hL⟩ := id C
  obtain ⟨r1, S1, hf, hg⟩ := ag_kicks (F := 6000) (p1 := (sx xs i 1)) (p2 := (sx xs i 2)) (Nat.le_refl _) hI
  refine lv_aload_n hx hb (by decide +kernel : decode code 683 = .ok (.aload_n 1, 1)) rfl (lv_at hl 1 rfl) ?_
  refine lw_ld C hS hl (x0 := 0) (x4 := 4) rfl rfl 1 (by decide) hi (by decide +kernel : decode code 684 = .ok (.aload_n 0, 1)) (by decide +kernel : decode code 685 = .ok (.iload 4, 2)) (by decide +kernel : decode code 687 = .ok (.iconst 1, 1)) rfl (by decide +kernel : decode code 688 = .ok (.iadd, 1)) (by decide +kernel : decode code 689 = .ok (.iaload, 1)) ?_
  refine lw_ld C hS hl (x0 := 0) (x4 := 4) rfl rfl 2 (by decide) hi (by decide +kernel : decode code 690 = .ok (.aload_n 0, 1)) (by decide +kernel : decode code 691 = .ok (.iload 4, 2)) (by decide +kernel : decode code 693 = .ok (.iconst 2, 1)) rfl (by decide +kernel : decode code 694 = .ok (.iadd, 1)) (by decide +kernel : decode code 695 = .ok (.iaload, 1)) ?_
  obtain ⟨k0, S2, b2, T2, hHR, hf2, hI2, ht, ho⟩ := hr_of hg
  have h75 : T2 75 = S2 75 := ev75 (f_X10_kicks_ok (d := 51) hf2)
  refine lv_aload_n hx hb (by decide +kernel : decode code 696 = .ok (.aload_n 3, 1)) rfl (lv_at hl 3 rfl) ?_
  refine gHelp (as := [.ref 0, .int (sx xs i 1), .int (sx xs i 2), .ref 75]) (k := k0) (S2 := S2) (rest := []) ⟨hx, hb, hml, hown, hts⟩ gx_kicks (Nat.le_of_eq hz) hX0 hK (hc_kicks (F := 6000) hst hf hHR) hP hD hS hl.1 (Nat.le_of_ble_eq_true rfl) (by decide +kernel : decode code 697 = .ok (.invokestatic 173, 3)) ⟨by decide, by decide⟩ ⟨by show 100 + 64 * n + 16 ≤ 601024; omega, by show 60000 + 384 * n + 96 ≤ 7293034; omega⟩ (fun H1 locs1 hP hD hS => ?_)
  refine lv_istore (lv' := (5, .int k0) :: lvs b ad i) hx hb (by decide +kernel : decode code 700 = .ok (.istore 5, 2)) hl (by decide) rfl (fun ls hl => ?_)
  refine lv_aload_n hx hb (by decide +kernel : decode code 702 = .ok (.aload_n 2, 1)) rfl (lv_at hl 3 rfl) ?_
  refine lw_ld C hS hl (x0 := 1) (x4 := 5) rfl rfl 1 (by decide) hi (by decide +kernel : decode code 703 = .ok (.aload_n 0, 1)) (by decide +kernel : decode code 704 = .ok (.iload 4, 2)) (by decide +kernel : decode code 706 = .ok (.iconst 1, 1)) rfl (by decide +kernel : decode code 707 = .ok (.iadd, 1)) (by decide +kernel : decode code 708 = .ok (.iaload, 1)) ?_
  refine lw_ld C hS hl (x0 := 1) (x4 := 5) rfl rfl 2 (by decide) hi (by decide +kernel : decode code 709 = .ok (.aload_n 0, 1)) (by decide +kernel : decode code 710 = .ok (.iload 4, 2)) (by decide +kernel : decode code 712 = .ok (.iconst 2, 1)) rfl (by decide +kernel : decode code 713 = .ok (.iadd, 1)) (by decide +kernel : decode code 714 = .ok (.iaload, 1)) ?_
  refine gCall (own := RL) (as := [.int (sx xs i 1), .int (sx xs i 2)]) (i := 63) (r := (.inl (some (.int b2)), T2)) (M' := Mx216) (d := 60) (rest := []) ⟨hx, hb, hml, hown, hts⟩ gm_kicks (mX_m z ad) (Nat.le_of_eq hz) hX0.1 hK (con_of hst (j := 216) rfl (Nat.le_of_ble_eq_true rfl) (fun w hw => by simp only [List.mem_cons, List.not_mem_nil, or_false] at hw; rcases hw with rfl | rfl | rfl <;> rfl) (f_X10_kicks_ok (d := 51) hf2)) hP hD hS hl.1 (ci := 9) rfl rfl (Nat.le_of_ble_eq_true rfl) (by decide +kernel : decode code 715 = .ok (.invokevirtual 175, 3)) ⟨by decide, by decide⟩ ⟨by show 100 + 64 * n + 16 + 16 ≤ 601024; omega, by show 60000 + 384 * n + 96 + 96 ≤ 7293034; omega⟩ (fun v hv H1 locs1 hP hD hS => ?_) (fun k9 hk9 _ _ _ _ _ _ _ _ _ _ => by cases hk9)
  cases hv
  refine W.eq (g2 := F0 m 718 ls [.int b2]) rfl ?_
  refine lv_istore (lv' := (6, .int b2) :: (5, .int k0) :: lvs b ad i) hx hb (by decide +kernel : decode code 718 = .ok (.istore 6, 2)) hl (by decide) rfl (fun ls hl => ?_)
  refine lv_aload_n hx hb (by decide +kernel : decode code 720 = .ok (.aload_n 2, 1)) rfl (lv_at hl 4 rfl) ?_
  refine gCall (own := RL) (as := []) (i := 63) (r := (.inl (some (.int (T2 63 0))), T2)) (M' := Mx154) (d := 60) (rest := []) ⟨hx, hb, hml, hown, hts⟩ gt_thrown (mX_m z ad) (Nat.le_of_eq hz) hX0.1 hK (con_of hst (j := 154) rfl (Nat.le_of_ble_eq_true rfl) (fun w hw => by simp only [List.mem_cons, List.not_mem_nil, or_false] at hw; rcases hw with rfl <;> rfl) (f_X10_thrown_ok (d := 60) thr_ok)) hP hD hS hl.1 (ci := 9) rfl rfl (Nat.le_of_ble_eq_true rfl) (by decide +kernel : decode code 721 = .ok (.invokevirtual 152, 3)) ⟨by decide, by decide⟩ ⟨by show 100 + 64 * n + 16 + 16 + 16 ≤ 601024; omega, by show 60000 + 384 * n + 96 + 96 + 96 ≤ 7293034; omega⟩ (fun v hv H1 locs1 hP hD hS => ?_) (fun k9 hk9 _ _ _ _ _ _ _ _ _ _ => by cases hk9)
  cases hv
  replace hP : va_P D vwCl (mW ad cy T2) H1 := hP
  refine W.eq (g2 := F0 m 724 ls [.int (T2 63 0)]) rfl ?_
  refine lv_iload hx hb (by decide +kernel : decode code 724 = .ok (.iload 5, 2)) (lv_at hl 1 rfl) ?_
  refine lv_icmp_eq (tgt := 731) hx hb (by decide +kernel : decode code 726 = .ok (.if_icmp .eq 5, 3)) (by decide) (fun _ => ?_) (fun q => absurd ht q)
  refine lv_iload hx hb (by decide +kernel : decode code 731 = .ok (.iload 5, 2)) (lv_at hl 1 rfl) ?_
  have KE : W p lau e room_1 s m #[Value.ref b] below meth c H1 locs1 (100 + 64 * n + 16 + 16 + 16) (60000 + 384 * n + 96 + 96 + 96) Q (F0 m 748 ls []) := by
    refine lv_goto (tgt := 3077) hx hb (by decide +kernel : decode code 748 = .ok (.goto 2329, 3)) (by decide) ?_
    exact W.widen (by omega) (by omega) (kk T2 _ _ _ hI2 hP hD hS (lv_sub hl [2, 3, 4, 5, 6] rfl))
  refine lv_if_ne (tgt := 748) hx hb (by decide +kernel : decode code 733 = .ok (.ifCond .ne 15, 3)) (by decide) (fun _ => KE) (fun q0 => ?_)
  refine lv_aload_n hx hb (by decide +kernel : decode code 736 = .ok (.aload_n 3, 1)) rfl (lv_at hl 5 rfl) ?_
  refine lv_iconst (v := 0) hx hb (by decide +kernel : decode code 737 = .ok (.iconst 0, 1)) (by decide) ?_
  refine va_lald hx hb hK hP 75 3 (mW_get (i := 75) rfl) rfl vin0 (by decide +kernel : decode code 738 = .ok (.laload, 1)) ?_
  rw [show (T2 75 ((0 : Int32).toNatClampNeg)) = b2 from (congrFun h75 0).trans (ho q0)]
  refine lv_iload hx hb (by decide +kernel : decode code 739 = .ok (.iload 6, 2)) (lv_at hl 0 rfl) ?_
  refine lv_i2l hx hb (by decide +kernel : decode code 741 = .ok (.i2l, 1)) rfl ?_
  refine W.lcmp hx hb (by decide +kernel : decode code 742 = .ok (.lcmp, 1)) ?_
  refine lv_if_eq (tgt := 748) hx hb (by decide +kernel : decode code 743 = .ok (.ifCond .eq 5, 3)) (by decide) (fun _ => KE) (fun q => absurd (lg_cmp_self _) q)
set_option maxRecDepth 20000 in
theorem gm_swing : gOK RL 179 Mx217 (RX10, TX10, 23) 3 [1671, 1672, 1673, 116, 1674] = true := by decide +kernel
set_option maxRecDepth 20000 in
theorem gx_swing : hOK 176 yL_swing cL_swing 6 [(0, 12, 15, 24), (0, 12, 19, 13)] 5 [994, 995, 105, 996] = true := by decide +kernel
set_option maxRecDepth 20000 in
set_option maxHeartbeats 4000000 in
theorem lc_swing (C : LwC p lau s m meth c b L xs z D ad cy) (hn : n < 512) (hi : i + 6 ≤ L) (hI : Inv S) (hP : va_P D vwCl (mW ad cy S) H) (hD : va_D (mAz z) (mW ad cy S)) (hS : va_S (mAz z) s.heap H locs) (hl : lv_has ls 7 (lvs b ad i)) (kk : LK p lau e s m below meth c Q b z D ad cy n i) :
    W p lau e room_1 s m #[Value.ref b] below meth c H locs (100 + 64 * n) (60000 + 384 * n) Q (F0 m 751 ls []) := by
  obtain ⟨⟨hx, hb, hml, hown, hts⟩, hXs, hbl, hz, hK, hX0, hst, hL⟩ := id C
  obtain ⟨r1, S1, hf, hg⟩ := ag_swing (F := 6000) (p1 := (sx xs i 1)) (p2 := (sx xs i 2)) (p3 := (sx xs i 3)) (Nat.le_refl _) hI
  refine lv_aload_n hx hb (by decide +kernel : decode code 751 = .ok (.aload_n 1, 1)) rfl (lv_at hl 1 rfl) ?_
  refine lw_ld C hS hl (x0 := 0) (x4 := 4) rfl rfl 1 (by decide) hi (by decide +kernel : decode code 752 = .ok (.aload_n 0, 1)) (by decide +kernel : decode code 753 = .ok (.iload 4, 2)) (by decide +kernel : decode code 755 = .ok (.iconst 1, 1)) rfl (by decide +kernel : decode code 756 = .ok (.iadd, 1)) (by decide +kernel : decode code 757 = .ok (.iaload, 1)) ?_
  refine lw_ld C hS hl (x0 := 0) (x4 := 4) rfl rfl 2 (by decide) hi (by decide +kernel : decode code 758 = .ok (.aload_n 0, 1)) (by decide +kernel : decode code 759 = .ok (.iload 4, 2)) (by decide +kernel : decode code 761 = .ok (.iconst 2, 1)) rfl (by decide +kernel : decode code 762 = .ok (.iadd, 1)) (by decide +kernel : decode code 763 = .ok (.iaload, 1)) ?_
  refine lw_ld C hS hl (x0 := 0) (x4 := 4) rfl rfl 3 (by decide) hi (by decide +kernel : decode code 764 = .ok (.aload_n 0, 1)) (by decide +kernel : decode code 765 = .ok (.iload 4, 2)) (by decide +kernel : decode code 767 = .ok (.iconst 3, 1)) rfl (by decide +kernel : decode code 768 = .ok (.iadd, 1)) (by decide +kernel : decode code 769 = .ok (.iaload, 1)) ?_
  obtain ⟨k0, S2, b2, T2, hHR, hf2, hI2, ht, ho⟩ := hr_of hg
  have h75 : T2 75 = S2 75 := ev75 (f_X10_swing_ok (d := 53) hf2)
  refine lv_aload_n hx hb (by decide +kernel : decode code 770 = .ok (.aload_n 3, 1)) rfl (lv_at hl 3 rfl) ?_
  refine gHelp (as := [.ref 0, .int (sx xs i 1), .int (sx xs i 2), .int (sx xs i 3), .ref 75]) (k := k0) (S2 := S2) (rest := []) ⟨hx, hb, hml, hown, hts⟩ gx_swing (Nat.le_of_eq hz) hX0 hK (hc_swing (F := 6000) hst hf hHR) hP hD hS hl.1 (Nat.le_of_ble_eq_true rfl) (by decide +kernel : decode code 771 = .ok (.invokestatic 176, 3)) ⟨by decide, by decide⟩ ⟨by show 100 + 64 * n + 16 ≤ 601024; omega, by show 60000 + 384 * n + 96 ≤ 7293034; omega⟩ (fun H1 locs1 hP hD hS => ?_)
  refine lv_istore (lv' := (5, .int k0) :: lvs b ad i) hx hb (by decide +kernel : decode code 774 = .ok (.istore 5, 2)) hl (by decide) rfl (fun ls hl => ?_)
  refine lv_aload_n hx hb (by decide +kernel : decode code 776 = .ok (.aload_n 2, 1)) rfl (lv_at hl 3 rfl) ?_
  refine lw_ld C hS hl (x0 := 1) (x4 := 5) rfl rfl 1 (by decide) hi (by decide +kernel : decode code 777 = .ok (.aload_n 0, 1)) (by decide +kernel : decode code 778 = .ok (.iload 4, 2)) (by decide +kernel : decode code 780 = .ok (.iconst 1, 1)) rfl (by decide +kernel : decode code 781 = .ok (.iadd, 1)) (by decide +kernel : decode code 782 = .ok (.iaload, 1)) ?_
  refine lw_ld C hS hl (x0 := 1) (x4 := 5) rfl rfl 2 (by decide) hi (by decide +kernel : decode code 783 = .ok (.aload_n 0, 1)) (by decide +kernel : decode code 784 = .ok (.iload 4, 2)) (by decide +kernel : decode code 786 = .ok (.iconst 2, 1)) rfl (by decide +kernel : decode code 787 = .ok (.iadd, 1)) (by decide +kernel : decode code 788 = .ok (.iaload, 1)) ?_
  refine lw_ld C hS hl (x0 := 1) (x4 := 5) rfl rfl 3 (by decide) hi (by decide +kernel : decode code 789 = .ok (.aload_n 0, 1)) (by decide +kernel : decode code 790 = .ok (.iload 4, 2)) (by decide +kernel : decode code 792 = .ok (.iconst 3, 1)) rfl (by decide +kernel : decode code 793 = .ok (.iadd, 1)) (by decide +kernel : decode code 794 = .ok (.iaload, 1)) ?_
  refine gCall (own := RL) (as := [.int (sx xs i 1), .int (sx xs i 2), .int (sx xs i 3)]) (i := 63) (r := (.inl (some (.int b2)), T2)) (M' := Mx217) (d := 60) (rest := []) ⟨hx, hb, hml, hown, hts⟩ gm_swing (mX_m z ad) (Nat.le_of_eq hz) hX0.1 hK (con_of hst (j := 217) rfl (Nat.le_of_ble_eq_true rfl) (fun w hw => by simp only [List.mem_cons, List.not_mem_nil, or_false] at hw; rcases hw with rfl | rfl | rfl | rfl <;> rfl) (f_X10_swing_ok (d := 53) hf2)) hP hD hS hl.1 (ci := 9) rfl rfl (Nat.le_of_ble_eq_true rfl) (by decide +kernel : decode code 795 = .ok (.invokevirtual 179, 3)) ⟨by decide, by decide⟩ ⟨by show 100 + 64 * n + 16 + 16 ≤ 601024; omega, by show 60000 + 384 * n + 96 + 96 ≤ 7293034; omega⟩ (fun v hv H1 locs1 hP hD hS => ?_) (fun k9 hk9 _ _ _ _ _ _ _ _ _ _ => by cases hk9)
  cases hv
  refine W.eq (g2 := F0 m 798 ls [.int b2]) rfl ?_
  refine lv_istore (lv' := (6, .int b2) :: (5, .int k0) :: lvs b ad i) hx hb (by decide +kernel : decode code 798 = .ok (.istore 6, 2)) hl (by decide) rfl (fun ls hl => ?_)
  refine lv_aload_n hx hb (by decide +kernel : decode code 800 = .ok (.aload_n 2, 1)) rfl (lv_at hl 4 rfl) ?_
  refine gCall (own := RL) (as := []) (i := 63) (r := (.inl (some (.int (T2 63 0))), T2)) (M' := Mx154) (d := 60) (rest := []) ⟨hx, hb, hml, hown, hts⟩ gt_thrown (mX_m z ad) (Nat.le_of_eq hz) hX0.1 hK (con_of hst (j := 154) rfl (Nat.le_of_ble_eq_true rfl) (fun w hw => by simp only [List.mem_cons, List.not_mem_nil, or_false] at hw; rcases hw with rfl <;> rfl) (f_X10_thrown_ok (d := 60) thr_ok)) hP hD hS hl.1 (ci := 9) rfl rfl (Nat.le_of_ble_eq_true rfl) (by decide +kernel : decode code 801 = .ok (.invokevirtual 152, 3)) ⟨by decide, by decide⟩ ⟨by show 100 + 64 * n + 16 + 16 + 16 ≤ 601024; omega, by show 60000 + 384 * n + 96 + 96 + 96 ≤ 7293034; omega⟩ (fun v hv H1 locs1 hP hD hS => ?_) (fun k9 hk9 _ _ _ _ _ _ _ _ _ _ => by cases hk9)
  cases hv
  replace hP : va_P D vwCl (mW ad cy T2) H1 := hP
  refine W.eq (g2 := F0 m 804 ls [.int (T2 63 0)]) rfl ?_
  refine lv_iload hx hb (by decide +kernel : decode code 804 = .ok (.iload 5, 2)) (lv_at hl 1 rfl) ?_
  refine lv_icmp_eq (tgt := 811) hx hb (by decide +kernel : decode code 806 = .ok (.if_icmp .eq 5, 3)) (by decide) (fun _ => ?_) (fun q => absurd ht q)
  refine lv_iload hx hb (by decide +kernel : decode code 811 = .ok (.iload 5, 2)) (lv_at hl 1 rfl) ?_
  have KE : W p lau e room_1 s m #[Value.ref b] below meth c H1 locs1 (100 + 64 * n + 16 + 16 + 16) (60000 + 384 * n + 96 + 96 + 96) Q (F0 m 828 ls []) := by
    refine lv_goto (tgt := 3077) hx hb (by decide +kernel : decode code 828 = .ok (.goto 2249, 3)) (by decide) ?_
    exact W.widen (by omega) (by omega) (kk T2 _ _ _ hI2 hP hD hS (lv_sub hl [2, 3, 4, 5, 6] rfl))
  refine lv_if_ne (tgt := 828) hx hb (by decide +kernel : decode code 813 = .ok (.ifCond .ne 15, 3)) (by decide) (fun _ => KE) (fun q0 => ?_)
  refine lv_aload_n hx hb (by decide +kernel : decode code 816 = .ok (.aload_n 3, 1)) rfl (lv_at hl 5 rfl) ?_
  refine lv_iconst (v := 0) hx hb (by decide +kernel : decode code 817 = .ok (.iconst 0, 1)) (by decide) ?_
  refine va_lald hx hb hK hP 75 3 (mW_get (i := 75) rfl) rfl vin0 (by decide +kernel : decode code 818 = .ok (.laload, 1)) ?_
  rw [show (T2 75 ((0 : Int32).toNatClampNeg)) = b2 from (congrFun h75 0).trans (ho q0)]
  refine lv_iload hx hb (by decide +kernel : decode code 819 = .ok (.iload 6, 2)) (lv_at hl 0 rfl) ?_
  refine lv_i2l hx hb (by decide +kernel : decode code 821 = .ok (.i2l, 1)) rfl ?_
  refine W.lcmp hx hb (by decide +kernel : decode code 822 = .ok (.lcmp, 1)) ?_
  refine lv_if_eq (tgt := 828) hx hb (by decide +kernel : decode code 823 = .ok (.ifCond .eq 5, 3)) (by decide) (fun _ => KE) (fun q => absurd (lg_cmp_self _) q)
set_option maxRecDepth 20000 in
theorem gm_load : gOK RL 182 Mx225 (RX10, TX10, 23) 2 [1683, 1684, 1685, 116, 1686] = true := by decide +kernel
set_option maxRecDepth 20000 in
theorem gx_load : hOK 180 yL_load cL_load 5 [(0, 10, 13, 24)] 4 [1002, 1003, 105, 1004] = true := by decide +kernel
set_option maxRecDepth 20000 in
set_option maxHeartbeats 4000000 in
theorem lc_load (C : LwC p lau s m meth c b L xs z D ad cy) (hn : n < 512) (hi : i + 6 ≤ L) (hI : Inv S) (hP : va_P D vwCl (mW ad cy S) H) (hD : va_D (mAz z) (mW ad cy S)) (hS : va_S (mAz z) s.heap H locs) (hl : lv_has ls 7 (lvs b ad i)) (kk : LK p lau e s m below meth c Q b z D ad cy n i) :
    W p lau e room_1 s m #[Value.ref b] below meth c H locs (100 + 64 * n) (60000 + 384 * n) Q (F0 m 831 ls []) := by
  obtain ⟨⟨hx, hb, hml, hown, hts⟩, hXs, hbl, hz, hK, hX0, hst, hL⟩ := id C
  obtain ⟨r1, S1, hf, hg⟩ := ag_load (p1 := (sx xs i 1)) (p2 := (sx xs i 2)) hI
  refine lv_aload_n hx hb (by decide +kernel : decode code 831 = .ok (.aload_n 1, 1)) rfl (lv_at hl 1 rfl) ?_
  refine lw_ld C hS hl (x0 := 0) (x4 := 4) rfl rfl 1 (by decide) hi (by decide +kernel : decode code 832 = .ok (.aload_n 0, 1)) (by decide +kernel : decode code 833 = .ok (.iload 4, 2)) (by decide +kernel : decode code 835 = .ok (.iconst 1, 1)) rfl (by decide +kernel : decode code 836 = .ok (.iadd, 1)) (by decide +kernel : decode code 837 = .ok (.iaload, 1)) ?_
  refine lw_ld C hS hl (x0 := 0) (x4 := 4) rfl rfl 2 (by decide) hi (by decide +kernel : decode code 838 = .ok (.aload_n 0, 1)) (by decide +kernel : decode code 839 = .ok (.iload 4, 2)) (by decide +kernel : decode code 841 = .ok (.iconst 2, 1)) rfl (by decide +kernel : decode code 842 = .ok (.iadd, 1)) (by decide +kernel : decode code 843 = .ok (.iaload, 1)) ?_
  obtain ⟨k0, S2, b2, T2, hHR, hf2, hI2, ht, ho⟩ := hr_of hg
  have h75 : T2 75 = S2 75 := ev75 (f_X10_load_ok (d := 57) hf2)
  refine lv_aload_n hx hb (by decide +kernel : decode code 844 = .ok (.aload_n 3, 1)) rfl (lv_at hl 3 rfl) ?_
  refine gHelp (as := [.ref 0, .int (sx xs i 1), .int (sx xs i 2), .ref 75]) (k := k0) (S2 := S2) (rest := []) ⟨hx, hb, hml, hown, hts⟩ gx_load (Nat.le_of_eq hz) hX0 hK (hc_load (F := 6000) hst hf hHR) hP hD hS hl.1 (Nat.le_of_ble_eq_true rfl) (by decide +kernel : decode code 845 = .ok (.invokestatic 180, 3)) ⟨by decide, by decide⟩ ⟨by show 100 + 64 * n + 16 ≤ 601024; omega, by show 60000 + 384 * n + 96 ≤ 7293034; omega⟩ (fun H1 locs1 hP hD hS => ?_)
  refine lv_istore (lv' := (5, .int k0) :: lvs b ad i) hx hb (by decide +kernel : decode code 848 = .ok (.istore 5, 2)) hl (by decide) rfl (fun ls hl => ?_)
  refine lv_aload_n hx hb (by decide +kernel : decode code 850 = .ok (.aload_n 2, 1)) rfl (lv_at hl 3 rfl) ?_
  refine lw_ld C hS hl (x0 := 1) (x4 := 5) rfl rfl 1 (by decide) hi (by decide +kernel : decode code 851 = .ok (.aload_n 0, 1)) (by decide +kernel : decode code 852 = .ok (.iload 4, 2)) (by decide +kernel : decode code 854 = .ok (.iconst 1, 1)) rfl (by decide +kernel : decode code 855 = .ok (.iadd, 1)) (by decide +kernel : decode code 856 = .ok (.iaload, 1)) ?_
  refine lw_ld C hS hl (x0 := 1) (x4 := 5) rfl rfl 2 (by decide) hi (by decide +kernel : decode code 857 = .ok (.aload_n 0, 1)) (by decide +kernel : decode code 858 = .ok (.iload 4, 2)) (by decide +kernel : decode code 860 = .ok (.iconst 2, 1)) rfl (by decide +kernel : decode code 861 = .ok (.iadd, 1)) (by decide +kernel : decode code 862 = .ok (.iaload, 1)) ?_
  refine gCall (own := RL) (as := [.int (sx xs i 1), .int (sx xs i 2)]) (i := 63) (r := (.inl (some (.int b2)), T2)) (M' := Mx225) (d := 60) (rest := []) ⟨hx, hb, hml, hown, hts⟩ gm_load (mX_m z ad) (Nat.le_of_eq hz) hX0.1 hK (con_of hst (j := 225) rfl (Nat.le_of_ble_eq_true rfl) (fun w hw => by simp only [List.mem_cons, List.not_mem_nil, or_false] at hw; rcases hw with rfl | rfl | rfl <;> rfl) (f_X10_load_ok (d := 57) hf2)) hP hD hS hl.1 (ci := 9) rfl rfl (Nat.le_of_ble_eq_true rfl) (by decide +kernel : decode code 863 = .ok (.invokevirtual 182, 3)) ⟨by decide, by decide⟩ ⟨by show 100 + 64 * n + 16 + 16 ≤ 601024; omega, by show 60000 + 384 * n + 96 + 96 ≤ 7293034; omega⟩ (fun v hv H1 locs1 hP hD hS => ?_) (fun k9 hk9 _ _ _ _ _ _ _ _ _ _ => by cases hk9)
  cases hv
  refine W.eq (g2 := F0 m 866 ls [.int b2]) rfl ?_
  refine lv_istore (lv' := (6, .int b2) :: (5, .int k0) :: lvs b ad i) hx hb (by decide +kernel : decode code 866 = .ok (.istore 6, 2)) hl (by decide) rfl (fun ls hl => ?_)
  refine lv_aload_n hx hb (by decide +kernel : decode code 868 = .ok (.aload_n 2, 1)) rfl (lv_at hl 4 rfl) ?_
  refine gCall (own := RL) (as := []) (i := 63) (r := (.inl (some (.int (T2 63 0))), T2)) (M' := Mx154) (d := 60) (rest := []) ⟨hx, hb, hml, hown, hts⟩ gt_thrown (mX_m z ad) (Nat.le_of_eq hz) hX0.1 hK (con_of hst (j := 154) rfl (Nat.le_of_ble_eq_true rfl) (fun w hw => by simp only [List.mem_cons, List.not_mem_nil, or_false] at hw; rcases hw with rfl <;> rfl) (f_X10_thrown_ok (d := 60) thr_ok)) hP hD hS hl.1 (ci := 9) rfl rfl (Nat.le_of_ble_eq_true rfl) (by decide +kernel : decode code 869 = .ok (.invokevirtual 152, 3)) ⟨by decide, by decide⟩ ⟨by show 100 + 64 * n + 16 + 16 + 16 ≤ 601024; omega, by show 60000 + 384 * n + 96 + 96 + 96 ≤ 7293034; omega⟩ (fun v hv H1 locs1 hP hD hS => ?_) (fun k9 hk9 _ _ _ _ _ _ _ _ _ _ => by cases hk9)
  cases hv
  replace hP : va_P D vwCl (mW ad cy T2) H1 := hP
  refine W.eq (g2 := F0 m 872 ls [.int (T2 63 0)]) rfl ?_
  refine lv_iload hx hb (by decide +kernel : decode code 872 = .ok (.iload 5, 2)) (lv_at hl 1 rfl) ?_
  refine lv_icmp_eq (tgt := 879) hx hb (by decide +kernel : decode code 874 = .ok (.if_icmp .eq 5, 3)) (by decide) (fun _ => ?_) (fun q => absurd ht q)
  refine lv_iload hx hb (by decide +kernel : decode code 879 = .ok (.iload 5, 2)) (lv_at hl 1 rfl) ?_
  have KE : W p lau e room_1 s m #[Value.ref b] below meth c H1 locs1 (100 + 64 * n + 16 + 16 + 16) (60000 + 384 * n + 96 + 96 + 96) Q (F0 m 896 ls []) := by
    refine lv_goto (tgt := 3077) hx hb (by decide +kernel : decode code 896 = .ok (.goto 2181, 3)) (by decide) ?_
    exact W.widen (by omega) (by omega) (kk T2 _ _ _ hI2 hP hD hS (lv_sub hl [2, 3, 4, 5, 6] rfl))
  refine lv_if_ne (tgt := 896) hx hb (by decide +kernel : decode code 881 = .ok (.ifCond .ne 15, 3)) (by decide) (fun _ => KE) (fun q0 => ?_)
  refine lv_aload_n hx hb (by decide +kernel : decode code 884 = .ok (.aload_n 3, 1)) rfl (lv_at hl 5 rfl) ?_
  refine lv_iconst (v := 0) hx hb (by decide +kernel : decode code 885 = .ok (.iconst 0, 1)) (by decide) ?_
  refine va_lald hx hb hK hP 75 3 (mW_get (i := 75) rfl) rfl vin0 (by decide +kernel : decode code 886 = .ok (.laload, 1)) ?_
  rw [show (T2 75 ((0 : Int32).toNatClampNeg)) = b2 from (congrFun h75 0).trans (ho q0)]
  refine lv_iload hx hb (by decide +kernel : decode code 887 = .ok (.iload 6, 2)) (lv_at hl 0 rfl) ?_
  refine lv_i2l hx hb (by decide +kernel : decode code 889 = .ok (.i2l, 1)) rfl ?_
  refine W.lcmp hx hb (by decide +kernel : decode code 890 = .ok (.lcmp, 1)) ?_
  refine lv_if_eq (tgt := 896) hx hb (by decide +kernel : decode code 891 = .ok (.ifCond .eq 5, 3)) (by decide) (fun _ => KE) (fun q => absurd (lg_cmp_self _) q)
set_option maxRecDepth 20000 in
theorem gm_held : gOK RL 185 Mx226 (RX10, TX10, 23) 3 [1703, 1704, 1705, 116, 1706] = true := by decide +kernel
set_option maxRecDepth 20000 in
theorem gx_held : hOK 183 yL_held cL_held 6 [(0, 19, 22, 24)] 5 [1010, 1011, 105, 1012] = true := by decide +kernel
set_option maxRecDepth 20000 in
set_option maxHeartbeats 4000000 in
theorem lc_held (C : LwC p lau s m meth c b L xs z D ad cy) (hn : n < 512) (hi : i + 6 ≤ L) (hI : Inv S) (hP : va_P D vwCl (mW ad cy S) H) (hD : va_D (mAz z) (mW ad cy S)) (hS : va_S (mAz z) s.heap H locs) (hl : lv_has ls 7 (lvs b ad i)) (kk : LK p lau e s m below meth c Q b z D ad cy n i) :
    W p lau e room_1 s m #[Value.ref b] below meth c H locs (100 + 64 * n) (60000 + 384 * n) Q (F0 m 899 ls []) := by
  obtain ⟨⟨hx, hb, hml, hown, hts⟩, hXs, hbl, hz, hK, hX0, hst, hL⟩ := id C
  obtain ⟨r1, S1, hf, hg⟩ := ag_held (F := 6000) (p1 := (sx xs i 1)) (p2 := (sx xs i 2)) (p3 := (sx xs i 3)) (Nat.le_refl _) hI
  refine lv_aload_n hx hb (by decide +kernel : decode code 899 = .ok (.aload_n 1, 1)) rfl (lv_at hl 1 rfl) ?_
  refine lw_ld C hS hl (x0 := 0) (x4 := 4) rfl rfl 1 (by decide) hi (by decide +kernel : decode code 900 = .ok (.aload_n 0, 1)) (by decide +kernel : decode code 901 = .ok (.iload 4, 2)) (by decide +kernel : decode code 903 = .ok (.iconst 1, 1)) rfl (by decide +kernel : decode code 904 = .ok (.iadd, 1)) (by decide +kernel : decode code 905 = .ok (.iaload, 1)) ?_
  refine lw_ld C hS hl (x0 := 0) (x4 := 4) rfl rfl 2 (by decide) hi (by decide +kernel : decode code 906 = .ok (.aload_n 0, 1)) (by decide +kernel : decode code 907 = .ok (.iload 4, 2)) (by decide +kernel : decode code 909 = .ok (.iconst 2, 1)) rfl (by decide +kernel : decode code 910 = .ok (.iadd, 1)) (by decide +kernel : decode code 911 = .ok (.iaload, 1)) ?_
  refine lw_ld C hS hl (x0 := 0) (x4 := 4) rfl rfl 3 (by decide) hi (by decide +kernel : decode code 912 = .ok (.aload_n 0, 1)) (by decide +kernel : decode code 913 = .ok (.iload 4, 2)) (by decide +kernel : decode code 915 = .ok (.iconst 3, 1)) rfl (by decide +kernel : decode code 916 = .ok (.iadd, 1)) (by decide +kernel : decode code 917 = .ok (.iaload, 1)) ?_
  obtain ⟨k0, S2, b2, T2, hHR, hf2, hI2, ht, ho⟩ := hrb_of hg
  have h75 : T2 75 = S2 75 := ev75 (f_X10_held_ok (d := 56) hf2)
  refine lv_aload_n hx hb (by decide +kernel : decode code 918 = .ok (.aload_n 3, 1)) rfl (lv_at hl 3 rfl) ?_
  refine gHelp (as := [.ref 0, .int (sx xs i 1), .int (sx xs i 2), .int (sx xs i 3), .ref 75]) (k := k0) (S2 := S2) (rest := []) ⟨hx, hb, hml, hown, hts⟩ gx_held (Nat.le_of_eq hz) hX0 hK (hc_held (F := 6000) hst hf hHR) hP hD hS hl.1 (Nat.le_of_ble_eq_true rfl) (by decide +kernel : decode code 919 = .ok (.invokestatic 183, 3)) ⟨by decide, by decide⟩ ⟨by show 100 + 64 * n + 16 ≤ 601024; omega, by show 60000 + 384 * n + 96 ≤ 7293034; omega⟩ (fun H1 locs1 hP hD hS => ?_)
  refine lv_istore (lv' := (5, .int k0) :: lvs b ad i) hx hb (by decide +kernel : decode code 922 = .ok (.istore 5, 2)) hl (by decide) rfl (fun ls hl => ?_)
  refine lv_aload_n hx hb (by decide +kernel : decode code 924 = .ok (.aload_n 2, 1)) rfl (lv_at hl 3 rfl) ?_
  refine lw_ld C hS hl (x0 := 1) (x4 := 5) rfl rfl 1 (by decide) hi (by decide +kernel : decode code 925 = .ok (.aload_n 0, 1)) (by decide +kernel : decode code 926 = .ok (.iload 4, 2)) (by decide +kernel : decode code 928 = .ok (.iconst 1, 1)) rfl (by decide +kernel : decode code 929 = .ok (.iadd, 1)) (by decide +kernel : decode code 930 = .ok (.iaload, 1)) ?_
  refine lw_ld C hS hl (x0 := 1) (x4 := 5) rfl rfl 2 (by decide) hi (by decide +kernel : decode code 931 = .ok (.aload_n 0, 1)) (by decide +kernel : decode code 932 = .ok (.iload 4, 2)) (by decide +kernel : decode code 934 = .ok (.iconst 2, 1)) rfl (by decide +kernel : decode code 935 = .ok (.iadd, 1)) (by decide +kernel : decode code 936 = .ok (.iaload, 1)) ?_
  refine lw_ld C hS hl (x0 := 1) (x4 := 5) rfl rfl 3 (by decide) hi (by decide +kernel : decode code 937 = .ok (.aload_n 0, 1)) (by decide +kernel : decode code 938 = .ok (.iload 4, 2)) (by decide +kernel : decode code 940 = .ok (.iconst 3, 1)) rfl (by decide +kernel : decode code 941 = .ok (.iadd, 1)) (by decide +kernel : decode code 942 = .ok (.iaload, 1)) ?_
  refine gCall (own := RL) (as := [.int (sx xs i 1), .int (sx xs i 2), .int (sx xs i 3)]) (i := 63) (r := (.inl (some (.int b2)), T2)) (M' := Mx226) (d := 60) (rest := []) ⟨hx, hb, hml, hown, hts⟩ gm_held (mX_m z ad) (Nat.le_of_eq hz) hX0.1 hK (con_of hst (j := 226) rfl (Nat.le_of_ble_eq_true rfl) (fun w hw => by simp only [List.mem_cons, List.not_mem_nil, or_false] at hw; rcases hw with rfl | rfl | rfl | rfl <;> rfl) (f_X10_held_ok (d := 56) hf2)) hP hD hS hl.1 (ci := 9) rfl rfl (Nat.le_of_ble_eq_true rfl) (by decide +kernel : decode code 943 = .ok (.invokevirtual 185, 3)) ⟨by decide, by decide⟩ ⟨by show 100 + 64 * n + 16 + 16 ≤ 601024; omega, by show 60000 + 384 * n + 96 + 96 ≤ 7293034; omega⟩ (fun v hv H1 locs1 hP hD hS => ?_) (fun k9 hk9 _ _ _ _ _ _ _ _ _ _ => by cases hk9)
  cases hv
  refine W.eq (g2 := F0 m 946 ls [.int b2]) rfl ?_
  refine lv_istore (lv' := (6, .int b2) :: (5, .int k0) :: lvs b ad i) hx hb (by decide +kernel : decode code 946 = .ok (.istore 6, 2)) hl (by decide) rfl (fun ls hl => ?_)
  refine lv_aload_n hx hb (by decide +kernel : decode code 948 = .ok (.aload_n 2, 1)) rfl (lv_at hl 4 rfl) ?_
  refine gCall (own := RL) (as := []) (i := 63) (r := (.inl (some (.int (T2 63 0))), T2)) (M' := Mx154) (d := 60) (rest := []) ⟨hx, hb, hml, hown, hts⟩ gt_thrown (mX_m z ad) (Nat.le_of_eq hz) hX0.1 hK (con_of hst (j := 154) rfl (Nat.le_of_ble_eq_true rfl) (fun w hw => by simp only [List.mem_cons, List.not_mem_nil, or_false] at hw; rcases hw with rfl <;> rfl) (f_X10_thrown_ok (d := 60) thr_ok)) hP hD hS hl.1 (ci := 9) rfl rfl (Nat.le_of_ble_eq_true rfl) (by decide +kernel : decode code 949 = .ok (.invokevirtual 152, 3)) ⟨by decide, by decide⟩ ⟨by show 100 + 64 * n + 16 + 16 + 16 ≤ 601024; omega, by show 60000 + 384 * n + 96 + 96 + 96 ≤ 7293034; omega⟩ (fun v hv H1 locs1 hP hD hS => ?_) (fun k9 hk9 _ _ _ _ _ _ _ _ _ _ => by cases hk9)
  cases hv
  replace hP : va_P D vwCl (mW ad cy T2) H1 := hP
  refine W.eq (g2 := F0 m 952 ls [.int (T2 63 0)]) rfl ?_
  refine lv_iload hx hb (by decide +kernel : decode code 952 = .ok (.iload 5, 2)) (lv_at hl 1 rfl) ?_
  refine lv_icmp_eq (tgt := 959) hx hb (by decide +kernel : decode code 954 = .ok (.if_icmp .eq 5, 3)) (by decide) (fun _ => ?_) (fun q => absurd ht q)
  refine lv_iload hx hb (by decide +kernel : decode code 959 = .ok (.iload 5, 2)) (lv_at hl 1 rfl) ?_
  have KE : W p lau e room_1 s m #[Value.ref b] below meth c H1 locs1 (100 + 64 * n + 16 + 16 + 16) (60000 + 384 * n + 96 + 96 + 96) Q (F0 m 983 ls []) := by
    refine lv_goto (tgt := 3077) hx hb (by decide +kernel : decode code 983 = .ok (.goto 2094, 3)) (by decide) ?_
    exact W.widen (by omega) (by omega) (kk T2 _ _ _ hI2 hP hD hS (lv_sub hl [2, 3, 4, 5, 6] rfl))
  refine lv_if_ne (tgt := 983) hx hb (by decide +kernel : decode code 961 = .ok (.ifCond .ne 22, 3)) (by decide) (fun _ => KE) (fun q0 => ?_)
  refine lv_aload_n hx hb (by decide +kernel : decode code 964 = .ok (.aload_n 3, 1)) rfl (lv_at hl 5 rfl) ?_
  refine lv_iconst (v := 0) hx hb (by decide +kernel : decode code 965 = .ok (.iconst 0, 1)) (by decide) ?_
  refine va_lald hx hb hK hP 75 3 (mW_get (i := 75) rfl) rfl vin0 (by decide +kernel : decode code 966 = .ok (.laload, 1)) ?_
  rw [show (T2 75 ((0 : Int32).toNatClampNeg)) = if b2 = 0 then 0 else 1 from (congrFun h75 0).trans (ho q0)]
  refine lv_iload hx hb (by decide +kernel : decode code 967 = .ok (.iload 6, 2)) (lv_at hl 0 rfl) ?_
  refine lv_if_eq (tgt := 976) hx hb (by decide +kernel : decode code 969 = .ok (.ifCond .eq 7, 3)) (by decide) (fun q1 => ?_) (fun q1 => ?_)
  · rw [if_pos q1]
    refine lv_lconst (v := 0) hx hb (by decide +kernel : decode code 976 = .ok (.lconst 0, 1)) (by decide) ?_
    refine W.lcmp hx hb (by decide +kernel : decode code 977 = .ok (.lcmp, 1)) ?_
    refine lv_if_eq (tgt := 983) hx hb (by decide +kernel : decode code 978 = .ok (.ifCond .eq 5, 3)) (by decide) (fun _ => KE) (fun q => absurd (by decide) q)
  · rw [if_neg q1]
    refine lv_lconst (v := 1) hx hb (by decide +kernel : decode code 972 = .ok (.lconst 1, 1)) (by decide) ?_
    refine lv_goto (tgt := 977) hx hb (by decide +kernel : decode code 973 = .ok (.goto 4, 3)) (by decide) ?_
    refine W.lcmp hx hb (by decide +kernel : decode code 977 = .ok (.lcmp, 1)) ?_
    refine lv_if_eq (tgt := 983) hx hb (by decide +kernel : decode code 978 = .ok (.ifCond .eq 5, 3)) (by decide) (fun _ => KE) (fun q => absurd (by decide) q)
set_option maxRecDepth 20000 in
theorem gm_let : gOK RL 188 Mx239 (RX10, TX10, 23) 3 [1756, 1757, 1758, 116, 1759] = true := by decide +kernel
set_option maxRecDepth 20000 in
theorem gx_let : hOK 186 yL_let cL_let 6 [(0, 12, 15, 24), (0, 12, 19, 13), (0, 12, 23, 52)] 5 [1018, 1019, 105, 1020] = true := by decide +kernel
set_option maxRecDepth 20000 in
set_option maxHeartbeats 4000000 in
theorem lc_let (C : LwC p lau s m meth c b L xs z D ad cy) (hn : n < 512) (hi : i + 6 ≤ L) (hI : Inv S) (hP : va_P D vwCl (mW ad cy S) H) (hD : va_D (mAz z) (mW ad cy S)) (hS : va_S (mAz z) s.heap H locs) (hl : lv_has ls 7 (lvs b ad i)) (kk : LK p lau e s m below meth c Q b z D ad cy n i) :
    W p lau e room_1 s m #[Value.ref b] below meth c H locs (100 + 64 * n) (60000 + 384 * n) Q (F0 m 986 ls []) := by
  obtain ⟨⟨hx, hb, hml, hown, hts⟩, hXs, hbl, hz, hK, hX0, hst, hL⟩ := id C
  obtain ⟨r1, S1, hf, hg⟩ := ag_let (F := 6000) (p1 := (sx xs i 1)) (p2 := (sx xs i 2)) (p3 := (sx xs i 3)) (Nat.le_refl _) hI
  refine lv_aload_n hx hb (by decide +kernel : decode code 986 = .ok (.aload_n 1, 1)) rfl (lv_at hl 1 rfl) ?_
  refine lw_ld C hS hl (x0 := 0) (x4 := 4) rfl rfl 1 (by decide) hi (by decide +kernel : decode code 987 = .ok (.aload_n 0, 1)) (by decide +kernel : decode code 988 = .ok (.iload 4, 2)) (by decide +kernel : decode code 990 = .ok (.iconst 1, 1)) rfl (by decide +kernel : decode code 991 = .ok (.iadd, 1)) (by decide +kernel : decode code 992 = .ok (.iaload, 1)) ?_
  refine lw_ld C hS hl (x0 := 0) (x4 := 4) rfl rfl 2 (by decide) hi (by decide +kernel : decode code 993 = .ok (.aload_n 0, 1)) (by decide +kernel : decode code 994 = .ok (.iload 4, 2)) (by decide +kernel : decode code 996 = .ok (.iconst 2, 1)) rfl (by decide +kernel : decode code 997 = .ok (.iadd, 1)) (by decide +kernel : decode code 998 = .ok (.iaload, 1)) ?_
  refine lw_ld C hS hl (x0 := 0) (x4 := 4) rfl rfl 3 (by decide) hi (by decide +kernel : decode code 999 = .ok (.aload_n 0, 1)) (by decide +kernel : decode code 1000 = .ok (.iload 4, 2)) (by decide +kernel : decode code 1002 = .ok (.iconst 3, 1)) rfl (by decide +kernel : decode code 1003 = .ok (.iadd, 1)) (by decide +kernel : decode code 1004 = .ok (.iaload, 1)) ?_
  obtain ⟨k0, S2, b2, T2, hHR, hf2, hI2, ht, ho⟩ := hr_of hg
  have h75 : T2 75 = S2 75 := ev75 (f_X10_let_ok (d := 50) hf2)
  refine lv_aload_n hx hb (by decide +kernel : decode code 1005 = .ok (.aload_n 3, 1)) rfl (lv_at hl 3 rfl) ?_
  refine gHelp (as := [.ref 0, .int (sx xs i 1), .int (sx xs i 2), .int (sx xs i 3), .ref 75]) (k := k0) (S2 := S2) (rest := []) ⟨hx, hb, hml, hown, hts⟩ gx_let (Nat.le_of_eq hz) hX0 hK (hc_let (F := 6000) hst hf hHR) hP hD hS hl.1 (Nat.le_of_ble_eq_true rfl) (by decide +kernel : decode code 1006 = .ok (.invokestatic 186, 3)) ⟨by decide, by decide⟩ ⟨by show 100 + 64 * n + 16 ≤ 601024; omega, by show 60000 + 384 * n + 96 ≤ 7293034; omega⟩ (fun H1 locs1 hP hD hS => ?_)
  refine lv_istore (lv' := (5, .int k0) :: lvs b ad i) hx hb (by decide +kernel : decode code 1009 = .ok (.istore 5, 2)) hl (by decide) rfl (fun ls hl => ?_)
  refine lv_aload_n hx hb (by decide +kernel : decode code 1011 = .ok (.aload_n 2, 1)) rfl (lv_at hl 3 rfl) ?_
  refine lw_ld C hS hl (x0 := 1) (x4 := 5) rfl rfl 1 (by decide) hi (by decide +kernel : decode code 1012 = .ok (.aload_n 0, 1)) (by decide +kernel : decode code 1013 = .ok (.iload 4, 2)) (by decide +kernel : decode code 1015 = .ok (.iconst 1, 1)) rfl (by decide +kernel : decode code 1016 = .ok (.iadd, 1)) (by decide +kernel : decode code 1017 = .ok (.iaload, 1)) ?_
  refine lw_ld C hS hl (x0 := 1) (x4 := 5) rfl rfl 2 (by decide) hi (by decide +kernel : decode code 1018 = .ok (.aload_n 0, 1)) (by decide +kernel : decode code 1019 = .ok (.iload 4, 2)) (by decide +kernel : decode code 1021 = .ok (.iconst 2, 1)) rfl (by decide +kernel : decode code 1022 = .ok (.iadd, 1)) (by decide +kernel : decode code 1023 = .ok (.iaload, 1)) ?_
  refine lw_ld C hS hl (x0 := 1) (x4 := 5) rfl rfl 3 (by decide) hi (by decide +kernel : decode code 1024 = .ok (.aload_n 0, 1)) (by decide +kernel : decode code 1025 = .ok (.iload 4, 2)) (by decide +kernel : decode code 1027 = .ok (.iconst 3, 1)) rfl (by decide +kernel : decode code 1028 = .ok (.iadd, 1)) (by decide +kernel : decode code 1029 = .ok (.iaload, 1)) ?_
  refine gCall (own := RL) (as := [.int (sx xs i 1), .int (sx xs i 2), .int (sx xs i 3)]) (i := 63) (r := (.inl (some (.int b2)), T2)) (M' := Mx239) (d := 60) (rest := []) ⟨hx, hb, hml, hown, hts⟩ gm_let (mX_m z ad) (Nat.le_of_eq hz) hX0.1 hK (con_of hst (j := 239) rfl (Nat.le_of_ble_eq_true rfl) (fun w hw => by simp only [List.mem_cons, List.not_mem_nil, or_false] at hw; rcases hw with rfl | rfl | rfl | rfl <;> rfl) (f_X10_let_ok (d := 50) hf2)) hP hD hS hl.1 (ci := 9) rfl rfl (Nat.le_of_ble_eq_true rfl) (by decide +kernel : decode code 1030 = .ok (.invokevirtual 188, 3)) ⟨by decide, by decide⟩ ⟨by show 100 + 64 * n + 16 + 16 ≤ 601024; omega, by show 60000 + 384 * n + 96 + 96 ≤ 7293034; omega⟩ (fun v hv H1 locs1 hP hD hS => ?_) (fun k9 hk9 _ _ _ _ _ _ _ _ _ _ => by cases hk9)
  cases hv
  refine W.eq (g2 := F0 m 1033 ls [.int b2]) rfl ?_
  refine lv_istore (lv' := (6, .int b2) :: (5, .int k0) :: lvs b ad i) hx hb (by decide +kernel : decode code 1033 = .ok (.istore 6, 2)) hl (by decide) rfl (fun ls hl => ?_)
  refine lv_aload_n hx hb (by decide +kernel : decode code 1035 = .ok (.aload_n 2, 1)) rfl (lv_at hl 4 rfl) ?_
  refine gCall (own := RL) (as := []) (i := 63) (r := (.inl (some (.int (T2 63 0))), T2)) (M' := Mx154) (d := 60) (rest := []) ⟨hx, hb, hml, hown, hts⟩ gt_thrown (mX_m z ad) (Nat.le_of_eq hz) hX0.1 hK (con_of hst (j := 154) rfl (Nat.le_of_ble_eq_true rfl) (fun w hw => by simp only [List.mem_cons, List.not_mem_nil, or_false] at hw; rcases hw with rfl <;> rfl) (f_X10_thrown_ok (d := 60) thr_ok)) hP hD hS hl.1 (ci := 9) rfl rfl (Nat.le_of_ble_eq_true rfl) (by decide +kernel : decode code 1036 = .ok (.invokevirtual 152, 3)) ⟨by decide, by decide⟩ ⟨by show 100 + 64 * n + 16 + 16 + 16 ≤ 601024; omega, by show 60000 + 384 * n + 96 + 96 + 96 ≤ 7293034; omega⟩ (fun v hv H1 locs1 hP hD hS => ?_) (fun k9 hk9 _ _ _ _ _ _ _ _ _ _ => by cases hk9)
  cases hv
  replace hP : va_P D vwCl (mW ad cy T2) H1 := hP
  refine W.eq (g2 := F0 m 1039 ls [.int (T2 63 0)]) rfl ?_
  refine lv_iload hx hb (by decide +kernel : decode code 1039 = .ok (.iload 5, 2)) (lv_at hl 1 rfl) ?_
  refine lv_icmp_eq (tgt := 1046) hx hb (by decide +kernel : decode code 1041 = .ok (.if_icmp .eq 5, 3)) (by decide) (fun _ => ?_) (fun q => absurd ht q)
  refine lv_iload hx hb (by decide +kernel : decode code 1046 = .ok (.iload 5, 2)) (lv_at hl 1 rfl) ?_
  have KE : W p lau e room_1 s m #[Value.ref b] below meth c H1 locs1 (100 + 64 * n + 16 + 16 + 16) (60000 + 384 * n + 96 + 96 + 96) Q (F0 m 1063 ls []) := by
    refine lv_goto (tgt := 3077) hx hb (by decide +kernel : decode code 1063 = .ok (.goto 2014, 3)) (by decide) ?_
    exact W.widen (by omega) (by omega) (kk T2 _ _ _ hI2 hP hD hS (lv_sub hl [2, 3, 4, 5, 6] rfl))
  refine lv_if_ne (tgt := 1063) hx hb (by decide +kernel : decode code 1048 = .ok (.ifCond .ne 15, 3)) (by decide) (fun _ => KE) (fun q0 => ?_)
  refine lv_aload_n hx hb (by decide +kernel : decode code 1051 = .ok (.aload_n 3, 1)) rfl (lv_at hl 5 rfl) ?_
  refine lv_iconst (v := 0) hx hb (by decide +kernel : decode code 1052 = .ok (.iconst 0, 1)) (by decide) ?_
  refine va_lald hx hb hK hP 75 3 (mW_get (i := 75) rfl) rfl vin0 (by decide +kernel : decode code 1053 = .ok (.laload, 1)) ?_
  rw [show (T2 75 ((0 : Int32).toNatClampNeg)) = b2 from (congrFun h75 0).trans (ho q0)]
  refine lv_iload hx hb (by decide +kernel : decode code 1054 = .ok (.iload 6, 2)) (lv_at hl 0 rfl) ?_
  refine lv_i2l hx hb (by decide +kernel : decode code 1056 = .ok (.i2l, 1)) rfl ?_
  refine W.lcmp hx hb (by decide +kernel : decode code 1057 = .ok (.lcmp, 1)) ?_
  refine lv_if_eq (tgt := 1063) hx hb (by decide +kernel : decode code 1058 = .ok (.ifCond .eq 5, 3)) (by decide) (fun _ => KE) (fun q => absurd (lg_cmp_self _) q)
end LC1
