section LC1
variable {p : Program} {lau : Launch} {e : Env} {s : State} {m : MethodId} {below : List Frame} {meth : Method} {c : Code} {Q : State → Prop} {z : Nat} {D : va_G} {ad : Nat → Nat} {cy : Nat → ClassId}
variable {H : Heap} {locs : List Loc} {ls : Array Slot} {S : mS} {b L i n : Nat} {xs : Nat → Int32}
set_option maxRecDepth 20000 in
theorem gm_clear : gOK RL 192 Mx242 (RX10, TX10, 23) 1 [1805, 1806, 1807, 116, 1808] = true := by decide +kernel
set_option maxRecDepth 20000 in
theorem gx_clear : hOK 189 yL_clear cL_clear 4 [(0, 9, 12, 24)] 3 [1073, 1074, 105, 1075] = true := by decide +kernel
set_option maxRecDepth 20000 in
set_option maxHeartbeats 4000000 in
theorem lc_clear (C : LwC p lau s m meth c b L xs z D ad cy) (hn : n < 512) (hi : i + 6 ≤ L) (hI : Inv S) (hP : va_P D vwCl (mW ad cy S) H) (hD : va_D (mAz z) (mW ad cy S)) (hS : va_S (mAz z) s.heap H locs) (hl : lv_has ls 7 (lvs b ad i)) (kk : LK p lau e s m below meth c Q b z D ad cy n i) :
    W p lau e room_1 s m #[Value.ref b] below meth c H locs (100 + 64 * n) (60000 + 384 * n) Q (F0 m 1066 ls []) := by
  obtain ⟨⟨hx, hb, hml, hown, hts⟩, hXs, hbl, hz, hK, hX0, hst, hL⟩ := id C
  obtain ⟨r1, S1, hf, hg⟩ := ag_clear (F := 6000) (p1 := (sx xs i 1)) (Nat.le_refl _) hI
  refine lv_aload_n hx hb (by decide +kernel : decode code 1066 = .ok (.aload_n 1, 1)) rfl (lv_at hl 1 rfl) ?_
  refine lw_ld C hS hl (x0 := 0) (x4 := 4) rfl rfl 1 (by decide) hi (by decide +kernel : decode code 1067 = .ok (.aload_n 0, 1)) (by decide +kernel : decode code 1068 = .ok (.iload 4, 2)) (by decide +kernel : decode code 1070 = .ok (.iconst 1, 1)) rfl (by decide +kernel : decode code 1071 = .ok (.iadd, 1)) (by decide +kernel : decode code 1072 = .ok (.iaload, 1)) ?_
  obtain ⟨k0, S2, b2, T2, hHR, hf2, hI2, ht, ho⟩ := hr_of hg
  have h75 : T2 75 = S2 75 := ev75 (f_X10_clear_ok (d := 58) hf2)
  refine lv_aload_n hx hb (by decide +kernel : decode code 1073 = .ok (.aload_n 3, 1)) rfl (lv_at hl 3 rfl) ?_
  refine gHelp (as := [.ref 0, .int (sx xs i 1), .ref 75]) (k := k0) (S2 := S2) (rest := []) ⟨hx, hb, hml, hown, hts⟩ gx_clear (Nat.le_of_eq hz) hX0 hK (hc_clear (F := 6000) hst hf hHR) hP hD hS hl.1 (Nat.le_of_ble_eq_true rfl) (by decide +kernel : decode code 1074 = .ok (.invokestatic 189, 3)) ⟨by decide, by decide⟩ ⟨by show 100 + 64 * n + 16 ≤ 601024; omega, by show 60000 + 384 * n + 96 ≤ 7293034; omega⟩ (fun H1 locs1 hP hD hS => ?_)
  refine lv_istore (lv' := (5, .int k0) :: lvs b ad i) hx hb (by decide +kernel : decode code 1077 = .ok (.istore 5, 2)) hl (by decide) rfl (fun ls hl => ?_)
  refine lv_aload_n hx hb (by decide +kernel : decode code 1079 = .ok (.aload_n 2, 1)) rfl (lv_at hl 3 rfl) ?_
  refine lw_ld C hS hl (x0 := 1) (x4 := 5) rfl rfl 1 (by decide) hi (by decide +kernel : decode code 1080 = .ok (.aload_n 0, 1)) (by decide +kernel : decode code 1081 = .ok (.iload 4, 2)) (by decide +kernel : decode code 1083 = .ok (.iconst 1, 1)) rfl (by decide +kernel : decode code 1084 = .ok (.iadd, 1)) (by decide +kernel : decode code 1085 = .ok (.iaload, 1)) ?_
  refine gCall (own := RL) (as := [.int (sx xs i 1)]) (i := 63) (r := (.inl (some (.int b2)), T2)) (M' := Mx242) (d := 60) (rest := []) ⟨hx, hb, hml, hown, hts⟩ gm_clear (mX_m z ad) (Nat.le_of_eq hz) hX0.1 hK (con_of hst (j := 242) rfl (Nat.le_of_ble_eq_true rfl) (fun w hw => by simp only [List.mem_cons, List.not_mem_nil, or_false] at hw; rcases hw with rfl | rfl <;> rfl) (f_X10_clear_ok (d := 58) hf2)) hP hD hS hl.1 (ci := 9) rfl rfl (Nat.le_of_ble_eq_true rfl) (by decide +kernel : decode code 1086 = .ok (.invokevirtual 192, 3)) ⟨by decide, by decide⟩ ⟨by show 100 + 64 * n + 16 + 16 ≤ 601024; omega, by show 60000 + 384 * n + 96 + 96 ≤ 7293034; omega⟩ (fun v hv H1 locs1 hP hD hS => ?_) (fun k9 hk9 _ _ _ _ _ _ _ _ _ _ => by cases hk9)
  cases hv
  refine W.eq (g2 := F0 m 1089 ls [.int b2]) rfl ?_
  refine lv_istore (lv' := (6, .int b2) :: (5, .int k0) :: lvs b ad i) hx hb (by decide +kernel : decode code 1089 = .ok (.istore 6, 2)) hl (by decide) rfl (fun ls hl => ?_)
  refine lv_aload_n hx hb (by decide +kernel : decode code 1091 = .ok (.aload_n 2, 1)) rfl (lv_at hl 4 rfl) ?_
  refine gCall (own := RL) (as := []) (i := 63) (r := (.inl (some (.int (T2 63 0))), T2)) (M' := Mx154) (d := 60) (rest := []) ⟨hx, hb, hml, hown, hts⟩ gt_thrown (mX_m z ad) (Nat.le_of_eq hz) hX0.1 hK (con_of hst (j := 154) rfl (Nat.le_of_ble_eq_true rfl) (fun w hw => by simp only [List.mem_cons, List.not_mem_nil, or_false] at hw; rcases hw with rfl <;> rfl) (f_X10_thrown_ok (d := 60) thr_ok)) hP hD hS hl.1 (ci := 9) rfl rfl (Nat.le_of_ble_eq_true rfl) (by decide +kernel : decode code 1092 = .ok (.invokevirtual 152, 3)) ⟨by decide, by decide⟩ ⟨by show 100 + 64 * n + 16 + 16 + 16 ≤ 601024; omega, by show 60000 + 384 * n + 96 + 96 + 96 ≤ 7293034; omega⟩ (fun v hv H1 locs1 hP hD hS => ?_) (fun k9 hk9 _ _ _ _ _ _ _ _ _ _ => by cases hk9)
  cases hv
  replace hP : va_P D vwCl (mW ad cy T2) H1 := hP
  refine W.eq (g2 := F0 m 1095 ls [.int (T2 63 0)]) rfl ?_
  refine lv_iload hx hb (by decide +kernel : decode code 1095 = .ok (.iload 5, 2)) (lv_at hl 1 rfl) ?_
  refine lv_icmp_eq (tgt := 1102) hx hb (by decide +kernel : decode code 1097 = .ok (.if_icmp .eq 5, 3)) (by decide) (fun _ => ?_) (fun q => absurd ht q)
  refine lv_iload hx hb (by decide +kernel : decode code 1102 = .ok (.iload 5, 2)) (lv_at hl 1 rfl) ?_
  have KE : W p lau e room_1 s m #[Value.ref b] below meth c H1 locs1 (100 + 64 * n + 16 + 16 + 16) (60000 + 384 * n + 96 + 96 + 96) Q (F0 m 1119 ls []) := by
    refine lv_goto (tgt := 3077) hx hb (by decide +kernel : decode code 1119 = .ok (.goto 1958, 3)) (by decide) ?_
    exact W.widen (by omega) (by omega) (kk T2 _ _ _ hI2 hP hD hS (lv_sub hl [2, 3, 4, 5, 6] rfl))
  refine lv_if_ne (tgt := 1119) hx hb (by decide +kernel : decode code 1104 = .ok (.ifCond .ne 15, 3)) (by decide) (fun _ => KE) (fun q0 => ?_)
  refine lv_aload_n hx hb (by decide +kernel : decode code 1107 = .ok (.aload_n 3, 1)) rfl (lv_at hl 5 rfl) ?_
  refine lv_iconst (v := 0) hx hb (by decide +kernel : decode code 1108 = .ok (.iconst 0, 1)) (by decide) ?_
  refine va_lald hx hb hK hP 75 3 (mW_get (i := 75) rfl) rfl vin0 (by decide +kernel : decode code 1109 = .ok (.laload, 1)) ?_
  rw [show (T2 75 ((0 : Int32).toNatClampNeg)) = b2 from (congrFun h75 0).trans (ho q0)]
  refine lv_iload hx hb (by decide +kernel : decode code 1110 = .ok (.iload 6, 2)) (lv_at hl 0 rfl) ?_
  refine lv_i2l hx hb (by decide +kernel : decode code 1112 = .ok (.i2l, 1)) rfl ?_
  refine W.lcmp hx hb (by decide +kernel : decode code 1113 = .ok (.lcmp, 1)) ?_
  refine lv_if_eq (tgt := 1119) hx hb (by decide +kernel : decode code 1114 = .ok (.ifCond .eq 5, 3)) (by decide) (fun _ => KE) (fun q => absurd (lg_cmp_self _) q)
set_option maxRecDepth 20000 in
theorem gm_turn : gOK RL 196 Mx243 (RX10, TX10, 23) 0 [1809, 1810, 1811, 116, 1812] = true := by decide +kernel
set_option maxRecDepth 20000 in
theorem gx_turn : gOK RL 193 Mx101 (RX9, TX9, 14) 0 [357, 358, 359, 106, 360] = true := by decide +kernel
set_option maxRecDepth 20000 in
set_option maxHeartbeats 4000000 in
theorem lc_turn (C : LwC p lau s m meth c b L xs z D ad cy) (hn : n < 512) (hi : i + 6 ≤ L) (hI : Inv S) (hP : va_P D vwCl (mW ad cy S) H) (hD : va_D (mAz z) (mW ad cy S)) (hS : va_S (mAz z) s.heap H locs) (hl : lv_has ls 7 (lvs b ad i)) (kk : LK p lau e s m below meth c Q b z D ad cy n i) :
    W p lau e room_1 s m #[Value.ref b] below meth c H locs (100 + 64 * n) (60000 + 384 * n) Q (F0 m 1122 ls []) := by
  obtain ⟨⟨hx, hb, hml, hown, hts⟩, hXs, hbl, hz, hK, hX0, hst, hL⟩ := id C
  obtain ⟨r1, S1, hf, hg⟩ := ag_turn (F := 6000)  (Nat.le_refl _) hI
  refine lv_aload_n hx hb (by decide +kernel : decode code 1122 = .ok (.aload_n 1, 1)) rfl (lv_at hl 1 rfl) ?_
  obtain ⟨b2, T2, hf2, hI2, hres⟩ := hg S1 (fun _ _ => rfl)
  refine gCall (own := RL) (as := []) (i := 0) (r := (r1, S1)) (M' := Mx101) (d := 60) (rest := []) ⟨hx, hb, hml, hown, hts⟩ gx_turn (mX_m z ad) (Nat.le_of_eq hz) hX0.1 hK (con_of hst (j := 101) rfl (Nat.le_of_ble_eq_true rfl) (fun w hw => by simp only [List.mem_cons, List.not_mem_nil, or_false] at hw; rcases hw with rfl <;> rfl) (f_X9_turn_ok (d := 58) hf)) hP hD hS hl.1 (ci := 8) rfl rfl (Nat.le_of_ble_eq_true rfl) (by decide +kernel : decode code 1123 = .ok (.invokevirtual 193, 3)) ⟨by decide, by decide⟩ ⟨by show 100 + 64 * n + 16 ≤ 601024; omega, by show 60000 + 384 * n + 96 ≤ 7293034; omega⟩ (fun v hv H1 locs1 hP hD hS => ?_) (fun k9 hk9 _ _ _ _ _ _ _ _ _ _ => (Res_no hres hk9).elim)
  obtain rfl := Res_in hres hv
  refine W.eq (g2 := F0 m 1126 ls [.int b2]) rfl ?_
  refine lv_aload_n hx hb (by decide +kernel : decode code 1126 = .ok (.aload_n 2, 1)) rfl (lv_at hl 2 rfl) ?_
  refine gCall (own := RL) (as := []) (i := 63) (r := (.inl (some (.int b2)), T2)) (M' := Mx243) (d := 60) (rest := [.int b2]) ⟨hx, hb, hml, hown, hts⟩ gm_turn (mX_m z ad) (Nat.le_of_eq hz) hX0.1 hK (con_of hst (j := 243) rfl (Nat.le_of_ble_eq_true rfl) (fun w hw => by simp only [List.mem_cons, List.not_mem_nil, or_false] at hw; rcases hw with rfl <;> rfl) (f_X10_turn_ok (d := 59) hf2)) hP hD hS hl.1 (ci := 9) rfl rfl (Nat.le_of_ble_eq_true rfl) (by decide +kernel : decode code 1127 = .ok (.invokevirtual 196, 3)) ⟨by decide, by decide⟩ ⟨by show 100 + 64 * n + 16 + 16 ≤ 601024; omega, by show 60000 + 384 * n + 96 + 96 ≤ 7293034; omega⟩ (fun v hv H1 locs1 hP hD hS => ?_) (fun k9 hk9 _ _ _ _ _ _ _ _ _ _ => by cases hk9)
  cases hv
  refine W.eq (g2 := F0 m 1130 ls [.int b2, .int b2]) rfl ?_
  refine lv_icmp_eq (tgt := 3077) hx hb (by decide +kernel : decode code 1130 = .ok (.if_icmp .eq 1947, 3)) (by decide) (fun _ => ?_) (fun q => absurd rfl q)
  exact W.widen (by omega) (by omega) (kk T2 _ _ _ hI2 hP hD hS (lv_sub hl [0, 1, 2, 3, 4] rfl))
set_option maxRecDepth 20000 in
theorem gm_rest : gOK RL 199 Mx244 (RX10, TX10, 23) 1 [1813, 1814, 1815, 116, 1816] = true := by decide +kernel
set_option maxRecDepth 20000 in
theorem gx_rest : hOK 197 yL_rest cL_rest 4 [(0, 9, 12, 24)] 3 [1081, 1082, 105, 1083] = true := by decide +kernel
set_option maxRecDepth 20000 in
set_option maxHeartbeats 4000000 in
theorem lc_rest (C : LwC p lau s m meth c b L xs z D ad cy) (hn : n < 512) (hi : i + 6 ≤ L) (hI : Inv S) (hP : va_P D vwCl (mW ad cy S) H) (hD : va_D (mAz z) (mW ad cy S)) (hS : va_S (mAz z) s.heap H locs) (hl : lv_has ls 7 (lvs b ad i)) (kk : LK p lau e s m below meth c Q b z D ad cy n i) :
    W p lau e room_1 s m #[Value.ref b] below meth c H locs (100 + 64 * n) (60000 + 384 * n) Q (F0 m 1135 ls []) := by
  obtain ⟨⟨hx, hb, hml, hown, hts⟩, hXs, hbl, hz, hK, hX0, hst, hL⟩ := id C
  obtain ⟨r1, S1, hf, hg⟩ := ag_rest (F := 6000) (p1 := (sx xs i 1)) (Nat.le_refl _) hI
  refine lv_aload_n hx hb (by decide +kernel : decode code 1135 = .ok (.aload_n 1, 1)) rfl (lv_at hl 1 rfl) ?_
  refine lw_ld C hS hl (x0 := 0) (x4 := 4) rfl rfl 1 (by decide) hi (by decide +kernel : decode code 1136 = .ok (.aload_n 0, 1)) (by decide +kernel : decode code 1137 = .ok (.iload 4, 2)) (by decide +kernel : decode code 1139 = .ok (.iconst 1, 1)) rfl (by decide +kernel : decode code 1140 = .ok (.iadd, 1)) (by decide +kernel : decode code 1141 = .ok (.iaload, 1)) ?_
  obtain ⟨k0, S2, b2, T2, hHR, hf2, hI2, ht, ho⟩ := hr_of hg
  have h75 : T2 75 = S2 75 := ev75 (f_X10_rest_ok (d := 58) hf2)
  refine lv_aload_n hx hb (by decide +kernel : decode code 1142 = .ok (.aload_n 3, 1)) rfl (lv_at hl 3 rfl) ?_
  refine gHelp (as := [.ref 0, .int (sx xs i 1), .ref 75]) (k := k0) (S2 := S2) (rest := []) ⟨hx, hb, hml, hown, hts⟩ gx_rest (Nat.le_of_eq hz) hX0 hK (hc_rest (F := 6000) hst hf hHR) hP hD hS hl.1 (Nat.le_of_ble_eq_true rfl) (by decide +kernel : decode code 1143 = .ok (.invokestatic 197, 3)) ⟨by decide, by decide⟩ ⟨by show 100 + 64 * n + 16 ≤ 601024; omega, by show 60000 + 384 * n + 96 ≤ 7293034; omega⟩ (fun H1 locs1 hP hD hS => ?_)
  refine lv_istore (lv' := (5, .int k0) :: lvs b ad i) hx hb (by decide +kernel : decode code 1146 = .ok (.istore 5, 2)) hl (by decide) rfl (fun ls hl => ?_)
  refine lv_aload_n hx hb (by decide +kernel : decode code 1148 = .ok (.aload_n 2, 1)) rfl (lv_at hl 3 rfl) ?_
  refine lw_ld C hS hl (x0 := 1) (x4 := 5) rfl rfl 1 (by decide) hi (by decide +kernel : decode code 1149 = .ok (.aload_n 0, 1)) (by decide +kernel : decode code 1150 = .ok (.iload 4, 2)) (by decide +kernel : decode code 1152 = .ok (.iconst 1, 1)) rfl (by decide +kernel : decode code 1153 = .ok (.iadd, 1)) (by decide +kernel : decode code 1154 = .ok (.iaload, 1)) ?_
  refine gCall (own := RL) (as := [.int (sx xs i 1)]) (i := 63) (r := (.inl (some (.int b2)), T2)) (M' := Mx244) (d := 60) (rest := []) ⟨hx, hb, hml, hown, hts⟩ gm_rest (mX_m z ad) (Nat.le_of_eq hz) hX0.1 hK (con_of hst (j := 244) rfl (Nat.le_of_ble_eq_true rfl) (fun w hw => by simp only [List.mem_cons, List.not_mem_nil, or_false] at hw; rcases hw with rfl | rfl <;> rfl) (f_X10_rest_ok (d := 58) hf2)) hP hD hS hl.1 (ci := 9) rfl rfl (Nat.le_of_ble_eq_true rfl) (by decide +kernel : decode code 1155 = .ok (.invokevirtual 199, 3)) ⟨by decide, by decide⟩ ⟨by show 100 + 64 * n + 16 + 16 ≤ 601024; omega, by show 60000 + 384 * n + 96 + 96 ≤ 7293034; omega⟩ (fun v hv H1 locs1 hP hD hS => ?_) (fun k9 hk9 _ _ _ _ _ _ _ _ _ _ => by cases hk9)
  cases hv
  refine W.eq (g2 := F0 m 1158 ls [.int b2]) rfl ?_
  refine lv_istore (lv' := (6, .int b2) :: (5, .int k0) :: lvs b ad i) hx hb (by decide +kernel : decode code 1158 = .ok (.istore 6, 2)) hl (by decide) rfl (fun ls hl => ?_)
  refine lv_aload_n hx hb (by decide +kernel : decode code 1160 = .ok (.aload_n 2, 1)) rfl (lv_at hl 4 rfl) ?_
  refine gCall (own := RL) (as := []) (i := 63) (r := (.inl (some (.int (T2 63 0))), T2)) (M' := Mx154) (d := 60) (rest := []) ⟨hx, hb, hml, hown, hts⟩ gt_thrown (mX_m z ad) (Nat.le_of_eq hz) hX0.1 hK (con_of hst (j := 154) rfl (Nat.le_of_ble_eq_true rfl) (fun w hw => by simp only [List.mem_cons, List.not_mem_nil, or_false] at hw; rcases hw with rfl <;> rfl) (f_X10_thrown_ok (d := 60) thr_ok)) hP hD hS hl.1 (ci := 9) rfl rfl (Nat.le_of_ble_eq_true rfl) (by decide +kernel : decode code 1161 = .ok (.invokevirtual 152, 3)) ⟨by decide, by decide⟩ ⟨by show 100 + 64 * n + 16 + 16 + 16 ≤ 601024; omega, by show 60000 + 384 * n + 96 + 96 + 96 ≤ 7293034; omega⟩ (fun v hv H1 locs1 hP hD hS => ?_) (fun k9 hk9 _ _ _ _ _ _ _ _ _ _ => by cases hk9)
  cases hv
  replace hP : va_P D vwCl (mW ad cy T2) H1 := hP
  refine W.eq (g2 := F0 m 1164 ls [.int (T2 63 0)]) rfl ?_
  refine lv_iload hx hb (by decide +kernel : decode code 1164 = .ok (.iload 5, 2)) (lv_at hl 1 rfl) ?_
  refine lv_icmp_eq (tgt := 1171) hx hb (by decide +kernel : decode code 1166 = .ok (.if_icmp .eq 5, 3)) (by decide) (fun _ => ?_) (fun q => absurd ht q)
  refine lv_iload hx hb (by decide +kernel : decode code 1171 = .ok (.iload 5, 2)) (lv_at hl 1 rfl) ?_
  have KE : W p lau e room_1 s m #[Value.ref b] below meth c H1 locs1 (100 + 64 * n + 16 + 16 + 16) (60000 + 384 * n + 96 + 96 + 96) Q (F0 m 1188 ls []) := by
    refine lv_goto (tgt := 3077) hx hb (by decide +kernel : decode code 1188 = .ok (.goto 1889, 3)) (by decide) ?_
    exact W.widen (by omega) (by omega) (kk T2 _ _ _ hI2 hP hD hS (lv_sub hl [2, 3, 4, 5, 6] rfl))
  refine lv_if_ne (tgt := 1188) hx hb (by decide +kernel : decode code 1173 = .ok (.ifCond .ne 15, 3)) (by decide) (fun _ => KE) (fun q0 => ?_)
  refine lv_aload_n hx hb (by decide +kernel : decode code 1176 = .ok (.aload_n 3, 1)) rfl (lv_at hl 5 rfl) ?_
  refine lv_iconst (v := 0) hx hb (by decide +kernel : decode code 1177 = .ok (.iconst 0, 1)) (by decide) ?_
  refine va_lald hx hb hK hP 75 3 (mW_get (i := 75) rfl) rfl vin0 (by decide +kernel : decode code 1178 = .ok (.laload, 1)) ?_
  rw [show (T2 75 ((0 : Int32).toNatClampNeg)) = b2 from (congrFun h75 0).trans (ho q0)]
  refine lv_iload hx hb (by decide +kernel : decode code 1179 = .ok (.iload 6, 2)) (lv_at hl 0 rfl) ?_
  refine lv_i2l hx hb (by decide +kernel : decode code 1181 = .ok (.i2l, 1)) rfl ?_
  refine W.lcmp hx hb (by decide +kernel : decode code 1182 = .ok (.lcmp, 1)) ?_
  refine lv_if_eq (tgt := 1188) hx hb (by decide +kernel : decode code 1183 = .ok (.ifCond .eq 5, 3)) (by decide) (fun _ => KE) (fun q => absurd (lg_cmp_self _) q)
set_option maxRecDepth 20000 in
theorem gm_days : gOK RL 202 Mx249 (RX10, TX10, 23) 1 [1817, 1818, 1819, 116, 1820] = true := by decide +kernel
set_option maxRecDepth 20000 in
theorem gx_days : hOK 200 yL_days cL_days 4 [(0, 9, 12, 13)] 3 [1089, 1090, 105, 1091] = true := by decide +kernel
set_option maxRecDepth 20000 in
set_option maxHeartbeats 4000000 in
theorem lc_days (C : LwC p lau s m meth c b L xs z D ad cy) (hn : n < 512) (hi : i + 6 ≤ L) (hI : Inv S) (hP : va_P D vwCl (mW ad cy S) H) (hD : va_D (mAz z) (mW ad cy S)) (hS : va_S (mAz z) s.heap H locs) (hl : lv_has ls 7 (lvs b ad i)) (kk : LK p lau e s m below meth c Q b z D ad cy n i) :
    W p lau e room_1 s m #[Value.ref b] below meth c H locs (100 + 64 * n) (60000 + 384 * n) Q (F0 m 1191 ls []) := by
  obtain ⟨⟨hx, hb, hml, hown, hts⟩, hXs, hbl, hz, hK, hX0, hst, hL⟩ := id C
  obtain ⟨r1, S1, hf, hg⟩ := ag_days (F := 6000) (p1 := (sx xs i 1)) (Nat.le_refl _) hI
  refine lv_aload_n hx hb (by decide +kernel : decode code 1191 = .ok (.aload_n 1, 1)) rfl (lv_at hl 1 rfl) ?_
  refine lw_ld C hS hl (x0 := 0) (x4 := 4) rfl rfl 1 (by decide) hi (by decide +kernel : decode code 1192 = .ok (.aload_n 0, 1)) (by decide +kernel : decode code 1193 = .ok (.iload 4, 2)) (by decide +kernel : decode code 1195 = .ok (.iconst 1, 1)) rfl (by decide +kernel : decode code 1196 = .ok (.iadd, 1)) (by decide +kernel : decode code 1197 = .ok (.iaload, 1)) ?_
  obtain ⟨k0, S2, b2, T2, hHR, hf2, hI2, ht, ho⟩ := hr_of hg
  have h75 : T2 75 = S2 75 := ev75 (f_X10_days_ok (d := 51) hf2)
  refine lv_aload_n hx hb (by decide +kernel : decode code 1198 = .ok (.aload_n 3, 1)) rfl (lv_at hl 3 rfl) ?_
  refine gHelp (as := [.ref 0, .int (sx xs i 1), .ref 75]) (k := k0) (S2 := S2) (rest := []) ⟨hx, hb, hml, hown, hts⟩ gx_days (Nat.le_of_eq hz) hX0 hK (hc_days (F := 6000) hst hf hHR) hP hD hS hl.1 (Nat.le_of_ble_eq_true rfl) (by decide +kernel : decode code 1199 = .ok (.invokestatic 200, 3)) ⟨by decide, by decide⟩ ⟨by show 100 + 64 * n + 16 ≤ 601024; omega, by show 60000 + 384 * n + 96 ≤ 7293034; omega⟩ (fun H1 locs1 hP hD hS => ?_)
  refine lv_istore (lv' := (5, .int k0) :: lvs b ad i) hx hb (by decide +kernel : decode code 1202 = .ok (.istore 5, 2)) hl (by decide) rfl (fun ls hl => ?_)
  refine lv_aload_n hx hb (by decide +kernel : decode code 1204 = .ok (.aload_n 2, 1)) rfl (lv_at hl 3 rfl) ?_
  refine lw_ld C hS hl (x0 := 1) (x4 := 5) rfl rfl 1 (by decide) hi (by decide +kernel : decode code 1205 = .ok (.aload_n 0, 1)) (by decide +kernel : decode code 1206 = .ok (.iload 4, 2)) (by decide +kernel : decode code 1208 = .ok (.iconst 1, 1)) rfl (by decide +kernel : decode code 1209 = .ok (.iadd, 1)) (by decide +kernel : decode code 1210 = .ok (.iaload, 1)) ?_
  refine gCall (own := RL) (as := [.int (sx xs i 1)]) (i := 63) (r := (.inl (some (.int b2)), T2)) (M' := Mx249) (d := 60) (rest := []) ⟨hx, hb, hml, hown, hts⟩ gm_days (mX_m z ad) (Nat.le_of_eq hz) hX0.1 hK (con_of hst (j := 249) rfl (Nat.le_of_ble_eq_true rfl) (fun w hw => by simp only [List.mem_cons, List.not_mem_nil, or_false] at hw; rcases hw with rfl | rfl <;> rfl) (f_X10_days_ok (d := 51) hf2)) hP hD hS hl.1 (ci := 9) rfl rfl (Nat.le_of_ble_eq_true rfl) (by decide +kernel : decode code 1211 = .ok (.invokevirtual 202, 3)) ⟨by decide, by decide⟩ ⟨by show 100 + 64 * n + 16 + 16 ≤ 601024; omega, by show 60000 + 384 * n + 96 + 96 ≤ 7293034; omega⟩ (fun v hv H1 locs1 hP hD hS => ?_) (fun k9 hk9 _ _ _ _ _ _ _ _ _ _ => by cases hk9)
  cases hv
  refine W.eq (g2 := F0 m 1214 ls [.int b2]) rfl ?_
  refine lv_istore (lv' := (6, .int b2) :: (5, .int k0) :: lvs b ad i) hx hb (by decide +kernel : decode code 1214 = .ok (.istore 6, 2)) hl (by decide) rfl (fun ls hl => ?_)
  refine lv_aload_n hx hb (by decide +kernel : decode code 1216 = .ok (.aload_n 2, 1)) rfl (lv_at hl 4 rfl) ?_
  refine gCall (own := RL) (as := []) (i := 63) (r := (.inl (some (.int (T2 63 0))), T2)) (M' := Mx154) (d := 60) (rest := []) ⟨hx, hb, hml, hown, hts⟩ gt_thrown (mX_m z ad) (Nat.le_of_eq hz) hX0.1 hK (con_of hst (j := 154) rfl (Nat.le_of_ble_eq_true rfl) (fun w hw => by simp only [List.mem_cons, List.not_mem_nil, or_false] at hw; rcases hw with rfl <;> rfl) (f_X10_thrown_ok (d := 60) thr_ok)) hP hD hS hl.1 (ci := 9) rfl rfl (Nat.le_of_ble_eq_true rfl) (by decide +kernel : decode code 1217 = .ok (.invokevirtual 152, 3)) ⟨by decide, by decide⟩ ⟨by show 100 + 64 * n + 16 + 16 + 16 ≤ 601024; omega, by show 60000 + 384 * n + 96 + 96 + 96 ≤ 7293034; omega⟩ (fun v hv H1 locs1 hP hD hS => ?_) (fun k9 hk9 _ _ _ _ _ _ _ _ _ _ => by cases hk9)
  cases hv
  replace hP : va_P D vwCl (mW ad cy T2) H1 := hP
  refine W.eq (g2 := F0 m 1220 ls [.int (T2 63 0)]) rfl ?_
  refine lv_iload hx hb (by decide +kernel : decode code 1220 = .ok (.iload 5, 2)) (lv_at hl 1 rfl) ?_
  refine lv_icmp_eq (tgt := 1227) hx hb (by decide +kernel : decode code 1222 = .ok (.if_icmp .eq 5, 3)) (by decide) (fun _ => ?_) (fun q => absurd ht q)
  refine lv_iload hx hb (by decide +kernel : decode code 1227 = .ok (.iload 5, 2)) (lv_at hl 1 rfl) ?_
  have KE : W p lau e room_1 s m #[Value.ref b] below meth c H1 locs1 (100 + 64 * n + 16 + 16 + 16) (60000 + 384 * n + 96 + 96 + 96) Q (F0 m 1244 ls []) := by
    refine lv_goto (tgt := 3077) hx hb (by decide +kernel : decode code 1244 = .ok (.goto 1833, 3)) (by decide) ?_
    exact W.widen (by omega) (by omega) (kk T2 _ _ _ hI2 hP hD hS (lv_sub hl [2, 3, 4, 5, 6] rfl))
  refine lv_if_ne (tgt := 1244) hx hb (by decide +kernel : decode code 1229 = .ok (.ifCond .ne 15, 3)) (by decide) (fun _ => KE) (fun q0 => ?_)
  refine lv_aload_n hx hb (by decide +kernel : decode code 1232 = .ok (.aload_n 3, 1)) rfl (lv_at hl 5 rfl) ?_
  refine lv_iconst (v := 0) hx hb (by decide +kernel : decode code 1233 = .ok (.iconst 0, 1)) (by decide) ?_
  refine va_lald hx hb hK hP 75 3 (mW_get (i := 75) rfl) rfl vin0 (by decide +kernel : decode code 1234 = .ok (.laload, 1)) ?_
  rw [show (T2 75 ((0 : Int32).toNatClampNeg)) = b2 from (congrFun h75 0).trans (ho q0)]
  refine lv_iload hx hb (by decide +kernel : decode code 1235 = .ok (.iload 6, 2)) (lv_at hl 0 rfl) ?_
  refine lv_i2l hx hb (by decide +kernel : decode code 1237 = .ok (.i2l, 1)) rfl ?_
  refine W.lcmp hx hb (by decide +kernel : decode code 1238 = .ok (.lcmp, 1)) ?_
  refine lv_if_eq (tgt := 1244) hx hb (by decide +kernel : decode code 1239 = .ok (.ifCond .eq 5, 3)) (by decide) (fun _ => KE) (fun q => absurd (lg_cmp_self _) q)
set_option maxRecDepth 20000 in
theorem gm_ahead : gOK RL 206 Mx250 (RX10, TX10, 23) 3 [1829, 1830, 1831, 116, 1832] = true := by decide +kernel
set_option maxRecDepth 20000 in
theorem gx_ahead : hOK 203 yL_ahead cL_ahead 6 [(0, 12, 15, 24), (0, 12, 19, 13)] 5 [1113, 1114, 105, 1115] = true := by decide +kernel
set_option maxRecDepth 20000 in
set_option maxHeartbeats 4000000 in
theorem lc_ahead (C : LwC p lau s m meth c b L xs z D ad cy) (hn : n < 512) (hi : i + 6 ≤ L) (hI : Inv S) (hP : va_P D vwCl (mW ad cy S) H) (hD : va_D (mAz z) (mW ad cy S)) (hS : va_S (mAz z) s.heap H locs) (hl : lv_has ls 7 (lvs b ad i)) (kk : LK p lau e s m below meth c Q b z D ad cy n i) :
    W p lau e room_1 s m #[Value.ref b] below meth c H locs (100 + 64 * n) (60000 + 384 * n) Q (F0 m 1247 ls []) := by
  obtain ⟨⟨hx, hb, hml, hown, hts⟩, hXs, hbl, hz, hK, hX0, hst, hL⟩ := id C
  obtain ⟨r1, S1, hf, hg⟩ := ag_ahead (F := 6000) (p1 := (sx xs i 1)) (p2 := (sx xs i 2)) (p3 := (bx xs i 3)) (Nat.le_refl _) hI
  refine lv_aload_n hx hb (by decide +kernel : decode code 1247 = .ok (.aload_n 1, 1)) rfl (lv_at hl 1 rfl) ?_
  refine lw_ld C hS hl (x0 := 0) (x4 := 4) rfl rfl 1 (by decide) hi (by decide +kernel : decode code 1248 = .ok (.aload_n 0, 1)) (by decide +kernel : decode code 1249 = .ok (.iload 4, 2)) (by decide +kernel : decode code 1251 = .ok (.iconst 1, 1)) rfl (by decide +kernel : decode code 1252 = .ok (.iadd, 1)) (by decide +kernel : decode code 1253 = .ok (.iaload, 1)) ?_
  refine lw_ld C hS hl (x0 := 0) (x4 := 4) rfl rfl 2 (by decide) hi (by decide +kernel : decode code 1254 = .ok (.aload_n 0, 1)) (by decide +kernel : decode code 1255 = .ok (.iload 4, 2)) (by decide +kernel : decode code 1257 = .ok (.iconst 2, 1)) rfl (by decide +kernel : decode code 1258 = .ok (.iadd, 1)) (by decide +kernel : decode code 1259 = .ok (.iaload, 1)) ?_
  refine lw_ldb C hS hl (x0 := 0) (x4 := 4) rfl rfl 3 (by decide) hi (by decide +kernel : decode code 1260 = .ok (.aload_n 0, 1)) (by decide +kernel : decode code 1261 = .ok (.iload 4, 2)) (by decide +kernel : decode code 1263 = .ok (.iconst 3, 1)) rfl (by decide +kernel : decode code 1264 = .ok (.iadd, 1)) (by decide +kernel : decode code 1265 = .ok (.iaload, 1)) (by decide +kernel : decode code 1266 = .ok (.ifCond .eq 7, 3)) (by decide +kernel : decode code 1269 = .ok (.iconst 1, 1)) (by decide +kernel : decode code 1270 = .ok (.goto 4, 3)) (by decide +kernel : decode code 1273 = .ok (.iconst 0, 1)) ?_
  obtain ⟨k0, S2, b2, T2, hHR, hf2, hI2, ht, ho⟩ := hr_of hg
  have h75 : T2 75 = S2 75 := ev75 (f_X10_ahead_ok (d := 51) hf2)
  refine lv_aload_n hx hb (by decide +kernel : decode code 1274 = .ok (.aload_n 3, 1)) rfl (lv_at hl 3 rfl) ?_
  refine gHelp (as := [.ref 0, .int (sx xs i 1), .int (sx xs i 2), .int (bx xs i 3), .ref 75]) (k := k0) (S2 := S2) (rest := []) ⟨hx, hb, hml, hown, hts⟩ gx_ahead (Nat.le_of_eq hz) hX0 hK (hc_ahead (F := 6000) hst hf hHR) hP hD hS hl.1 (Nat.le_of_ble_eq_true rfl) (by decide +kernel : decode code 1275 = .ok (.invokestatic 203, 3)) ⟨by decide, by decide⟩ ⟨by show 100 + 64 * n + 16 ≤ 601024; omega, by show 60000 + 384 * n + 96 ≤ 7293034; omega⟩ (fun H1 locs1 hP hD hS => ?_)
  refine lv_istore (lv' := (5, .int k0) :: lvs b ad i) hx hb (by decide +kernel : decode code 1278 = .ok (.istore 5, 2)) hl (by decide) rfl (fun ls hl => ?_)
  refine lv_aload_n hx hb (by decide +kernel : decode code 1280 = .ok (.aload_n 2, 1)) rfl (lv_at hl 3 rfl) ?_
  refine lw_ld C hS hl (x0 := 1) (x4 := 5) rfl rfl 1 (by decide) hi (by decide +kernel : decode code 1281 = .ok (.aload_n 0, 1)) (by decide +kernel : decode code 1282 = .ok (.iload 4, 2)) (by decide +kernel : decode code 1284 = .ok (.iconst 1, 1)) rfl (by decide +kernel : decode code 1285 = .ok (.iadd, 1)) (by decide +kernel : decode code 1286 = .ok (.iaload, 1)) ?_
  refine lw_ld C hS hl (x0 := 1) (x4 := 5) rfl rfl 2 (by decide) hi (by decide +kernel : decode code 1287 = .ok (.aload_n 0, 1)) (by decide +kernel : decode code 1288 = .ok (.iload 4, 2)) (by decide +kernel : decode code 1290 = .ok (.iconst 2, 1)) rfl (by decide +kernel : decode code 1291 = .ok (.iadd, 1)) (by decide +kernel : decode code 1292 = .ok (.iaload, 1)) ?_
  refine lw_ldb C hS hl (x0 := 1) (x4 := 5) rfl rfl 3 (by decide) hi (by decide +kernel : decode code 1293 = .ok (.aload_n 0, 1)) (by decide +kernel : decode code 1294 = .ok (.iload 4, 2)) (by decide +kernel : decode code 1296 = .ok (.iconst 3, 1)) rfl (by decide +kernel : decode code 1297 = .ok (.iadd, 1)) (by decide +kernel : decode code 1298 = .ok (.iaload, 1)) (by decide +kernel : decode code 1299 = .ok (.ifCond .eq 7, 3)) (by decide +kernel : decode code 1302 = .ok (.iconst 1, 1)) (by decide +kernel : decode code 1303 = .ok (.goto 4, 3)) (by decide +kernel : decode code 1306 = .ok (.iconst 0, 1)) ?_
  refine gCall (own := RL) (as := [.int (sx xs i 1), .int (sx xs i 2), .int (bx xs i 3)]) (i := 63) (r := (.inl (some (.int b2)), T2)) (M' := Mx250) (d := 60) (rest := []) ⟨hx, hb, hml, hown, hts⟩ gm_ahead (mX_m z ad) (Nat.le_of_eq hz) hX0.1 hK (con_of hst (j := 250) rfl (Nat.le_of_ble_eq_true rfl) (fun w hw => by simp only [List.mem_cons, List.not_mem_nil, or_false] at hw; rcases hw with rfl | rfl | rfl | rfl <;> rfl) (f_X10_ahead_ok (d := 51) hf2)) hP hD hS hl.1 (ci := 9) rfl rfl (Nat.le_of_ble_eq_true rfl) (by decide +kernel : decode code 1307 = .ok (.invokevirtual 206, 3)) ⟨by decide, by decide⟩ ⟨by show 100 + 64 * n + 16 + 16 ≤ 601024; omega, by show 60000 + 384 * n + 96 + 96 ≤ 7293034; omega⟩ (fun v hv H1 locs1 hP hD hS => ?_) (fun k9 hk9 _ _ _ _ _ _ _ _ _ _ => by cases hk9)
  cases hv
  refine W.eq (g2 := F0 m 1310 ls [.int b2]) rfl ?_
  refine lv_istore (lv' := (6, .int b2) :: (5, .int k0) :: lvs b ad i) hx hb (by decide +kernel : decode code 1310 = .ok (.istore 6, 2)) hl (by decide) rfl (fun ls hl => ?_)
  refine lv_aload_n hx hb (by decide +kernel : decode code 1312 = .ok (.aload_n 2, 1)) rfl (lv_at hl 4 rfl) ?_
  refine gCall (own := RL) (as := []) (i := 63) (r := (.inl (some (.int (T2 63 0))), T2)) (M' := Mx154) (d := 60) (rest := []) ⟨hx, hb, hml, hown, hts⟩ gt_thrown (mX_m z ad) (Nat.le_of_eq hz) hX0.1 hK (con_of hst (j := 154) rfl (Nat.le_of_ble_eq_true rfl) (fun w hw => by simp only [List.mem_cons, List.not_mem_nil, or_false] at hw; rcases hw with rfl <;> rfl) (f_X10_thrown_ok (d := 60) thr_ok)) hP hD hS hl.1 (ci := 9) rfl rfl (Nat.le_of_ble_eq_true rfl) (by decide +kernel : decode code 1313 = .ok (.invokevirtual 152, 3)) ⟨by decide, by decide⟩ ⟨by show 100 + 64 * n + 16 + 16 + 16 ≤ 601024; omega, by show 60000 + 384 * n + 96 + 96 + 96 ≤ 7293034; omega⟩ (fun v hv H1 locs1 hP hD hS => ?_) (fun k9 hk9 _ _ _ _ _ _ _ _ _ _ => by cases hk9)
  cases hv
  replace hP : va_P D vwCl (mW ad cy T2) H1 := hP
  refine W.eq (g2 := F0 m 1316 ls [.int (T2 63 0)]) rfl ?_
  refine lv_iload hx hb (by decide +kernel : decode code 1316 = .ok (.iload 5, 2)) (lv_at hl 1 rfl) ?_
  refine lv_icmp_eq (tgt := 1323) hx hb (by decide +kernel : decode code 1318 = .ok (.if_icmp .eq 5, 3)) (by decide) (fun _ => ?_) (fun q => absurd ht q)
  refine lv_iload hx hb (by decide +kernel : decode code 1323 = .ok (.iload 5, 2)) (lv_at hl 1 rfl) ?_
  have KE : W p lau e room_1 s m #[Value.ref b] below meth c H1 locs1 (100 + 64 * n + 16 + 16 + 16) (60000 + 384 * n + 96 + 96 + 96) Q (F0 m 1340 ls []) := by
    refine lv_goto (tgt := 3077) hx hb (by decide +kernel : decode code 1340 = .ok (.goto 1737, 3)) (by decide) ?_
    exact W.widen (by omega) (by omega) (kk T2 _ _ _ hI2 hP hD hS (lv_sub hl [2, 3, 4, 5, 6] rfl))
  refine lv_if_ne (tgt := 1340) hx hb (by decide +kernel : decode code 1325 = .ok (.ifCond .ne 15, 3)) (by decide) (fun _ => KE) (fun q0 => ?_)
  refine lv_aload_n hx hb (by decide +kernel : decode code 1328 = .ok (.aload_n 3, 1)) rfl (lv_at hl 5 rfl) ?_
  refine lv_iconst (v := 0) hx hb (by decide +kernel : decode code 1329 = .ok (.iconst 0, 1)) (by decide) ?_
  refine va_lald hx hb hK hP 75 3 (mW_get (i := 75) rfl) rfl vin0 (by decide +kernel : decode code 1330 = .ok (.laload, 1)) ?_
  rw [show (T2 75 ((0 : Int32).toNatClampNeg)) = b2 from (congrFun h75 0).trans (ho q0)]
  refine lv_iload hx hb (by decide +kernel : decode code 1331 = .ok (.iload 6, 2)) (lv_at hl 0 rfl) ?_
  refine lv_i2l hx hb (by decide +kernel : decode code 1333 = .ok (.i2l, 1)) rfl ?_
  refine W.lcmp hx hb (by decide +kernel : decode code 1334 = .ok (.lcmp, 1)) ?_
  refine lv_if_eq (tgt := 1340) hx hb (by decide +kernel : decode code 1335 = .ok (.ifCond .eq 5, 3)) (by decide) (fun _ => KE) (fun q => absurd (lg_cmp_self _) q)
set_option maxRecDepth 20000 in
theorem gm_fresh : gOK RL 210 Mx251 (RX10, TX10, 23) 0 [1833, 1834, 1835, 116, 1836] = true := by decide +kernel
set_option maxRecDepth 20000 in
theorem gx_fresh : gOK RL 207 Mx105 (RX9, TX9, 14) 0 [387, 388, 389, 106, 390] = true := by decide +kernel
set_option maxRecDepth 20000 in
set_option maxHeartbeats 4000000 in
theorem lc_fresh (C : LwC p lau s m meth c b L xs z D ad cy) (hn : n < 512) (hi : i + 6 ≤ L) (hI : Inv S) (hP : va_P D vwCl (mW ad cy S) H) (hD : va_D (mAz z) (mW ad cy S)) (hS : va_S (mAz z) s.heap H locs) (hl : lv_has ls 7 (lvs b ad i)) (kk : LK p lau e s m below meth c Q b z D ad cy n i) :
    W p lau e room_1 s m #[Value.ref b] below meth c H locs (100 + 64 * n) (60000 + 384 * n) Q (F0 m 1343 ls []) := by
  obtain ⟨⟨hx, hb, hml, hown, hts⟩, hXs, hbl, hz, hK, hX0, hst, hL⟩ := id C
  obtain ⟨r1, S1, hf, hg⟩ := ag_fresh (F := 6000)  (Nat.le_refl _) hI
  refine lv_aload_n hx hb (by decide +kernel : decode code 1343 = .ok (.aload_n 1, 1)) rfl (lv_at hl 1 rfl) ?_
  obtain ⟨b2, T2, hf2, hI2, hres⟩ := hg S1 (fun _ _ => rfl)
  refine gCall (own := RL) (as := []) (i := 0) (r := (r1, S1)) (M' := Mx105) (d := 60) (rest := []) ⟨hx, hb, hml, hown, hts⟩ gx_fresh (mX_m z ad) (Nat.le_of_eq hz) hX0.1 hK (con_of hst (j := 105) rfl (Nat.le_of_ble_eq_true rfl) (fun w hw => by simp only [List.mem_cons, List.not_mem_nil, or_false] at hw; rcases hw with rfl <;> rfl) (f_X9_fresh_ok (d := 56) hf)) hP hD hS hl.1 (ci := 8) rfl rfl (Nat.le_of_ble_eq_true rfl) (by decide +kernel : decode code 1344 = .ok (.invokevirtual 207, 3)) ⟨by decide, by decide⟩ ⟨by show 100 + 64 * n + 16 ≤ 601024; omega, by show 60000 + 384 * n + 96 ≤ 7293034; omega⟩ (fun v hv H1 locs1 hP hD hS => ?_) (fun k9 hk9 _ _ _ _ _ _ _ _ _ _ => (Res_no hres hk9).elim)
  obtain rfl := Res_in hres hv
  refine W.eq (g2 := F0 m 1347 ls [.int b2]) rfl ?_
  refine lv_aload_n hx hb (by decide +kernel : decode code 1347 = .ok (.aload_n 2, 1)) rfl (lv_at hl 2 rfl) ?_
  refine gCall (own := RL) (as := []) (i := 63) (r := (.inl (some (.int b2)), T2)) (M' := Mx251) (d := 60) (rest := [.int b2]) ⟨hx, hb, hml, hown, hts⟩ gm_fresh (mX_m z ad) (Nat.le_of_eq hz) hX0.1 hK (con_of hst (j := 251) rfl (Nat.le_of_ble_eq_true rfl) (fun w hw => by simp only [List.mem_cons, List.not_mem_nil, or_false] at hw; rcases hw with rfl <;> rfl) (f_X10_fresh_ok (d := 57) hf2)) hP hD hS hl.1 (ci := 9) rfl rfl (Nat.le_of_ble_eq_true rfl) (by decide +kernel : decode code 1348 = .ok (.invokevirtual 210, 3)) ⟨by decide, by decide⟩ ⟨by show 100 + 64 * n + 16 + 16 ≤ 601024; omega, by show 60000 + 384 * n + 96 + 96 ≤ 7293034; omega⟩ (fun v hv H1 locs1 hP hD hS => ?_) (fun k9 hk9 _ _ _ _ _ _ _ _ _ _ => by cases hk9)
  cases hv
  refine W.eq (g2 := F0 m 1351 ls [.int b2, .int b2]) rfl ?_
  refine lv_icmp_eq (tgt := 3077) hx hb (by decide +kernel : decode code 1351 = .ok (.if_icmp .eq 1726, 3)) (by decide) (fun _ => ?_) (fun q => absurd rfl q)
  exact W.widen (by omega) (by omega) (kk T2 _ _ _ hI2 hP hD hS (lv_sub hl [0, 1, 2, 3, 4] rfl))
set_option maxRecDepth 20000 in
theorem gm_when : gOK RL 213 Mx252 (RX10, TX10, 23) 2 [1837, 1838, 1839, 116, 1840] = true := by decide +kernel
set_option maxRecDepth 20000 in
theorem gx_when : hOK 211 yL_when cL_when 5 [(0, 10, 13, 24), (0, 10, 17, 13)] 4 [1124, 1125, 105, 1126] = true := by decide +kernel
set_option maxRecDepth 20000 in
set_option maxHeartbeats 4000000 in
theorem lc_when (C : LwC p lau s m meth c b L xs z D ad cy) (hn : n < 512) (hi : i + 6 ≤ L) (hI : Inv S) (hP : va_P D vwCl (mW ad cy S) H) (hD : va_D (mAz z) (mW ad cy S)) (hS : va_S (mAz z) s.heap H locs) (hl : lv_has ls 7 (lvs b ad i)) (kk : LK p lau e s m below meth c Q b z D ad cy n i) :
    W p lau e room_1 s m #[Value.ref b] below meth c H locs (100 + 64 * n) (60000 + 384 * n) Q (F0 m 1356 ls []) := by
  obtain ⟨⟨hx, hb, hml, hown, hts⟩, hXs, hbl, hz, hK, hX0, hst, hL⟩ := id C
  obtain ⟨r1, S1, hf, hg⟩ := ag_when (F := 6000) (p1 := (sx xs i 1)) (p2 := (sx xs i 2)) (Nat.le_refl _) hI
  refine lv_aload_n hx hb (by decide +kernel : decode code 1356 = .ok (.aload_n 1, 1)) rfl (lv_at hl 1 rfl) ?_
  refine lw_ld C hS hl (x0 := 0) (x4 := 4) rfl rfl 1 (by decide) hi (by decide +kernel : decode code 1357 = .ok (.aload_n 0, 1)) (by decide +kernel : decode code 1358 = .ok (.iload 4, 2)) (by decide +kernel : decode code 1360 = .ok (.iconst 1, 1)) rfl (by decide +kernel : decode code 1361 = .ok (.iadd, 1)) (by decide +kernel : decode code 1362 = .ok (.iaload, 1)) ?_
  refine lw_ld C hS hl (x0 := 0) (x4 := 4) rfl rfl 2 (by decide) hi (by decide +kernel : decode code 1363 = .ok (.aload_n 0, 1)) (by decide +kernel : decode code 1364 = .ok (.iload 4, 2)) (by decide +kernel : decode code 1366 = .ok (.iconst 2, 1)) rfl (by decide +kernel : decode code 1367 = .ok (.iadd, 1)) (by decide +kernel : decode code 1368 = .ok (.iaload, 1)) ?_
  obtain ⟨k0, S2, b2, T2, hHR, hf2, hI2, ht, ho⟩ := hr_of hg
  have h75 : T2 75 = S2 75 := ev75 (f_X10_when_ok (d := 51) hf2)
  refine lv_aload_n hx hb (by decide +kernel : decode code 1369 = .ok (.aload_n 3, 1)) rfl (lv_at hl 3 rfl) ?_
  refine gHelp (as := [.ref 0, .int (sx xs i 1), .int (sx xs i 2), .ref 75]) (k := k0) (S2 := S2) (rest := []) ⟨hx, hb, hml, hown, hts⟩ gx_when (Nat.le_of_eq hz) hX0 hK (hc_when (F := 6000) hst hf hHR) hP hD hS hl.1 (Nat.le_of_ble_eq_true rfl) (by decide +kernel : decode code 1370 = .ok (.invokestatic 211, 3)) ⟨by decide, by decide⟩ ⟨by show 100 + 64 * n + 16 ≤ 601024; omega, by show 60000 + 384 * n + 96 ≤ 7293034; omega⟩ (fun H1 locs1 hP hD hS => ?_)
  refine lv_istore (lv' := (5, .int k0) :: lvs b ad i) hx hb (by decide +kernel : decode code 1373 = .ok (.istore 5, 2)) hl (by decide) rfl (fun ls hl => ?_)
  refine lv_aload_n hx hb (by decide +kernel : decode code 1375 = .ok (.aload_n 2, 1)) rfl (lv_at hl 3 rfl) ?_
  refine lw_ld C hS hl (x0 := 1) (x4 := 5) rfl rfl 1 (by decide) hi (by decide +kernel : decode code 1376 = .ok (.aload_n 0, 1)) (by decide +kernel : decode code 1377 = .ok (.iload 4, 2)) (by decide +kernel : decode code 1379 = .ok (.iconst 1, 1)) rfl (by decide +kernel : decode code 1380 = .ok (.iadd, 1)) (by decide +kernel : decode code 1381 = .ok (.iaload, 1)) ?_
  refine lw_ld C hS hl (x0 := 1) (x4 := 5) rfl rfl 2 (by decide) hi (by decide +kernel : decode code 1382 = .ok (.aload_n 0, 1)) (by decide +kernel : decode code 1383 = .ok (.iload 4, 2)) (by decide +kernel : decode code 1385 = .ok (.iconst 2, 1)) rfl (by decide +kernel : decode code 1386 = .ok (.iadd, 1)) (by decide +kernel : decode code 1387 = .ok (.iaload, 1)) ?_
  refine gCall (own := RL) (as := [.int (sx xs i 1), .int (sx xs i 2)]) (i := 63) (r := (.inl (some (.int b2)), T2)) (M' := Mx252) (d := 60) (rest := []) ⟨hx, hb, hml, hown, hts⟩ gm_when (mX_m z ad) (Nat.le_of_eq hz) hX0.1 hK (con_of hst (j := 252) rfl (Nat.le_of_ble_eq_true rfl) (fun w hw => by simp only [List.mem_cons, List.not_mem_nil, or_false] at hw; rcases hw with rfl | rfl | rfl <;> rfl) (f_X10_when_ok (d := 51) hf2)) hP hD hS hl.1 (ci := 9) rfl rfl (Nat.le_of_ble_eq_true rfl) (by decide +kernel : decode code 1388 = .ok (.invokevirtual 213, 3)) ⟨by decide, by decide⟩ ⟨by show 100 + 64 * n + 16 + 16 ≤ 601024; omega, by show 60000 + 384 * n + 96 + 96 ≤ 7293034; omega⟩ (fun v hv H1 locs1 hP hD hS => ?_) (fun k9 hk9 _ _ _ _ _ _ _ _ _ _ => by cases hk9)
  cases hv
  refine W.eq (g2 := F0 m 1391 ls [.int b2]) rfl ?_
  refine lv_istore (lv' := (6, .int b2) :: (5, .int k0) :: lvs b ad i) hx hb (by decide +kernel : decode code 1391 = .ok (.istore 6, 2)) hl (by decide) rfl (fun ls hl => ?_)
  refine lv_aload_n hx hb (by decide +kernel : decode code 1393 = .ok (.aload_n 2, 1)) rfl (lv_at hl 4 rfl) ?_
  refine gCall (own := RL) (as := []) (i := 63) (r := (.inl (some (.int (T2 63 0))), T2)) (M' := Mx154) (d := 60) (rest := []) ⟨hx, hb, hml, hown, hts⟩ gt_thrown (mX_m z ad) (Nat.le_of_eq hz) hX0.1 hK (con_of hst (j := 154) rfl (Nat.le_of_ble_eq_true rfl) (fun w hw => by simp only [List.mem_cons, List.not_mem_nil, or_false] at hw; rcases hw with rfl <;> rfl) (f_X10_thrown_ok (d := 60) thr_ok)) hP hD hS hl.1 (ci := 9) rfl rfl (Nat.le_of_ble_eq_true rfl) (by decide +kernel : decode code 1394 = .ok (.invokevirtual 152, 3)) ⟨by decide, by decide⟩ ⟨by show 100 + 64 * n + 16 + 16 + 16 ≤ 601024; omega, by show 60000 + 384 * n + 96 + 96 + 96 ≤ 7293034; omega⟩ (fun v hv H1 locs1 hP hD hS => ?_) (fun k9 hk9 _ _ _ _ _ _ _ _ _ _ => by cases hk9)
  cases hv
  replace hP : va_P D vwCl (mW ad cy T2) H1 := hP
  refine W.eq (g2 := F0 m 1397 ls [.int (T2 63 0)]) rfl ?_
  refine lv_iload hx hb (by decide +kernel : decode code 1397 = .ok (.iload 5, 2)) (lv_at hl 1 rfl) ?_
  refine lv_icmp_eq (tgt := 1404) hx hb (by decide +kernel : decode code 1399 = .ok (.if_icmp .eq 5, 3)) (by decide) (fun _ => ?_) (fun q => absurd ht q)
  refine lv_iload hx hb (by decide +kernel : decode code 1404 = .ok (.iload 5, 2)) (lv_at hl 1 rfl) ?_
  have KE : W p lau e room_1 s m #[Value.ref b] below meth c H1 locs1 (100 + 64 * n + 16 + 16 + 16) (60000 + 384 * n + 96 + 96 + 96) Q (F0 m 1421 ls []) := by
    refine lv_goto (tgt := 3077) hx hb (by decide +kernel : decode code 1421 = .ok (.goto 1656, 3)) (by decide) ?_
    exact W.widen (by omega) (by omega) (kk T2 _ _ _ hI2 hP hD hS (lv_sub hl [2, 3, 4, 5, 6] rfl))
  refine lv_if_ne (tgt := 1421) hx hb (by decide +kernel : decode code 1406 = .ok (.ifCond .ne 15, 3)) (by decide) (fun _ => KE) (fun q0 => ?_)
  refine lv_aload_n hx hb (by decide +kernel : decode code 1409 = .ok (.aload_n 3, 1)) rfl (lv_at hl 5 rfl) ?_
  refine lv_iconst (v := 0) hx hb (by decide +kernel : decode code 1410 = .ok (.iconst 0, 1)) (by decide) ?_
  refine va_lald hx hb hK hP 75 3 (mW_get (i := 75) rfl) rfl vin0 (by decide +kernel : decode code 1411 = .ok (.laload, 1)) ?_
  rw [show (T2 75 ((0 : Int32).toNatClampNeg)) = b2 from (congrFun h75 0).trans (ho q0)]
  refine lv_iload hx hb (by decide +kernel : decode code 1412 = .ok (.iload 6, 2)) (lv_at hl 0 rfl) ?_
  refine lv_i2l hx hb (by decide +kernel : decode code 1414 = .ok (.i2l, 1)) rfl ?_
  refine W.lcmp hx hb (by decide +kernel : decode code 1415 = .ok (.lcmp, 1)) ?_
  refine lv_if_eq (tgt := 1421) hx hb (by decide +kernel : decode code 1416 = .ok (.ifCond .eq 5, 3)) (by decide) (fun _ => KE) (fun q => absurd (lg_cmp_self _) q)
set_option maxRecDepth 20000 in
theorem gm_late : gOK RL 216 Mx253 (RX10, TX10, 23) 1 [1841, 1842, 1843, 116, 1844] = true := by decide +kernel
set_option maxRecDepth 20000 in
theorem gx_late : hOK 214 yL_late cL_late 4 [(0, 9, 12, 24)] 3 [1131, 1132, 105, 1133] = true := by decide +kernel
set_option maxRecDepth 20000 in
set_option maxHeartbeats 4000000 in
theorem lc_late (C : LwC p lau s m meth c b L xs z D ad cy) (hn : n < 512) (hi : i + 6 ≤ L) (hI : Inv S) (hP : va_P D vwCl (mW ad cy S) H) (hD : va_D (mAz z) (mW ad cy S)) (hS : va_S (mAz z) s.heap H locs) (hl : lv_has ls 7 (lvs b ad i)) (kk : LK p lau e s m below meth c Q b z D ad cy n i) :
    W p lau e room_1 s m #[Value.ref b] below meth c H locs (100 + 64 * n) (60000 + 384 * n) Q (F0 m 1424 ls []) := by
  obtain ⟨⟨hx, hb, hml, hown, hts⟩, hXs, hbl, hz, hK, hX0, hst, hL⟩ := id C
  obtain ⟨r1, S1, hf, hg⟩ := ag_late (F := 6000) (p1 := (sx xs i 1)) (Nat.le_refl _) hI
  refine lv_aload_n hx hb (by decide +kernel : decode code 1424 = .ok (.aload_n 1, 1)) rfl (lv_at hl 1 rfl) ?_
  refine lw_ld C hS hl (x0 := 0) (x4 := 4) rfl rfl 1 (by decide) hi (by decide +kernel : decode code 1425 = .ok (.aload_n 0, 1)) (by decide +kernel : decode code 1426 = .ok (.iload 4, 2)) (by decide +kernel : decode code 1428 = .ok (.iconst 1, 1)) rfl (by decide +kernel : decode code 1429 = .ok (.iadd, 1)) (by decide +kernel : decode code 1430 = .ok (.iaload, 1)) ?_
  obtain ⟨k0, S2, b2, T2, hHR, hf2, hI2, ht, ho⟩ := hr_of hg
  have h75 : T2 75 = S2 75 := ev75 (f_X10_late_ok (d := 51) hf2)
  refine lv_aload_n hx hb (by decide +kernel : decode code 1431 = .ok (.aload_n 3, 1)) rfl (lv_at hl 3 rfl) ?_
  refine gHelp (as := [.ref 0, .int (sx xs i 1), .ref 75]) (k := k0) (S2 := S2) (rest := []) ⟨hx, hb, hml, hown, hts⟩ gx_late (Nat.le_of_eq hz) hX0 hK (hc_late (F := 6000) hst hf hHR) hP hD hS hl.1 (Nat.le_of_ble_eq_true rfl) (by decide +kernel : decode code 1432 = .ok (.invokestatic 214, 3)) ⟨by decide, by decide⟩ ⟨by show 100 + 64 * n + 16 ≤ 601024; omega, by show 60000 + 384 * n + 96 ≤ 7293034; omega⟩ (fun H1 locs1 hP hD hS => ?_)
  refine lv_istore (lv' := (5, .int k0) :: lvs b ad i) hx hb (by decide +kernel : decode code 1435 = .ok (.istore 5, 2)) hl (by decide) rfl (fun ls hl => ?_)
  refine lv_aload_n hx hb (by decide +kernel : decode code 1437 = .ok (.aload_n 2, 1)) rfl (lv_at hl 3 rfl) ?_
  refine lw_ld C hS hl (x0 := 1) (x4 := 5) rfl rfl 1 (by decide) hi (by decide +kernel : decode code 1438 = .ok (.aload_n 0, 1)) (by decide +kernel : decode code 1439 = .ok (.iload 4, 2)) (by decide +kernel : decode code 1441 = .ok (.iconst 1, 1)) rfl (by decide +kernel : decode code 1442 = .ok (.iadd, 1)) (by decide +kernel : decode code 1443 = .ok (.iaload, 1)) ?_
  refine gCall (own := RL) (as := [.int (sx xs i 1)]) (i := 63) (r := (.inl (some (.int b2)), T2)) (M' := Mx253) (d := 60) (rest := []) ⟨hx, hb, hml, hown, hts⟩ gm_late (mX_m z ad) (Nat.le_of_eq hz) hX0.1 hK (con_of hst (j := 253) rfl (Nat.le_of_ble_eq_true rfl) (fun w hw => by simp only [List.mem_cons, List.not_mem_nil, or_false] at hw; rcases hw with rfl | rfl <;> rfl) (f_X10_late_ok (d := 51) hf2)) hP hD hS hl.1 (ci := 9) rfl rfl (Nat.le_of_ble_eq_true rfl) (by decide +kernel : decode code 1444 = .ok (.invokevirtual 216, 3)) ⟨by decide, by decide⟩ ⟨by show 100 + 64 * n + 16 + 16 ≤ 601024; omega, by show 60000 + 384 * n + 96 + 96 ≤ 7293034; omega⟩ (fun v hv H1 locs1 hP hD hS => ?_) (fun k9 hk9 _ _ _ _ _ _ _ _ _ _ => by cases hk9)
  cases hv
  refine W.eq (g2 := F0 m 1447 ls [.int b2]) rfl ?_
  refine lv_istore (lv' := (6, .int b2) :: (5, .int k0) :: lvs b ad i) hx hb (by decide +kernel : decode code 1447 = .ok (.istore 6, 2)) hl (by decide) rfl (fun ls hl => ?_)
  refine lv_aload_n hx hb (by decide +kernel : decode code 1449 = .ok (.aload_n 2, 1)) rfl (lv_at hl 4 rfl) ?_
  refine gCall (own := RL) (as := []) (i := 63) (r := (.inl (some (.int (T2 63 0))), T2)) (M' := Mx154) (d := 60) (rest := []) ⟨hx, hb, hml, hown, hts⟩ gt_thrown (mX_m z ad) (Nat.le_of_eq hz) hX0.1 hK (con_of hst (j := 154) rfl (Nat.le_of_ble_eq_true rfl) (fun w hw => by simp only [List.mem_cons, List.not_mem_nil, or_false] at hw; rcases hw with rfl <;> rfl) (f_X10_thrown_ok (d := 60) thr_ok)) hP hD hS hl.1 (ci := 9) rfl rfl (Nat.le_of_ble_eq_true rfl) (by decide +kernel : decode code 1450 = .ok (.invokevirtual 152, 3)) ⟨by decide, by decide⟩ ⟨by show 100 + 64 * n + 16 + 16 + 16 ≤ 601024; omega, by show 60000 + 384 * n + 96 + 96 + 96 ≤ 7293034; omega⟩ (fun v hv H1 locs1 hP hD hS => ?_) (fun k9 hk9 _ _ _ _ _ _ _ _ _ _ => by cases hk9)
  cases hv
  replace hP : va_P D vwCl (mW ad cy T2) H1 := hP
  refine W.eq (g2 := F0 m 1453 ls [.int (T2 63 0)]) rfl ?_
  refine lv_iload hx hb (by decide +kernel : decode code 1453 = .ok (.iload 5, 2)) (lv_at hl 1 rfl) ?_
  refine lv_icmp_eq (tgt := 1460) hx hb (by decide +kernel : decode code 1455 = .ok (.if_icmp .eq 5, 3)) (by decide) (fun _ => ?_) (fun q => absurd ht q)
  refine lv_iload hx hb (by decide +kernel : decode code 1460 = .ok (.iload 5, 2)) (lv_at hl 1 rfl) ?_
  have KE : W p lau e room_1 s m #[Value.ref b] below meth c H1 locs1 (100 + 64 * n + 16 + 16 + 16) (60000 + 384 * n + 96 + 96 + 96) Q (F0 m 1477 ls []) := by
    refine lv_goto (tgt := 3077) hx hb (by decide +kernel : decode code 1477 = .ok (.goto 1600, 3)) (by decide) ?_
    exact W.widen (by omega) (by omega) (kk T2 _ _ _ hI2 hP hD hS (lv_sub hl [2, 3, 4, 5, 6] rfl))
  refine lv_if_ne (tgt := 1477) hx hb (by decide +kernel : decode code 1462 = .ok (.ifCond .ne 15, 3)) (by decide) (fun _ => KE) (fun q0 => ?_)
  refine lv_aload_n hx hb (by decide +kernel : decode code 1465 = .ok (.aload_n 3, 1)) rfl (lv_at hl 5 rfl) ?_
  refine lv_iconst (v := 0) hx hb (by decide +kernel : decode code 1466 = .ok (.iconst 0, 1)) (by decide) ?_
  refine va_lald hx hb hK hP 75 3 (mW_get (i := 75) rfl) rfl vin0 (by decide +kernel : decode code 1467 = .ok (.laload, 1)) ?_
  rw [show (T2 75 ((0 : Int32).toNatClampNeg)) = b2 from (congrFun h75 0).trans (ho q0)]
  refine lv_iload hx hb (by decide +kernel : decode code 1468 = .ok (.iload 6, 2)) (lv_at hl 0 rfl) ?_
  refine lv_i2l hx hb (by decide +kernel : decode code 1470 = .ok (.i2l, 1)) rfl ?_
  refine W.lcmp hx hb (by decide +kernel : decode code 1471 = .ok (.lcmp, 1)) ?_
  refine lv_if_eq (tgt := 1477) hx hb (by decide +kernel : decode code 1472 = .ok (.ifCond .eq 5, 3)) (by decide) (fun _ => KE) (fun q => absurd (lg_cmp_self _) q)
set_option maxRecDepth 20000 in
theorem gm_harvest : gOK RL 219 Mx258 (RX10, TX10, 23) 2 [1845, 1846, 1847, 116, 1848] = true := by decide +kernel
set_option maxRecDepth 20000 in
theorem gx_harvest : hOK 217 yL_harvest cL_harvest 5 [(0, 10, 13, 13)] 4 [1138, 1139, 105, 1140] = true := by decide +kernel
set_option maxRecDepth 20000 in
set_option maxHeartbeats 4000000 in
theorem lc_harvest (C : LwC p lau s m meth c b L xs z D ad cy) (hn : n < 512) (hi : i + 6 ≤ L) (hI : Inv S) (hP : va_P D vwCl (mW ad cy S) H) (hD : va_D (mAz z) (mW ad cy S)) (hS : va_S (mAz z) s.heap H locs) (hl : lv_has ls 7 (lvs b ad i)) (kk : LK p lau e s m below meth c Q b z D ad cy n i) :
    W p lau e room_1 s m #[Value.ref b] below meth c H locs (100 + 64 * n) (60000 + 384 * n) Q (F0 m 1480 ls []) := by
  obtain ⟨⟨hx, hb, hml, hown, hts⟩, hXs, hbl, hz, hK, hX0, hst, hL⟩ := id C
  obtain ⟨r1, S1, hf, hg⟩ := ag_harvest (F := 6000) (p1 := (sx xs i 1)) (p2 := (sx xs i 2)) (Nat.le_refl _) hI
  refine lv_aload_n hx hb (by decide +kernel : decode code 1480 = .ok (.aload_n 1, 1)) rfl (lv_at hl 1 rfl) ?_
  refine lw_ld C hS hl (x0 := 0) (x4 := 4) rfl rfl 1 (by decide) hi (by decide +kernel : decode code 1481 = .ok (.aload_n 0, 1)) (by decide +kernel : decode code 1482 = .ok (.iload 4, 2)) (by decide +kernel : decode code 1484 = .ok (.iconst 1, 1)) rfl (by decide +kernel : decode code 1485 = .ok (.iadd, 1)) (by decide +kernel : decode code 1486 = .ok (.iaload, 1)) ?_
  refine lw_ld C hS hl (x0 := 0) (x4 := 4) rfl rfl 2 (by decide) hi (by decide +kernel : decode code 1487 = .ok (.aload_n 0, 1)) (by decide +kernel : decode code 1488 = .ok (.iload 4, 2)) (by decide +kernel : decode code 1490 = .ok (.iconst 2, 1)) rfl (by decide +kernel : decode code 1491 = .ok (.iadd, 1)) (by decide +kernel : decode code 1492 = .ok (.iaload, 1)) ?_
  obtain ⟨k0, S2, b2, T2, hHR, hf2, hI2, ht, ho⟩ := hr_of hg
  have h75 : T2 75 = S2 75 := ev75 (f_X10_harvest_ok (d := 49) hf2)
  refine lv_aload_n hx hb (by decide +kernel : decode code 1493 = .ok (.aload_n 3, 1)) rfl (lv_at hl 3 rfl) ?_
  refine gHelp (as := [.ref 0, .int (sx xs i 1), .int (sx xs i 2), .ref 75]) (k := k0) (S2 := S2) (rest := []) ⟨hx, hb, hml, hown, hts⟩ gx_harvest (Nat.le_of_eq hz) hX0 hK (hc_harvest (F := 6000) hst hf hHR) hP hD hS hl.1 (Nat.le_of_ble_eq_true rfl) (by decide +kernel : decode code 1494 = .ok (.invokestatic 217, 3)) ⟨by decide, by decide⟩ ⟨by show 100 + 64 * n + 16 ≤ 601024; omega, by show 60000 + 384 * n + 96 ≤ 7293034; omega⟩ (fun H1 locs1 hP hD hS => ?_)
  refine lv_istore (lv' := (5, .int k0) :: lvs b ad i) hx hb (by decide +kernel : decode code 1497 = .ok (.istore 5, 2)) hl (by decide) rfl (fun ls hl => ?_)
  refine lv_aload_n hx hb (by decide +kernel : decode code 1499 = .ok (.aload_n 2, 1)) rfl (lv_at hl 3 rfl) ?_
  refine lw_ld C hS hl (x0 := 1) (x4 := 5) rfl rfl 1 (by decide) hi (by decide +kernel : decode code 1500 = .ok (.aload_n 0, 1)) (by decide +kernel : decode code 1501 = .ok (.iload 4, 2)) (by decide +kernel : decode code 1503 = .ok (.iconst 1, 1)) rfl (by decide +kernel : decode code 1504 = .ok (.iadd, 1)) (by decide +kernel : decode code 1505 = .ok (.iaload, 1)) ?_
  refine lw_ld C hS hl (x0 := 1) (x4 := 5) rfl rfl 2 (by decide) hi (by decide +kernel : decode code 1506 = .ok (.aload_n 0, 1)) (by decide +kernel : decode code 1507 = .ok (.iload 4, 2)) (by decide +kernel : decode code 1509 = .ok (.iconst 2, 1)) rfl (by decide +kernel : decode code 1510 = .ok (.iadd, 1)) (by decide +kernel : decode code 1511 = .ok (.iaload, 1)) ?_
  refine gCall (own := RL) (as := [.int (sx xs i 1), .int (sx xs i 2)]) (i := 63) (r := (.inl (some (.int b2)), T2)) (M' := Mx258) (d := 60) (rest := []) ⟨hx, hb, hml, hown, hts⟩ gm_harvest (mX_m z ad) (Nat.le_of_eq hz) hX0.1 hK (con_of hst (j := 258) rfl (Nat.le_of_ble_eq_true rfl) (fun w hw => by simp only [List.mem_cons, List.not_mem_nil, or_false] at hw; rcases hw with rfl | rfl | rfl <;> rfl) (f_X10_harvest_ok (d := 49) hf2)) hP hD hS hl.1 (ci := 9) rfl rfl (Nat.le_of_ble_eq_true rfl) (by decide +kernel : decode code 1512 = .ok (.invokevirtual 219, 3)) ⟨by decide, by decide⟩ ⟨by show 100 + 64 * n + 16 + 16 ≤ 601024; omega, by show 60000 + 384 * n + 96 + 96 ≤ 7293034; omega⟩ (fun v hv H1 locs1 hP hD hS => ?_) (fun k9 hk9 _ _ _ _ _ _ _ _ _ _ => by cases hk9)
  cases hv
  refine W.eq (g2 := F0 m 1515 ls [.int b2]) rfl ?_
  refine lv_istore (lv' := (6, .int b2) :: (5, .int k0) :: lvs b ad i) hx hb (by decide +kernel : decode code 1515 = .ok (.istore 6, 2)) hl (by decide) rfl (fun ls hl => ?_)
  refine lv_aload_n hx hb (by decide +kernel : decode code 1517 = .ok (.aload_n 2, 1)) rfl (lv_at hl 4 rfl) ?_
  refine gCall (own := RL) (as := []) (i := 63) (r := (.inl (some (.int (T2 63 0))), T2)) (M' := Mx154) (d := 60) (rest := []) ⟨hx, hb, hml, hown, hts⟩ gt_thrown (mX_m z ad) (Nat.le_of_eq hz) hX0.1 hK (con_of hst (j := 154) rfl (Nat.le_of_ble_eq_true rfl) (fun w hw => by simp only [List.mem_cons, List.not_mem_nil, or_false] at hw; rcases hw with rfl <;> rfl) (f_X10_thrown_ok (d := 60) thr_ok)) hP hD hS hl.1 (ci := 9) rfl rfl (Nat.le_of_ble_eq_true rfl) (by decide +kernel : decode code 1518 = .ok (.invokevirtual 152, 3)) ⟨by decide, by decide⟩ ⟨by show 100 + 64 * n + 16 + 16 + 16 ≤ 601024; omega, by show 60000 + 384 * n + 96 + 96 + 96 ≤ 7293034; omega⟩ (fun v hv H1 locs1 hP hD hS => ?_) (fun k9 hk9 _ _ _ _ _ _ _ _ _ _ => by cases hk9)
  cases hv
  replace hP : va_P D vwCl (mW ad cy T2) H1 := hP
  refine W.eq (g2 := F0 m 1521 ls [.int (T2 63 0)]) rfl ?_
  refine lv_iload hx hb (by decide +kernel : decode code 1521 = .ok (.iload 5, 2)) (lv_at hl 1 rfl) ?_
  refine lv_icmp_eq (tgt := 1528) hx hb (by decide +kernel : decode code 1523 = .ok (.if_icmp .eq 5, 3)) (by decide) (fun _ => ?_) (fun q => absurd ht q)
  refine lv_iload hx hb (by decide +kernel : decode code 1528 = .ok (.iload 5, 2)) (lv_at hl 1 rfl) ?_
  have KE : W p lau e room_1 s m #[Value.ref b] below meth c H1 locs1 (100 + 64 * n + 16 + 16 + 16) (60000 + 384 * n + 96 + 96 + 96) Q (F0 m 1545 ls []) := by
    refine lv_goto (tgt := 3077) hx hb (by decide +kernel : decode code 1545 = .ok (.goto 1532, 3)) (by decide) ?_
    exact W.widen (by omega) (by omega) (kk T2 _ _ _ hI2 hP hD hS (lv_sub hl [2, 3, 4, 5, 6] rfl))
  refine lv_if_ne (tgt := 1545) hx hb (by decide +kernel : decode code 1530 = .ok (.ifCond .ne 15, 3)) (by decide) (fun _ => KE) (fun q0 => ?_)
  refine lv_aload_n hx hb (by decide +kernel : decode code 1533 = .ok (.aload_n 3, 1)) rfl (lv_at hl 5 rfl) ?_
  refine lv_iconst (v := 0) hx hb (by decide +kernel : decode code 1534 = .ok (.iconst 0, 1)) (by decide) ?_
  refine va_lald hx hb hK hP 75 3 (mW_get (i := 75) rfl) rfl vin0 (by decide +kernel : decode code 1535 = .ok (.laload, 1)) ?_
  rw [show (T2 75 ((0 : Int32).toNatClampNeg)) = b2 from (congrFun h75 0).trans (ho q0)]
  refine lv_iload hx hb (by decide +kernel : decode code 1536 = .ok (.iload 6, 2)) (lv_at hl 0 rfl) ?_
  refine lv_i2l hx hb (by decide +kernel : decode code 1538 = .ok (.i2l, 1)) rfl ?_
  refine W.lcmp hx hb (by decide +kernel : decode code 1539 = .ok (.lcmp, 1)) ?_
  refine lv_if_eq (tgt := 1545) hx hb (by decide +kernel : decode code 1540 = .ok (.ifCond .eq 5, 3)) (by decide) (fun _ => KE) (fun q => absurd (lg_cmp_self _) q)
set_option maxRecDepth 20000 in
theorem gm_leave : gOK RL 222 Mx262 (RX10, TX10, 23) 1 [1868, 1869, 1870, 116, 1871] = true := by decide +kernel
set_option maxRecDepth 20000 in
theorem gx_leave : hOK 220 yL_leave cL_leave 4 [(0, 9, 12, 13)] 3 [1190, 1191, 105, 1192] = true := by decide +kernel
set_option maxRecDepth 20000 in
set_option maxHeartbeats 4000000 in
theorem lc_leave (C : LwC p lau s m meth c b L xs z D ad cy) (hn : n < 512) (hi : i + 6 ≤ L) (hI : Inv S) (hP : va_P D vwCl (mW ad cy S) H) (hD : va_D (mAz z) (mW ad cy S)) (hS : va_S (mAz z) s.heap H locs) (hl : lv_has ls 7 (lvs b ad i)) (kk : LK p lau e s m below meth c Q b z D ad cy n i) :
    W p lau e room_1 s m #[Value.ref b] below meth c H locs (100 + 64 * n) (60000 + 384 * n) Q (F0 m 1548 ls []) := by
  obtain ⟨⟨hx, hb, hml, hown, hts⟩, hXs, hbl, hz, hK, hX0, hst, hL⟩ := id C
  obtain ⟨r1, S1, hf, hg⟩ := ag_leave (F := 6000) (p1 := (sx xs i 1)) (Nat.le_refl _) hI
  refine lv_aload_n hx hb (by decide +kernel : decode code 1548 = .ok (.aload_n 1, 1)) rfl (lv_at hl 1 rfl) ?_
  refine lw_ld C hS hl (x0 := 0) (x4 := 4) rfl rfl 1 (by decide) hi (by decide +kernel : decode code 1549 = .ok (.aload_n 0, 1)) (by decide +kernel : decode code 1550 = .ok (.iload 4, 2)) (by decide +kernel : decode code 1552 = .ok (.iconst 1, 1)) rfl (by decide +kernel : decode code 1553 = .ok (.iadd, 1)) (by decide +kernel : decode code 1554 = .ok (.iaload, 1)) ?_
  obtain ⟨k0, S2, b2, T2, hHR, hf2, hI2, ht, ho⟩ := hr_of hg
  have h75 : T2 75 = S2 75 := ev75 (f_X10_leave_ok (d := 57) hf2)
  refine lv_aload_n hx hb (by decide +kernel : decode code 1555 = .ok (.aload_n 3, 1)) rfl (lv_at hl 3 rfl) ?_
  refine gHelp (as := [.ref 0, .int (sx xs i 1), .ref 75]) (k := k0) (S2 := S2) (rest := []) ⟨hx, hb, hml, hown, hts⟩ gx_leave (Nat.le_of_eq hz) hX0 hK (hc_leave (F := 6000) hst hf hHR) hP hD hS hl.1 (Nat.le_of_ble_eq_true rfl) (by decide +kernel : decode code 1556 = .ok (.invokestatic 220, 3)) ⟨by decide, by decide⟩ ⟨by show 100 + 64 * n + 16 ≤ 601024; omega, by show 60000 + 384 * n + 96 ≤ 7293034; omega⟩ (fun H1 locs1 hP hD hS => ?_)
  refine lv_istore (lv' := (5, .int k0) :: lvs b ad i) hx hb (by decide +kernel : decode code 1559 = .ok (.istore 5, 2)) hl (by decide) rfl (fun ls hl => ?_)
  refine lv_aload_n hx hb (by decide +kernel : decode code 1561 = .ok (.aload_n 2, 1)) rfl (lv_at hl 3 rfl) ?_
  refine lw_ld C hS hl (x0 := 1) (x4 := 5) rfl rfl 1 (by decide) hi (by decide +kernel : decode code 1562 = .ok (.aload_n 0, 1)) (by decide +kernel : decode code 1563 = .ok (.iload 4, 2)) (by decide +kernel : decode code 1565 = .ok (.iconst 1, 1)) rfl (by decide +kernel : decode code 1566 = .ok (.iadd, 1)) (by decide +kernel : decode code 1567 = .ok (.iaload, 1)) ?_
  refine gCall (own := RL) (as := [.int (sx xs i 1)]) (i := 63) (r := (.inl (some (.int b2)), T2)) (M' := Mx262) (d := 60) (rest := []) ⟨hx, hb, hml, hown, hts⟩ gm_leave (mX_m z ad) (Nat.le_of_eq hz) hX0.1 hK (con_of hst (j := 262) rfl (Nat.le_of_ble_eq_true rfl) (fun w hw => by simp only [List.mem_cons, List.not_mem_nil, or_false] at hw; rcases hw with rfl | rfl <;> rfl) (f_X10_leave_ok (d := 57) hf2)) hP hD hS hl.1 (ci := 9) rfl rfl (Nat.le_of_ble_eq_true rfl) (by decide +kernel : decode code 1568 = .ok (.invokevirtual 222, 3)) ⟨by decide, by decide⟩ ⟨by show 100 + 64 * n + 16 + 16 ≤ 601024; omega, by show 60000 + 384 * n + 96 + 96 ≤ 7293034; omega⟩ (fun v hv H1 locs1 hP hD hS => ?_) (fun k9 hk9 _ _ _ _ _ _ _ _ _ _ => by cases hk9)
  cases hv
  refine W.eq (g2 := F0 m 1571 ls [.int b2]) rfl ?_
  refine lv_istore (lv' := (6, .int b2) :: (5, .int k0) :: lvs b ad i) hx hb (by decide +kernel : decode code 1571 = .ok (.istore 6, 2)) hl (by decide) rfl (fun ls hl => ?_)
  refine lv_aload_n hx hb (by decide +kernel : decode code 1573 = .ok (.aload_n 2, 1)) rfl (lv_at hl 4 rfl) ?_
  refine gCall (own := RL) (as := []) (i := 63) (r := (.inl (some (.int (T2 63 0))), T2)) (M' := Mx154) (d := 60) (rest := []) ⟨hx, hb, hml, hown, hts⟩ gt_thrown (mX_m z ad) (Nat.le_of_eq hz) hX0.1 hK (con_of hst (j := 154) rfl (Nat.le_of_ble_eq_true rfl) (fun w hw => by simp only [List.mem_cons, List.not_mem_nil, or_false] at hw; rcases hw with rfl <;> rfl) (f_X10_thrown_ok (d := 60) thr_ok)) hP hD hS hl.1 (ci := 9) rfl rfl (Nat.le_of_ble_eq_true rfl) (by decide +kernel : decode code 1574 = .ok (.invokevirtual 152, 3)) ⟨by decide, by decide⟩ ⟨by show 100 + 64 * n + 16 + 16 + 16 ≤ 601024; omega, by show 60000 + 384 * n + 96 + 96 + 96 ≤ 7293034; omega⟩ (fun v hv H1 locs1 hP hD hS => ?_) (fun k9 hk9 _ _ _ _ _ _ _ _ _ _ => by cases hk9)
  cases hv
  replace hP : va_P D vwCl (mW ad cy T2) H1 := hP
  refine W.eq (g2 := F0 m 1577 ls [.int (T2 63 0)]) rfl ?_
  refine lv_iload hx hb (by decide +kernel : decode code 1577 = .ok (.iload 5, 2)) (lv_at hl 1 rfl) ?_
  refine lv_icmp_eq (tgt := 1584) hx hb (by decide +kernel : decode code 1579 = .ok (.if_icmp .eq 5, 3)) (by decide) (fun _ => ?_) (fun q => absurd ht q)
  refine lv_iload hx hb (by decide +kernel : decode code 1584 = .ok (.iload 5, 2)) (lv_at hl 1 rfl) ?_
  have KE : W p lau e room_1 s m #[Value.ref b] below meth c H1 locs1 (100 + 64 * n + 16 + 16 + 16) (60000 + 384 * n + 96 + 96 + 96) Q (F0 m 1601 ls []) := by
    refine lv_goto (tgt := 3077) hx hb (by decide +kernel : decode code 1601 = .ok (.goto 1476, 3)) (by decide) ?_
    exact W.widen (by omega) (by omega) (kk T2 _ _ _ hI2 hP hD hS (lv_sub hl [2, 3, 4, 5, 6] rfl))
  refine lv_if_ne (tgt := 1601) hx hb (by decide +kernel : decode code 1586 = .ok (.ifCond .ne 15, 3)) (by decide) (fun _ => KE) (fun q0 => ?_)
  refine lv_aload_n hx hb (by decide +kernel : decode code 1589 = .ok (.aload_n 3, 1)) rfl (lv_at hl 5 rfl) ?_
  refine lv_iconst (v := 0) hx hb (by decide +kernel : decode code 1590 = .ok (.iconst 0, 1)) (by decide) ?_
  refine va_lald hx hb hK hP 75 3 (mW_get (i := 75) rfl) rfl vin0 (by decide +kernel : decode code 1591 = .ok (.laload, 1)) ?_
  rw [show (T2 75 ((0 : Int32).toNatClampNeg)) = b2 from (congrFun h75 0).trans (ho q0)]
  refine lv_iload hx hb (by decide +kernel : decode code 1592 = .ok (.iload 6, 2)) (lv_at hl 0 rfl) ?_
  refine lv_i2l hx hb (by decide +kernel : decode code 1594 = .ok (.i2l, 1)) rfl ?_
  refine W.lcmp hx hb (by decide +kernel : decode code 1595 = .ok (.lcmp, 1)) ?_
  refine lv_if_eq (tgt := 1601) hx hb (by decide +kernel : decode code 1596 = .ok (.ifCond .eq 5, 3)) (by decide) (fun _ => KE) (fun q => absurd (lg_cmp_self _) q)
set_option maxRecDepth 20000 in
theorem gm_lasts : gOK RL 225 Mx241 (RX10, TX10, 23) 2 [1801, 1802, 1803, 116, 1804] = true := by decide +kernel
set_option maxRecDepth 20000 in
theorem gx_lasts : hOK 223 yL_lasts cL_lasts 5 [(0, 10, 13, 24), (0, 10, 17, 13)] 4 [1197, 1198, 105, 1199] = true := by decide +kernel
set_option maxRecDepth 20000 in
set_option maxHeartbeats 4000000 in
theorem lc_lasts (C : LwC p lau s m meth c b L xs z D ad cy) (hn : n < 512) (hi : i + 6 ≤ L) (hI : Inv S) (hP : va_P D vwCl (mW ad cy S) H) (hD : va_D (mAz z) (mW ad cy S)) (hS : va_S (mAz z) s.heap H locs) (hl : lv_has ls 7 (lvs b ad i)) (kk : LK p lau e s m below meth c Q b z D ad cy n i) :
    W p lau e room_1 s m #[Value.ref b] below meth c H locs (100 + 64 * n) (60000 + 384 * n) Q (F0 m 1604 ls []) := by
  obtain ⟨⟨hx, hb, hml, hown, hts⟩, hXs, hbl, hz, hK, hX0, hst, hL⟩ := id C
  obtain ⟨r1, S1, hf, hg⟩ := ag_lasts (F := 6000) (p1 := (sx xs i 1)) (p2 := (sx xs i 2)) (Nat.le_refl _) hI
  refine lv_aload_n hx hb (by decide +kernel : decode code 1604 = .ok (.aload_n 1, 1)) rfl (lv_at hl 1 rfl) ?_
  refine lw_ld C hS hl (x0 := 0) (x4 := 4) rfl rfl 1 (by decide) hi (by decide +kernel : decode code 1605 = .ok (.aload_n 0, 1)) (by decide +kernel : decode code 1606 = .ok (.iload 4, 2)) (by decide +kernel : decode code 1608 = .ok (.iconst 1, 1)) rfl (by decide +kernel : decode code 1609 = .ok (.iadd, 1)) (by decide +kernel : decode code 1610 = .ok (.iaload, 1)) ?_
  refine lw_ld C hS hl (x0 := 0) (x4 := 4) rfl rfl 2 (by decide) hi (by decide +kernel : decode code 1611 = .ok (.aload_n 0, 1)) (by decide +kernel : decode code 1612 = .ok (.iload 4, 2)) (by decide +kernel : decode code 1614 = .ok (.iconst 2, 1)) rfl (by decide +kernel : decode code 1615 = .ok (.iadd, 1)) (by decide +kernel : decode code 1616 = .ok (.iaload, 1)) ?_
  obtain ⟨k0, S2, b2, T2, hHR, hf2, hI2, ht, ho⟩ := hr_of hg
  have h75 : T2 75 = S2 75 := ev75 (f_X10_lasts_ok (d := 51) hf2)
  refine lv_aload_n hx hb (by decide +kernel : decode code 1617 = .ok (.aload_n 3, 1)) rfl (lv_at hl 3 rfl) ?_
  refine gHelp (as := [.ref 0, .int (sx xs i 1), .int (sx xs i 2), .ref 75]) (k := k0) (S2 := S2) (rest := []) ⟨hx, hb, hml, hown, hts⟩ gx_lasts (Nat.le_of_eq hz) hX0 hK (hc_lasts (F := 6000) hst hf hHR) hP hD hS hl.1 (Nat.le_of_ble_eq_true rfl) (by decide +kernel : decode code 1618 = .ok (.invokestatic 223, 3)) ⟨by decide, by decide⟩ ⟨by show 100 + 64 * n + 16 ≤ 601024; omega, by show 60000 + 384 * n + 96 ≤ 7293034; omega⟩ (fun H1 locs1 hP hD hS => ?_)
  refine lv_istore (lv' := (5, .int k0) :: lvs b ad i) hx hb (by decide +kernel : decode code 1621 = .ok (.istore 5, 2)) hl (by decide) rfl (fun ls hl => ?_)
  refine lv_aload_n hx hb (by decide +kernel : decode code 1623 = .ok (.aload_n 2, 1)) rfl (lv_at hl 3 rfl) ?_
  refine lw_ld C hS hl (x0 := 1) (x4 := 5) rfl rfl 1 (by decide) hi (by decide +kernel : decode code 1624 = .ok (.aload_n 0, 1)) (by decide +kernel : decode code 1625 = .ok (.iload 4, 2)) (by decide +kernel : decode code 1627 = .ok (.iconst 1, 1)) rfl (by decide +kernel : decode code 1628 = .ok (.iadd, 1)) (by decide +kernel : decode code 1629 = .ok (.iaload, 1)) ?_
  refine lw_ld C hS hl (x0 := 1) (x4 := 5) rfl rfl 2 (by decide) hi (by decide +kernel : decode code 1630 = .ok (.aload_n 0, 1)) (by decide +kernel : decode code 1631 = .ok (.iload 4, 2)) (by decide +kernel : decode code 1633 = .ok (.iconst 2, 1)) rfl (by decide +kernel : decode code 1634 = .ok (.iadd, 1)) (by decide +kernel : decode code 1635 = .ok (.iaload, 1)) ?_
  refine gCall (own := RL) (as := [.int (sx xs i 1), .int (sx xs i 2)]) (i := 63) (r := (.inl (some (.int b2)), T2)) (M' := Mx241) (d := 60) (rest := []) ⟨hx, hb, hml, hown, hts⟩ gm_lasts (mX_m z ad) (Nat.le_of_eq hz) hX0.1 hK (con_of hst (j := 241) rfl (Nat.le_of_ble_eq_true rfl) (fun w hw => by simp only [List.mem_cons, List.not_mem_nil, or_false] at hw; rcases hw with rfl | rfl | rfl <;> rfl) (f_X10_lasts_ok (d := 51) hf2)) hP hD hS hl.1 (ci := 9) rfl rfl (Nat.le_of_ble_eq_true rfl) (by decide +kernel : decode code 1636 = .ok (.invokevirtual 225, 3)) ⟨by decide, by decide⟩ ⟨by show 100 + 64 * n + 16 + 16 ≤ 601024; omega, by show 60000 + 384 * n + 96 + 96 ≤ 7293034; omega⟩ (fun v hv H1 locs1 hP hD hS => ?_) (fun k9 hk9 _ _ _ _ _ _ _ _ _ _ => by cases hk9)
  cases hv
  refine W.eq (g2 := F0 m 1639 ls [.int b2]) rfl ?_
  refine lv_istore (lv' := (6, .int b2) :: (5, .int k0) :: lvs b ad i) hx hb (by decide +kernel : decode code 1639 = .ok (.istore 6, 2)) hl (by decide) rfl (fun ls hl => ?_)
  refine lv_aload_n hx hb (by decide +kernel : decode code 1641 = .ok (.aload_n 2, 1)) rfl (lv_at hl 4 rfl) ?_
  refine gCall (own := RL) (as := []) (i := 63) (r := (.inl (some (.int (T2 63 0))), T2)) (M' := Mx154) (d := 60) (rest := []) ⟨hx, hb, hml, hown, hts⟩ gt_thrown (mX_m z ad) (Nat.le_of_eq hz) hX0.1 hK (con_of hst (j := 154) rfl (Nat.le_of_ble_eq_true rfl) (fun w hw => by simp only [List.mem_cons, List.not_mem_nil, or_false] at hw; rcases hw with rfl <;> rfl) (f_X10_thrown_ok (d := 60) thr_ok)) hP hD hS hl.1 (ci := 9) rfl rfl (Nat.le_of_ble_eq_true rfl) (by decide +kernel : decode code 1642 = .ok (.invokevirtual 152, 3)) ⟨by decide, by decide⟩ ⟨by show 100 + 64 * n + 16 + 16 + 16 ≤ 601024; omega, by show 60000 + 384 * n + 96 + 96 + 96 ≤ 7293034; omega⟩ (fun v hv H1 locs1 hP hD hS => ?_) (fun k9 hk9 _ _ _ _ _ _ _ _ _ _ => by cases hk9)
  cases hv
  replace hP : va_P D vwCl (mW ad cy T2) H1 := hP
  refine W.eq (g2 := F0 m 1645 ls [.int (T2 63 0)]) rfl ?_
  refine lv_iload hx hb (by decide +kernel : decode code 1645 = .ok (.iload 5, 2)) (lv_at hl 1 rfl) ?_
  refine lv_icmp_eq (tgt := 1652) hx hb (by decide +kernel : decode code 1647 = .ok (.if_icmp .eq 5, 3)) (by decide) (fun _ => ?_) (fun q => absurd ht q)
  refine lv_iload hx hb (by decide +kernel : decode code 1652 = .ok (.iload 5, 2)) (lv_at hl 1 rfl) ?_
  have KE : W p lau e room_1 s m #[Value.ref b] below meth c H1 locs1 (100 + 64 * n + 16 + 16 + 16) (60000 + 384 * n + 96 + 96 + 96) Q (F0 m 1669 ls []) := by
    refine lv_goto (tgt := 3077) hx hb (by decide +kernel : decode code 1669 = .ok (.goto 1408, 3)) (by decide) ?_
    exact W.widen (by omega) (by omega) (kk T2 _ _ _ hI2 hP hD hS (lv_sub hl [2, 3, 4, 5, 6] rfl))
  refine lv_if_ne (tgt := 1669) hx hb (by decide +kernel : decode code 1654 = .ok (.ifCond .ne 15, 3)) (by decide) (fun _ => KE) (fun q0 => ?_)
  refine lv_aload_n hx hb (by decide +kernel : decode code 1657 = .ok (.aload_n 3, 1)) rfl (lv_at hl 5 rfl) ?_
  refine lv_iconst (v := 0) hx hb (by decide +kernel : decode code 1658 = .ok (.iconst 0, 1)) (by decide) ?_
  refine va_lald hx hb hK hP 75 3 (mW_get (i := 75) rfl) rfl vin0 (by decide +kernel : decode code 1659 = .ok (.laload, 1)) ?_
  rw [show (T2 75 ((0 : Int32).toNatClampNeg)) = b2 from (congrFun h75 0).trans (ho q0)]
  refine lv_iload hx hb (by decide +kernel : decode code 1660 = .ok (.iload 6, 2)) (lv_at hl 0 rfl) ?_
  refine lv_i2l hx hb (by decide +kernel : decode code 1662 = .ok (.i2l, 1)) rfl ?_
  refine W.lcmp hx hb (by decide +kernel : decode code 1663 = .ok (.lcmp, 1)) ?_
  refine lv_if_eq (tgt := 1669) hx hb (by decide +kernel : decode code 1664 = .ok (.ifCond .eq 5, 3)) (by decide) (fun _ => KE) (fun q => absurd (lg_cmp_self _) q)
set_option maxRecDepth 20000 in
theorem gm_enough : gOK RL 228 Mx227 (RX10, TX10, 23) 2 [1723, 1724, 1725, 116, 1726] = true := by decide +kernel
set_option maxRecDepth 20000 in
theorem gx_enough : hOK 226 yL_enough cL_enough 5 [(0, 10, 13, 24)] 4 [1205, 1206, 105, 1207] = true := by decide +kernel
set_option maxRecDepth 20000 in
set_option maxHeartbeats 4000000 in
theorem lc_enough (C : LwC p lau s m meth c b L xs z D ad cy) (hn : n < 512) (hi : i + 6 ≤ L) (hI : Inv S) (hP : va_P D vwCl (mW ad cy S) H) (hD : va_D (mAz z) (mW ad cy S)) (hS : va_S (mAz z) s.heap H locs) (hl : lv_has ls 7 (lvs b ad i)) (kk : LK p lau e s m below meth c Q b z D ad cy n i) :
    W p lau e room_1 s m #[Value.ref b] below meth c H locs (100 + 64 * n) (60000 + 384 * n) Q (F0 m 1672 ls []) := by
  obtain ⟨⟨hx, hb, hml, hown, hts⟩, hXs, hbl, hz, hK, hX0, hst, hL⟩ := id C
  obtain ⟨r1, S1, hf, hg⟩ := ag_enough (F := 6000) (p1 := (sx xs i 1)) (p2 := (sx xs i 2)) (Nat.le_refl _) hI
  refine lv_aload_n hx hb (by decide +kernel : decode code 1672 = .ok (.aload_n 1, 1)) rfl (lv_at hl 1 rfl) ?_
  refine lw_ld C hS hl (x0 := 0) (x4 := 4) rfl rfl 1 (by decide) hi (by decide +kernel : decode code 1673 = .ok (.aload_n 0, 1)) (by decide +kernel : decode code 1674 = .ok (.iload 4, 2)) (by decide +kernel : decode code 1676 = .ok (.iconst 1, 1)) rfl (by decide +kernel : decode code 1677 = .ok (.iadd, 1)) (by decide +kernel : decode code 1678 = .ok (.iaload, 1)) ?_
  refine lw_ld C hS hl (x0 := 0) (x4 := 4) rfl rfl 2 (by decide) hi (by decide +kernel : decode code 1679 = .ok (.aload_n 0, 1)) (by decide +kernel : decode code 1680 = .ok (.iload 4, 2)) (by decide +kernel : decode code 1682 = .ok (.iconst 2, 1)) rfl (by decide +kernel : decode code 1683 = .ok (.iadd, 1)) (by decide +kernel : decode code 1684 = .ok (.iaload, 1)) ?_
  obtain ⟨k0, S2, b2, T2, hHR, hf2, hI2, ht, ho⟩ := hr_of hg
  have h75 : T2 75 = S2 75 := ev75 (f_X10_enough_ok (d := 56) hf2)
  refine lv_aload_n hx hb (by decide +kernel : decode code 1685 = .ok (.aload_n 3, 1)) rfl (lv_at hl 3 rfl) ?_
  refine gHelp (as := [.ref 0, .int (sx xs i 1), .int (sx xs i 2), .ref 75]) (k := k0) (S2 := S2) (rest := []) ⟨hx, hb, hml, hown, hts⟩ gx_enough (Nat.le_of_eq hz) hX0 hK (hc_enough (F := 6000) hst hf hHR) hP hD hS hl.1 (Nat.le_of_ble_eq_true rfl) (by decide +kernel : decode code 1686 = .ok (.invokestatic 226, 3)) ⟨by decide, by decide⟩ ⟨by show 100 + 64 * n + 16 ≤ 601024; omega, by show 60000 + 384 * n + 96 ≤ 7293034; omega⟩ (fun H1 locs1 hP hD hS => ?_)
  refine lv_istore (lv' := (5, .int k0) :: lvs b ad i) hx hb (by decide +kernel : decode code 1689 = .ok (.istore 5, 2)) hl (by decide) rfl (fun ls hl => ?_)
  refine lv_aload_n hx hb (by decide +kernel : decode code 1691 = .ok (.aload_n 2, 1)) rfl (lv_at hl 3 rfl) ?_
  refine lw_ld C hS hl (x0 := 1) (x4 := 5) rfl rfl 1 (by decide) hi (by decide +kernel : decode code 1692 = .ok (.aload_n 0, 1)) (by decide +kernel : decode code 1693 = .ok (.iload 4, 2)) (by decide +kernel : decode code 1695 = .ok (.iconst 1, 1)) rfl (by decide +kernel : decode code 1696 = .ok (.iadd, 1)) (by decide +kernel : decode code 1697 = .ok (.iaload, 1)) ?_
  refine lw_ld C hS hl (x0 := 1) (x4 := 5) rfl rfl 2 (by decide) hi (by decide +kernel : decode code 1698 = .ok (.aload_n 0, 1)) (by decide +kernel : decode code 1699 = .ok (.iload 4, 2)) (by decide +kernel : decode code 1701 = .ok (.iconst 2, 1)) rfl (by decide +kernel : decode code 1702 = .ok (.iadd, 1)) (by decide +kernel : decode code 1703 = .ok (.iaload, 1)) ?_
  refine gCall (own := RL) (as := [.int (sx xs i 1), .int (sx xs i 2)]) (i := 63) (r := (.inl (some (.int b2)), T2)) (M' := Mx227) (d := 60) (rest := []) ⟨hx, hb, hml, hown, hts⟩ gm_enough (mX_m z ad) (Nat.le_of_eq hz) hX0.1 hK (con_of hst (j := 227) rfl (Nat.le_of_ble_eq_true rfl) (fun w hw => by simp only [List.mem_cons, List.not_mem_nil, or_false] at hw; rcases hw with rfl | rfl | rfl <;> rfl) (f_X10_enough_ok (d := 56) hf2)) hP hD hS hl.1 (ci := 9) rfl rfl (Nat.le_of_ble_eq_true rfl) (by decide +kernel : decode code 1704 = .ok (.invokevirtual 228, 3)) ⟨by decide, by decide⟩ ⟨by show 100 + 64 * n + 16 + 16 ≤ 601024; omega, by show 60000 + 384 * n + 96 + 96 ≤ 7293034; omega⟩ (fun v hv H1 locs1 hP hD hS => ?_) (fun k9 hk9 _ _ _ _ _ _ _ _ _ _ => by cases hk9)
  cases hv
  refine W.eq (g2 := F0 m 1707 ls [.int b2]) rfl ?_
  refine lv_istore (lv' := (6, .int b2) :: (5, .int k0) :: lvs b ad i) hx hb (by decide +kernel : decode code 1707 = .ok (.istore 6, 2)) hl (by decide) rfl (fun ls hl => ?_)
  refine lv_aload_n hx hb (by decide +kernel : decode code 1709 = .ok (.aload_n 2, 1)) rfl (lv_at hl 4 rfl) ?_
  refine gCall (own := RL) (as := []) (i := 63) (r := (.inl (some (.int (T2 63 0))), T2)) (M' := Mx154) (d := 60) (rest := []) ⟨hx, hb, hml, hown, hts⟩ gt_thrown (mX_m z ad) (Nat.le_of_eq hz) hX0.1 hK (con_of hst (j := 154) rfl (Nat.le_of_ble_eq_true rfl) (fun w hw => by simp only [List.mem_cons, List.not_mem_nil, or_false] at hw; rcases hw with rfl <;> rfl) (f_X10_thrown_ok (d := 60) thr_ok)) hP hD hS hl.1 (ci := 9) rfl rfl (Nat.le_of_ble_eq_true rfl) (by decide +kernel : decode code 1710 = .ok (.invokevirtual 152, 3)) ⟨by decide, by decide⟩ ⟨by show 100 + 64 * n + 16 + 16 + 16 ≤ 601024; omega, by show 60000 + 384 * n + 96 + 96 + 96 ≤ 7293034; omega⟩ (fun v hv H1 locs1 hP hD hS => ?_) (fun k9 hk9 _ _ _ _ _ _ _ _ _ _ => by cases hk9)
  cases hv
  replace hP : va_P D vwCl (mW ad cy T2) H1 := hP
  refine W.eq (g2 := F0 m 1713 ls [.int (T2 63 0)]) rfl ?_
  refine lv_iload hx hb (by decide +kernel : decode code 1713 = .ok (.iload 5, 2)) (lv_at hl 1 rfl) ?_
  refine lv_icmp_eq (tgt := 1720) hx hb (by decide +kernel : decode code 1715 = .ok (.if_icmp .eq 5, 3)) (by decide) (fun _ => ?_) (fun q => absurd ht q)
  refine lv_iload hx hb (by decide +kernel : decode code 1720 = .ok (.iload 5, 2)) (lv_at hl 1 rfl) ?_
  have KE : W p lau e room_1 s m #[Value.ref b] below meth c H1 locs1 (100 + 64 * n + 16 + 16 + 16) (60000 + 384 * n + 96 + 96 + 96) Q (F0 m 1737 ls []) := by
    refine lv_goto (tgt := 3077) hx hb (by decide +kernel : decode code 1737 = .ok (.goto 1340, 3)) (by decide) ?_
    exact W.widen (by omega) (by omega) (kk T2 _ _ _ hI2 hP hD hS (lv_sub hl [2, 3, 4, 5, 6] rfl))
  refine lv_if_ne (tgt := 1737) hx hb (by decide +kernel : decode code 1722 = .ok (.ifCond .ne 15, 3)) (by decide) (fun _ => KE) (fun q0 => ?_)
  refine lv_aload_n hx hb (by decide +kernel : decode code 1725 = .ok (.aload_n 3, 1)) rfl (lv_at hl 5 rfl) ?_
  refine lv_iconst (v := 0) hx hb (by decide +kernel : decode code 1726 = .ok (.iconst 0, 1)) (by decide) ?_
  refine va_lald hx hb hK hP 75 3 (mW_get (i := 75) rfl) rfl vin0 (by decide +kernel : decode code 1727 = .ok (.laload, 1)) ?_
  rw [show (T2 75 ((0 : Int32).toNatClampNeg)) = b2 from (congrFun h75 0).trans (ho q0)]
  refine lv_iload hx hb (by decide +kernel : decode code 1728 = .ok (.iload 6, 2)) (lv_at hl 0 rfl) ?_
  refine lv_i2l hx hb (by decide +kernel : decode code 1730 = .ok (.i2l, 1)) rfl ?_
  refine W.lcmp hx hb (by decide +kernel : decode code 1731 = .ok (.lcmp, 1)) ?_
  refine lv_if_eq (tgt := 1737) hx hb (by decide +kernel : decode code 1732 = .ok (.ifCond .eq 5, 3)) (by decide) (fun _ => KE) (fun q => absurd (lg_cmp_self _) q)
set_option maxRecDepth 20000 in
theorem gm_shifts : gOK RL 231 Mx228 (RX10, TX10, 23) 2 [1728, 1729, 1730, 116, 1731] = true := by decide +kernel
set_option maxRecDepth 20000 in
theorem gx_shifts : hOK 229 yL_shifts cL_shifts 5 [(0, 10, 13, 24)] 4 [1216, 1217, 105, 1218] = true := by decide +kernel
set_option maxRecDepth 20000 in
set_option maxHeartbeats 4000000 in
theorem lc_shifts (C : LwC p lau s m meth c b L xs z D ad cy) (hn : n < 512) (hi : i + 6 ≤ L) (hI : Inv S) (hP : va_P D vwCl (mW ad cy S) H) (hD : va_D (mAz z) (mW ad cy S)) (hS : va_S (mAz z) s.heap H locs) (hl : lv_has ls 7 (lvs b ad i)) (kk : LK p lau e s m below meth c Q b z D ad cy n i) :
    W p lau e room_1 s m #[Value.ref b] below meth c H locs (100 + 64 * n) (60000 + 384 * n) Q (F0 m 1740 ls []) := by
  obtain ⟨⟨hx, hb, hml, hown, hts⟩, hXs, hbl, hz, hK, hX0, hst, hL⟩ := id C
  obtain ⟨r1, S1, hf, hg⟩ := ag_shifts (F := 6000) (p1 := (sx xs i 1)) (p2 := (sx xs i 2)) (Nat.le_refl _) hI
  refine lv_aload_n hx hb (by decide +kernel : decode code 1740 = .ok (.aload_n 1, 1)) rfl (lv_at hl 1 rfl) ?_
  refine lw_ld C hS hl (x0 := 0) (x4 := 4) rfl rfl 1 (by decide) hi (by decide +kernel : decode code 1741 = .ok (.aload_n 0, 1)) (by decide +kernel : decode code 1742 = .ok (.iload 4, 2)) (by decide +kernel : decode code 1744 = .ok (.iconst 1, 1)) rfl (by decide +kernel : decode code 1745 = .ok (.iadd, 1)) (by decide +kernel : decode code 1746 = .ok (.iaload, 1)) ?_
  refine lw_ld C hS hl (x0 := 0) (x4 := 4) rfl rfl 2 (by decide) hi (by decide +kernel : decode code 1747 = .ok (.aload_n 0, 1)) (by decide +kernel : decode code 1748 = .ok (.iload 4, 2)) (by decide +kernel : decode code 1750 = .ok (.iconst 2, 1)) rfl (by decide +kernel : decode code 1751 = .ok (.iadd, 1)) (by decide +kernel : decode code 1752 = .ok (.iaload, 1)) ?_
  obtain ⟨k0, S2, b2, T2, hHR, hf2, hI2, ht, ho⟩ := hr_of hg
  have h75 : T2 75 = S2 75 := ev75 (f_X10_shifts_ok (d := 56) hf2)
  refine lv_aload_n hx hb (by decide +kernel : decode code 1753 = .ok (.aload_n 3, 1)) rfl (lv_at hl 3 rfl) ?_
  refine gHelp (as := [.ref 0, .int (sx xs i 1), .int (sx xs i 2), .ref 75]) (k := k0) (S2 := S2) (rest := []) ⟨hx, hb, hml, hown, hts⟩ gx_shifts (Nat.le_of_eq hz) hX0 hK (hc_shifts (F := 6000) hst hf hHR) hP hD hS hl.1 (Nat.le_of_ble_eq_true rfl) (by decide +kernel : decode code 1754 = .ok (.invokestatic 229, 3)) ⟨by decide, by decide⟩ ⟨by show 100 + 64 * n + 16 ≤ 601024; omega, by show 60000 + 384 * n + 96 ≤ 7293034; omega⟩ (fun H1 locs1 hP hD hS => ?_)
  refine lv_istore (lv' := (5, .int k0) :: lvs b ad i) hx hb (by decide +kernel : decode code 1757 = .ok (.istore 5, 2)) hl (by decide) rfl (fun ls hl => ?_)
  refine lv_aload_n hx hb (by decide +kernel : decode code 1759 = .ok (.aload_n 2, 1)) rfl (lv_at hl 3 rfl) ?_
  refine lw_ld C hS hl (x0 := 1) (x4 := 5) rfl rfl 1 (by decide) hi (by decide +kernel : decode code 1760 = .ok (.aload_n 0, 1)) (by decide +kernel : decode code 1761 = .ok (.iload 4, 2)) (by decide +kernel : decode code 1763 = .ok (.iconst 1, 1)) rfl (by decide +kernel : decode code 1764 = .ok (.iadd, 1)) (by decide +kernel : decode code 1765 = .ok (.iaload, 1)) ?_
  refine lw_ld C hS hl (x0 := 1) (x4 := 5) rfl rfl 2 (by decide) hi (by decide +kernel : decode code 1766 = .ok (.aload_n 0, 1)) (by decide +kernel : decode code 1767 = .ok (.iload 4, 2)) (by decide +kernel : decode code 1769 = .ok (.iconst 2, 1)) rfl (by decide +kernel : decode code 1770 = .ok (.iadd, 1)) (by decide +kernel : decode code 1771 = .ok (.iaload, 1)) ?_
  refine gCall (own := RL) (as := [.int (sx xs i 1), .int (sx xs i 2)]) (i := 63) (r := (.inl (some (.int b2)), T2)) (M' := Mx228) (d := 60) (rest := []) ⟨hx, hb, hml, hown, hts⟩ gm_shifts (mX_m z ad) (Nat.le_of_eq hz) hX0.1 hK (con_of hst (j := 228) rfl (Nat.le_of_ble_eq_true rfl) (fun w hw => by simp only [List.mem_cons, List.not_mem_nil, or_false] at hw; rcases hw with rfl | rfl | rfl <;> rfl) (f_X10_shifts_ok (d := 56) hf2)) hP hD hS hl.1 (ci := 9) rfl rfl (Nat.le_of_ble_eq_true rfl) (by decide +kernel : decode code 1772 = .ok (.invokevirtual 231, 3)) ⟨by decide, by decide⟩ ⟨by show 100 + 64 * n + 16 + 16 ≤ 601024; omega, by show 60000 + 384 * n + 96 + 96 ≤ 7293034; omega⟩ (fun v hv H1 locs1 hP hD hS => ?_) (fun k9 hk9 _ _ _ _ _ _ _ _ _ _ => by cases hk9)
  cases hv
  refine W.eq (g2 := F0 m 1775 ls [.int b2]) rfl ?_
  refine lv_istore (lv' := (6, .int b2) :: (5, .int k0) :: lvs b ad i) hx hb (by decide +kernel : decode code 1775 = .ok (.istore 6, 2)) hl (by decide) rfl (fun ls hl => ?_)
  refine lv_aload_n hx hb (by decide +kernel : decode code 1777 = .ok (.aload_n 2, 1)) rfl (lv_at hl 4 rfl) ?_
  refine gCall (own := RL) (as := []) (i := 63) (r := (.inl (some (.int (T2 63 0))), T2)) (M' := Mx154) (d := 60) (rest := []) ⟨hx, hb, hml, hown, hts⟩ gt_thrown (mX_m z ad) (Nat.le_of_eq hz) hX0.1 hK (con_of hst (j := 154) rfl (Nat.le_of_ble_eq_true rfl) (fun w hw => by simp only [List.mem_cons, List.not_mem_nil, or_false] at hw; rcases hw with rfl <;> rfl) (f_X10_thrown_ok (d := 60) thr_ok)) hP hD hS hl.1 (ci := 9) rfl rfl (Nat.le_of_ble_eq_true rfl) (by decide +kernel : decode code 1778 = .ok (.invokevirtual 152, 3)) ⟨by decide, by decide⟩ ⟨by show 100 + 64 * n + 16 + 16 + 16 ≤ 601024; omega, by show 60000 + 384 * n + 96 + 96 + 96 ≤ 7293034; omega⟩ (fun v hv H1 locs1 hP hD hS => ?_) (fun k9 hk9 _ _ _ _ _ _ _ _ _ _ => by cases hk9)
  cases hv
  replace hP : va_P D vwCl (mW ad cy T2) H1 := hP
  refine W.eq (g2 := F0 m 1781 ls [.int (T2 63 0)]) rfl ?_
  refine lv_iload hx hb (by decide +kernel : decode code 1781 = .ok (.iload 5, 2)) (lv_at hl 1 rfl) ?_
  refine lv_icmp_eq (tgt := 1788) hx hb (by decide +kernel : decode code 1783 = .ok (.if_icmp .eq 5, 3)) (by decide) (fun _ => ?_) (fun q => absurd ht q)
  refine lv_iload hx hb (by decide +kernel : decode code 1788 = .ok (.iload 5, 2)) (lv_at hl 1 rfl) ?_
  have KE : W p lau e room_1 s m #[Value.ref b] below meth c H1 locs1 (100 + 64 * n + 16 + 16 + 16) (60000 + 384 * n + 96 + 96 + 96) Q (F0 m 1805 ls []) := by
    refine lv_goto (tgt := 3077) hx hb (by decide +kernel : decode code 1805 = .ok (.goto 1272, 3)) (by decide) ?_
    exact W.widen (by omega) (by omega) (kk T2 _ _ _ hI2 hP hD hS (lv_sub hl [2, 3, 4, 5, 6] rfl))
  refine lv_if_ne (tgt := 1805) hx hb (by decide +kernel : decode code 1790 = .ok (.ifCond .ne 15, 3)) (by decide) (fun _ => KE) (fun q0 => ?_)
  refine lv_aload_n hx hb (by decide +kernel : decode code 1793 = .ok (.aload_n 3, 1)) rfl (lv_at hl 5 rfl) ?_
  refine lv_iconst (v := 0) hx hb (by decide +kernel : decode code 1794 = .ok (.iconst 0, 1)) (by decide) ?_
  refine va_lald hx hb hK hP 75 3 (mW_get (i := 75) rfl) rfl vin0 (by decide +kernel : decode code 1795 = .ok (.laload, 1)) ?_
  rw [show (T2 75 ((0 : Int32).toNatClampNeg)) = b2 from (congrFun h75 0).trans (ho q0)]
  refine lv_iload hx hb (by decide +kernel : decode code 1796 = .ok (.iload 6, 2)) (lv_at hl 0 rfl) ?_
  refine lv_i2l hx hb (by decide +kernel : decode code 1798 = .ok (.i2l, 1)) rfl ?_
  refine W.lcmp hx hb (by decide +kernel : decode code 1799 = .ok (.lcmp, 1)) ?_
  refine lv_if_eq (tgt := 1805) hx hb (by decide +kernel : decode code 1800 = .ok (.ifCond .eq 5, 3)) (by decide) (fun _ => KE) (fun q => absurd (lg_cmp_self _) q)
end LC1
