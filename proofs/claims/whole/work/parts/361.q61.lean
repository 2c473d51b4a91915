/-! the constructors' contracts -/
theorem cW_in {ws : va_W} {k j : Nat} {x y : Nat × va_E} {r r2 : va_W} : cW (cW ws k x r) (ws.length + j) y r2 = cW ws k x (r.set j y ++ r2) := by
  show (cW ws k x r).set (ws.length + j) y ++ r2 = _
  rw [cW_setr, cW_app]
theorem cW_me {ws : va_W} {k : Nat} {x y : Nat × va_E} {r r2 : va_W} (hk : k < ws.length) : cW (cW ws k x r) k y r2 = cW ws k y (r ++ r2) := by
  show (cW ws k x r).set k y ++ r2 = _
  rw [cW_setk hk, cW_app]
section CT11
variable {p : Program} {lau : Launch} {e : Env} {R : Room} {s : State} {m : MethodId} {args : Array Value} {below : List Frame} {meth : Method} {c : Code} {Q : State → Prop} {z : Nat} {D : va_G} {cy : Nat → ClassId}
variable {H : Heap} {locs : List Loc} {ls : Array Slot} {cells slots pc nL : Nat} {rest : List Value} {cc : ByteArray} {own : String} {ws : va_W} {k : Nat} {x : Nat × va_E} {r : va_W}
theorem cNewQ (F : CallFix p m c cc nL s args mTs own) (hK : va_K D vwCl (mT cy) s) (hP : va_P D vwCl (cW ws k x r) H) (hD : va_D (mAz z) (cW ws k x r)) (hS : va_S (mAz z) s.heap H locs) (hz : z ≤ s.heap.size) (hov : va_AO "LedgeEggs$Cliff" s) {idx : Nat} (hw : Cond.classLink own idx "LedgeEggs$Cliff" ∈ mTs) {n : Int32} (N : Nat) (hn : ¬ n < 0) (hN : n.toNatClampNeg = N) (hN2 : N ≤ 20000) (hcells : cells + 1 ≤ R.cells) (hslots : slots + N ≤ R.slots) (hd : decode cc pc = .ok (.anewarray idx, 3))
    (kk : ∀ (q : Nat) (H1 : Heap), va_P D vwCl (cW ws k x (r ++ [(q, .inl (cy 2, N, .inr (.inr (.inr (.inr (fun _ => none))))))])) H1 → va_D (mAz z) (cW ws k x (r ++ [(q, .inl (cy 2, N, .inr (.inr (.inr (.inr (fun _ => none))))))])) → va_S (mAz z) s.heap H1 locs → W p lau e R s m args below meth c H1 locs (cells + 1) (slots + N) Q (F0 m (pc + 3) ls (.ref q :: rest))) :
    W p lau e R s m args below meth c H locs cells slots Q (F0 m pc ls (.int n :: rest)) := by
  refine va_newq (C := "LedgeEggs$Cliff") F.1 F.2.1 F.2.2.2.1 (F.2.2.2.2 _ hw) hov hK hP hD hS (fun q h => Nat.le_trans hz h) hn hN (by omega) hcells hslots hd (fun q cA H1 hK2 hP hD hS => ?_)
  obtain ⟨kA, comp, -, -, -, e1⟩ := (hK2.2 4 _ rfl).2
  obtain ⟨kA2, comp2, -, -, -, e2⟩ := (hK.2 2 _ rfl).2
  cases Option.some.inj (e1.symm.trans e2)
  rw [cW_app] at hP hD
  exact kk q H1 hP hD hS
theorem cAstq (F : CallFix p m c cc nL s args mTs own) (hK : va_K D vwCl (mT cy) s) (hP : va_P D vwCl (cW ws k x r) H) (hD : va_D (mAz z) (cW ws k x r)) (hS : va_S (mAz z) s.heap H locs) (j j2 ci : Nat) {a v N : Nat} {f : Nat → Option Nat} {vs : List Value} (hj : r[j]? = some (a, .inl (cy 2, N, .inr (.inr (.inr (.inr f)))))) (hj2 : r[j2]? = some (v, .inr (ci, vs))) (hc : vwCl[ci]? = some (RX0, TX0, 1)) {i : Int32} (i0 : Nat) (hi0 : i.toNatClampNeg = i0) (hin : vp_in i N) (hd : decode cc pc = .ok (.aastore, 1))
    (kk : ∀ (H1 : Heap) (locs1 : List Loc), va_P D vwCl (cW ws k x (r.set j (a, .inl (cy 2, N, .inr (.inr (.inr (.inr (va_up f i0 (some v))))))))) H1 → va_D (mAz z) (cW ws k x (r.set j (a, .inl (cy 2, N, .inr (.inr (.inr (.inr (va_up f i0 (some v))))))))) → va_S (mAz z) s.heap H1 locs1 → W p lau e R s m args below meth c H1 locs1 cells slots Q (F0 m (pc + 1) ls rest)) :
    W p lau e R s m args below meth c H locs cells slots Q (F0 m pc ls (.ref v :: .int i :: .ref a :: rest)) := by
  subst hi0
  refine va_astq (r := (RX0, TX0, 1)) F.1 F.2.1 hK hP hD hS (ws.length + j) 2 (ws.length + j2) ci (cW_r.trans hj) rfl (cW_r.trans hj2) hc hin hd (fun H1 l1 hP hD hS => ?_)
  rw [cW_setr] at hP hD
  exact kk H1 l1 hP hD hS
end CT11
set_option maxRecDepth 20000 in
theorem ok_cc_Cliff_0_10 : fOK RX0 0 0 11 [197, 0] = true := by decide +kernel
set_option maxRecDepth 20000 in
theorem ok_cc_Cliff_0_14 : fOK RX0 0 0 11 [197, 0] = true := by decide +kernel
set_option maxRecDepth 20000 in
theorem ok_cc_Cliff_0_22 : fOK RX0 0 0 11 [197, 0] = true := by decide +kernel
set_option maxRecDepth 20000 in
theorem ok_cc_Cliff_0_30 : fOK RX0 0 0 11 [197, 0] = true := by decide +kernel
set_option maxRecDepth 100000 in
set_option maxHeartbeats 8000000 in
theorem cc_Cliff {lau : Launch} {z : Nat} {D : va_G} {cy : Nat → ClassId} {ws : va_W} {k h0 : Nat} (hk : ws[k]? = some (h0, .inr (0, [.null]))) : cCon lau z D cy yX0_init cX0_init 1 2 1 446 260 [.ref h0] ws (fun w1 => ∃ q0, w1 = cW ws k (h0, .inr (0, [.ref q0])) [(q0, .inl (cy 0, 446, .inl (upd (upd (upd (fun _ => 0) 0 30) 2 100) 10 1)))]) := by
  refine Met.ofW (cc := cX0_init) (maxL := 1) (ret := none) (by decide) rfl ?_
  intro p e s m args below meth c s₁ B hml hv
  obtain ⟨rfl, hz, hP, hK, hD, hN⟩ := hv
  have F : CallFix p m c cX0_init 1 s _ mTs RX0 := ⟨B.exec, B.bytes, hml, findClass_of_methodNamed B.named, fun w hw => atoms_spec (ws := cWs yX0_init cX0_init 1) B.pre w (List.mem_cons_of_mem _ hw)⟩
  have hx := B.exec
  have hb := B.bytes
  have hr := B.returns
  have hlocks := B.notSynchronized
  have hin : meth.name = "<init>" := (name_of_methodNamed B.named B.method).1
  have hS : va_S (mAz z) s.heap s.heap [] := va_S.rf
  have hkl : k < ws.length := (List.getElem?_eq_some_iff.mp hk).1
  have hP : va_P D vwCl (cW ws k (h0, .inr (0, [.null])) []) s.heap := by rw [← cW_0 hk]; exact hP
  have hD : va_D (mAz z) (cW ws k (h0, .inr (0, [.null])) []) := by rw [← cW_0 hk]; exact hD
  have hl := lv_entry ([.ref h0]) (n := 1) (Nat.le_of_ble_eq_true rfl)
  show W p lau e (cRm 2 1 446 260) s m _ below meth c s.heap [] 0 0 _ (entryFrame m ([.ref h0] : List Value).toArray 1)
  rw [lg_entry_eq]
  generalize (lg_sl ([.ref h0]) ++ List.replicate (1 - (lg_sl ([.ref h0])).length) Slot.unset).toArray = ls at hl ⊢
  have hl : lv_has ls 1 [(0, .ref h0)] := hl
  refine lv_aload_n hx hb (by decide +kernel : decode cX0_init 0 = .ok (.aload_n 0, 1)) rfl (lv_at hl 0 rfl) ?_
  refine cObj F hl.1 (mIp_mem (i := 196) (by decide +kernel)) (by decide) (Nat.le_of_ble_eq_true rfl) (by decide +kernel : decode cX0_init 1 = .ok (.invokespecial 5, 3)) ?_
  refine lv_aload_n hx hb (by decide +kernel : decode cX0_init 4 = .ok (.aload_n 0, 1)) rfl (lv_at hl 0 rfl) ?_
  refine lv_sipush (v := 446) hx hb (by decide +kernel : decode cX0_init 5 = .ok (.sipush 446, 3)) (by decide) ?_
  refine cNewI F hK hP hD hS hz 446 (by decide) (by decide) (by decide) (Nat.le_of_ble_eq_true rfl) (Nat.le_of_ble_eq_true rfl) (by decide +kernel : decode cX0_init 8 = .ok (.newarray .int, 2)) (fun q0 H hP hD hS => ?_)
  have hP : va_P D vwCl (cW ws k (h0, .inr (0, [.null])) [(q0, .inl (cy 0, 446, .inl (fun _ => 0)))]) H := hP
  have hD : va_D (mAz z) (cW ws k (h0, .inr (0, [.null])) [(q0, .inl (cy 0, 446, .inl (fun _ => 0)))]) := hD
  refine cPutF F hK hkl hP hD hS (a := 0) (ty := tyX0 0) (v := .ref q0) ok_cc_Cliff_0_10 (by decide +kernel : fin9 RX0 0 0 true (tyX0 0) = true) hin rfl rfl (Nat.le_of_ble_eq_true rfl) (by decide +kernel : decode cX0_init 10 = .ok (.putfield 11, 3)) (fun H locs hP hD hS => ?_)
  have hP : va_P D vwCl (cW ws k (h0, .inr (0, [.ref q0])) [(q0, .inl (cy 0, 446, .inl (fun _ => 0)))]) H := hP
  have hD : va_D (mAz z) (cW ws k (h0, .inr (0, [.ref q0])) [(q0, .inl (cy 0, 446, .inl (fun _ => 0)))]) := hD
  refine lv_aload_n hx hb (by decide +kernel : decode cX0_init 13 = .ok (.aload_n 0, 1)) rfl (lv_at hl 0 rfl) ?_
  refine cGet F hK hkl hP (a := 0) ok_cc_Cliff_0_14 rfl (by decide +kernel : decode cX0_init 14 = .ok (.getfield 11, 3)) ?_
  refine lv_iconst (v := 0) hx hb (by decide +kernel : decode cX0_init 17 = .ok (.iconst 0, 1)) (by decide) ?_
  refine lv_bipush (v := 30) hx hb (by decide +kernel : decode cX0_init 18 = .ok (.bipush 30, 2)) (by decide) ?_
  refine cIast F hK hP hD hS 0 rfl 0 (by decide) (by unfold vp_in; decide) (by decide +kernel : decode cX0_init 20 = .ok (.iastore, 1)) (fun H locs hP hD hS => ?_)
  have hP : va_P D vwCl (cW ws k (h0, .inr (0, [.ref q0])) [(q0, .inl (cy 0, 446, .inl (upd (fun _ => 0) 0 30)))]) H := hP
  have hD : va_D (mAz z) (cW ws k (h0, .inr (0, [.ref q0])) [(q0, .inl (cy 0, 446, .inl (upd (fun _ => 0) 0 30)))]) := hD
  refine lv_aload_n hx hb (by decide +kernel : decode cX0_init 21 = .ok (.aload_n 0, 1)) rfl (lv_at hl 0 rfl) ?_
  refine cGet F hK hkl hP (a := 0) ok_cc_Cliff_0_22 rfl (by decide +kernel : decode cX0_init 22 = .ok (.getfield 11, 3)) ?_
  refine lv_iconst (v := 2) hx hb (by decide +kernel : decode cX0_init 25 = .ok (.iconst 2, 1)) (by decide) ?_
  refine lv_bipush (v := 100) hx hb (by decide +kernel : decode cX0_init 26 = .ok (.bipush 100, 2)) (by decide) ?_
  refine cIast F hK hP hD hS 0 rfl 2 (by decide) (by unfold vp_in; decide) (by decide +kernel : decode cX0_init 28 = .ok (.iastore, 1)) (fun H locs hP hD hS => ?_)
  have hP : va_P D vwCl (cW ws k (h0, .inr (0, [.ref q0])) [(q0, .inl (cy 0, 446, .inl (upd (upd (fun _ => 0) 0 30) 2 100)))]) H := hP
  have hD : va_D (mAz z) (cW ws k (h0, .inr (0, [.ref q0])) [(q0, .inl (cy 0, 446, .inl (upd (upd (fun _ => 0) 0 30) 2 100)))]) := hD
  refine lv_aload_n hx hb (by decide +kernel : decode cX0_init 29 = .ok (.aload_n 0, 1)) rfl (lv_at hl 0 rfl) ?_
  refine cGet F hK hkl hP (a := 0) ok_cc_Cliff_0_30 rfl (by decide +kernel : decode cX0_init 30 = .ok (.getfield 11, 3)) ?_
  refine lv_bipush (v := 10) hx hb (by decide +kernel : decode cX0_init 33 = .ok (.bipush 10, 2)) (by decide) ?_
  refine lv_iconst (v := 1) hx hb (by decide +kernel : decode cX0_init 35 = .ok (.iconst 1, 1)) (by decide) ?_
  refine cIast F hK hP hD hS 0 rfl 10 (by decide) (by unfold vp_in; decide) (by decide +kernel : decode cX0_init 36 = .ok (.iastore, 1)) (fun H locs hP hD hS => ?_)
  have hP : va_P D vwCl (cW ws k (h0, .inr (0, [.ref q0])) [(q0, .inl (cy 0, 446, .inl (upd (upd (upd (fun _ => 0) 0 30) 2 100) 10 1)))]) H := hP
  have hD : va_D (mAz z) (cW ws k (h0, .inr (0, [.ref q0])) [(q0, .inl (cy 0, 446, .inl (upd (upd (upd (fun _ => 0) 0 30) 2 100) 10 1)))]) := hD
  exact cRet hx hb hr hlocks ⟨q0, rfl⟩ hP hD hS (Nat.le_of_ble_eq_true rfl) (Nat.le_of_ble_eq_true rfl) (by decide +kernel : decode cX0_init 37 = .ok (.return_, 1))
set_option maxRecDepth 20000 in
theorem ok_cc_Tape_0_10 : fOK RX8 0 7 9 [146, 0] = true := by decide +kernel
set_option maxRecDepth 20000 in
theorem ok_cc_Tape_3_15 : fOK RX8 3 7 15 [149, 0] = true := by decide +kernel
set_option maxRecDepth 100000 in
set_option maxHeartbeats 8000000 in
theorem cc_Tape {lau : Launch} {z : Nat} {D : va_G} {cy : Nat → ClassId} {ws : va_W} {k h0 : Nat} (hk : ws[k]? = some (h0, .inr (7, [.null, .int 0, .int 0, .int 0]))) : cCon lau z D cy yX8_init cX8_init 1 2 1 400 260 [.ref h0] ws (fun w1 => ∃ q0, w1 = cW ws k (h0, .inr (7, [.ref q0, .int 0, .int 0, .int (-1)])) [(q0, .inl (cy 0, 400, .inl (fun _ => 0)))]) := by
  refine Met.ofW (cc := cX8_init) (maxL := 1) (ret := none) (by decide) rfl ?_
  intro p e s m args below meth c s₁ B hml hv
  obtain ⟨rfl, hz, hP, hK, hD, hN⟩ := hv
  have F : CallFix p m c cX8_init 1 s _ mTs RX8 := ⟨B.exec, B.bytes, hml, findClass_of_methodNamed B.named, fun w hw => atoms_spec (ws := cWs yX8_init cX8_init 1) B.pre w (List.mem_cons_of_mem _ hw)⟩
  have hx := B.exec
  have hb := B.bytes
  have hr := B.returns
  have hlocks := B.notSynchronized
  have hin : meth.name = "<init>" := (name_of_methodNamed B.named B.method).1
  have hS : va_S (mAz z) s.heap s.heap [] := va_S.rf
  have hkl : k < ws.length := (List.getElem?_eq_some_iff.mp hk).1
  have hP : va_P D vwCl (cW ws k (h0, .inr (7, [.null, .int 0, .int 0, .int 0])) []) s.heap := by rw [← cW_0 hk]; exact hP
  have hD : va_D (mAz z) (cW ws k (h0, .inr (7, [.null, .int 0, .int 0, .int 0])) []) := by rw [← cW_0 hk]; exact hD
  have hl := lv_entry ([.ref h0]) (n := 1) (Nat.le_of_ble_eq_true rfl)
  show W p lau e (cRm 2 1 400 260) s m _ below meth c s.heap [] 0 0 _ (entryFrame m ([.ref h0] : List Value).toArray 1)
  rw [lg_entry_eq]
  generalize (lg_sl ([.ref h0]) ++ List.replicate (1 - (lg_sl ([.ref h0])).length) Slot.unset).toArray = ls at hl ⊢
  have hl : lv_has ls 1 [(0, .ref h0)] := hl
  refine lv_aload_n hx hb (by decide +kernel : decode cX8_init 0 = .ok (.aload_n 0, 1)) rfl (lv_at hl 0 rfl) ?_
  refine cObj F hl.1 (mIp_mem (i := 145) (by decide +kernel)) (by decide) (Nat.le_of_ble_eq_true rfl) (by decide +kernel : decode cX8_init 1 = .ok (.invokespecial 3, 3)) ?_
  refine lv_aload_n hx hb (by decide +kernel : decode cX8_init 4 = .ok (.aload_n 0, 1)) rfl (lv_at hl 0 rfl) ?_
  refine lv_sipush (v := 400) hx hb (by decide +kernel : decode cX8_init 5 = .ok (.sipush 400, 3)) (by decide) ?_
  refine cNewI F hK hP hD hS hz 400 (by decide) (by decide) (by decide) (Nat.le_of_ble_eq_true rfl) (Nat.le_of_ble_eq_true rfl) (by decide +kernel : decode cX8_init 8 = .ok (.newarray .int, 2)) (fun q0 H hP hD hS => ?_)
  have hP : va_P D vwCl (cW ws k (h0, .inr (7, [.null, .int 0, .int 0, .int 0])) [(q0, .inl (cy 0, 400, .inl (fun _ => 0)))]) H := hP
  have hD : va_D (mAz z) (cW ws k (h0, .inr (7, [.null, .int 0, .int 0, .int 0])) [(q0, .inl (cy 0, 400, .inl (fun _ => 0)))]) := hD
  refine cPutF F hK hkl hP hD hS (a := 0) (ty := tyX8 0) (v := .ref q0) ok_cc_Tape_0_10 (by decide +kernel : fin9 RX8 7 0 true (tyX8 0) = true) hin rfl rfl (Nat.le_of_ble_eq_true rfl) (by decide +kernel : decode cX8_init 10 = .ok (.putfield 9, 3)) (fun H locs hP hD hS => ?_)
  have hP : va_P D vwCl (cW ws k (h0, .inr (7, [.ref q0, .int 0, .int 0, .int 0])) [(q0, .inl (cy 0, 400, .inl (fun _ => 0)))]) H := hP
  have hD : va_D (mAz z) (cW ws k (h0, .inr (7, [.ref q0, .int 0, .int 0, .int 0])) [(q0, .inl (cy 0, 400, .inl (fun _ => 0)))]) := hD
  refine lv_aload_n hx hb (by decide +kernel : decode cX8_init 13 = .ok (.aload_n 0, 1)) rfl (lv_at hl 0 rfl) ?_
  refine lv_iconst (v := (-1)) hx hb (by decide +kernel : decode cX8_init 14 = .ok (.iconst (-1), 1)) (by decide) ?_
  refine cPut F hK hkl hP hD hS (a := 3) (ty := tyX8 3) (v := .int (-1)) ok_cc_Tape_3_15 (by decide +kernel : fin9 RX8 7 3 false (tyX8 3) = true) rfl rfl (Nat.le_of_ble_eq_true rfl) (by decide +kernel : decode cX8_init 15 = .ok (.putfield 15, 3)) (fun H locs hP hD hS => ?_)
  have hP : va_P D vwCl (cW ws k (h0, .inr (7, [.ref q0, .int 0, .int 0, .int (-1)])) [(q0, .inl (cy 0, 400, .inl (fun _ => 0)))]) H := hP
  have hD : va_D (mAz z) (cW ws k (h0, .inr (7, [.ref q0, .int 0, .int 0, .int (-1)])) [(q0, .inl (cy 0, 400, .inl (fun _ => 0)))]) := hD
  exact cRet hx hb hr hlocks ⟨q0, rfl⟩ hP hD hS (Nat.le_of_ble_eq_true rfl) (Nat.le_of_ble_eq_true rfl) (by decide +kernel : decode cX8_init 18 = .ok (.return_, 1))
set_option maxRecDepth 20000 in
theorem ok_cc_Law_0_9 : fOK RX2 0 2 9 [166, 0] = true := by decide +kernel
set_option maxRecDepth 20000 in
theorem ok_cc_Law_1_17 : fOK RX2 1 2 15 [167, 0] = true := by decide +kernel
set_option maxRecDepth 20000 in
theorem ok_cc_Law_2_25 : fOK RX2 2 2 18 [168, 0] = true := by decide +kernel
set_option maxRecDepth 20000 in
theorem ok_cc_Law_3_34 : fOK RX2 3 2 21 [169, 0] = true := by decide +kernel
set_option maxRecDepth 20000 in
theorem ok_cc_Law_4_42 : fOK RX2 4 2 24 [170, 0] = true := by decide +kernel
set_option maxRecDepth 20000 in
theorem ok_cc_Law_5_50 : fOK RX2 5 2 27 [171, 0] = true := by decide +kernel
set_option maxRecDepth 20000 in
theorem ok_cc_Law_6_55 : fOK RX2 6 2 30 [172, 0] = true := by decide +kernel
set_option maxRecDepth 100000 in
set_option maxHeartbeats 8000000 in
theorem cc_Law {lau : Launch} {z : Nat} {D : va_G} {cy : Nat → ClassId} {ws : va_W} {k h0 : Nat} (hk : ws[k]? = some (h0, .inr (2, [.null, .null, .null, .null, .null, .null, .int 0, .int 0]))) : cCon lau z D cy yX2_init cX2_init 1 2 6 469 260 [.ref h0] ws (fun w1 => ∃ q0 q1 q2 q3 q4 q5, w1 = cW ws k (h0, .inr (2, [.ref q0, .ref q1, .ref q2, .ref q3, .ref q4, .ref q5, .int (-1), .int 0])) [(q0, .inl (cy 0, 12, .inl (fun _ => 0))), (q1, .inl (cy 0, 12, .inl (fun _ => 0))), (q2, .inl (cy 0, 12, .inl (fun _ => 0))), (q3, .inl (cy 0, 400, .inl (fun _ => 0))), (q4, .inl (cy 0, 9, .inl (fun _ => 0))), (q5, .inl (cy 0, 24, .inl (fun _ => 0)))]) := by
  refine Met.ofW (cc := cX2_init) (maxL := 1) (ret := none) (by decide) rfl ?_
  intro p e s m args below meth c s₁ B hml hv
  obtain ⟨rfl, hz, hP, hK, hD, hN⟩ := hv
  have F : CallFix p m c cX2_init 1 s _ mTs RX2 := ⟨B.exec, B.bytes, hml, findClass_of_methodNamed B.named, fun w hw => atoms_spec (ws := cWs yX2_init cX2_init 1) B.pre w (List.mem_cons_of_mem _ hw)⟩
  have hx := B.exec
  have hb := B.bytes
  have hr := B.returns
  have hlocks := B.notSynchronized
  have hin : meth.name = "<init>" := (name_of_methodNamed B.named B.method).1
  have hS : va_S (mAz z) s.heap s.heap [] := va_S.rf
  have hkl : k < ws.length := (List.getElem?_eq_some_iff.mp hk).1
  have hP : va_P D vwCl (cW ws k (h0, .inr (2, [.null, .null, .null, .null, .null, .null, .int 0, .int 0])) []) s.heap := by rw [← cW_0 hk]; exact hP
  have hD : va_D (mAz z) (cW ws k (h0, .inr (2, [.null, .null, .null, .null, .null, .null, .int 0, .int 0])) []) := by rw [← cW_0 hk]; exact hD
  have hl := lv_entry ([.ref h0]) (n := 1) (Nat.le_of_ble_eq_true rfl)
  show W p lau e (cRm 2 6 469 260) s m _ below meth c s.heap [] 0 0 _ (entryFrame m ([.ref h0] : List Value).toArray 1)
  rw [lg_entry_eq]
  generalize (lg_sl ([.ref h0]) ++ List.replicate (1 - (lg_sl ([.ref h0])).length) Slot.unset).toArray = ls at hl ⊢
  have hl : lv_has ls 1 [(0, .ref h0)] := hl
  refine lv_aload_n hx hb (by decide +kernel : decode cX2_init 0 = .ok (.aload_n 0, 1)) rfl (lv_at hl 0 rfl) ?_
  refine cObj F hl.1 (mIp_mem (i := 165) (by decide +kernel)) (by decide) (Nat.le_of_ble_eq_true rfl) (by decide +kernel : decode cX2_init 1 = .ok (.invokespecial 3, 3)) ?_
  refine lv_aload_n hx hb (by decide +kernel : decode cX2_init 4 = .ok (.aload_n 0, 1)) rfl (lv_at hl 0 rfl) ?_
  refine lv_bipush (v := 12) hx hb (by decide +kernel : decode cX2_init 5 = .ok (.bipush 12, 2)) (by decide) ?_
  refine cNewI F hK hP hD hS hz 12 (by decide) (by decide) (by decide) (Nat.le_of_ble_eq_true rfl) (Nat.le_of_ble_eq_true rfl) (by decide +kernel : decode cX2_init 7 = .ok (.newarray .int, 2)) (fun q0 H hP hD hS => ?_)
  have hP : va_P D vwCl (cW ws k (h0, .inr (2, [.null, .null, .null, .null, .null, .null, .int 0, .int 0])) [(q0, .inl (cy 0, 12, .inl (fun _ => 0)))]) H := hP
  have hD : va_D (mAz z) (cW ws k (h0, .inr (2, [.null, .null, .null, .null, .null, .null, .int 0, .int 0])) [(q0, .inl (cy 0, 12, .inl (fun _ => 0)))]) := hD
  refine cPutF F hK hkl hP hD hS (a := 0) (ty := tyX2 0) (v := .ref q0) ok_cc_Law_0_9 (by decide +kernel : fin9 RX2 2 0 true (tyX2 0) = true) hin rfl rfl (Nat.le_of_ble_eq_true rfl) (by decide +kernel : decode cX2_init 9 = .ok (.putfield 9, 3)) (fun H locs hP hD hS => ?_)
  have hP : va_P D vwCl (cW ws k (h0, .inr (2, [.ref q0, .null, .null, .null, .null, .null, .int 0, .int 0])) [(q0, .inl (cy 0, 12, .inl (fun _ => 0)))]) H := hP
  have hD : va_D (mAz z) (cW ws k (h0, .inr (2, [.ref q0, .null, .null, .null, .null, .null, .int 0, .int 0])) [(q0, .inl (cy 0, 12, .inl (fun _ => 0)))]) := hD
  refine lv_aload_n hx hb (by decide +kernel : decode cX2_init 12 = .ok (.aload_n 0, 1)) rfl (lv_at hl 0 rfl) ?_
  refine lv_bipush (v := 12) hx hb (by decide +kernel : decode cX2_init 13 = .ok (.bipush 12, 2)) (by decide) ?_
  refine cNewI F hK hP hD hS hz 12 (by decide) (by decide) (by decide) (Nat.le_of_ble_eq_true rfl) (Nat.le_of_ble_eq_true rfl) (by decide +kernel : decode cX2_init 15 = .ok (.newarray .int, 2)) (fun q1 H hP hD hS => ?_)
  have hP : va_P D vwCl (cW ws k (h0, .inr (2, [.ref q0, .null, .null, .null, .null, .null, .int 0, .int 0])) [(q0, .inl (cy 0, 12, .inl (fun _ => 0))), (q1, .inl (cy 0, 12, .inl (fun _ => 0)))]) H := hP
  have hD : va_D (mAz z) (cW ws k (h0, .inr (2, [.ref q0, .null, .null, .null, .null, .null, .int 0, .int 0])) [(q0, .inl (cy 0, 12, .inl (fun _ => 0))), (q1, .inl (cy 0, 12, .inl (fun _ => 0)))]) := hD
  refine cPutF F hK hkl hP hD hS (a := 1) (ty := tyX2 1) (v := .ref q1) ok_cc_Law_1_17 (by decide +kernel : fin9 RX2 2 1 true (tyX2 1) = true) hin rfl rfl (Nat.le_of_ble_eq_true rfl) (by decide +kernel : decode cX2_init 17 = .ok (.putfield 15, 3)) (fun H locs hP hD hS => ?_)
  have hP : va_P D vwCl (cW ws k (h0, .inr (2, [.ref q0, .ref q1, .null, .null, .null, .null, .int 0, .int 0])) [(q0, .inl (cy 0, 12, .inl (fun _ => 0))), (q1, .inl (cy 0, 12, .inl (fun _ => 0)))]) H := hP
  have hD : va_D (mAz z) (cW ws k (h0, .inr (2, [.ref q0, .ref q1, .null, .null, .null, .null, .int 0, .int 0])) [(q0, .inl (cy 0, 12, .inl (fun _ => 0))), (q1, .inl (cy 0, 12, .inl (fun _ => 0)))]) := hD
  refine lv_aload_n hx hb (by decide +kernel : decode cX2_init 20 = .ok (.aload_n 0, 1)) rfl (lv_at hl 0 rfl) ?_
  refine lv_bipush (v := 12) hx hb (by decide +kernel : decode cX2_init 21 = .ok (.bipush 12, 2)) (by decide) ?_
  refine cNewI F hK hP hD hS hz 12 (by decide) (by decide) (by decide) (Nat.le_of_ble_eq_true rfl) (Nat.le_of_ble_eq_true rfl) (by decide +kernel : decode cX2_init 23 = .ok (.newarray .int, 2)) (fun q2 H hP hD hS => ?_)
  have hP : va_P D vwCl (cW ws k (h0, .inr (2, [.ref q0, .ref q1, .null, .null, .null, .null, .int 0, .int 0])) [(q0, .inl (cy 0, 12, .inl (fun _ => 0))), (q1, .inl (cy 0, 12, .inl (fun _ => 0))), (q2, .inl (cy 0, 12, .inl (fun _ => 0)))]) H := hP
  have hD : va_D (mAz z) (cW ws k (h0, .inr (2, [.ref q0, .ref q1, .null, .null, .null, .null, .int 0, .int 0])) [(q0, .inl (cy 0, 12, .inl (fun _ => 0))), (q1, .inl (cy 0, 12, .inl (fun _ => 0))), (q2, .inl (cy 0, 12, .inl (fun _ => 0)))]) := hD
  refine cPutF F hK hkl hP hD hS (a := 2) (ty := tyX2 2) (v := .ref q2) ok_cc_Law_2_25 (by decide +kernel : fin9 RX2 2 2 true (tyX2 2) = true) hin rfl rfl (Nat.le_of_ble_eq_true rfl) (by decide +kernel : decode cX2_init 25 = .ok (.putfield 18, 3)) (fun H locs hP hD hS => ?_)
  have hP : va_P D vwCl (cW ws k (h0, .inr (2, [.ref q0, .ref q1, .ref q2, .null, .null, .null, .int 0, .int 0])) [(q0, .inl (cy 0, 12, .inl (fun _ => 0))), (q1, .inl (cy 0, 12, .inl (fun _ => 0))), (q2, .inl (cy 0, 12, .inl (fun _ => 0)))]) H := hP
  have hD : va_D (mAz z) (cW ws k (h0, .inr (2, [.ref q0, .ref q1, .ref q2, .null, .null, .null, .int 0, .int 0])) [(q0, .inl (cy 0, 12, .inl (fun _ => 0))), (q1, .inl (cy 0, 12, .inl (fun _ => 0))), (q2, .inl (cy 0, 12, .inl (fun _ => 0)))]) := hD
  refine lv_aload_n hx hb (by decide +kernel : decode cX2_init 28 = .ok (.aload_n 0, 1)) rfl (lv_at hl 0 rfl) ?_
  refine lv_sipush (v := 400) hx hb (by decide +kernel : decode cX2_init 29 = .ok (.sipush 400, 3)) (by decide) ?_
  refine cNewI F hK hP hD hS hz 400 (by decide) (by decide) (by decide) (Nat.le_of_ble_eq_true rfl) (Nat.le_of_ble_eq_true rfl) (by decide +kernel : decode cX2_init 32 = .ok (.newarray .int, 2)) (fun q3 H hP hD hS => ?_)
  have hP : va_P D vwCl (cW ws k (h0, .inr (2, [.ref q0, .ref q1, .ref q2, .null, .null, .null, .int 0, .int 0])) [(q0, .inl (cy 0, 12, .inl (fun _ => 0))), (q1, .inl (cy 0, 12, .inl (fun _ => 0))), (q2, .inl (cy 0, 12, .inl (fun _ => 0))), (q3, .inl (cy 0, 400, .inl (fun _ => 0)))]) H := hP
  have hD : va_D (mAz z) (cW ws k (h0, .inr (2, [.ref q0, .ref q1, .ref q2, .null, .null, .null, .int 0, .int 0])) [(q0, .inl (cy 0, 12, .inl (fun _ => 0))), (q1, .inl (cy 0, 12, .inl (fun _ => 0))), (q2, .inl (cy 0, 12, .inl (fun _ => 0))), (q3, .inl (cy 0, 400, .inl (fun _ => 0)))]) := hD
  refine cPutF F hK hkl hP hD hS (a := 3) (ty := tyX2 3) (v := .ref q3) ok_cc_Law_3_34 (by decide +kernel : fin9 RX2 2 3 true (tyX2 3) = true) hin rfl rfl (Nat.le_of_ble_eq_true rfl) (by decide +kernel : decode cX2_init 34 = .ok (.putfield 21, 3)) (fun H locs hP hD hS => ?_)
  have hP : va_P D vwCl (cW ws k (h0, .inr (2, [.ref q0, .ref q1, .ref q2, .ref q3, .null, .null, .int 0, .int 0])) [(q0, .inl (cy 0, 12, .inl (fun _ => 0))), (q1, .inl (cy 0, 12, .inl (fun _ => 0))), (q2, .inl (cy 0, 12, .inl (fun _ => 0))), (q3, .inl (cy 0, 400, .inl (fun _ => 0)))]) H := hP
  have hD : va_D (mAz z) (cW ws k (h0, .inr (2, [.ref q0, .ref q1, .ref q2, .ref q3, .null, .null, .int 0, .int 0])) [(q0, .inl (cy 0, 12, .inl (fun _ => 0))), (q1, .inl (cy 0, 12, .inl (fun _ => 0))), (q2, .inl (cy 0, 12, .inl (fun _ => 0))), (q3, .inl (cy 0, 400, .inl (fun _ => 0)))]) := hD
  refine lv_aload_n hx hb (by decide +kernel : decode cX2_init 37 = .ok (.aload_n 0, 1)) rfl (lv_at hl 0 rfl) ?_
  refine lv_bipush (v := 9) hx hb (by decide +kernel : decode cX2_init 38 = .ok (.bipush 9, 2)) (by decide) ?_
  refine cNewI F hK hP hD hS hz 9 (by decide) (by decide) (by decide) (Nat.le_of_ble_eq_true rfl) (Nat.le_of_ble_eq_true rfl) (by decide +kernel : decode cX2_init 40 = .ok (.newarray .int, 2)) (fun q4 H hP hD hS => ?_)
  have hP : va_P D vwCl (cW ws k (h0, .inr (2, [.ref q0, .ref q1, .ref q2, .ref q3, .null, .null, .int 0, .int 0])) [(q0, .inl (cy 0, 12, .inl (fun _ => 0))), (q1, .inl (cy 0, 12, .inl (fun _ => 0))), (q2, .inl (cy 0, 12, .inl (fun _ => 0))), (q3, .inl (cy 0, 400, .inl (fun _ => 0))), (q4, .inl (cy 0, 9, .inl (fun _ => 0)))]) H := hP
  have hD : va_D (mAz z) (cW ws k (h0, .inr (2, [.ref q0, .ref q1, .ref q2, .ref q3, .null, .null, .int 0, .int 0])) [(q0, .inl (cy 0, 12, .inl (fun _ => 0))), (q1, .inl (cy 0, 12, .inl (fun _ => 0))), (q2, .inl (cy 0, 12, .inl (fun _ => 0))), (q3, .inl (cy 0, 400, .inl (fun _ => 0))), (q4, .inl (cy 0, 9, .inl (fun _ => 0)))]) := hD
  refine cPutF F hK hkl hP hD hS (a := 4) (ty := tyX2 4) (v := .ref q4) ok_cc_Law_4_42 (by decide +kernel : fin9 RX2 2 4 true (tyX2 4) = true) hin rfl rfl (Nat.le_of_ble_eq_true rfl) (by decide +kernel : decode cX2_init 42 = .ok (.putfield 24, 3)) (fun H locs hP hD hS => ?_)
  have hP : va_P D vwCl (cW ws k (h0, .inr (2, [.ref q0, .ref q1, .ref q2, .ref q3, .ref q4, .null, .int 0, .int 0])) [(q0, .inl (cy 0, 12, .inl (fun _ => 0))), (q1, .inl (cy 0, 12, .inl (fun _ => 0))), (q2, .inl (cy 0, 12, .inl (fun _ => 0))), (q3, .inl (cy 0, 400, .inl (fun _ => 0))), (q4, .inl (cy 0, 9, .inl (fun _ => 0)))]) H := hP
  have hD : va_D (mAz z) (cW ws k (h0, .inr (2, [.ref q0, .ref q1, .ref q2, .ref q3, .ref q4, .null, .int 0, .int 0])) [(q0, .inl (cy 0, 12, .inl (fun _ => 0))), (q1, .inl (cy 0, 12, .inl (fun _ => 0))), (q2, .inl (cy 0, 12, .inl (fun _ => 0))), (q3, .inl (cy 0, 400, .inl (fun _ => 0))), (q4, .inl (cy 0, 9, .inl (fun _ => 0)))]) := hD
  refine lv_aload_n hx hb (by decide +kernel : decode cX2_init 45 = .ok (.aload_n 0, 1)) rfl (lv_at hl 0 rfl) ?_
  refine lv_bipush (v := 24) hx hb (by decide +kernel : decode cX2_init 46 = .ok (.bipush 24, 2)) (by decide) ?_
  refine cNewI F hK hP hD hS hz 24 (by decide) (by decide) (by decide) (Nat.le_of_ble_eq_true rfl) (Nat.le_of_ble_eq_true rfl) (by decide +kernel : decode cX2_init 48 = .ok (.newarray .int, 2)) (fun q5 H hP hD hS => ?_)
  have hP : va_P D vwCl (cW ws k (h0, .inr (2, [.ref q0, .ref q1, .ref q2, .ref q3, .ref q4, .null, .int 0, .int 0])) [(q0, .inl (cy 0, 12, .inl (fun _ => 0))), (q1, .inl (cy 0, 12, .inl (fun _ => 0))), (q2, .inl (cy 0, 12, .inl (fun _ => 0))), (q3, .inl (cy 0, 400, .inl (fun _ => 0))), (q4, .inl (cy 0, 9, .inl (fun _ => 0))), (q5, .inl (cy 0, 24, .inl (fun _ => 0)))]) H := hP
  have hD : va_D (mAz z) (cW ws k (h0, .inr (2, [.ref q0, .ref q1, .ref q2, .ref q3, .ref q4, .null, .int 0, .int 0])) [(q0, .inl (cy 0, 12, .inl (fun _ => 0))), (q1, .inl (cy 0, 12, .inl (fun _ => 0))), (q2, .inl (cy 0, 12, .inl (fun _ => 0))), (q3, .inl (cy 0, 400, .inl (fun _ => 0))), (q4, .inl (cy 0, 9, .inl (fun _ => 0))), (q5, .inl (cy 0, 24, .inl (fun _ => 0)))]) := hD
  refine cPutF F hK hkl hP hD hS (a := 5) (ty := tyX2 5) (v := .ref q5) ok_cc_Law_5_50 (by decide +kernel : fin9 RX2 2 5 true (tyX2 5) = true) hin rfl rfl (Nat.le_of_ble_eq_true rfl) (by decide +kernel : decode cX2_init 50 = .ok (.putfield 27, 3)) (fun H locs hP hD hS => ?_)
  have hP : va_P D vwCl (cW ws k (h0, .inr (2, [.ref q0, .ref q1, .ref q2, .ref q3, .ref q4, .ref q5, .int 0, .int 0])) [(q0, .inl (cy 0, 12, .inl (fun _ => 0))), (q1, .inl (cy 0, 12, .inl (fun _ => 0))), (q2, .inl (cy 0, 12, .inl (fun _ => 0))), (q3, .inl (cy 0, 400, .inl (fun _ => 0))), (q4, .inl (cy 0, 9, .inl (fun _ => 0))), (q5, .inl (cy 0, 24, .inl (fun _ => 0)))]) H := hP
  have hD : va_D (mAz z) (cW ws k (h0, .inr (2, [.ref q0, .ref q1, .ref q2, .ref q3, .ref q4, .ref q5, .int 0, .int 0])) [(q0, .inl (cy 0, 12, .inl (fun _ => 0))), (q1, .inl (cy 0, 12, .inl (fun _ => 0))), (q2, .inl (cy 0, 12, .inl (fun _ => 0))), (q3, .inl (cy 0, 400, .inl (fun _ => 0))), (q4, .inl (cy 0, 9, .inl (fun _ => 0))), (q5, .inl (cy 0, 24, .inl (fun _ => 0)))]) := hD
  refine lv_aload_n hx hb (by decide +kernel : decode cX2_init 53 = .ok (.aload_n 0, 1)) rfl (lv_at hl 0 rfl) ?_
  refine lv_iconst (v := (-1)) hx hb (by decide +kernel : decode cX2_init 54 = .ok (.iconst (-1), 1)) (by decide) ?_
  refine cPut F hK hkl hP hD hS (a := 6) (ty := tyX2 6) (v := .int (-1)) ok_cc_Law_6_55 (by decide +kernel : fin9 RX2 2 6 false (tyX2 6) = true) rfl rfl (Nat.le_of_ble_eq_true rfl) (by decide +kernel : decode cX2_init 55 = .ok (.putfield 30, 3)) (fun H locs hP hD hS => ?_)
  have hP : va_P D vwCl (cW ws k (h0, .inr (2, [.ref q0, .ref q1, .ref q2, .ref q3, .ref q4, .ref q5, .int (-1), .int 0])) [(q0, .inl (cy 0, 12, .inl (fun _ => 0))), (q1, .inl (cy 0, 12, .inl (fun _ => 0))), (q2, .inl (cy 0, 12, .inl (fun _ => 0))), (q3, .inl (cy 0, 400, .inl (fun _ => 0))), (q4, .inl (cy 0, 9, .inl (fun _ => 0))), (q5, .inl (cy 0, 24, .inl (fun _ => 0)))]) H := hP
  have hD : va_D (mAz z) (cW ws k (h0, .inr (2, [.ref q0, .ref q1, .ref q2, .ref q3, .ref q4, .ref q5, .int (-1), .int 0])) [(q0, .inl (cy 0, 12, .inl (fun _ => 0))), (q1, .inl (cy 0, 12, .inl (fun _ => 0))), (q2, .inl (cy 0, 12, .inl (fun _ => 0))), (q3, .inl (cy 0, 400, .inl (fun _ => 0))), (q4, .inl (cy 0, 9, .inl (fun _ => 0))), (q5, .inl (cy 0, 24, .inl (fun _ => 0)))]) := hD
  exact cRet hx hb hr hlocks ⟨q0, q1, q2, q3, q4, q5, rfl⟩ hP hD hS (Nat.le_of_ble_eq_true rfl) (Nat.le_of_ble_eq_true rfl) (by decide +kernel : decode cX2_init 58 = .ok (.return_, 1))
set_option maxRecDepth 20000 in
theorem ok_cc_LinesText_IsleText_0_6 : fOK RX4 0 1 7 [211, 0] = true := by decide +kernel
set_option maxRecDepth 100000 in
set_option maxHeartbeats 8000000 in
theorem cc_LinesText_IsleText {lau : Launch} {z : Nat} {D : va_G} {cy : Nat → ClassId} {ws : va_W} {k h0 a1 : Nat} {f0 f1 : Value} (hk : ws[k]? = some (h0, .inr (1, [f0, f1]))) : cCon lau z D cy yX4_init cX4_init 2 2 0 0 260 [.ref h0, .ref a1] ws (fun w1 => w1 = cW ws k (h0, .inr (1, [.ref a1, f1])) []) := by
  refine Met.ofW (cc := cX4_init) (maxL := 2) (ret := none) (by decide) rfl ?_
  intro p e s m args below meth c s₁ B hml hv
  obtain ⟨rfl, hz, hP, hK, hD, hN⟩ := hv
  have F : CallFix p m c cX4_init 2 s _ mTs RX4 := ⟨B.exec, B.bytes, hml, findClass_of_methodNamed B.named, fun w hw => atoms_spec (ws := cWs yX4_init cX4_init 2) B.pre w (List.mem_cons_of_mem _ hw)⟩
  have hx := B.exec
  have hb := B.bytes
  have hr := B.returns
  have hlocks := B.notSynchronized
  have hin : meth.name = "<init>" := (name_of_methodNamed B.named B.method).1
  have hS : va_S (mAz z) s.heap s.heap [] := va_S.rf
  have hkl : k < ws.length := (List.getElem?_eq_some_iff.mp hk).1
  have hP : va_P D vwCl (cW ws k (h0, .inr (1, [f0, f1])) []) s.heap := by rw [← cW_0 hk]; exact hP
  have hD : va_D (mAz z) (cW ws k (h0, .inr (1, [f0, f1])) []) := by rw [← cW_0 hk]; exact hD
  have hl := lv_entry ([.ref h0, .ref a1]) (n := 2) (Nat.le_of_ble_eq_true rfl)
  show W p lau e (cRm 2 0 0 260) s m _ below meth c s.heap [] 0 0 _ (entryFrame m ([.ref h0, .ref a1] : List Value).toArray 2)
  rw [lg_entry_eq]
  generalize (lg_sl ([.ref h0, .ref a1]) ++ List.replicate (2 - (lg_sl ([.ref h0, .ref a1])).length) Slot.unset).toArray = ls at hl ⊢
  have hl : lv_has ls 2 [(0, .ref h0), (1, .ref a1)] := hl
  refine lv_aload_n hx hb (by decide +kernel : decode cX4_init 0 = .ok (.aload_n 0, 1)) rfl (lv_at hl 0 rfl) ?_
  refine cObj F hl.1 (mIp_mem (i := 209) (by decide +kernel)) (by decide) (Nat.le_of_ble_eq_true rfl) (by decide +kernel : decode cX4_init 1 = .ok (.invokespecial 1, 3)) ?_
  refine lv_aload_n hx hb (by decide +kernel : decode cX4_init 4 = .ok (.aload_n 0, 1)) rfl (lv_at hl 0 rfl) ?_
  refine lv_aload_n hx hb (by decide +kernel : decode cX4_init 5 = .ok (.aload_n 1, 1)) rfl (lv_at hl 1 rfl) ?_
  refine cPutF F hK hkl hP hD hS (a := 0) (ty := tyX1 0) (v := .ref a1) ok_cc_LinesText_IsleText_0_6 (by decide +kernel : fin9 RX4 1 0 true (tyX1 0) = true) hin rfl rfl (Nat.le_of_ble_eq_true rfl) (by decide +kernel : decode cX4_init 6 = .ok (.putfield 7, 3)) (fun H locs hP hD hS => ?_)
  have hP : va_P D vwCl (cW ws k (h0, .inr (1, [.ref a1, f1])) []) H := hP
  have hD : va_D (mAz z) (cW ws k (h0, .inr (1, [.ref a1, f1])) []) := hD
  exact cRet hx hb hr hlocks rfl hP hD hS (Nat.le_of_ble_eq_true rfl) (Nat.le_of_ble_eq_true rfl) (by decide +kernel : decode cX4_init 9 = .ok (.return_, 1))
set_option maxRecDepth 20000 in
theorem ok_cc_LinesText_LawText_0_6 : fOK RX4 0 3 7 [211, 0] = true := by decide +kernel
set_option maxRecDepth 100000 in
set_option maxHeartbeats 8000000 in
theorem cc_LinesText_LawText {lau : Launch} {z : Nat} {D : va_G} {cy : Nat → ClassId} {ws : va_W} {k h0 a1 : Nat} {f0 f1 : Value} (hk : ws[k]? = some (h0, .inr (3, [f0, f1]))) : cCon lau z D cy yX4_init cX4_init 2 2 0 0 260 [.ref h0, .ref a1] ws (fun w1 => w1 = cW ws k (h0, .inr (3, [.ref a1, f1])) []) := by
  refine Met.ofW (cc := cX4_init) (maxL := 2) (ret := none) (by decide) rfl ?_
  intro p e s m args below meth c s₁ B hml hv
  obtain ⟨rfl, hz, hP, hK, hD, hN⟩ := hv
  have F : CallFix p m c cX4_init 2 s _ mTs RX4 := ⟨B.exec, B.bytes, hml, findClass_of_methodNamed B.named, fun w hw => atoms_spec (ws := cWs yX4_init cX4_init 2) B.pre w (List.mem_cons_of_mem _ hw)⟩
  have hx := B.exec
  have hb := B.bytes
  have hr := B.returns
  have hlocks := B.notSynchronized
  have hin : meth.name = "<init>" := (name_of_methodNamed B.named B.method).1
  have hS : va_S (mAz z) s.heap s.heap [] := va_S.rf
  have hkl : k < ws.length := (List.getElem?_eq_some_iff.mp hk).1
  have hP : va_P D vwCl (cW ws k (h0, .inr (3, [f0, f1])) []) s.heap := by rw [← cW_0 hk]; exact hP
  have hD : va_D (mAz z) (cW ws k (h0, .inr (3, [f0, f1])) []) := by rw [← cW_0 hk]; exact hD
  have hl := lv_entry ([.ref h0, .ref a1]) (n := 2) (Nat.le_of_ble_eq_true rfl)
  show W p lau e (cRm 2 0 0 260) s m _ below meth c s.heap [] 0 0 _ (entryFrame m ([.ref h0, .ref a1] : List Value).toArray 2)
  rw [lg_entry_eq]
  generalize (lg_sl ([.ref h0, .ref a1]) ++ List.replicate (2 - (lg_sl ([.ref h0, .ref a1])).length) Slot.unset).toArray = ls at hl ⊢
  have hl : lv_has ls 2 [(0, .ref h0), (1, .ref a1)] := hl
  refine lv_aload_n hx hb (by decide +kernel : decode cX4_init 0 = .ok (.aload_n 0, 1)) rfl (lv_at hl 0 rfl) ?_
  refine cObj F hl.1 (mIp_mem (i := 209) (by decide +kernel)) (by decide) (Nat.le_of_ble_eq_true rfl) (by decide +kernel : decode cX4_init 1 = .ok (.invokespecial 1, 3)) ?_
  refine lv_aload_n hx hb (by decide +kernel : decode cX4_init 4 = .ok (.aload_n 0, 1)) rfl (lv_at hl 0 rfl) ?_
  refine lv_aload_n hx hb (by decide +kernel : decode cX4_init 5 = .ok (.aload_n 1, 1)) rfl (lv_at hl 1 rfl) ?_
  refine cPutF F hK hkl hP hD hS (a := 0) (ty := tyX3 0) (v := .ref a1) ok_cc_LinesText_LawText_0_6 (by decide +kernel : fin9 RX4 3 0 true (tyX3 0) = true) hin rfl rfl (Nat.le_of_ble_eq_true rfl) (by decide +kernel : decode cX4_init 6 = .ok (.putfield 7, 3)) (fun H locs hP hD hS => ?_)
  have hP : va_P D vwCl (cW ws k (h0, .inr (3, [.ref a1, f1])) []) H := hP
  have hD : va_D (mAz z) (cW ws k (h0, .inr (3, [.ref a1, f1])) []) := hD
  exact cRet hx hb hr hlocks rfl hP hD hS (Nat.le_of_ble_eq_true rfl) (Nat.le_of_ble_eq_true rfl) (by decide +kernel : decode cX4_init 9 = .ok (.return_, 1))
set_option maxRecDepth 20000 in
theorem ik_cc_IsleText_3 : iOK RX1 3 yX4_init cX4_init 2 1 [206, 207, 110, 208] = true := by decide +kernel
set_option maxRecDepth 20000 in
theorem ok_cc_IsleText_1_7 : fOK RX1 1 1 9 [210, 0] = true := by decide +kernel
set_option maxRecDepth 100000 in
set_option maxHeartbeats 8000000 in
theorem cc_IsleText {lau : Launch} {z : Nat} {D : va_G} {cy : Nat → ClassId} {ws : va_W} {k h0 a1 a2 : Nat} (hk : ws[k]? = some (h0, .inr (1, [.null, .null]))) : cCon lau z D cy yX1_init cX1_init 3 4 0 0 460 [.ref h0, .ref a1, .ref a2] ws (fun w1 => w1 = cW ws k (h0, .inr (1, [.ref a1, .ref a2])) []) := by
  refine Met.ofW (cc := cX1_init) (maxL := 3) (ret := none) (by decide) rfl ?_
  intro p e s m args below meth c s₁ B hml hv
  obtain ⟨rfl, hz, hP, hK, hD, hN⟩ := hv
  have F : CallFix p m c cX1_init 3 s _ mTs RX1 := ⟨B.exec, B.bytes, hml, findClass_of_methodNamed B.named, fun w hw => atoms_spec (ws := cWs yX1_init cX1_init 3) B.pre w (List.mem_cons_of_mem _ hw)⟩
  have hx := B.exec
  have hb := B.bytes
  have hr := B.returns
  have hlocks := B.notSynchronized
  have hin : meth.name = "<init>" := (name_of_methodNamed B.named B.method).1
  have hS : va_S (mAz z) s.heap s.heap [] := va_S.rf
  have hkl : k < ws.length := (List.getElem?_eq_some_iff.mp hk).1
  have hP : va_P D vwCl (cW ws k (h0, .inr (1, [.null, .null])) []) s.heap := by rw [← cW_0 hk]; exact hP
  have hD : va_D (mAz z) (cW ws k (h0, .inr (1, [.null, .null])) []) := by rw [← cW_0 hk]; exact hD
  have hl := lv_entry ([.ref h0, .ref a1, .ref a2]) (n := 3) (Nat.le_of_ble_eq_true rfl)
  show W p lau e (cRm 4 0 0 460) s m _ below meth c s.heap [] 0 0 _ (entryFrame m ([.ref h0, .ref a1, .ref a2] : List Value).toArray 3)
  rw [lg_entry_eq]
  generalize (lg_sl ([.ref h0, .ref a1, .ref a2]) ++ List.replicate (3 - (lg_sl ([.ref h0, .ref a1, .ref a2])).length) Slot.unset).toArray = ls at hl ⊢
  have hl : lv_has ls 3 [(0, .ref h0), (1, .ref a1), (2, .ref a2)] := hl
  refine lv_aload_n hx hb (by decide +kernel : decode cX1_init 0 = .ok (.aload_n 0, 1)) rfl (lv_at hl 0 rfl) ?_
  refine lv_aload_n hx hb (by decide +kernel : decode cX1_init 1 = .ok (.aload_n 1, 1)) rfl (lv_at hl 1 rfl) ?_
  refine cCall F (As := [.ref a1]) (rest := []) ik_cc_IsleText_3 hz hN hK (cc_LinesText_IsleText (cW_k hkl)) hP hD hS hl.1 (Nat.le_of_ble_eq_true rfl) (by decide +kernel : decode cX1_init 2 = .ok (.invokespecial 3, 3)) ⟨by decide, by decide⟩ ⟨Nat.le_of_ble_eq_true rfl, Nat.le_of_ble_eq_true rfl⟩ (fun w1 H locs hw1 hP hD hS => ?_)
  obtain rfl := hw1
  rw [cW_me hkl] at hP hD
  have hP : va_P D vwCl (cW ws k (h0, .inr (1, [.ref a1, .null])) []) H := hP
  have hD : va_D (mAz z) (cW ws k (h0, .inr (1, [.ref a1, .null])) []) := hD
  refine lv_aload_n hx hb (by decide +kernel : decode cX1_init 5 = .ok (.aload_n 0, 1)) rfl (lv_at hl 0 rfl) ?_
  refine lv_aload_n hx hb (by decide +kernel : decode cX1_init 6 = .ok (.aload_n 2, 1)) rfl (lv_at hl 2 rfl) ?_
  refine cPutF F hK hkl hP hD hS (a := 1) (ty := tyX1 1) (v := .ref a2) ok_cc_IsleText_1_7 (by decide +kernel : fin9 RX1 1 1 true (tyX1 1) = true) hin rfl rfl (Nat.le_of_ble_eq_true rfl) (by decide +kernel : decode cX1_init 7 = .ok (.putfield 9, 3)) (fun H locs hP hD hS => ?_)
  have hP : va_P D vwCl (cW ws k (h0, .inr (1, [.ref a1, .ref a2])) []) H := hP
  have hD : va_D (mAz z) (cW ws k (h0, .inr (1, [.ref a1, .ref a2])) []) := hD
  exact cRet hx hb hr hlocks rfl hP hD hS (Nat.le_of_ble_eq_true rfl) (Nat.le_of_ble_eq_true rfl) (by decide +kernel : decode cX1_init 10 = .ok (.return_, 1))
set_option maxRecDepth 20000 in
theorem ik_cc_LawText_3 : iOK RX3 3 yX4_init cX4_init 2 1 [226, 207, 110, 208] = true := by decide +kernel
set_option maxRecDepth 20000 in
theorem ok_cc_LawText_1_7 : fOK RX3 1 3 9 [227, 0] = true := by decide +kernel
set_option maxRecDepth 100000 in
set_option maxHeartbeats 8000000 in
theorem cc_LawText {lau : Launch} {z : Nat} {D : va_G} {cy : Nat → ClassId} {ws : va_W} {k h0 a1 a2 : Nat} (hk : ws[k]? = some (h0, .inr (3, [.null, .null]))) : cCon lau z D cy yX3_init cX3_init 3 4 0 0 460 [.ref h0, .ref a1, .ref a2] ws (fun w1 => w1 = cW ws k (h0, .inr (3, [.ref a1, .ref a2])) []) := by
  refine Met.ofW (cc := cX3_init) (maxL := 3) (ret := none) (by decide) rfl ?_
  intro p e s m args below meth c s₁ B hml hv
  obtain ⟨rfl, hz, hP, hK, hD, hN⟩ := hv
  have F : CallFix p m c cX3_init 3 s _ mTs RX3 := ⟨B.exec, B.bytes, hml, findClass_of_methodNamed B.named, fun w hw => atoms_spec (ws := cWs yX3_init cX3_init 3) B.pre w (List.mem_cons_of_mem _ hw)⟩
  have hx := B.exec
  have hb := B.bytes
  have hr := B.returns
  have hlocks := B.notSynchronized
  have hin : meth.name = "<init>" := (name_of_methodNamed B.named B.method).1
  have hS : va_S (mAz z) s.heap s.heap [] := va_S.rf
  have hkl : k < ws.length := (List.getElem?_eq_some_iff.mp hk).1
  have hP : va_P D vwCl (cW ws k (h0, .inr (3, [.null, .null])) []) s.heap := by rw [← cW_0 hk]; exact hP
  have hD : va_D (mAz z) (cW ws k (h0, .inr (3, [.null, .null])) []) := by rw [← cW_0 hk]; exact hD
  have hl := lv_entry ([.ref h0, .ref a1, .ref a2]) (n := 3) (Nat.le_of_ble_eq_true rfl)
  show W p lau e (cRm 4 0 0 460) s m _ below meth c s.heap [] 0 0 _ (entryFrame m ([.ref h0, .ref a1, .ref a2] : List Value).toArray 3)
  rw [lg_entry_eq]
  generalize (lg_sl ([.ref h0, .ref a1, .ref a2]) ++ List.replicate (3 - (lg_sl ([.ref h0, .ref a1, .ref a2])).length) Slot.unset).toArray = ls at hl ⊢
  have hl : lv_has ls 3 [(0, .ref h0), (1, .ref a1), (2, .ref a2)] := hl
  refine lv_aload_n hx hb (by decide +kernel : decode cX3_init 0 = .ok (.aload_n 0, 1)) rfl (lv_at hl 0 rfl) ?_
  refine lv_aload_n hx hb (by decide +kernel : decode cX3_init 1 = .ok (.aload_n 1, 1)) rfl (lv_at hl 1 rfl) ?_
  refine cCall F (As := [.ref a1]) (rest := []) ik_cc_LawText_3 hz hN hK (cc_LinesText_LawText (cW_k hkl)) hP hD hS hl.1 (Nat.le_of_ble_eq_true rfl) (by decide +kernel : decode cX3_init 2 = .ok (.invokespecial 3, 3)) ⟨by decide, by decide⟩ ⟨Nat.le_of_ble_eq_true rfl, Nat.le_of_ble_eq_true rfl⟩ (fun w1 H locs hw1 hP hD hS => ?_)
  obtain rfl := hw1
  rw [cW_me hkl] at hP hD
  have hP : va_P D vwCl (cW ws k (h0, .inr (3, [.ref a1, .null])) []) H := hP
  have hD : va_D (mAz z) (cW ws k (h0, .inr (3, [.ref a1, .null])) []) := hD
  refine lv_aload_n hx hb (by decide +kernel : decode cX3_init 5 = .ok (.aload_n 0, 1)) rfl (lv_at hl 0 rfl) ?_
  refine lv_aload_n hx hb (by decide +kernel : decode cX3_init 6 = .ok (.aload_n 2, 1)) rfl (lv_at hl 2 rfl) ?_
  refine cPutF F hK hkl hP hD hS (a := 1) (ty := tyX3 1) (v := .ref a2) ok_cc_LawText_1_7 (by decide +kernel : fin9 RX3 3 1 true (tyX3 1) = true) hin rfl rfl (Nat.le_of_ble_eq_true rfl) (by decide +kernel : decode cX3_init 7 = .ok (.putfield 9, 3)) (fun H locs hP hD hS => ?_)
  have hP : va_P D vwCl (cW ws k (h0, .inr (3, [.ref a1, .ref a2])) []) H := hP
  have hD : va_D (mAz z) (cW ws k (h0, .inr (3, [.ref a1, .ref a2])) []) := hD
  exact cRet hx hb hr hlocks rfl hP hD hS (Nat.le_of_ble_eq_true rfl) (Nat.le_of_ble_eq_true rfl) (by decide +kernel : decode cX3_init 10 = .ok (.return_, 1))
set_option maxRecDepth 20000 in
theorem ok_cc_Rules_0_6 : fOK RX7 0 6 9 [238, 0] = true := by decide +kernel
set_option maxRecDepth 100000 in
set_option maxHeartbeats 8000000 in
theorem cc_Rules {lau : Launch} {z : Nat} {D : va_G} {cy : Nat → ClassId} {ws : va_W} {k h0 a1 : Nat} (hk : ws[k]? = some (h0, .inr (6, [.null]))) : cCon lau z D cy yX7_init cX7_init 2 2 0 0 260 [.ref h0, .ref a1] ws (fun w1 => w1 = cW ws k (h0, .inr (6, [.ref a1])) []) := by
  refine Met.ofW (cc := cX7_init) (maxL := 2) (ret := none) (by decide) rfl ?_
  intro p e s m args below meth c s₁ B hml hv
  obtain ⟨rfl, hz, hP, hK, hD, hN⟩ := hv
  have F : CallFix p m c cX7_init 2 s _ mTs RX7 := ⟨B.exec, B.bytes, hml, findClass_of_methodNamed B.named, fun w hw => atoms_spec (ws := cWs yX7_init cX7_init 2) B.pre w (List.mem_cons_of_mem _ hw)⟩
  have hx := B.exec
  have hb := B.bytes
  have hr := B.returns
  have hlocks := B.notSynchronized
  have hin : meth.name = "<init>" := (name_of_methodNamed B.named B.method).1
  have hS : va_S (mAz z) s.heap s.heap [] := va_S.rf
  have hkl : k < ws.length := (List.getElem?_eq_some_iff.mp hk).1
  have hP : va_P D vwCl (cW ws k (h0, .inr (6, [.null])) []) s.heap := by rw [← cW_0 hk]; exact hP
  have hD : va_D (mAz z) (cW ws k (h0, .inr (6, [.null])) []) := by rw [← cW_0 hk]; exact hD
  have hl := lv_entry ([.ref h0, .ref a1]) (n := 2) (Nat.le_of_ble_eq_true rfl)
  show W p lau e (cRm 2 0 0 260) s m _ below meth c s.heap [] 0 0 _ (entryFrame m ([.ref h0, .ref a1] : List Value).toArray 2)
  rw [lg_entry_eq]
  generalize (lg_sl ([.ref h0, .ref a1]) ++ List.replicate (2 - (lg_sl ([.ref h0, .ref a1])).length) Slot.unset).toArray = ls at hl ⊢
  have hl : lv_has ls 2 [(0, .ref h0), (1, .ref a1)] := hl
  refine lv_aload_n hx hb (by decide +kernel : decode cX7_init 0 = .ok (.aload_n 0, 1)) rfl (lv_at hl 0 rfl) ?_
  refine cObj F hl.1 (mIp_mem (i := 237) (by decide +kernel)) (by decide) (Nat.le_of_ble_eq_true rfl) (by decide +kernel : decode cX7_init 1 = .ok (.invokespecial 3, 3)) ?_
  refine lv_aload_n hx hb (by decide +kernel : decode cX7_init 4 = .ok (.aload_n 0, 1)) rfl (lv_at hl 0 rfl) ?_
  refine lv_aload_n hx hb (by decide +kernel : decode cX7_init 5 = .ok (.aload_n 1, 1)) rfl (lv_at hl 1 rfl) ?_
  refine cPutF F hK hkl hP hD hS (a := 0) (ty := tyX7 0) (v := .ref a1) ok_cc_Rules_0_6 (by decide +kernel : fin9 RX7 6 0 true (tyX7 0) = true) hin rfl rfl (Nat.le_of_ble_eq_true rfl) (by decide +kernel : decode cX7_init 6 = .ok (.putfield 9, 3)) (fun H locs hP hD hS => ?_)
  have hP : va_P D vwCl (cW ws k (h0, .inr (6, [.ref a1])) []) H := hP
  have hD : va_D (mAz z) (cW ws k (h0, .inr (6, [.ref a1])) []) := hD
  exact cRet hx hb hr hlocks rfl hP hD hS (Nat.le_of_ble_eq_true rfl) (Nat.le_of_ble_eq_true rfl) (by decide +kernel : decode cX7_init 9 = .ok (.return_, 1))
set_option maxRecDepth 20000 in
theorem ok_cc_Plan_2_9 : fOK RX6 2 5 9 [250, 0] = true := by decide +kernel
set_option maxRecDepth 20000 in
theorem ok_cc_Plan_3_18 : fOK RX6 3 5 15 [251, 0] = true := by decide +kernel
set_option maxRecDepth 20000 in
theorem ok_cc_Plan_0_23 : fOK RX6 0 5 18 [248, 0] = true := by decide +kernel
set_option maxRecDepth 20000 in
theorem ok_cc_Plan_1_28 : fOK RX6 1 5 22 [249, 0] = true := by decide +kernel
set_option maxRecDepth 100000 in
set_option maxHeartbeats 8000000 in
theorem cc_Plan {lau : Launch} {z : Nat} {D : va_G} {cy : Nat → ClassId} {ws : va_W} {k h0 a1 a2 : Nat} (hk : ws[k]? = some (h0, .inr (5, [.null, .null, .null, .null, .int 0, .int 0]))) : cCon lau z D cy yX6_init cX6_init 3 2 2 10340 260 [.ref h0, .ref a1, .ref a2] ws (fun w1 => ∃ q0 q1, w1 = cW ws k (h0, .inr (5, [.ref a1, .ref a2, .ref q0, .ref q1, .int 0, .int 0])) [(q0, .inl (cy 0, 100, .inl (fun _ => 0))), (q1, .inl (cy 0, 10240, .inl (fun _ => 0)))]) := by
  refine Met.ofW (cc := cX6_init) (maxL := 3) (ret := none) (by decide) rfl ?_
  intro p e s m args below meth c s₁ B hml hv
  obtain ⟨rfl, hz, hP, hK, hD, hN⟩ := hv
  have F : CallFix p m c cX6_init 3 s _ mTs RX6 := ⟨B.exec, B.bytes, hml, findClass_of_methodNamed B.named, fun w hw => atoms_spec (ws := cWs yX6_init cX6_init 3) B.pre w (List.mem_cons_of_mem _ hw)⟩
  have hx := B.exec
  have hb := B.bytes
  have hr := B.returns
  have hlocks := B.notSynchronized
  have hin : meth.name = "<init>" := (name_of_methodNamed B.named B.method).1
  have hS : va_S (mAz z) s.heap s.heap [] := va_S.rf
  have hkl : k < ws.length := (List.getElem?_eq_some_iff.mp hk).1
  have hP : va_P D vwCl (cW ws k (h0, .inr (5, [.null, .null, .null, .null, .int 0, .int 0])) []) s.heap := by rw [← cW_0 hk]; exact hP
  have hD : va_D (mAz z) (cW ws k (h0, .inr (5, [.null, .null, .null, .null, .int 0, .int 0])) []) := by rw [← cW_0 hk]; exact hD
  have hl := lv_entry ([.ref h0, .ref a1, .ref a2]) (n := 3) (Nat.le_of_ble_eq_true rfl)
  show W p lau e (cRm 2 2 10340 260) s m _ below meth c s.heap [] 0 0 _ (entryFrame m ([.ref h0, .ref a1, .ref a2] : List Value).toArray 3)
  rw [lg_entry_eq]
  generalize (lg_sl ([.ref h0, .ref a1, .ref a2]) ++ List.replicate (3 - (lg_sl ([.ref h0, .ref a1, .ref a2])).length) Slot.unset).toArray = ls at hl ⊢
  have hl : lv_has ls 3 [(0, .ref h0), (1, .ref a1), (2, .ref a2)] := hl
  refine lv_aload_n hx hb (by decide +kernel : decode cX6_init 0 = .ok (.aload_n 0, 1)) rfl (lv_at hl 0 rfl) ?_
  refine cObj F hl.1 (mIp_mem (i := 247) (by decide +kernel)) (by decide) (Nat.le_of_ble_eq_true rfl) (by decide +kernel : decode cX6_init 1 = .ok (.invokespecial 3, 3)) ?_
  refine lv_aload_n hx hb (by decide +kernel : decode cX6_init 4 = .ok (.aload_n 0, 1)) rfl (lv_at hl 0 rfl) ?_
  refine lv_bipush (v := 100) hx hb (by decide +kernel : decode cX6_init 5 = .ok (.bipush 100, 2)) (by decide) ?_
  refine cNewI F hK hP hD hS hz 100 (by decide) (by decide) (by decide) (Nat.le_of_ble_eq_true rfl) (Nat.le_of_ble_eq_true rfl) (by decide +kernel : decode cX6_init 7 = .ok (.newarray .int, 2)) (fun q0 H hP hD hS => ?_)
  have hP : va_P D vwCl (cW ws k (h0, .inr (5, [.null, .null, .null, .null, .int 0, .int 0])) [(q0, .inl (cy 0, 100, .inl (fun _ => 0)))]) H := hP
  have hD : va_D (mAz z) (cW ws k (h0, .inr (5, [.null, .null, .null, .null, .int 0, .int 0])) [(q0, .inl (cy 0, 100, .inl (fun _ => 0)))]) := hD
  refine cPutF F hK hkl hP hD hS (a := 2) (ty := tyX6 2) (v := .ref q0) ok_cc_Plan_2_9 (by decide +kernel : fin9 RX6 5 2 true (tyX6 2) = true) hin rfl rfl (Nat.le_of_ble_eq_true rfl) (by decide +kernel : decode cX6_init 9 = .ok (.putfield 9, 3)) (fun H locs hP hD hS => ?_)
  have hP : va_P D vwCl (cW ws k (h0, .inr (5, [.null, .null, .ref q0, .null, .int 0, .int 0])) [(q0, .inl (cy 0, 100, .inl (fun _ => 0)))]) H := hP
  have hD : va_D (mAz z) (cW ws k (h0, .inr (5, [.null, .null, .ref q0, .null, .int 0, .int 0])) [(q0, .inl (cy 0, 100, .inl (fun _ => 0)))]) := hD
  refine lv_aload_n hx hb (by decide +kernel : decode cX6_init 12 = .ok (.aload_n 0, 1)) rfl (lv_at hl 0 rfl) ?_
  refine lv_sipush (v := 10240) hx hb (by decide +kernel : decode cX6_init 13 = .ok (.sipush 10240, 3)) (by decide) ?_
  refine cNewI F hK hP hD hS hz 10240 (by decide) (by decide) (by decide) (Nat.le_of_ble_eq_true rfl) (Nat.le_of_ble_eq_true rfl) (by decide +kernel : decode cX6_init 16 = .ok (.newarray .int, 2)) (fun q1 H hP hD hS => ?_)
  have hP : va_P D vwCl (cW ws k (h0, .inr (5, [.null, .null, .ref q0, .null, .int 0, .int 0])) [(q0, .inl (cy 0, 100, .inl (fun _ => 0))), (q1, .inl (cy 0, 10240, .inl (fun _ => 0)))]) H := hP
  have hD : va_D (mAz z) (cW ws k (h0, .inr (5, [.null, .null, .ref q0, .null, .int 0, .int 0])) [(q0, .inl (cy 0, 100, .inl (fun _ => 0))), (q1, .inl (cy 0, 10240, .inl (fun _ => 0)))]) := hD
  refine cPutF F hK hkl hP hD hS (a := 3) (ty := tyX6 3) (v := .ref q1) ok_cc_Plan_3_18 (by decide +kernel : fin9 RX6 5 3 true (tyX6 3) = true) hin rfl rfl (Nat.le_of_ble_eq_true rfl) (by decide +kernel : decode cX6_init 18 = .ok (.putfield 15, 3)) (fun H locs hP hD hS => ?_)
  have hP : va_P D vwCl (cW ws k (h0, .inr (5, [.null, .null, .ref q0, .ref q1, .int 0, .int 0])) [(q0, .inl (cy 0, 100, .inl (fun _ => 0))), (q1, .inl (cy 0, 10240, .inl (fun _ => 0)))]) H := hP
  have hD : va_D (mAz z) (cW ws k (h0, .inr (5, [.null, .null, .ref q0, .ref q1, .int 0, .int 0])) [(q0, .inl (cy 0, 100, .inl (fun _ => 0))), (q1, .inl (cy 0, 10240, .inl (fun _ => 0)))]) := hD
  refine lv_aload_n hx hb (by decide +kernel : decode cX6_init 21 = .ok (.aload_n 0, 1)) rfl (lv_at hl 0 rfl) ?_
  refine lv_aload_n hx hb (by decide +kernel : decode cX6_init 22 = .ok (.aload_n 1, 1)) rfl (lv_at hl 1 rfl) ?_
  refine cPutF F hK hkl hP hD hS (a := 0) (ty := tyX6 0) (v := .ref a1) ok_cc_Plan_0_23 (by decide +kernel : fin9 RX6 5 0 true (tyX6 0) = true) hin rfl rfl (Nat.le_of_ble_eq_true rfl) (by decide +kernel : decode cX6_init 23 = .ok (.putfield 18, 3)) (fun H locs hP hD hS => ?_)
  have hP : va_P D vwCl (cW ws k (h0, .inr (5, [.ref a1, .null, .ref q0, .ref q1, .int 0, .int 0])) [(q0, .inl (cy 0, 100, .inl (fun _ => 0))), (q1, .inl (cy 0, 10240, .inl (fun _ => 0)))]) H := hP
  have hD : va_D (mAz z) (cW ws k (h0, .inr (5, [.ref a1, .null, .ref q0, .ref q1, .int 0, .int 0])) [(q0, .inl (cy 0, 100, .inl (fun _ => 0))), (q1, .inl (cy 0, 10240, .inl (fun _ => 0)))]) := hD
  refine lv_aload_n hx hb (by decide +kernel : decode cX6_init 26 = .ok (.aload_n 0, 1)) rfl (lv_at hl 0 rfl) ?_
  refine lv_aload_n hx hb (by decide +kernel : decode cX6_init 27 = .ok (.aload_n 2, 1)) rfl (lv_at hl 2 rfl) ?_
  refine cPutF F hK hkl hP hD hS (a := 1) (ty := tyX6 1) (v := .ref a2) ok_cc_Plan_1_28 (by decide +kernel : fin9 RX6 5 1 true (tyX6 1) = true) hin rfl rfl (Nat.le_of_ble_eq_true rfl) (by decide +kernel : decode cX6_init 28 = .ok (.putfield 22, 3)) (fun H locs hP hD hS => ?_)
  have hP : va_P D vwCl (cW ws k (h0, .inr (5, [.ref a1, .ref a2, .ref q0, .ref q1, .int 0, .int 0])) [(q0, .inl (cy 0, 100, .inl (fun _ => 0))), (q1, .inl (cy 0, 10240, .inl (fun _ => 0)))]) H := hP
  have hD : va_D (mAz z) (cW ws k (h0, .inr (5, [.ref a1, .ref a2, .ref q0, .ref q1, .int 0, .int 0])) [(q0, .inl (cy 0, 100, .inl (fun _ => 0))), (q1, .inl (cy 0, 10240, .inl (fun _ => 0)))]) := hD
  exact cRet hx hb hr hlocks ⟨q0, q1, rfl⟩ hP hD hS (Nat.le_of_ble_eq_true rfl) (Nat.le_of_ble_eq_true rfl) (by decide +kernel : decode cX6_init 31 = .ok (.return_, 1))
