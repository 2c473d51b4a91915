/-! the law's helpers: a call of the class's method, its answer laid into the law's long, an exception turned into a number -/
def nX (U : State) : Prop := va_Nc (exN 2) (exN 1) U ∧ va_Nc (exN 4) (exN 3) U ∧ va_Nc (exN 1) (exN 3) U ∧ va_Nc (exN 5) (exN 3) U ∧ va_Nc (exN 5) (exN 1) U
def hX (z : Nat) (ad : Nat → Nat) (U : State) : Prop := mX z ad U ∧ nX U
theorem hX_m (z : Nat) (ad : Nat → Nat) : mXm z (hX z ad) := fun u U h hW ha =>
  ⟨mX_m z ad u U h.1 hW ha, h.2.1.moved hW.alike, h.2.2.1.moved hW.alike, h.2.2.2.1.moved hW.alike, h.2.2.2.2.1.moved hW.alike, h.2.2.2.2.2.moved hW.alike⟩
def hRm : Room := { frames := 90, cells := 16, slots := 96, locals := 7600 }
def hQ (z : Nat) (D : va_G) (ad : Nat → Nat) (cy : Nat → ClassId) (k : Int32) (S' : mS) : Array Value → State → Outcome → State → Prop := fun _ st o t => o = .returned (some (.int k)) ∧ mPost z D ad cy S' st t
abbrev hWs (y : MethodName) (b : ByteArray) (n : Nat) (hh : List (Nat × Nat × Nat × Nat)) : List Cond := .codeWith y b n (some .int) hh :: mTs
/-- a helper's contract: its answer, the store behind it -/
def hCon (lau : Launch) (z : Nat) (D : va_G) (ad : Nat → Nat) (cy : Nat → ClassId) (y : MethodName) (b : ByteArray) (n : Nat) (hh : List (Nat × Nat × Nat × Nat)) (as : List Value) (S : mS) (k : Int32) (S' : mS) : Prop :=
  Met lau y (hWs y b n hh) hRm (va_Pc (as.map (mV ad)) (mPre z D ad cy (hX z ad) S)) (hQ z D ad cy k S') 16 96 (mAz z)
def HR (r1 : Option Value ⊕ Nat) (S1 : mS) (cs : List Nat) (k : Int32) (S2 : mS) : Prop := match r1 with
  | .inl (some (.int v)) => k = 0 ∧ S2 = upS S1 75 0 v
  | .inr e => ∃ j, cs[j]? = some e ∧ j < 8 ∧ k = nI (j + 1) ∧ S2 = S1
  | _ => False
def HRb (r1 : Option Value ⊕ Nat) (S1 : mS) (cs : List Nat) (k : Int32) (S2 : mS) : Prop := match r1 with
  | .inl (some (.int v)) => k = 0 ∧ S2 = upS S1 75 0 (if v = 0 then 0 else 1)
  | .inr e => ∃ j, cs[j]? = some e ∧ j < 8 ∧ k = nI (j + 1) ∧ S2 = S1
  | _ => False
theorem HR_in {r1 : Option Value ⊕ Nat} {S1 S2 : mS} {cs : List Nat} {k : Int32} {v : Option Value} (h : HR r1 S1 cs k S2) (hv : r1 = .inl v) : ∃ x, v = some (.int x) ∧ k = 0 ∧ S2 = upS S1 75 0 x := by
  subst hv
  match v, h with
  | some (.int x), h => exact ⟨x, rfl, h.1, h.2⟩
theorem HRb_in {r1 : Option Value ⊕ Nat} {S1 S2 : mS} {cs : List Nat} {k : Int32} {v : Option Value} (h : HRb r1 S1 cs k S2) (hv : r1 = .inl v) : ∃ x, v = some (.int x) ∧ k = 0 ∧ S2 = upS S1 75 0 (if x = 0 then 0 else 1) := by
  subst hv
  match v, h with
  | some (.int x), h => exact ⟨x, rfl, h.1, h.2⟩
theorem HR_ex {r1 : Option Value ⊕ Nat} {S1 S2 : mS} {cs : List Nat} {k : Int32} {e : Nat} (h : HR r1 S1 cs k S2) (hv : r1 = .inr e) : ∃ j, cs[j]? = some e ∧ j < 8 ∧ k = nI (j + 1) ∧ S2 = S1 := by
  subst hv
  exact h
theorem HRb_ex {r1 : Option Value ⊕ Nat} {S1 S2 : mS} {cs : List Nat} {k : Int32} {e : Nat} (h : HRb r1 S1 cs k S2) (hv : r1 = .inr e) : ∃ j, cs[j]? = some e ∧ j < 8 ∧ k = nI (j + 1) ∧ S2 = S1 := by
  subst hv
  exact h
theorem out_set {ad : Nat → Nat} {cy : Nat → ClassId} {S : mS} {x : Int32} {y : Int64} (h : x.toInt64 = y) : (mW ad cy S).set 75 (ad 75, .inl (cy 3, 1, .inr (.inl (vp_updL (fun k => (S 75 k).toInt64) (0 : Int32).toNatClampNeg y)))) = mW ad cy (upS S 75 0 x) := by
  subst h
  refine Eq.trans ?_ (mW_set (ad := ad) (cy := cy) (S := S) (i := 75) (q := (4, 1, [])) (f := upd (S 75) 0 x) rfl)
  congr 1
  show (ad 75, (Sum.inl (cy 3, 1, .inr (.inl (vp_updL (fun k => (S 75 k).toInt64) 0 x.toInt64))) : va_E)) = (ad 75, (Sum.inl (cy 3, 1, .inr (.inl (fun k => (seS S 75 (upd (S 75) 0 x) 75 k).toInt64))) : va_E))
  have e : vp_updL (fun k => (S 75 k).toInt64) 0 x.toInt64 = fun k => (seS S 75 (upd (S 75) 0 x) 75 k).toInt64 := by
    funext k
    simp only [vp_updL, seS, upd, if_true]
    split <;> rfl
  rw [e]
theorem wl_1 : Cond.classLink RL 13 (exN 1) ∈ mTs := mIp_mem (i := 576) (by decide +kernel)
theorem wl_2 : Cond.classLink RL 15 (exN 2) ∈ mTs := mIp_mem (i := 577) (by decide +kernel)
theorem wl_3 : Cond.classLink RL 24 (exN 3) ∈ mTs := mIp_mem (i := 898) (by decide +kernel)
theorem wl_4 : Cond.classLink RL 26 (exN 4) ∈ mTs := mIp_mem (i := 899) (by decide +kernel)
theorem wl_5 : Cond.classLink RL 52 (exN 5) ∈ mTs := mIp_mem (i := 1021) (by decide +kernel)
theorem wc_1 : Cond.castable (exN 1) (exN 1) ∈ lw_tbl := List.mem_of_getElem? (i := 796) (by decide +kernel)
theorem wc_2 : Cond.castable (exN 2) (exN 2) ∈ lw_tbl := List.mem_of_getElem? (i := 866) (by decide +kernel)
theorem wc_3 : Cond.castable (exN 3) (exN 3) ∈ lw_tbl := List.mem_of_getElem? (i := 910) (by decide +kernel)
theorem wc_4 : Cond.castable (exN 4) (exN 4) ∈ lw_tbl := List.mem_of_getElem? (i := 926) (by decide +kernel)
theorem wc_5 : Cond.castable (exN 5) (exN 5) ∈ lw_tbl := List.mem_of_getElem? (i := 1028) (by decide +kernel)
theorem vin0 : vp_in (0 : Int32) 1 := by unfold vp_in; decide
set_option maxRecDepth 20000 in
theorem gh_isle : gOK RL 7 Mx89 (RX9, TX9, 14) 0 [578, 579, 580, 106, 581] = true := by decide +kernel
set_option maxRecDepth 20000 in
theorem hc_isle {lau : Launch} {z : Nat} {D : va_G} {ad : Nat → Nat} {cy : Nat → ClassId} (hst : lau.stackTraces = false) {F : Nat} {S S1 : mS} {r1 : Option Value ⊕ Nat} (hf : f_X9_isle F S = some (r1, S1)) {k : Int32} {S2 : mS} (hr : HR r1 S1 [1, 2] k S2) : hCon lau z D ad cy yL_isle cL_isle 3 [(0, 8, 11, 13), (0, 8, 14, 15)] [.ref 0, .ref 75] S k S2 := by
  refine va_MetW (cc := cL_isle) (maxL := 3) (ret := some .int) (hh := [(0, 8, 11, 13), (0, 8, 14, 15)]) (by decide) rfl ?_
  intro p e s m args below meth c s₁ B hml hv
  obtain ⟨rfl, hz, hP, hK, hD, hX, hN⟩ := hv
  have hx := B.exec
  have hb := B.bytes
  have hr9 := B.returns
  have hts0 := atoms_spec (ws := hWs yL_isle cL_isle 3 [(0, 8, 11, 13), (0, 8, 14, 15)]) B.pre
  have hts : ∀ w ∈ mTs, w.before _ s = true := fun w hw => hts0 w (List.mem_cons_of_mem _ hw)
  have hown : s.vm.findClass RL = some m.cls := findClass_of_methodNamed B.named
  have hlocks := B.notSynchronized
  have htab := vx_table (x := yL_law_) B (hts0 _ List.mem_cons_self)
  have hS : va_S (mAz z) s.heap s.heap [] := va_S.rf
  have hl := lv_entry ([.ref (ad 0), .ref (ad 75)]) (n := 3) (Nat.le_of_ble_eq_true rfl)
  show W p lau e hRm s m _ below meth c s.heap [] 0 0 _ (entryFrame m ([.ref (ad 0), .ref (ad 75)] : List Value).toArray 3)
  rw [lg_entry_eq]
  generalize (lg_sl ([.ref (ad 0), .ref (ad 75)]) ++ List.replicate (3 - (lg_sl ([.ref (ad 0), .ref (ad 75)])).length) Slot.unset).toArray = ls at hl ⊢
  have hl : lv_has ls 3 [(0, .ref (ad 0)), (1, .ref (ad 75))] := hl
  refine lv_aload_n hx hb (by decide +kernel : decode cL_isle 0 = .ok (.aload_n 1, 1)) rfl (lv_at hl 1 rfl) ?_
  refine lv_iconst (v := 0) hx hb (by decide +kernel : decode cL_isle 1 = .ok (.iconst 0, 1)) (by decide) ?_
  refine lv_aload_n hx hb (by decide +kernel : decode cL_isle 2 = .ok (.aload_n 0, 1)) rfl (lv_at hl 0 rfl) ?_
  refine gCall (own := RL) (as := []) (i := 0) (r := (r1, S1)) (M' := Mx89) (d := 60) (rest := [.int 0, .ref (ad 75)]) ⟨hx, hb, hml, hown, hts⟩ gh_isle (mX_m z ad) hz hX hK (con_of hst (j := 89) rfl (Nat.le_of_ble_eq_true rfl) (fun w hw => by simp only [List.mem_cons, List.not_mem_nil, or_false] at hw; rcases hw with rfl <;> rfl) (f_X9_isle_ok (d := 15) hf)) hP hD hS hl.1 (ci := 8) rfl rfl (Nat.le_of_ble_eq_true rfl) (by decide +kernel : decode cL_isle 3 = .ok (.invokevirtual 7, 3)) ⟨by decide, by decide⟩ ⟨by decide, by decide⟩ (fun v hv H1 locs1 hP hD hS => ?_) (fun k9 hk9 H1 locs1 q ce hP hD hS hce hcv hcl => ?_)
  · obtain ⟨x, rfl, rfl, rfl⟩ := HR_in hr hv
    refine W.eq (g2 := F0 m 6 ls [.int x, .int 0, .ref (ad 75)]) rfl ?_
    refine lv_i2l hx hb (by decide +kernel : decode cL_isle 6 = .ok (.i2l, 1)) rfl ?_
    refine va_last (A := mAz z) hx hb hK hP hD hS 75 3 (mW_get (i := 75) rfl) rfl vin0 (by decide +kernel : decode cL_isle 7 = .ok (.lastore, 1)) (fun H1 locs1 hP hD hS => ?_)
    rw [out_set (x := x) rfl] at hP hD
    refine lv_goto (tgt := 17) hx hb (by decide +kernel : decode cL_isle 8 = .ok (.goto 9, 3)) (by decide) ?_
    refine lv_iconst (v := 0) hx hb (by decide +kernel : decode cL_isle 17 = .ok (.iconst 0, 1)) (by decide) ?_
    exact W.iret (v := 0) hx hb hr9 (fun t ht hW => ⟨rfl, mPost_end hP hD hS ht⟩) hS.2.2 (by decide +kernel : decode cL_isle 18 = .ok (.ireturn, 1)) hlocks
  · obtain ⟨j, hj, hj8, rfl, rfl⟩ := HR_ex hr hk9
    match j, hj with
    | 0, hj =>
      cases hj
      refine vz_catch (own := RL) (name := exN 1) (E := exN 1) hown [] ⟨0, 8, 11, 13⟩ [⟨0, 8, 14, 15⟩] htab (fun _ h => absurd h List.not_mem_nil) (by decide) (by decide) (hts _ wl_1) (isEx_use rfl (hX.1 _ wc_1 rfl)) hce hcv hcl ?_
      refine lv_astore_n (lv' := [(2, .ref q), (0, .ref (ad 0)), (1, .ref (ad 75))]) hx hb (by decide +kernel : decode cL_isle 11 = .ok (.astore_n 2, 1)) rfl hl (by decide) rfl (fun ls hl => ?_)
      refine lv_iconst (v := 1) hx hb (by decide +kernel : decode cL_isle 12 = .ok (.iconst 1, 1)) (by decide) ?_
      exact W.iret (v := 1) hx hb hr9 (fun t ht hW => ⟨rfl, mPost_end hP hD hS ht⟩) hS.2.2 (by decide +kernel : decode cL_isle 13 = .ok (.ireturn, 1)) hlocks
    | 1, hj =>
      cases hj
      refine vz_catch (own := RL) (name := exN 2) (E := exN 2) hown [⟨0, 8, 11, 13⟩] ⟨0, 8, 14, 15⟩ [] htab (List.forall_mem_cons.mpr ⟨Or.inr ⟨by decide, exN 1, hts _ wl_1, hN.1⟩, fun _ h => absurd h List.not_mem_nil⟩) (by decide) (by decide) (hts _ wl_2) (isEx_use rfl (hX.1 _ wc_2 rfl)) hce hcv hcl ?_
      refine lv_astore_n (lv' := [(2, .ref q), (0, .ref (ad 0)), (1, .ref (ad 75))]) hx hb (by decide +kernel : decode cL_isle 14 = .ok (.astore_n 2, 1)) rfl hl (by decide) rfl (fun ls hl => ?_)
      refine lv_iconst (v := 2) hx hb (by decide +kernel : decode cL_isle 15 = .ok (.iconst 2, 1)) (by decide) ?_
      exact W.iret (v := 2) hx hb hr9 (fun t ht hW => ⟨rfl, mPost_end hP hD hS ht⟩) hS.2.2 (by decide +kernel : decode cL_isle 16 = .ok (.ireturn, 1)) hlocks
    | j + 2, hj => simp at hj
set_option maxRecDepth 20000 in
theorem gh_law : gOK RL 17 Mx90 (RX9, TX9, 14) 0 [884, 885, 886, 106, 887] = true := by decide +kernel
set_option maxRecDepth 20000 in
theorem hc_law {lau : Launch} {z : Nat} {D : va_G} {ad : Nat → Nat} {cy : Nat → ClassId} (hst : lau.stackTraces = false) {F : Nat} {S S1 : mS} {r1 : Option Value ⊕ Nat} (hf : f_X9_law F S = some (r1, S1)) {k : Int32} {S2 : mS} (hr : HR r1 S1 [1] k S2) : hCon lau z D ad cy yL_law cL_law 3 [(0, 8, 11, 13)] [.ref 0, .ref 75] S k S2 := by
  refine va_MetW (cc := cL_law) (maxL := 3) (ret := some .int) (hh := [(0, 8, 11, 13)]) (by decide) rfl ?_
  intro p e s m args below meth c s₁ B hml hv
  obtain ⟨rfl, hz, hP, hK, hD, hX, hN⟩ := hv
  have hx := B.exec
  have hb := B.bytes
  have hr9 := B.returns
  have hts0 := atoms_spec (ws := hWs yL_law cL_law 3 [(0, 8, 11, 13)]) B.pre
  have hts : ∀ w ∈ mTs, w.before _ s = true := fun w hw => hts0 w (List.mem_cons_of_mem _ hw)
  have hown : s.vm.findClass RL = some m.cls := findClass_of_methodNamed B.named
  have hlocks := B.notSynchronized
  have htab := vx_table (x := yL_law_) B (hts0 _ List.mem_cons_self)
  have hS : va_S (mAz z) s.heap s.heap [] := va_S.rf
  have hl := lv_entry ([.ref (ad 0), .ref (ad 75)]) (n := 3) (Nat.le_of_ble_eq_true rfl)
  show W p lau e hRm s m _ below meth c s.heap [] 0 0 _ (entryFrame m ([.ref (ad 0), .ref (ad 75)] : List Value).toArray 3)
  rw [lg_entry_eq]
  generalize (lg_sl ([.ref (ad 0), .ref (ad 75)]) ++ List.replicate (3 - (lg_sl ([.ref (ad 0), .ref (ad 75)])).length) Slot.unset).toArray = ls at hl ⊢
  have hl : lv_has ls 3 [(0, .ref (ad 0)), (1, .ref (ad 75))] := hl
  refine lv_aload_n hx hb (by decide +kernel : decode cL_law 0 = .ok (.aload_n 1, 1)) rfl (lv_at hl 1 rfl) ?_
  refine lv_iconst (v := 0) hx hb (by decide +kernel : decode cL_law 1 = .ok (.iconst 0, 1)) (by decide) ?_
  refine lv_aload_n hx hb (by decide +kernel : decode cL_law 2 = .ok (.aload_n 0, 1)) rfl (lv_at hl 0 rfl) ?_
  refine gCall (own := RL) (as := []) (i := 0) (r := (r1, S1)) (M' := Mx90) (d := 60) (rest := [.int 0, .ref (ad 75)]) ⟨hx, hb, hml, hown, hts⟩ gh_law (mX_m z ad) hz hX hK (con_of hst (j := 90) rfl (Nat.le_of_ble_eq_true rfl) (fun w hw => by simp only [List.mem_cons, List.not_mem_nil, or_false] at hw; rcases hw with rfl <;> rfl) (f_X9_law_ok (d := 15) hf)) hP hD hS hl.1 (ci := 8) rfl rfl (Nat.le_of_ble_eq_true rfl) (by decide +kernel : decode cL_law 3 = .ok (.invokevirtual 17, 3)) ⟨by decide, by decide⟩ ⟨by decide, by decide⟩ (fun v hv H1 locs1 hP hD hS => ?_) (fun k9 hk9 H1 locs1 q ce hP hD hS hce hcv hcl => ?_)
  · obtain ⟨x, rfl, rfl, rfl⟩ := HR_in hr hv
    refine W.eq (g2 := F0 m 6 ls [.int x, .int 0, .ref (ad 75)]) rfl ?_
    refine lv_i2l hx hb (by decide +kernel : decode cL_law 6 = .ok (.i2l, 1)) rfl ?_
    refine va_last (A := mAz z) hx hb hK hP hD hS 75 3 (mW_get (i := 75) rfl) rfl vin0 (by decide +kernel : decode cL_law 7 = .ok (.lastore, 1)) (fun H1 locs1 hP hD hS => ?_)
    rw [out_set (x := x) rfl] at hP hD
    refine lv_goto (tgt := 14) hx hb (by decide +kernel : decode cL_law 8 = .ok (.goto 6, 3)) (by decide) ?_
    refine lv_iconst (v := 0) hx hb (by decide +kernel : decode cL_law 14 = .ok (.iconst 0, 1)) (by decide) ?_
    exact W.iret (v := 0) hx hb hr9 (fun t ht hW => ⟨rfl, mPost_end hP hD hS ht⟩) hS.2.2 (by decide +kernel : decode cL_law 15 = .ok (.ireturn, 1)) hlocks
  · obtain ⟨j, hj, hj8, rfl, rfl⟩ := HR_ex hr hk9
    match j, hj with
    | 0, hj =>
      cases hj
      refine vz_catch (own := RL) (name := exN 1) (E := exN 1) hown [] ⟨0, 8, 11, 13⟩ [] htab (fun _ h => absurd h List.not_mem_nil) (by decide) (by decide) (hts _ wl_1) (isEx_use rfl (hX.1 _ wc_1 rfl)) hce hcv hcl ?_
      refine lv_astore_n (lv' := [(2, .ref q), (0, .ref (ad 0)), (1, .ref (ad 75))]) hx hb (by decide +kernel : decode cL_law 11 = .ok (.astore_n 2, 1)) rfl hl (by decide) rfl (fun ls hl => ?_)
      refine lv_iconst (v := 1) hx hb (by decide +kernel : decode cL_law 12 = .ok (.iconst 1, 1)) (by decide) ?_
      exact W.iret (v := 1) hx hb hr9 (fun t ht hW => ⟨rfl, mPost_end hP hD hS ht⟩) hS.2.2 (by decide +kernel : decode cL_law 13 = .ok (.ireturn, 1)) hlocks
    | j + 1, hj => simp at hj
set_option maxRecDepth 20000 in
theorem gh_ledge : gOK RL 20 Mx92 (RX9, TX9, 14) 2 [900, 901, 902, 106, 903] = true := by decide +kernel
set_option maxRecDepth 20000 in
theorem hc_ledge {lau : Launch} {z : Nat} {D : va_G} {ad : Nat → Nat} {cy : Nat → ClassId} (hst : lau.stackTraces = false) {p1 p2 : Int32} {F : Nat} {S S1 : mS} {r1 : Option Value ⊕ Nat} (hf : f_X9_ledge F p1 p2 S = some (r1, S1)) {k : Int32} {S2 : mS} (hr : HR r1 S1 [3, 4] k S2) : hCon lau z D ad cy yL_ledge cL_ledge 5 [(0, 10, 13, 24), (0, 10, 17, 26)] [.ref 0, .int p1, .int p2, .ref 75] S k S2 := by
  refine va_MetW (cc := cL_ledge) (maxL := 5) (ret := some .int) (hh := [(0, 10, 13, 24), (0, 10, 17, 26)]) (by decide) rfl ?_
  intro p e s m args below meth c s₁ B hml hv
  obtain ⟨rfl, hz, hP, hK, hD, hX, hN⟩ := hv
  have hx := B.exec
  have hb := B.bytes
  have hr9 := B.returns
  have hts0 := atoms_spec (ws := hWs yL_ledge cL_ledge 5 [(0, 10, 13, 24), (0, 10, 17, 26)]) B.pre
  have hts : ∀ w ∈ mTs, w.before _ s = true := fun w hw => hts0 w (List.mem_cons_of_mem _ hw)
  have hown : s.vm.findClass RL = some m.cls := findClass_of_methodNamed B.named
  have hlocks := B.notSynchronized
  have htab := vx_table (x := yL_law_) B (hts0 _ List.mem_cons_self)
  have hS : va_S (mAz z) s.heap s.heap [] := va_S.rf
  have hl := lv_entry ([.ref (ad 0), .int p1, .int p2, .ref (ad 75)]) (n := 5) (Nat.le_of_ble_eq_true rfl)
  show W p lau e hRm s m _ below meth c s.heap [] 0 0 _ (entryFrame m ([.ref (ad 0), .int p1, .int p2, .ref (ad 75)] : List Value).toArray 5)
  rw [lg_entry_eq]
  generalize (lg_sl ([.ref (ad 0), .int p1, .int p2, .ref (ad 75)]) ++ List.replicate (5 - (lg_sl ([.ref (ad 0), .int p1, .int p2, .ref (ad 75)])).length) Slot.unset).toArray = ls at hl ⊢
  have hl : lv_has ls 5 [(0, .ref (ad 0)), (1, .int p1), (2, .int p2), (3, .ref (ad 75))] := hl
  refine lv_aload_n hx hb (by decide +kernel : decode cL_ledge 0 = .ok (.aload_n 3, 1)) rfl (lv_at hl 3 rfl) ?_
  refine lv_iconst (v := 0) hx hb (by decide +kernel : decode cL_ledge 1 = .ok (.iconst 0, 1)) (by decide) ?_
  refine lv_aload_n hx hb (by decide +kernel : decode cL_ledge 2 = .ok (.aload_n 0, 1)) rfl (lv_at hl 0 rfl) ?_
  refine lv_iload_n hx hb (by decide +kernel : decode cL_ledge 3 = .ok (.iload_n 1, 1)) rfl (lv_at hl 1 rfl) ?_
  refine lv_iload_n hx hb (by decide +kernel : decode cL_ledge 4 = .ok (.iload_n 2, 1)) rfl (lv_at hl 2 rfl) ?_
  refine gCall (own := RL) (as := [.int p1, .int p2]) (i := 0) (r := (r1, S1)) (M' := Mx92) (d := 60) (rest := [.int 0, .ref (ad 75)]) ⟨hx, hb, hml, hown, hts⟩ gh_ledge (mX_m z ad) hz hX hK (con_of hst (j := 92) rfl (Nat.le_of_ble_eq_true rfl) (fun w hw => by simp only [List.mem_cons, List.not_mem_nil, or_false] at hw; rcases hw with rfl | rfl | rfl <;> rfl) (f_X9_ledge_ok (d := 54) hf)) hP hD hS hl.1 (ci := 8) rfl rfl (Nat.le_of_ble_eq_true rfl) (by decide +kernel : decode cL_ledge 5 = .ok (.invokevirtual 20, 3)) ⟨by decide, by decide⟩ ⟨by decide, by decide⟩ (fun v hv H1 locs1 hP hD hS => ?_) (fun k9 hk9 H1 locs1 q ce hP hD hS hce hcv hcl => ?_)
  · obtain ⟨x, rfl, rfl, rfl⟩ := HR_in hr hv
    refine W.eq (g2 := F0 m 8 ls [.int x, .int 0, .ref (ad 75)]) rfl ?_
    refine lv_i2l hx hb (by decide +kernel : decode cL_ledge 8 = .ok (.i2l, 1)) rfl ?_
    refine va_last (A := mAz z) hx hb hK hP hD hS 75 3 (mW_get (i := 75) rfl) rfl vin0 (by decide +kernel : decode cL_ledge 9 = .ok (.lastore, 1)) (fun H1 locs1 hP hD hS => ?_)
    rw [out_set (x := x) rfl] at hP hD
    refine lv_goto (tgt := 21) hx hb (by decide +kernel : decode cL_ledge 10 = .ok (.goto 11, 3)) (by decide) ?_
    refine lv_iconst (v := 0) hx hb (by decide +kernel : decode cL_ledge 21 = .ok (.iconst 0, 1)) (by decide) ?_
    exact W.iret (v := 0) hx hb hr9 (fun t ht hW => ⟨rfl, mPost_end hP hD hS ht⟩) hS.2.2 (by decide +kernel : decode cL_ledge 22 = .ok (.ireturn, 1)) hlocks
  · obtain ⟨j, hj, hj8, rfl, rfl⟩ := HR_ex hr hk9
    match j, hj with
    | 0, hj =>
      cases hj
      refine vz_catch (own := RL) (name := exN 3) (E := exN 3) hown [] ⟨0, 10, 13, 24⟩ [⟨0, 10, 17, 26⟩] htab (fun _ h => absurd h List.not_mem_nil) (by decide) (by decide) (hts _ wl_3) (isEx_use rfl (hX.1 _ wc_3 rfl)) hce hcv hcl ?_
      refine lv_astore (lv' := [(4, .ref q), (0, .ref (ad 0)), (1, .int p1), (2, .int p2), (3, .ref (ad 75))]) hx hb (by decide +kernel : decode cL_ledge 13 = .ok (.astore 4, 2)) hl (by decide) rfl (fun ls hl => ?_)
      refine lv_iconst (v := 1) hx hb (by decide +kernel : decode cL_ledge 15 = .ok (.iconst 1, 1)) (by decide) ?_
      exact W.iret (v := 1) hx hb hr9 (fun t ht hW => ⟨rfl, mPost_end hP hD hS ht⟩) hS.2.2 (by decide +kernel : decode cL_ledge 16 = .ok (.ireturn, 1)) hlocks
    | 1, hj =>
      cases hj
      refine vz_catch (own := RL) (name := exN 4) (E := exN 4) hown [⟨0, 10, 13, 24⟩] ⟨0, 10, 17, 26⟩ [] htab (List.forall_mem_cons.mpr ⟨Or.inr ⟨by decide, exN 3, hts _ wl_3, hN.2.1⟩, fun _ h => absurd h List.not_mem_nil⟩) (by decide) (by decide) (hts _ wl_4) (isEx_use rfl (hX.1 _ wc_4 rfl)) hce hcv hcl ?_
      refine lv_astore (lv' := [(4, .ref q), (0, .ref (ad 0)), (1, .int p1), (2, .int p2), (3, .ref (ad 75))]) hx hb (by decide +kernel : decode cL_ledge 17 = .ok (.astore 4, 2)) hl (by decide) rfl (fun ls hl => ?_)
      refine lv_iconst (v := 2) hx hb (by decide +kernel : decode cL_ledge 19 = .ok (.iconst 2, 1)) (by decide) ?_
      exact W.iret (v := 2) hx hb hr9 (fun t ht hW => ⟨rfl, mPost_end hP hD hS ht⟩) hS.2.2 (by decide +kernel : decode cL_ledge 20 = .ok (.ireturn, 1)) hlocks
    | j + 2, hj => simp at hj
set_option maxRecDepth 20000 in
theorem gh_holder : gOK RL 28 Mx93 (RX9, TX9, 14) 2 [961, 962, 963, 106, 964] = true := by decide +kernel
set_option maxRecDepth 20000 in
theorem hc_holder {lau : Launch} {z : Nat} {D : va_G} {ad : Nat → Nat} {cy : Nat → ClassId} (hst : lau.stackTraces = false) {p1 p2 : Int32} {F : Nat} {S S1 : mS} {r1 : Option Value ⊕ Nat} (hf : f_X9_holder p1 p2 S = some (r1, S1)) {k : Int32} {S2 : mS} (hr : HR r1 S1 [3] k S2) : hCon lau z D ad cy yL_holder cL_holder 5 [(0, 10, 13, 24)] [.ref 0, .int p1, .int p2, .ref 75] S k S2 := by
  refine va_MetW (cc := cL_holder) (maxL := 5) (ret := some .int) (hh := [(0, 10, 13, 24)]) (by decide) rfl ?_
  intro p e s m args below meth c s₁ B hml hv
  obtain ⟨rfl, hz, hP, hK, hD, hX, hN⟩ := hv
  have hx := B.exec
  have hb := B.bytes
  have hr9 := B.returns
  have hts0 := atoms_spec (ws := hWs yL_holder cL_holder 5 [(0, 10, 13, 24)]) B.pre
  have hts : ∀ w ∈ mTs, w.before _ s = true := fun w hw => hts0 w (List.mem_cons_of_mem _ hw)
  have hown : s.vm.findClass RL = some m.cls := findClass_of_methodNamed B.named
  have hlocks := B.notSynchronized
  have htab := vx_table (x := yL_law_) B (hts0 _ List.mem_cons_self)
  have hS : va_S (mAz z) s.heap s.heap [] := va_S.rf
  have hl := lv_entry ([.ref (ad 0), .int p1, .int p2, .ref (ad 75)]) (n := 5) (Nat.le_of_ble_eq_true rfl)
  show W p lau e hRm s m _ below meth c s.heap [] 0 0 _ (entryFrame m ([.ref (ad 0), .int p1, .int p2, .ref (ad 75)] : List Value).toArray 5)
  rw [lg_entry_eq]
  generalize (lg_sl ([.ref (ad 0), .int p1, .int p2, .ref (ad 75)]) ++ List.replicate (5 - (lg_sl ([.ref (ad 0), .int p1, .int p2, .ref (ad 75)])).length) Slot.unset).toArray = ls at hl ⊢
  have hl : lv_has ls 5 [(0, .ref (ad 0)), (1, .int p1), (2, .int p2), (3, .ref (ad 75))] := hl
  refine lv_aload_n hx hb (by decide +kernel : decode cL_holder 0 = .ok (.aload_n 3, 1)) rfl (lv_at hl 3 rfl) ?_
  refine lv_iconst (v := 0) hx hb (by decide +kernel : decode cL_holder 1 = .ok (.iconst 0, 1)) (by decide) ?_
  refine lv_aload_n hx hb (by decide +kernel : decode cL_holder 2 = .ok (.aload_n 0, 1)) rfl (lv_at hl 0 rfl) ?_
  refine lv_iload_n hx hb (by decide +kernel : decode cL_holder 3 = .ok (.iload_n 1, 1)) rfl (lv_at hl 1 rfl) ?_
  refine lv_iload_n hx hb (by decide +kernel : decode cL_holder 4 = .ok (.iload_n 2, 1)) rfl (lv_at hl 2 rfl) ?_
  refine gCall (own := RL) (as := [.int p1, .int p2]) (i := 0) (r := (r1, S1)) (M' := Mx93) (d := 60) (rest := [.int 0, .ref (ad 75)]) ⟨hx, hb, hml, hown, hts⟩ gh_holder (mX_m z ad) hz hX hK (con_of hst (j := 93) rfl (Nat.le_of_ble_eq_true rfl) (fun w hw => by simp only [List.mem_cons, List.not_mem_nil, or_false] at hw; rcases hw with rfl | rfl | rfl <;> rfl) (f_X9_holder_ok (d := 58) hf)) hP hD hS hl.1 (ci := 8) rfl rfl (Nat.le_of_ble_eq_true rfl) (by decide +kernel : decode cL_holder 5 = .ok (.invokevirtual 28, 3)) ⟨by decide, by decide⟩ ⟨by decide, by decide⟩ (fun v hv H1 locs1 hP hD hS => ?_) (fun k9 hk9 H1 locs1 q ce hP hD hS hce hcv hcl => ?_)
  · obtain ⟨x, rfl, rfl, rfl⟩ := HR_in hr hv
    refine W.eq (g2 := F0 m 8 ls [.int x, .int 0, .ref (ad 75)]) rfl ?_
    refine lv_i2l hx hb (by decide +kernel : decode cL_holder 8 = .ok (.i2l, 1)) rfl ?_
    refine va_last (A := mAz z) hx hb hK hP hD hS 75 3 (mW_get (i := 75) rfl) rfl vin0 (by decide +kernel : decode cL_holder 9 = .ok (.lastore, 1)) (fun H1 locs1 hP hD hS => ?_)
    rw [out_set (x := x) rfl] at hP hD
    refine lv_goto (tgt := 17) hx hb (by decide +kernel : decode cL_holder 10 = .ok (.goto 7, 3)) (by decide) ?_
    refine lv_iconst (v := 0) hx hb (by decide +kernel : decode cL_holder 17 = .ok (.iconst 0, 1)) (by decide) ?_
    exact W.iret (v := 0) hx hb hr9 (fun t ht hW => ⟨rfl, mPost_end hP hD hS ht⟩) hS.2.2 (by decide +kernel : decode cL_holder 18 = .ok (.ireturn, 1)) hlocks
  · obtain ⟨j, hj, hj8, rfl, rfl⟩ := HR_ex hr hk9
    match j, hj with
    | 0, hj =>
      cases hj
      refine vz_catch (own := RL) (name := exN 3) (E := exN 3) hown [] ⟨0, 10, 13, 24⟩ [] htab (fun _ h => absurd h List.not_mem_nil) (by decide) (by decide) (hts _ wl_3) (isEx_use rfl (hX.1 _ wc_3 rfl)) hce hcv hcl ?_
      refine lv_astore (lv' := [(4, .ref q), (0, .ref (ad 0)), (1, .int p1), (2, .int p2), (3, .ref (ad 75))]) hx hb (by decide +kernel : decode cL_holder 13 = .ok (.astore 4, 2)) hl (by decide) rfl (fun ls hl => ?_)
      refine lv_iconst (v := 1) hx hb (by decide +kernel : decode cL_holder 15 = .ok (.iconst 1, 1)) (by decide) ?_
      exact W.iret (v := 1) hx hb hr9 (fun t ht hW => ⟨rfl, mPost_end hP hD hS ht⟩) hS.2.2 (by decide +kernel : decode cL_holder 16 = .ok (.ireturn, 1)) hlocks
    | j + 1, hj => simp at hj
set_option maxRecDepth 20000 in
theorem gh_climber : gOK RL 32 Mx94 (RX9, TX9, 14) 2 [974, 975, 976, 106, 977] = true := by decide +kernel
set_option maxRecDepth 20000 in
theorem hc_climber {lau : Launch} {z : Nat} {D : va_G} {ad : Nat → Nat} {cy : Nat → ClassId} (hst : lau.stackTraces = false) {p1 p2 : Int32} {F : Nat} {S S1 : mS} {r1 : Option Value ⊕ Nat} (hf : f_X9_climber F p1 p2 S = some (r1, S1)) {k : Int32} {S2 : mS} (hr : HR r1 S1 [3, 4] k S2) : hCon lau z D ad cy yL_climber cL_climber 5 [(0, 10, 13, 24), (0, 10, 17, 26)] [.ref 0, .int p1, .int p2, .ref 75] S k S2 := by
  refine va_MetW (cc := cL_climber) (maxL := 5) (ret := some .int) (hh := [(0, 10, 13, 24), (0, 10, 17, 26)]) (by decide) rfl ?_
  intro p e s m args below meth c s₁ B hml hv
  obtain ⟨rfl, hz, hP, hK, hD, hX, hN⟩ := hv
  have hx := B.exec
  have hb := B.bytes
  have hr9 := B.returns
  have hts0 := atoms_spec (ws := hWs yL_climber cL_climber 5 [(0, 10, 13, 24), (0, 10, 17, 26)]) B.pre
  have hts : ∀ w ∈ mTs, w.before _ s = true := fun w hw => hts0 w (List.mem_cons_of_mem _ hw)
  have hown : s.vm.findClass RL = some m.cls := findClass_of_methodNamed B.named
  have hlocks := B.notSynchronized
  have htab := vx_table (x := yL_law_) B (hts0 _ List.mem_cons_self)
  have hS : va_S (mAz z) s.heap s.heap [] := va_S.rf
  have hl := lv_entry ([.ref (ad 0), .int p1, .int p2, .ref (ad 75)]) (n := 5) (Nat.le_of_ble_eq_true rfl)
  show W p lau e hRm s m _ below meth c s.heap [] 0 0 _ (entryFrame m ([.ref (ad 0), .int p1, .int p2, .ref (ad 75)] : List Value).toArray 5)
  rw [lg_entry_eq]
  generalize (lg_sl ([.ref (ad 0), .int p1, .int p2, .ref (ad 75)]) ++ List.replicate (5 - (lg_sl ([.ref (ad 0), .int p1, .int p2, .ref (ad 75)])).length) Slot.unset).toArray = ls at hl ⊢
  have hl : lv_has ls 5 [(0, .ref (ad 0)), (1, .int p1), (2, .int p2), (3, .ref (ad 75))] := hl
  refine lv_aload_n hx hb (by decide +kernel : decode cL_climber 0 = .ok (.aload_n 3, 1)) rfl (lv_at hl 3 rfl) ?_
  refine lv_iconst (v := 0) hx hb (by decide +kernel : decode cL_climber 1 = .ok (.iconst 0, 1)) (by decide) ?_
  refine lv_aload_n hx hb (by decide +kernel : decode cL_climber 2 = .ok (.aload_n 0, 1)) rfl (lv_at hl 0 rfl) ?_
  refine lv_iload_n hx hb (by decide +kernel : decode cL_climber 3 = .ok (.iload_n 1, 1)) rfl (lv_at hl 1 rfl) ?_
  refine lv_iload_n hx hb (by decide +kernel : decode cL_climber 4 = .ok (.iload_n 2, 1)) rfl (lv_at hl 2 rfl) ?_
  refine gCall (own := RL) (as := [.int p1, .int p2]) (i := 0) (r := (r1, S1)) (M' := Mx94) (d := 60) (rest := [.int 0, .ref (ad 75)]) ⟨hx, hb, hml, hown, hts⟩ gh_climber (mX_m z ad) hz hX hK (con_of hst (j := 94) rfl (Nat.le_of_ble_eq_true rfl) (fun w hw => by simp only [List.mem_cons, List.not_mem_nil, or_false] at hw; rcases hw with rfl | rfl | rfl <;> rfl) (f_X9_climber_ok (d := 53) hf)) hP hD hS hl.1 (ci := 8) rfl rfl (Nat.le_of_ble_eq_true rfl) (by decide +kernel : decode cL_climber 5 = .ok (.invokevirtual 32, 3)) ⟨by decide, by decide⟩ ⟨by decide, by decide⟩ (fun v hv H1 locs1 hP hD hS => ?_) (fun k9 hk9 H1 locs1 q ce hP hD hS hce hcv hcl => ?_)
  · obtain ⟨x, rfl, rfl, rfl⟩ := HR_in hr hv
    refine W.eq (g2 := F0 m 8 ls [.int x, .int 0, .ref (ad 75)]) rfl ?_
    refine lv_i2l hx hb (by decide +kernel : decode cL_climber 8 = .ok (.i2l, 1)) rfl ?_
    refine va_last (A := mAz z) hx hb hK hP hD hS 75 3 (mW_get (i := 75) rfl) rfl vin0 (by decide +kernel : decode cL_climber 9 = .ok (.lastore, 1)) (fun H1 locs1 hP hD hS => ?_)
    rw [out_set (x := x) rfl] at hP hD
    refine lv_goto (tgt := 21) hx hb (by decide +kernel : decode cL_climber 10 = .ok (.goto 11, 3)) (by decide) ?_
    refine lv_iconst (v := 0) hx hb (by decide +kernel : decode cL_climber 21 = .ok (.iconst 0, 1)) (by decide) ?_
    exact W.iret (v := 0) hx hb hr9 (fun t ht hW => ⟨rfl, mPost_end hP hD hS ht⟩) hS.2.2 (by decide +kernel : decode cL_climber 22 = .ok (.ireturn, 1)) hlocks
  · obtain ⟨j, hj, hj8, rfl, rfl⟩ := HR_ex hr hk9
    match j, hj with
    | 0, hj =>
      cases hj
      refine vz_catch (own := RL) (name := exN 3) (E := exN 3) hown [] ⟨0, 10, 13, 24⟩ [⟨0, 10, 17, 26⟩] htab (fun _ h => absurd h List.not_mem_nil) (by decide) (by decide) (hts _ wl_3) (isEx_use rfl (hX.1 _ wc_3 rfl)) hce hcv hcl ?_
      refine lv_astore (lv' := [(4, .ref q), (0, .ref (ad 0)), (1, .int p1), (2, .int p2), (3, .ref (ad 75))]) hx hb (by decide +kernel : decode cL_climber 13 = .ok (.astore 4, 2)) hl (by decide) rfl (fun ls hl => ?_)
      refine lv_iconst (v := 1) hx hb (by decide +kernel : decode cL_climber 15 = .ok (.iconst 1, 1)) (by decide) ?_
      exact W.iret (v := 1) hx hb hr9 (fun t ht hW => ⟨rfl, mPost_end hP hD hS ht⟩) hS.2.2 (by decide +kernel : decode cL_climber 16 = .ok (.ireturn, 1)) hlocks
    | 1, hj =>
      cases hj
      refine vz_catch (own := RL) (name := exN 4) (E := exN 4) hown [⟨0, 10, 13, 24⟩] ⟨0, 10, 17, 26⟩ [] htab (List.forall_mem_cons.mpr ⟨Or.inr ⟨by decide, exN 3, hts _ wl_3, hN.2.1⟩, fun _ h => absurd h List.not_mem_nil⟩) (by decide) (by decide) (hts _ wl_4) (isEx_use rfl (hX.1 _ wc_4 rfl)) hce hcv hcl ?_
      refine lv_astore (lv' := [(4, .ref q), (0, .ref (ad 0)), (1, .int p1), (2, .int p2), (3, .ref (ad 75))]) hx hb (by decide +kernel : decode cL_climber 17 = .ok (.astore 4, 2)) hl (by decide) rfl (fun ls hl => ?_)
      refine lv_iconst (v := 2) hx hb (by decide +kernel : decode cL_climber 19 = .ok (.iconst 2, 1)) (by decide) ?_
      exact W.iret (v := 2) hx hb hr9 (fun t ht hW => ⟨rfl, mPost_end hP hD hS ht⟩) hS.2.2 (by decide +kernel : decode cL_climber 20 = .ok (.ireturn, 1)) hlocks
    | j + 2, hj => simp at hj
set_option maxRecDepth 20000 in
theorem gh_kicks : gOK RL 35 Mx95 (RX9, TX9, 14) 2 [986, 987, 988, 106, 989] = true := by decide +kernel
set_option maxRecDepth 20000 in
theorem hc_kicks {lau : Launch} {z : Nat} {D : va_G} {ad : Nat → Nat} {cy : Nat → ClassId} (hst : lau.stackTraces = false) {p1 p2 : Int32} {F : Nat} {S S1 : mS} {r1 : Option Value ⊕ Nat} (hf : f_X9_kicks F p1 p2 S = some (r1, S1)) {k : Int32} {S2 : mS} (hr : HR r1 S1 [3, 1] k S2) : hCon lau z D ad cy yL_kicks cL_kicks 5 [(0, 10, 13, 24), (0, 10, 17, 13)] [.ref 0, .int p1, .int p2, .ref 75] S k S2 := by
  refine va_MetW (cc := cL_kicks) (maxL := 5) (ret := some .int) (hh := [(0, 10, 13, 24), (0, 10, 17, 13)]) (by decide) rfl ?_
  intro p e s m args below meth c s₁ B hml hv
  obtain ⟨rfl, hz, hP, hK, hD, hX, hN⟩ := hv
  have hx := B.exec
  have hb := B.bytes
  have hr9 := B.returns
  have hts0 := atoms_spec (ws := hWs yL_kicks cL_kicks 5 [(0, 10, 13, 24), (0, 10, 17, 13)]) B.pre
  have hts : ∀ w ∈ mTs, w.before _ s = true := fun w hw => hts0 w (List.mem_cons_of_mem _ hw)
  have hown : s.vm.findClass RL = some m.cls := findClass_of_methodNamed B.named
  have hlocks := B.notSynchronized
  have htab := vx_table (x := yL_law_) B (hts0 _ List.mem_cons_self)
  have hS : va_S (mAz z) s.heap s.heap [] := va_S.rf
  have hl := lv_entry ([.ref (ad 0), .int p1, .int p2, .ref (ad 75)]) (n := 5) (Nat.le_of_ble_eq_true rfl)
  show W p lau e hRm s m _ below meth c s.heap [] 0 0 _ (entryFrame m ([.ref (ad 0), .int p1, .int p2, .ref (ad 75)] : List Value).toArray 5)
  rw [lg_entry_eq]
  generalize (lg_sl ([.ref (ad 0), .int p1, .int p2, .ref (ad 75)]) ++ List.replicate (5 - (lg_sl ([.ref (ad 0), .int p1, .int p2, .ref (ad 75)])).length) Slot.unset).toArray = ls at hl ⊢
  have hl : lv_has ls 5 [(0, .ref (ad 0)), (1, .int p1), (2, .int p2), (3, .ref (ad 75))] := hl
  refine lv_aload_n hx hb (by decide +kernel : decode cL_kicks 0 = .ok (.aload_n 3, 1)) rfl (lv_at hl 3 rfl) ?_
  refine lv_iconst (v := 0) hx hb (by decide +kernel : decode cL_kicks 1 = .ok (.iconst 0, 1)) (by decide) ?_
  refine lv_aload_n hx hb (by decide +kernel : decode cL_kicks 2 = .ok (.aload_n 0, 1)) rfl (lv_at hl 0 rfl) ?_
  refine lv_iload_n hx hb (by decide +kernel : decode cL_kicks 3 = .ok (.iload_n 1, 1)) rfl (lv_at hl 1 rfl) ?_
  refine lv_iload_n hx hb (by decide +kernel : decode cL_kicks 4 = .ok (.iload_n 2, 1)) rfl (lv_at hl 2 rfl) ?_
  refine gCall (own := RL) (as := [.int p1, .int p2]) (i := 0) (r := (r1, S1)) (M' := Mx95) (d := 60) (rest := [.int 0, .ref (ad 75)]) ⟨hx, hb, hml, hown, hts⟩ gh_kicks (mX_m z ad) hz hX hK (con_of hst (j := 95) rfl (Nat.le_of_ble_eq_true rfl) (fun w hw => by simp only [List.mem_cons, List.not_mem_nil, or_false] at hw; rcases hw with rfl | rfl | rfl <;> rfl) (f_X9_kicks_ok (d := 55) hf)) hP hD hS hl.1 (ci := 8) rfl rfl (Nat.le_of_ble_eq_true rfl) (by decide +kernel : decode cL_kicks 5 = .ok (.invokevirtual 35, 3)) ⟨by decide, by decide⟩ ⟨by decide, by decide⟩ (fun v hv H1 locs1 hP hD hS => ?_) (fun k9 hk9 H1 locs1 q ce hP hD hS hce hcv hcl => ?_)
  · obtain ⟨x, rfl, rfl, rfl⟩ := HR_in hr hv
    refine W.eq (g2 := F0 m 8 ls [.int x, .int 0, .ref (ad 75)]) rfl ?_
    refine lv_i2l hx hb (by decide +kernel : decode cL_kicks 8 = .ok (.i2l, 1)) rfl ?_
    refine va_last (A := mAz z) hx hb hK hP hD hS 75 3 (mW_get (i := 75) rfl) rfl vin0 (by decide +kernel : decode cL_kicks 9 = .ok (.lastore, 1)) (fun H1 locs1 hP hD hS => ?_)
    rw [out_set (x := x) rfl] at hP hD
    refine lv_goto (tgt := 21) hx hb (by decide +kernel : decode cL_kicks 10 = .ok (.goto 11, 3)) (by decide) ?_
    refine lv_iconst (v := 0) hx hb (by decide +kernel : decode cL_kicks 21 = .ok (.iconst 0, 1)) (by decide) ?_
    exact W.iret (v := 0) hx hb hr9 (fun t ht hW => ⟨rfl, mPost_end hP hD hS ht⟩) hS.2.2 (by decide +kernel : decode cL_kicks 22 = .ok (.ireturn, 1)) hlocks
  · obtain ⟨j, hj, hj8, rfl, rfl⟩ := HR_ex hr hk9
    match j, hj with
    | 0, hj =>
      cases hj
      refine vz_catch (own := RL) (name := exN 3) (E := exN 3) hown [] ⟨0, 10, 13, 24⟩ [⟨0, 10, 17, 13⟩] htab (fun _ h => absurd h List.not_mem_nil) (by decide) (by decide) (hts _ wl_3) (isEx_use rfl (hX.1 _ wc_3 rfl)) hce hcv hcl ?_
      refine lv_astore (lv' := [(4, .ref q), (0, .ref (ad 0)), (1, .int p1), (2, .int p2), (3, .ref (ad 75))]) hx hb (by decide +kernel : decode cL_kicks 13 = .ok (.astore 4, 2)) hl (by decide) rfl (fun ls hl => ?_)
      refine lv_iconst (v := 1) hx hb (by decide +kernel : decode cL_kicks 15 = .ok (.iconst 1, 1)) (by decide) ?_
      exact W.iret (v := 1) hx hb hr9 (fun t ht hW => ⟨rfl, mPost_end hP hD hS ht⟩) hS.2.2 (by decide +kernel : decode cL_kicks 16 = .ok (.ireturn, 1)) hlocks
    | 1, hj =>
      cases hj
      refine vz_catch (own := RL) (name := exN 1) (E := exN 1) hown [⟨0, 10, 13, 24⟩] ⟨0, 10, 17, 13⟩ [] htab (List.forall_mem_cons.mpr ⟨Or.inr ⟨by decide, exN 3, hts _ wl_3, hN.2.2.1⟩, fun _ h => absurd h List.not_mem_nil⟩) (by decide) (by decide) (hts _ wl_1) (isEx_use rfl (hX.1 _ wc_1 rfl)) hce hcv hcl ?_
      refine lv_astore (lv' := [(4, .ref q), (0, .ref (ad 0)), (1, .int p1), (2, .int p2), (3, .ref (ad 75))]) hx hb (by decide +kernel : decode cL_kicks 17 = .ok (.astore 4, 2)) hl (by decide) rfl (fun ls hl => ?_)
      refine lv_iconst (v := 2) hx hb (by decide +kernel : decode cL_kicks 19 = .ok (.iconst 2, 1)) (by decide) ?_
      exact W.iret (v := 2) hx hb hr9 (fun t ht hW => ⟨rfl, mPost_end hP hD hS ht⟩) hS.2.2 (by decide +kernel : decode cL_kicks 20 = .ok (.ireturn, 1)) hlocks
    | j + 2, hj => simp at hj
set_option maxRecDepth 20000 in
theorem gh_swing : gOK RL 38 Mx96 (RX9, TX9, 14) 3 [997, 998, 999, 106, 1000] = true := by decide +kernel
set_option maxRecDepth 20000 in
theorem hc_swing {lau : Launch} {z : Nat} {D : va_G} {ad : Nat → Nat} {cy : Nat → ClassId} (hst : lau.stackTraces = false) {p1 p2 p3 : Int32} {F : Nat} {S S1 : mS} {r1 : Option Value ⊕ Nat} (hf : f_X9_swing F p1 p2 p3 S = some (r1, S1)) {k : Int32} {S2 : mS} (hr : HR r1 S1 [3, 1] k S2) : hCon lau z D ad cy yL_swing cL_swing 6 [(0, 12, 15, 24), (0, 12, 19, 13)] [.ref 0, .int p1, .int p2, .int p3, .ref 75] S k S2 := by
  refine va_MetW (cc := cL_swing) (maxL := 6) (ret := some .int) (hh := [(0, 12, 15, 24), (0, 12, 19, 13)]) (by decide) rfl ?_
  intro p e s m args below meth c s₁ B hml hv
  obtain ⟨rfl, hz, hP, hK, hD, hX, hN⟩ := hv
  have hx := B.exec
  have hb := B.bytes
  have hr9 := B.returns
  have hts0 := atoms_spec (ws := hWs yL_swing cL_swing 6 [(0, 12, 15, 24), (0, 12, 19, 13)]) B.pre
  have hts : ∀ w ∈ mTs, w.before _ s = true := fun w hw => hts0 w (List.mem_cons_of_mem _ hw)
  have hown : s.vm.findClass RL = some m.cls := findClass_of_methodNamed B.named
  have hlocks := B.notSynchronized
  have htab := vx_table (x := yL_law_) B (hts0 _ List.mem_cons_self)
  have hS : va_S (mAz z) s.heap s.heap [] := va_S.rf
  have hl := lv_entry ([.ref (ad 0), .int p1, .int p2, .int p3, .ref (ad 75)]) (n := 6) (Nat.le_of_ble_eq_true rfl)
  show W p lau e hRm s m _ below meth c s.heap [] 0 0 _ (entryFrame m ([.ref (ad 0), .int p1, .int p2, .int p3, .ref (ad 75)] : List Value).toArray 6)
  rw [lg_entry_eq]
  generalize (lg_sl ([.ref (ad 0), .int p1, .int p2, .int p3, .ref (ad 75)]) ++ List.replicate (6 - (lg_sl ([.ref (ad 0), .int p1, .int p2, .int p3, .ref (ad 75)])).length) Slot.unset).toArray = ls at hl ⊢
  have hl : lv_has ls 6 [(0, .ref (ad 0)), (1, .int p1), (2, .int p2), (3, .int p3), (4, .ref (ad 75))] := hl
  refine lv_aload hx hb (by decide +kernel : decode cL_swing 0 = .ok (.aload 4, 2)) (lv_at hl 4 rfl) ?_
  refine lv_iconst (v := 0) hx hb (by decide +kernel : decode cL_swing 2 = .ok (.iconst 0, 1)) (by decide) ?_
  refine lv_aload_n hx hb (by decide +kernel : decode cL_swing 3 = .ok (.aload_n 0, 1)) rfl (lv_at hl 0 rfl) ?_
  refine lv_iload_n hx hb (by decide +kernel : decode cL_swing 4 = .ok (.iload_n 1, 1)) rfl (lv_at hl 1 rfl) ?_
  refine lv_iload_n hx hb (by decide +kernel : decode cL_swing 5 = .ok (.iload_n 2, 1)) rfl (lv_at hl 2 rfl) ?_
  refine lv_iload_n hx hb (by decide +kernel : decode cL_swing 6 = .ok (.iload_n 3, 1)) rfl (lv_at hl 3 rfl) ?_
  refine gCall (own := RL) (as := [.int p1, .int p2, .int p3]) (i := 0) (r := (r1, S1)) (M' := Mx96) (d := 60) (rest := [.int 0, .ref (ad 75)]) ⟨hx, hb, hml, hown, hts⟩ gh_swing (mX_m z ad) hz hX hK (con_of hst (j := 96) rfl (Nat.le_of_ble_eq_true rfl) (fun w hw => by simp only [List.mem_cons, List.not_mem_nil, or_false] at hw; rcases hw with rfl | rfl | rfl | rfl <;> rfl) (f_X9_swing_ok (d := 56) hf)) hP hD hS hl.1 (ci := 8) rfl rfl (Nat.le_of_ble_eq_true rfl) (by decide +kernel : decode cL_swing 7 = .ok (.invokevirtual 38, 3)) ⟨by decide, by decide⟩ ⟨by decide, by decide⟩ (fun v hv H1 locs1 hP hD hS => ?_) (fun k9 hk9 H1 locs1 q ce hP hD hS hce hcv hcl => ?_)
  · obtain ⟨x, rfl, rfl, rfl⟩ := HR_in hr hv
    refine W.eq (g2 := F0 m 10 ls [.int x, .int 0, .ref (ad 75)]) rfl ?_
    refine lv_i2l hx hb (by decide +kernel : decode cL_swing 10 = .ok (.i2l, 1)) rfl ?_
    refine va_last (A := mAz z) hx hb hK hP hD hS 75 3 (mW_get (i := 75) rfl) rfl vin0 (by decide +kernel : decode cL_swing 11 = .ok (.lastore, 1)) (fun H1 locs1 hP hD hS => ?_)
    rw [out_set (x := x) rfl] at hP hD
    refine lv_goto (tgt := 23) hx hb (by decide +kernel : decode cL_swing 12 = .ok (.goto 11, 3)) (by decide) ?_
    refine lv_iconst (v := 0) hx hb (by decide +kernel : decode cL_swing 23 = .ok (.iconst 0, 1)) (by decide) ?_
    exact W.iret (v := 0) hx hb hr9 (fun t ht hW => ⟨rfl, mPost_end hP hD hS ht⟩) hS.2.2 (by decide +kernel : decode cL_swing 24 = .ok (.ireturn, 1)) hlocks
  · obtain ⟨j, hj, hj8, rfl, rfl⟩ := HR_ex hr hk9
    match j, hj with
    | 0, hj =>
      cases hj
      refine vz_catch (own := RL) (name := exN 3) (E := exN 3) hown [] ⟨0, 12, 15, 24⟩ [⟨0, 12, 19, 13⟩] htab (fun _ h => absurd h List.not_mem_nil) (by decide) (by decide) (hts _ wl_3) (isEx_use rfl (hX.1 _ wc_3 rfl)) hce hcv hcl ?_
      refine lv_astore (lv' := [(5, .ref q), (0, .ref (ad 0)), (1, .int p1), (2, .int p2), (3, .int p3), (4, .ref (ad 75))]) hx hb (by decide +kernel : decode cL_swing 15 = .ok (.astore 5, 2)) hl (by decide) rfl (fun ls hl => ?_)
      refine lv_iconst (v := 1) hx hb (by decide +kernel : decode cL_swing 17 = .ok (.iconst 1, 1)) (by decide) ?_
      exact W.iret (v := 1) hx hb hr9 (fun t ht hW => ⟨rfl, mPost_end hP hD hS ht⟩) hS.2.2 (by decide +kernel : decode cL_swing 18 = .ok (.ireturn, 1)) hlocks
    | 1, hj =>
      cases hj
      refine vz_catch (own := RL) (name := exN 1) (E := exN 1) hown [⟨0, 12, 15, 24⟩] ⟨0, 12, 19, 13⟩ [] htab (List.forall_mem_cons.mpr ⟨Or.inr ⟨by decide, exN 3, hts _ wl_3, hN.2.2.1⟩, fun _ h => absurd h List.not_mem_nil⟩) (by decide) (by decide) (hts _ wl_1) (isEx_use rfl (hX.1 _ wc_1 rfl)) hce hcv hcl ?_
      refine lv_astore (lv' := [(5, .ref q), (0, .ref (ad 0)), (1, .int p1), (2, .int p2), (3, .int p3), (4, .ref (ad 75))]) hx hb (by decide +kernel : decode cL_swing 19 = .ok (.astore 5, 2)) hl (by decide) rfl (fun ls hl => ?_)
      refine lv_iconst (v := 2) hx hb (by decide +kernel : decode cL_swing 21 = .ok (.iconst 2, 1)) (by decide) ?_
      exact W.iret (v := 2) hx hb hr9 (fun t ht hW => ⟨rfl, mPost_end hP hD hS ht⟩) hS.2.2 (by decide +kernel : decode cL_swing 22 = .ok (.ireturn, 1)) hlocks
    | j + 2, hj => simp at hj
set_option maxRecDepth 20000 in
theorem gh_load : gOK RL 42 Mx97 (RX9, TX9, 14) 2 [1005, 1006, 1007, 106, 1008] = true := by decide +kernel
set_option maxRecDepth 20000 in
theorem hc_load {lau : Launch} {z : Nat} {D : va_G} {ad : Nat → Nat} {cy : Nat → ClassId} (hst : lau.stackTraces = false) {p1 p2 : Int32} {F : Nat} {S S1 : mS} {r1 : Option Value ⊕ Nat} (hf : f_X9_load p1 p2 S = some (r1, S1)) {k : Int32} {S2 : mS} (hr : HR r1 S1 [3] k S2) : hCon lau z D ad cy yL_load cL_load 5 [(0, 10, 13, 24)] [.ref 0, .int p1, .int p2, .ref 75] S k S2 := by
  refine va_MetW (cc := cL_load) (maxL := 5) (ret := some .int) (hh := [(0, 10, 13, 24)]) (by decide) rfl ?_
  intro p e s m args below meth c s₁ B hml hv
  obtain ⟨rfl, hz, hP, hK, hD, hX, hN⟩ := hv
  have hx := B.exec
  have hb := B.bytes
  have hr9 := B.returns
  have hts0 := atoms_spec (ws := hWs yL_load cL_load 5 [(0, 10, 13, 24)]) B.pre
  have hts : ∀ w ∈ mTs, w.before _ s = true := fun w hw => hts0 w (List.mem_cons_of_mem _ hw)
  have hown : s.vm.findClass RL = some m.cls := findClass_of_methodNamed B.named
  have hlocks := B.notSynchronized
  have htab := vx_table (x := yL_law_) B (hts0 _ List.mem_cons_self)
  have hS : va_S (mAz z) s.heap s.heap [] := va_S.rf
  have hl := lv_entry ([.ref (ad 0), .int p1, .int p2, .ref (ad 75)]) (n := 5) (Nat.le_of_ble_eq_true rfl)
  show W p lau e hRm s m _ below meth c s.heap [] 0 0 _ (entryFrame m ([.ref (ad 0), .int p1, .int p2, .ref (ad 75)] : List Value).toArray 5)
  rw [lg_entry_eq]
  generalize (lg_sl ([.ref (ad 0), .int p1, .int p2, .ref (ad 75)]) ++ List.replicate (5 - (lg_sl ([.ref (ad 0), .int p1, .int p2, .ref (ad 75)])).length) Slot.unset).toArray = ls at hl ⊢
  have hl : lv_has ls 5 [(0, .ref (ad 0)), (1, .int p1), (2, .int p2), (3, .ref (ad 75))] := hl
  refine lv_aload_n hx hb (by decide +kernel : decode cL_load 0 = .ok (.aload_n 3, 1)) rfl (lv_at hl 3 rfl) ?_
  refine lv_iconst (v := 0) hx hb (by decide +kernel : decode cL_load 1 = .ok (.iconst 0, 1)) (by decide) ?_
  refine lv_aload_n hx hb (by decide +kernel : decode cL_load 2 = .ok (.aload_n 0, 1)) rfl (lv_at hl 0 rfl) ?_
  refine lv_iload_n hx hb (by decide +kernel : decode cL_load 3 = .ok (.iload_n 1, 1)) rfl (lv_at hl 1 rfl) ?_
  refine lv_iload_n hx hb (by decide +kernel : decode cL_load 4 = .ok (.iload_n 2, 1)) rfl (lv_at hl 2 rfl) ?_
  refine gCall (own := RL) (as := [.int p1, .int p2]) (i := 0) (r := (r1, S1)) (M' := Mx97) (d := 60) (rest := [.int 0, .ref (ad 75)]) ⟨hx, hb, hml, hown, hts⟩ gh_load (mX_m z ad) hz hX hK (con_of hst (j := 97) rfl (Nat.le_of_ble_eq_true rfl) (fun w hw => by simp only [List.mem_cons, List.not_mem_nil, or_false] at hw; rcases hw with rfl | rfl | rfl <;> rfl) (f_X9_load_ok (d := 57) hf)) hP hD hS hl.1 (ci := 8) rfl rfl (Nat.le_of_ble_eq_true rfl) (by decide +kernel : decode cL_load 5 = .ok (.invokevirtual 42, 3)) ⟨by decide, by decide⟩ ⟨by decide, by decide⟩ (fun v hv H1 locs1 hP hD hS => ?_) (fun k9 hk9 H1 locs1 q ce hP hD hS hce hcv hcl => ?_)
  · obtain ⟨x, rfl, rfl, rfl⟩ := HR_in hr hv
    refine W.eq (g2 := F0 m 8 ls [.int x, .int 0, .ref (ad 75)]) rfl ?_
    refine lv_i2l hx hb (by decide +kernel : decode cL_load 8 = .ok (.i2l, 1)) rfl ?_
    refine va_last (A := mAz z) hx hb hK hP hD hS 75 3 (mW_get (i := 75) rfl) rfl vin0 (by decide +kernel : decode cL_load 9 = .ok (.lastore, 1)) (fun H1 locs1 hP hD hS => ?_)
    rw [out_set (x := x) rfl] at hP hD
    refine lv_goto (tgt := 17) hx hb (by decide +kernel : decode cL_load 10 = .ok (.goto 7, 3)) (by decide) ?_
    refine lv_iconst (v := 0) hx hb (by decide +kernel : decode cL_load 17 = .ok (.iconst 0, 1)) (by decide) ?_
    exact W.iret (v := 0) hx hb hr9 (fun t ht hW => ⟨rfl, mPost_end hP hD hS ht⟩) hS.2.2 (by decide +kernel : decode cL_load 18 = .ok (.ireturn, 1)) hlocks
  · obtain ⟨j, hj, hj8, rfl, rfl⟩ := HR_ex hr hk9
    match j, hj with
    | 0, hj =>
      cases hj
      refine vz_catch (own := RL) (name := exN 3) (E := exN 3) hown [] ⟨0, 10, 13, 24⟩ [] htab (fun _ h => absurd h List.not_mem_nil) (by decide) (by decide) (hts _ wl_3) (isEx_use rfl (hX.1 _ wc_3 rfl)) hce hcv hcl ?_
      refine lv_astore (lv' := [(4, .ref q), (0, .ref (ad 0)), (1, .int p1), (2, .int p2), (3, .ref (ad 75))]) hx hb (by decide +kernel : decode cL_load 13 = .ok (.astore 4, 2)) hl (by decide) rfl (fun ls hl => ?_)
      refine lv_iconst (v := 1) hx hb (by decide +kernel : decode cL_load 15 = .ok (.iconst 1, 1)) (by decide) ?_
      exact W.iret (v := 1) hx hb hr9 (fun t ht hW => ⟨rfl, mPost_end hP hD hS ht⟩) hS.2.2 (by decide +kernel : decode cL_load 16 = .ok (.ireturn, 1)) hlocks
    | j + 1, hj => simp at hj
set_option maxRecDepth 20000 in
theorem gh_held : gOK RL 45 Mx98 (RX9, TX9, 14) 3 [1013, 1014, 1015, 106, 1016] = true := by decide +kernel
set_option maxRecDepth 20000 in
theorem hc_held {lau : Launch} {z : Nat} {D : va_G} {ad : Nat → Nat} {cy : Nat → ClassId} (hst : lau.stackTraces = false) {p1 p2 p3 : Int32} {F : Nat} {S S1 : mS} {r1 : Option Value ⊕ Nat} (hf : f_X9_held F p1 p2 p3 S = some (r1, S1)) {k : Int32} {S2 : mS} (hr : HRb r1 S1 [3] k S2) : hCon lau z D ad cy yL_held cL_held 6 [(0, 19, 22, 24)] [.ref 0, .int p1, .int p2, .int p3, .ref 75] S k S2 := by
  refine va_MetW (cc := cL_held) (maxL := 6) (ret := some .int) (hh := [(0, 19, 22, 24)]) (by decide) rfl ?_
  intro p e s m args below meth c s₁ B hml hv
  obtain ⟨rfl, hz, hP, hK, hD, hX, hN⟩ := hv
  have hx := B.exec
  have hb := B.bytes
  have hr9 := B.returns
  have hts0 := atoms_spec (ws := hWs yL_held cL_held 6 [(0, 19, 22, 24)]) B.pre
  have hts : ∀ w ∈ mTs, w.before _ s = true := fun w hw => hts0 w (List.mem_cons_of_mem _ hw)
  have hown : s.vm.findClass RL = some m.cls := findClass_of_methodNamed B.named
  have hlocks := B.notSynchronized
  have htab := vx_table (x := yL_law_) B (hts0 _ List.mem_cons_self)
  have hS : va_S (mAz z) s.heap s.heap [] := va_S.rf
  have hl := lv_entry ([.ref (ad 0), .int p1, .int p2, .int p3, .ref (ad 75)]) (n := 6) (Nat.le_of_ble_eq_true rfl)
  show W p lau e hRm s m _ below meth c s.heap [] 0 0 _ (entryFrame m ([.ref (ad 0), .int p1, .int p2, .int p3, .ref (ad 75)] : List Value).toArray 6)
  rw [lg_entry_eq]
  generalize (lg_sl ([.ref (ad 0), .int p1, .int p2, .int p3, .ref (ad 75)]) ++ List.replicate (6 - (lg_sl ([.ref (ad 0), .int p1, .int p2, .int p3, .ref (ad 75)])).length) Slot.unset).toArray = ls at hl ⊢
  have hl : lv_has ls 6 [(0, .ref (ad 0)), (1, .int p1), (2, .int p2), (3, .int p3), (4, .ref (ad 75))] := hl
  refine lv_aload hx hb (by decide +kernel : decode cL_held 0 = .ok (.aload 4, 2)) (lv_at hl 4 rfl) ?_
  refine lv_iconst (v := 0) hx hb (by decide +kernel : decode cL_held 2 = .ok (.iconst 0, 1)) (by decide) ?_
  refine lv_aload_n hx hb (by decide +kernel : decode cL_held 3 = .ok (.aload_n 0, 1)) rfl (lv_at hl 0 rfl) ?_
  refine lv_iload_n hx hb (by decide +kernel : decode cL_held 4 = .ok (.iload_n 1, 1)) rfl (lv_at hl 1 rfl) ?_
  refine lv_iload_n hx hb (by decide +kernel : decode cL_held 5 = .ok (.iload_n 2, 1)) rfl (lv_at hl 2 rfl) ?_
  refine lv_iload_n hx hb (by decide +kernel : decode cL_held 6 = .ok (.iload_n 3, 1)) rfl (lv_at hl 3 rfl) ?_
  refine gCall (own := RL) (as := [.int p1, .int p2, .int p3]) (i := 0) (r := (r1, S1)) (M' := Mx98) (d := 60) (rest := [.int 0, .ref (ad 75)]) ⟨hx, hb, hml, hown, hts⟩ gh_held (mX_m z ad) hz hX hK (con_of hst (j := 98) rfl (Nat.le_of_ble_eq_true rfl) (fun w hw => by simp only [List.mem_cons, List.not_mem_nil, or_false] at hw; rcases hw with rfl | rfl | rfl | rfl <;> rfl) (f_X9_held_ok (d := 57) hf)) hP hD hS hl.1 (ci := 8) rfl rfl (Nat.le_of_ble_eq_true rfl) (by decide +kernel : decode cL_held 7 = .ok (.invokevirtual 45, 3)) ⟨by decide, by decide⟩ ⟨by decide, by decide⟩ (fun v hv H1 locs1 hP hD hS => ?_) (fun k9 hk9 H1 locs1 q ce hP hD hS hce hcv hcl => ?_)
  · obtain ⟨x, rfl, rfl, rfl⟩ := HRb_in hr hv
    refine W.eq (g2 := F0 m 10 ls [.int x, .int 0, .ref (ad 75)]) rfl ?_
    refine lv_if_eq (tgt := 17) hx hb (by decide +kernel : decode cL_held 10 = .ok (.ifCond .eq 7, 3)) (by decide) (fun c0 => ?_) (fun c0 => ?_)
    · rw [if_pos c0]
      refine lv_lconst (v := 0) hx hb (by decide +kernel : decode cL_held 17 = .ok (.lconst 0, 1)) (by decide) ?_
      refine va_last (A := mAz z) hx hb hK hP hD hS 75 3 (mW_get (i := 75) rfl) rfl vin0 (by decide +kernel : decode cL_held 18 = .ok (.lastore, 1)) (fun H1 locs1 hP hD hS => ?_)
      rw [out_set (x := 0) (y := 0) (by decide)] at hP hD
      refine lv_goto (tgt := 26) hx hb (by decide +kernel : decode cL_held 19 = .ok (.goto 7, 3)) (by decide) ?_
      refine lv_iconst (v := 0) hx hb (by decide +kernel : decode cL_held 26 = .ok (.iconst 0, 1)) (by decide) ?_
      exact W.iret (v := 0) hx hb hr9 (fun t ht hW => ⟨rfl, mPost_end hP hD hS ht⟩) hS.2.2 (by decide +kernel : decode cL_held 27 = .ok (.ireturn, 1)) hlocks
    · rw [if_neg c0]
      refine lv_lconst (v := 1) hx hb (by decide +kernel : decode cL_held 13 = .ok (.lconst 1, 1)) (by decide) ?_
      refine lv_goto (tgt := 18) hx hb (by decide +kernel : decode cL_held 14 = .ok (.goto 4, 3)) (by decide) ?_
      refine va_last (A := mAz z) hx hb hK hP hD hS 75 3 (mW_get (i := 75) rfl) rfl vin0 (by decide +kernel : decode cL_held 18 = .ok (.lastore, 1)) (fun H1 locs1 hP hD hS => ?_)
      rw [out_set (x := 1) (y := 1) (by decide)] at hP hD
      refine lv_goto (tgt := 26) hx hb (by decide +kernel : decode cL_held 19 = .ok (.goto 7, 3)) (by decide) ?_
      refine lv_iconst (v := 0) hx hb (by decide +kernel : decode cL_held 26 = .ok (.iconst 0, 1)) (by decide) ?_
      exact W.iret (v := 0) hx hb hr9 (fun t ht hW => ⟨rfl, mPost_end hP hD hS ht⟩) hS.2.2 (by decide +kernel : decode cL_held 27 = .ok (.ireturn, 1)) hlocks
  · obtain ⟨j, hj, hj8, rfl, rfl⟩ := HRb_ex hr hk9
    match j, hj with
    | 0, hj =>
      cases hj
      refine vz_catch (own := RL) (name := exN 3) (E := exN 3) hown [] ⟨0, 19, 22, 24⟩ [] htab (fun _ h => absurd h List.not_mem_nil) (by decide) (by decide) (hts _ wl_3) (isEx_use rfl (hX.1 _ wc_3 rfl)) hce hcv hcl ?_
      refine lv_astore (lv' := [(5, .ref q), (0, .ref (ad 0)), (1, .int p1), (2, .int p2), (3, .int p3), (4, .ref (ad 75))]) hx hb (by decide +kernel : decode cL_held 22 = .ok (.astore 5, 2)) hl (by decide) rfl (fun ls hl => ?_)
      refine lv_iconst (v := 1) hx hb (by decide +kernel : decode cL_held 24 = .ok (.iconst 1, 1)) (by decide) ?_
      exact W.iret (v := 1) hx hb hr9 (fun t ht hW => ⟨rfl, mPost_end hP hD hS ht⟩) hS.2.2 (by decide +kernel : decode cL_held 25 = .ok (.ireturn, 1)) hlocks
    | j + 1, hj => simp at hj
set_option maxRecDepth 20000 in
theorem gh_let : gOK RL 49 Mx99 (RX9, TX9, 14) 3 [1022, 1023, 1024, 106, 1025] = true := by decide +kernel
set_option maxRecDepth 20000 in
theorem hc_let {lau : Launch} {z : Nat} {D : va_G} {ad : Nat → Nat} {cy : Nat → ClassId} (hst : lau.stackTraces = false) {p1 p2 p3 : Int32} {F : Nat} {S S1 : mS} {r1 : Option Value ⊕ Nat} (hf : f_X9_let F p1 p2 p3 S = some (r1, S1)) {k : Int32} {S2 : mS} (hr : HR r1 S1 [3, 1, 5] k S2) : hCon lau z D ad cy yL_let cL_let 6 [(0, 12, 15, 24), (0, 12, 19, 13), (0, 12, 23, 52)] [.ref 0, .int p1, .int p2, .int p3, .ref 75] S k S2 := by
  refine va_MetW (cc := cL_let) (maxL := 6) (ret := some .int) (hh := [(0, 12, 15, 24), (0, 12, 19, 13), (0, 12, 23, 52)]) (by decide) rfl ?_
  intro p e s m args below meth c s₁ B hml hv
  obtain ⟨rfl, hz, hP, hK, hD, hX, hN⟩ := hv
  have hx := B.exec
  have hb := B.bytes
  have hr9 := B.returns
  have hts0 := atoms_spec (ws := hWs yL_let cL_let 6 [(0, 12, 15, 24), (0, 12, 19, 13), (0, 12, 23, 52)]) B.pre
  have hts : ∀ w ∈ mTs, w.before _ s = true := fun w hw => hts0 w (List.mem_cons_of_mem _ hw)
  have hown : s.vm.findClass RL = some m.cls := findClass_of_methodNamed B.named
  have hlocks := B.notSynchronized
  have htab := vx_table (x := yL_law_) B (hts0 _ List.mem_cons_self)
  have hS : va_S (mAz z) s.heap s.heap [] := va_S.rf
  have hl := lv_entry ([.ref (ad 0), .int p1, .int p2, .int p3, .ref (ad 75)]) (n := 6) (Nat.le_of_ble_eq_true rfl)
  show W p lau e hRm s m _ below meth c s.heap [] 0 0 _ (entryFrame m ([.ref (ad 0), .int p1, .int p2, .int p3, .ref (ad 75)] : List Value).toArray 6)
  rw [lg_entry_eq]
  generalize (lg_sl ([.ref (ad 0), .int p1, .int p2, .int p3, .ref (ad 75)]) ++ List.replicate (6 - (lg_sl ([.ref (ad 0), .int p1, .int p2, .int p3, .ref (ad 75)])).length) Slot.unset).toArray = ls at hl ⊢
  have hl : lv_has ls 6 [(0, .ref (ad 0)), (1, .int p1), (2, .int p2), (3, .int p3), (4, .ref (ad 75))] := hl
  refine lv_aload hx hb (by decide +kernel : decode cL_let 0 = .ok (.aload 4, 2)) (lv_at hl 4 rfl) ?_
  refine lv_iconst (v := 0) hx hb (by decide +kernel : decode cL_let 2 = .ok (.iconst 0, 1)) (by decide) ?_
  refine lv_aload_n hx hb (by decide +kernel : decode cL_let 3 = .ok (.aload_n 0, 1)) rfl (lv_at hl 0 rfl) ?_
  refine lv_iload_n hx hb (by decide +kernel : decode cL_let 4 = .ok (.iload_n 1, 1)) rfl (lv_at hl 1 rfl) ?_
  refine lv_iload_n hx hb (by decide +kernel : decode cL_let 5 = .ok (.iload_n 2, 1)) rfl (lv_at hl 2 rfl) ?_
  refine lv_iload_n hx hb (by decide +kernel : decode cL_let 6 = .ok (.iload_n 3, 1)) rfl (lv_at hl 3 rfl) ?_
  refine gCall (own := RL) (as := [.int p1, .int p2, .int p3]) (i := 0) (r := (r1, S1)) (M' := Mx99) (d := 60) (rest := [.int 0, .ref (ad 75)]) ⟨hx, hb, hml, hown, hts⟩ gh_let (mX_m z ad) hz hX hK (con_of hst (j := 99) rfl (Nat.le_of_ble_eq_true rfl) (fun w hw => by simp only [List.mem_cons, List.not_mem_nil, or_false] at hw; rcases hw with rfl | rfl | rfl | rfl <;> rfl) (f_X9_let_ok (d := 54) hf)) hP hD hS hl.1 (ci := 8) rfl rfl (Nat.le_of_ble_eq_true rfl) (by decide +kernel : decode cL_let 7 = .ok (.invokevirtual 49, 3)) ⟨by decide, by decide⟩ ⟨by decide, by decide⟩ (fun v hv H1 locs1 hP hD hS => ?_) (fun k9 hk9 H1 locs1 q ce hP hD hS hce hcv hcl => ?_)
  · obtain ⟨x, rfl, rfl, rfl⟩ := HR_in hr hv
    refine W.eq (g2 := F0 m 10 ls [.int x, .int 0, .ref (ad 75)]) rfl ?_
    refine lv_i2l hx hb (by decide +kernel : decode cL_let 10 = .ok (.i2l, 1)) rfl ?_
    refine va_last (A := mAz z) hx hb hK hP hD hS 75 3 (mW_get (i := 75) rfl) rfl vin0 (by decide +kernel : decode cL_let 11 = .ok (.lastore, 1)) (fun H1 locs1 hP hD hS => ?_)
    rw [out_set (x := x) rfl] at hP hD
    refine lv_goto (tgt := 27) hx hb (by decide +kernel : decode cL_let 12 = .ok (.goto 15, 3)) (by decide) ?_
    refine lv_iconst (v := 0) hx hb (by decide +kernel : decode cL_let 27 = .ok (.iconst 0, 1)) (by decide) ?_
    exact W.iret (v := 0) hx hb hr9 (fun t ht hW => ⟨rfl, mPost_end hP hD hS ht⟩) hS.2.2 (by decide +kernel : decode cL_let 28 = .ok (.ireturn, 1)) hlocks
  · obtain ⟨j, hj, hj8, rfl, rfl⟩ := HR_ex hr hk9
    match j, hj with
    | 0, hj =>
      cases hj
      refine vz_catch (own := RL) (name := exN 3) (E := exN 3) hown [] ⟨0, 12, 15, 24⟩ [⟨0, 12, 19, 13⟩, ⟨0, 12, 23, 52⟩] htab (fun _ h => absurd h List.not_mem_nil) (by decide) (by decide) (hts _ wl_3) (isEx_use rfl (hX.1 _ wc_3 rfl)) hce hcv hcl ?_
      refine lv_astore (lv' := [(5, .ref q), (0, .ref (ad 0)), (1, .int p1), (2, .int p2), (3, .int p3), (4, .ref (ad 75))]) hx hb (by decide +kernel : decode cL_let 15 = .ok (.astore 5, 2)) hl (by decide) rfl (fun ls hl => ?_)
      refine lv_iconst (v := 1) hx hb (by decide +kernel : decode cL_let 17 = .ok (.iconst 1, 1)) (by decide) ?_
      exact W.iret (v := 1) hx hb hr9 (fun t ht hW => ⟨rfl, mPost_end hP hD hS ht⟩) hS.2.2 (by decide +kernel : decode cL_let 18 = .ok (.ireturn, 1)) hlocks
    | 1, hj =>
      cases hj
      refine vz_catch (own := RL) (name := exN 1) (E := exN 1) hown [⟨0, 12, 15, 24⟩] ⟨0, 12, 19, 13⟩ [⟨0, 12, 23, 52⟩] htab (List.forall_mem_cons.mpr ⟨Or.inr ⟨by decide, exN 3, hts _ wl_3, hN.2.2.1⟩, fun _ h => absurd h List.not_mem_nil⟩) (by decide) (by decide) (hts _ wl_1) (isEx_use rfl (hX.1 _ wc_1 rfl)) hce hcv hcl ?_
      refine lv_astore (lv' := [(5, .ref q), (0, .ref (ad 0)), (1, .int p1), (2, .int p2), (3, .int p3), (4, .ref (ad 75))]) hx hb (by decide +kernel : decode cL_let 19 = .ok (.astore 5, 2)) hl (by decide) rfl (fun ls hl => ?_)
      refine lv_iconst (v := 2) hx hb (by decide +kernel : decode cL_let 21 = .ok (.iconst 2, 1)) (by decide) ?_
      exact W.iret (v := 2) hx hb hr9 (fun t ht hW => ⟨rfl, mPost_end hP hD hS ht⟩) hS.2.2 (by decide +kernel : decode cL_let 22 = .ok (.ireturn, 1)) hlocks
    | 2, hj =>
      cases hj
      refine vz_catch (own := RL) (name := exN 5) (E := exN 5) hown [⟨0, 12, 15, 24⟩, ⟨0, 12, 19, 13⟩] ⟨0, 12, 23, 52⟩ [] htab (List.forall_mem_cons.mpr ⟨Or.inr ⟨by decide, exN 3, hts _ wl_3, hN.2.2.2.1⟩, List.forall_mem_cons.mpr ⟨Or.inr ⟨by decide, exN 1, hts _ wl_1, hN.2.2.2.2⟩, fun _ h => absurd h List.not_mem_nil⟩⟩) (by decide) (by decide) (hts _ wl_5) (isEx_use rfl (hX.1 _ wc_5 rfl)) hce hcv hcl ?_
      refine lv_astore (lv' := [(5, .ref q), (0, .ref (ad 0)), (1, .int p1), (2, .int p2), (3, .int p3), (4, .ref (ad 75))]) hx hb (by decide +kernel : decode cL_let 23 = .ok (.astore 5, 2)) hl (by decide) rfl (fun ls hl => ?_)
      refine lv_iconst (v := 3) hx hb (by decide +kernel : decode cL_let 25 = .ok (.iconst 3, 1)) (by decide) ?_
      exact W.iret (v := 3) hx hb hr9 (fun t ht hW => ⟨rfl, mPost_end hP hD hS ht⟩) hS.2.2 (by decide +kernel : decode cL_let 26 = .ok (.ireturn, 1)) hlocks
    | j + 3, hj => simp at hj
set_option maxRecDepth 20000 in
theorem gh_clear : gOK RL 54 Mx100 (RX9, TX9, 14) 1 [1076, 1077, 1078, 106, 1079] = true := by decide +kernel
set_option maxRecDepth 20000 in
theorem hc_clear {lau : Launch} {z : Nat} {D : va_G} {ad : Nat → Nat} {cy : Nat → ClassId} (hst : lau.stackTraces = false) {p1 : Int32} {F : Nat} {S S1 : mS} {r1 : Option Value ⊕ Nat} (hf : f_X9_clear p1 S = some (r1, S1)) {k : Int32} {S2 : mS} (hr : HR r1 S1 [3] k S2) : hCon lau z D ad cy yL_clear cL_clear 4 [(0, 9, 12, 24)] [.ref 0, .int p1, .ref 75] S k S2 := by
  refine va_MetW (cc := cL_clear) (maxL := 4) (ret := some .int) (hh := [(0, 9, 12, 24)]) (by decide) rfl ?_
  intro p e s m args below meth c s₁ B hml hv
  obtain ⟨rfl, hz, hP, hK, hD, hX, hN⟩ := hv
  have hx := B.exec
  have hb := B.bytes
  have hr9 := B.returns
  have hts0 := atoms_spec (ws := hWs yL_clear cL_clear 4 [(0, 9, 12, 24)]) B.pre
  have hts : ∀ w ∈ mTs, w.before _ s = true := fun w hw => hts0 w (List.mem_cons_of_mem _ hw)
  have hown : s.vm.findClass RL = some m.cls := findClass_of_methodNamed B.named
  have hlocks := B.notSynchronized
  have htab := vx_table (x := yL_law_) B (hts0 _ List.mem_cons_self)
  have hS : va_S (mAz z) s.heap s.heap [] := va_S.rf
  have hl := lv_entry ([.ref (ad 0), .int p1, .ref (ad 75)]) (n := 4) (Nat.le_of_ble_eq_true rfl)
  show W p lau e hRm s m _ below meth c s.heap [] 0 0 _ (entryFrame m ([.ref (ad 0), .int p1, .ref (ad 75)] : List Value).toArray 4)
  rw [lg_entry_eq]
  generalize (lg_sl ([.ref (ad 0), .int p1, .ref (ad 75)]) ++ List.replicate (4 - (lg_sl ([.ref (ad 0), .int p1, .ref (ad 75)])).length) Slot.unset).toArray = ls at hl ⊢
  have hl : lv_has ls 4 [(0, .ref (ad 0)), (1, .int p1), (2, .ref (ad 75))] := hl
  refine lv_aload_n hx hb (by decide +kernel : decode cL_clear 0 = .ok (.aload_n 2, 1)) rfl (lv_at hl 2 rfl) ?_
  refine lv_iconst (v := 0) hx hb (by decide +kernel : decode cL_clear 1 = .ok (.iconst 0, 1)) (by decide) ?_
  refine lv_aload_n hx hb (by decide +kernel : decode cL_clear 2 = .ok (.aload_n 0, 1)) rfl (lv_at hl 0 rfl) ?_
  refine lv_iload_n hx hb (by decide +kernel : decode cL_clear 3 = .ok (.iload_n 1, 1)) rfl (lv_at hl 1 rfl) ?_
  refine gCall (own := RL) (as := [.int p1]) (i := 0) (r := (r1, S1)) (M' := Mx100) (d := 60) (rest := [.int 0, .ref (ad 75)]) ⟨hx, hb, hml, hown, hts⟩ gh_clear (mX_m z ad) hz hX hK (con_of hst (j := 100) rfl (Nat.le_of_ble_eq_true rfl) (fun w hw => by simp only [List.mem_cons, List.not_mem_nil, or_false] at hw; rcases hw with rfl | rfl <;> rfl) (f_X9_clear_ok (d := 58) hf)) hP hD hS hl.1 (ci := 8) rfl rfl (Nat.le_of_ble_eq_true rfl) (by decide +kernel : decode cL_clear 4 = .ok (.invokevirtual 54, 3)) ⟨by decide, by decide⟩ ⟨by decide, by decide⟩ (fun v hv H1 locs1 hP hD hS => ?_) (fun k9 hk9 H1 locs1 q ce hP hD hS hce hcv hcl => ?_)
  · obtain ⟨x, rfl, rfl, rfl⟩ := HR_in hr hv
    refine W.eq (g2 := F0 m 7 ls [.int x, .int 0, .ref (ad 75)]) rfl ?_
    refine lv_i2l hx hb (by decide +kernel : decode cL_clear 7 = .ok (.i2l, 1)) rfl ?_
    refine va_last (A := mAz z) hx hb hK hP hD hS 75 3 (mW_get (i := 75) rfl) rfl vin0 (by decide +kernel : decode cL_clear 8 = .ok (.lastore, 1)) (fun H1 locs1 hP hD hS => ?_)
    rw [out_set (x := x) rfl] at hP hD
    refine lv_goto (tgt := 15) hx hb (by decide +kernel : decode cL_clear 9 = .ok (.goto 6, 3)) (by decide) ?_
    refine lv_iconst (v := 0) hx hb (by decide +kernel : decode cL_clear 15 = .ok (.iconst 0, 1)) (by decide) ?_
    exact W.iret (v := 0) hx hb hr9 (fun t ht hW => ⟨rfl, mPost_end hP hD hS ht⟩) hS.2.2 (by decide +kernel : decode cL_clear 16 = .ok (.ireturn, 1)) hlocks
  · obtain ⟨j, hj, hj8, rfl, rfl⟩ := HR_ex hr hk9
    match j, hj with
    | 0, hj =>
      cases hj
      refine vz_catch (own := RL) (name := exN 3) (E := exN 3) hown [] ⟨0, 9, 12, 24⟩ [] htab (fun _ h => absurd h List.not_mem_nil) (by decide) (by decide) (hts _ wl_3) (isEx_use rfl (hX.1 _ wc_3 rfl)) hce hcv hcl ?_
      refine lv_astore_n (lv' := [(3, .ref q), (0, .ref (ad 0)), (1, .int p1), (2, .ref (ad 75))]) hx hb (by decide +kernel : decode cL_clear 12 = .ok (.astore_n 3, 1)) rfl hl (by decide) rfl (fun ls hl => ?_)
      refine lv_iconst (v := 1) hx hb (by decide +kernel : decode cL_clear 13 = .ok (.iconst 1, 1)) (by decide) ?_
      exact W.iret (v := 1) hx hb hr9 (fun t ht hW => ⟨rfl, mPost_end hP hD hS ht⟩) hS.2.2 (by decide +kernel : decode cL_clear 14 = .ok (.ireturn, 1)) hlocks
    | j + 1, hj => simp at hj
set_option maxRecDepth 20000 in
theorem gh_rest : gOK RL 58 Mx102 (RX9, TX9, 14) 1 [1084, 1085, 1086, 106, 1087] = true := by decide +kernel
set_option maxRecDepth 20000 in
theorem hc_rest {lau : Launch} {z : Nat} {D : va_G} {ad : Nat → Nat} {cy : Nat → ClassId} (hst : lau.stackTraces = false) {p1 : Int32} {F : Nat} {S S1 : mS} {r1 : Option Value ⊕ Nat} (hf : f_X9_rest p1 S = some (r1, S1)) {k : Int32} {S2 : mS} (hr : HR r1 S1 [3] k S2) : hCon lau z D ad cy yL_rest cL_rest 4 [(0, 9, 12, 24)] [.ref 0, .int p1, .ref 75] S k S2 := by
  refine va_MetW (cc := cL_rest) (maxL := 4) (ret := some .int) (hh := [(0, 9, 12, 24)]) (by decide) rfl ?_
  intro p e s m args below meth c s₁ B hml hv
  obtain ⟨rfl, hz, hP, hK, hD, hX, hN⟩ := hv
  have hx := B.exec
  have hb := B.bytes
  have hr9 := B.returns
  have hts0 := atoms_spec (ws := hWs yL_rest cL_rest 4 [(0, 9, 12, 24)]) B.pre
  have hts : ∀ w ∈ mTs, w.before _ s = true := fun w hw => hts0 w (List.mem_cons_of_mem _ hw)
  have hown : s.vm.findClass RL = some m.cls := findClass_of_methodNamed B.named
  have hlocks := B.notSynchronized
  have htab := vx_table (x := yL_law_) B (hts0 _ List.mem_cons_self)
  have hS : va_S (mAz z) s.heap s.heap [] := va_S.rf
  have hl := lv_entry ([.ref (ad 0), .int p1, .ref (ad 75)]) (n := 4) (Nat.le_of_ble_eq_true rfl)
  show W p lau e hRm s m _ below meth c s.heap [] 0 0 _ (entryFrame m ([.ref (ad 0), .int p1, .ref (ad 75)] : List Value).toArray 4)
  rw [lg_entry_eq]
  generalize (lg_sl ([.ref (ad 0), .int p1, .ref (ad 75)]) ++ List.replicate (4 - (lg_sl ([.ref (ad 0), .int p1, .ref (ad 75)])).length) Slot.unset).toArray = ls at hl ⊢
  have hl : lv_has ls 4 [(0, .ref (ad 0)), (1, .int p1), (2, .ref (ad 75))] := hl
  refine lv_aload_n hx hb (by decide +kernel : decode cL_rest 0 = .ok (.aload_n 2, 1)) rfl (lv_at hl 2 rfl) ?_
  refine lv_iconst (v := 0) hx hb (by decide +kernel : decode cL_rest 1 = .ok (.iconst 0, 1)) (by decide) ?_
  refine lv_aload_n hx hb (by decide +kernel : decode cL_rest 2 = .ok (.aload_n 0, 1)) rfl (lv_at hl 0 rfl) ?_
  refine lv_iload_n hx hb (by decide +kernel : decode cL_rest 3 = .ok (.iload_n 1, 1)) rfl (lv_at hl 1 rfl) ?_
  refine gCall (own := RL) (as := [.int p1]) (i := 0) (r := (r1, S1)) (M' := Mx102) (d := 60) (rest := [.int 0, .ref (ad 75)]) ⟨hx, hb, hml, hown, hts⟩ gh_rest (mX_m z ad) hz hX hK (con_of hst (j := 102) rfl (Nat.le_of_ble_eq_true rfl) (fun w hw => by simp only [List.mem_cons, List.not_mem_nil, or_false] at hw; rcases hw with rfl | rfl <;> rfl) (f_X9_rest_ok (d := 58) hf)) hP hD hS hl.1 (ci := 8) rfl rfl (Nat.le_of_ble_eq_true rfl) (by decide +kernel : decode cL_rest 4 = .ok (.invokevirtual 58, 3)) ⟨by decide, by decide⟩ ⟨by decide, by decide⟩ (fun v hv H1 locs1 hP hD hS => ?_) (fun k9 hk9 H1 locs1 q ce hP hD hS hce hcv hcl => ?_)
  · obtain ⟨x, rfl, rfl, rfl⟩ := HR_in hr hv
    refine W.eq (g2 := F0 m 7 ls [.int x, .int 0, .ref (ad 75)]) rfl ?_
    refine lv_i2l hx hb (by decide +kernel : decode cL_rest 7 = .ok (.i2l, 1)) rfl ?_
    refine va_last (A := mAz z) hx hb hK hP hD hS 75 3 (mW_get (i := 75) rfl) rfl vin0 (by decide +kernel : decode cL_rest 8 = .ok (.lastore, 1)) (fun H1 locs1 hP hD hS => ?_)
    rw [out_set (x := x) rfl] at hP hD
    refine lv_goto (tgt := 15) hx hb (by decide +kernel : decode cL_rest 9 = .ok (.goto 6, 3)) (by decide) ?_
    refine lv_iconst (v := 0) hx hb (by decide +kernel : decode cL_rest 15 = .ok (.iconst 0, 1)) (by decide) ?_
    exact W.iret (v := 0) hx hb hr9 (fun t ht hW => ⟨rfl, mPost_end hP hD hS ht⟩) hS.2.2 (by decide +kernel : decode cL_rest 16 = .ok (.ireturn, 1)) hlocks
  · obtain ⟨j, hj, hj8, rfl, rfl⟩ := HR_ex hr hk9
    match j, hj with
    | 0, hj =>
      cases hj
      refine vz_catch (own := RL) (name := exN 3) (E := exN 3) hown [] ⟨0, 9, 12, 24⟩ [] htab (fun _ h => absurd h List.not_mem_nil) (by decide) (by decide) (hts _ wl_3) (isEx_use rfl (hX.1 _ wc_3 rfl)) hce hcv hcl ?_
      refine lv_astore_n (lv' := [(3, .ref q), (0, .ref (ad 0)), (1, .int p1), (2, .ref (ad 75))]) hx hb (by decide +kernel : decode cL_rest 12 = .ok (.astore_n 3, 1)) rfl hl (by decide) rfl (fun ls hl => ?_)
      refine lv_iconst (v := 1) hx hb (by decide +kernel : decode cL_rest 13 = .ok (.iconst 1, 1)) (by decide) ?_
      exact W.iret (v := 1) hx hb hr9 (fun t ht hW => ⟨rfl, mPost_end hP hD hS ht⟩) hS.2.2 (by decide +kernel : decode cL_rest 14 = .ok (.ireturn, 1)) hlocks
    | j + 1, hj => simp at hj
set_option maxRecDepth 20000 in
theorem gh_days : gOK RL 61 Mx103 (RX9, TX9, 14) 1 [1092, 1093, 1094, 106, 1095] = true := by decide +kernel
set_option maxRecDepth 20000 in
theorem hc_days {lau : Launch} {z : Nat} {D : va_G} {ad : Nat → Nat} {cy : Nat → ClassId} (hst : lau.stackTraces = false) {p1 : Int32} {F : Nat} {S S1 : mS} {r1 : Option Value ⊕ Nat} (hf : f_X9_days F p1 S = some (r1, S1)) {k : Int32} {S2 : mS} (hr : HR r1 S1 [1] k S2) : hCon lau z D ad cy yL_days cL_days 4 [(0, 9, 12, 13)] [.ref 0, .int p1, .ref 75] S k S2 := by
  refine va_MetW (cc := cL_days) (maxL := 4) (ret := some .int) (hh := [(0, 9, 12, 13)]) (by decide) rfl ?_
  intro p e s m args below meth c s₁ B hml hv
  obtain ⟨rfl, hz, hP, hK, hD, hX, hN⟩ := hv
  have hx := B.exec
  have hb := B.bytes
  have hr9 := B.returns
  have hts0 := atoms_spec (ws := hWs yL_days cL_days 4 [(0, 9, 12, 13)]) B.pre
  have hts : ∀ w ∈ mTs, w.before _ s = true := fun w hw => hts0 w (List.mem_cons_of_mem _ hw)
  have hown : s.vm.findClass RL = some m.cls := findClass_of_methodNamed B.named
  have hlocks := B.notSynchronized
  have htab := vx_table (x := yL_law_) B (hts0 _ List.mem_cons_self)
  have hS : va_S (mAz z) s.heap s.heap [] := va_S.rf
  have hl := lv_entry ([.ref (ad 0), .int p1, .ref (ad 75)]) (n := 4) (Nat.le_of_ble_eq_true rfl)
  show W p lau e hRm s m _ below meth c s.heap [] 0 0 _ (entryFrame m ([.ref (ad 0), .int p1, .ref (ad 75)] : List Value).toArray 4)
  rw [lg_entry_eq]
  generalize (lg_sl ([.ref (ad 0), .int p1, .ref (ad 75)]) ++ List.replicate (4 - (lg_sl ([.ref (ad 0), .int p1, .ref (ad 75)])).length) Slot.unset).toArray = ls at hl ⊢
  have hl : lv_has ls 4 [(0, .ref (ad 0)), (1, .int p1), (2, .ref (ad 75))] := hl
  refine lv_aload_n hx hb (by decide +kernel : decode cL_days 0 = .ok (.aload_n 2, 1)) rfl (lv_at hl 2 rfl) ?_
  refine lv_iconst (v := 0) hx hb (by decide +kernel : decode cL_days 1 = .ok (.iconst 0, 1)) (by decide) ?_
  refine lv_aload_n hx hb (by decide +kernel : decode cL_days 2 = .ok (.aload_n 0, 1)) rfl (lv_at hl 0 rfl) ?_
  refine lv_iload_n hx hb (by decide +kernel : decode cL_days 3 = .ok (.iload_n 1, 1)) rfl (lv_at hl 1 rfl) ?_
  refine gCall (own := RL) (as := [.int p1]) (i := 0) (r := (r1, S1)) (M' := Mx103) (d := 60) (rest := [.int 0, .ref (ad 75)]) ⟨hx, hb, hml, hown, hts⟩ gh_days (mX_m z ad) hz hX hK (con_of hst (j := 103) rfl (Nat.le_of_ble_eq_true rfl) (fun w hw => by simp only [List.mem_cons, List.not_mem_nil, or_false] at hw; rcases hw with rfl | rfl <;> rfl) (f_X9_days_ok (d := 54) hf)) hP hD hS hl.1 (ci := 8) rfl rfl (Nat.le_of_ble_eq_true rfl) (by decide +kernel : decode cL_days 4 = .ok (.invokevirtual 61, 3)) ⟨by decide, by decide⟩ ⟨by decide, by decide⟩ (fun v hv H1 locs1 hP hD hS => ?_) (fun k9 hk9 H1 locs1 q ce hP hD hS hce hcv hcl => ?_)
  · obtain ⟨x, rfl, rfl, rfl⟩ := HR_in hr hv
    refine W.eq (g2 := F0 m 7 ls [.int x, .int 0, .ref (ad 75)]) rfl ?_
    refine lv_i2l hx hb (by decide +kernel : decode cL_days 7 = .ok (.i2l, 1)) rfl ?_
    refine va_last (A := mAz z) hx hb hK hP hD hS 75 3 (mW_get (i := 75) rfl) rfl vin0 (by decide +kernel : decode cL_days 8 = .ok (.lastore, 1)) (fun H1 locs1 hP hD hS => ?_)
    rw [out_set (x := x) rfl] at hP hD
    refine lv_goto (tgt := 15) hx hb (by decide +kernel : decode cL_days 9 = .ok (.goto 6, 3)) (by decide) ?_
    refine lv_iconst (v := 0) hx hb (by decide +kernel : decode cL_days 15 = .ok (.iconst 0, 1)) (by decide) ?_
    exact W.iret (v := 0) hx hb hr9 (fun t ht hW => ⟨rfl, mPost_end hP hD hS ht⟩) hS.2.2 (by decide +kernel : decode cL_days 16 = .ok (.ireturn, 1)) hlocks
  · obtain ⟨j, hj, hj8, rfl, rfl⟩ := HR_ex hr hk9
    match j, hj with
    | 0, hj =>
      cases hj
      refine vz_catch (own := RL) (name := exN 1) (E := exN 1) hown [] ⟨0, 9, 12, 13⟩ [] htab (fun _ h => absurd h List.not_mem_nil) (by decide) (by decide) (hts _ wl_1) (isEx_use rfl (hX.1 _ wc_1 rfl)) hce hcv hcl ?_
      refine lv_astore_n (lv' := [(3, .ref q), (0, .ref (ad 0)), (1, .int p1), (2, .ref (ad 75))]) hx hb (by decide +kernel : decode cL_days 12 = .ok (.astore_n 3, 1)) rfl hl (by decide) rfl (fun ls hl => ?_)
      refine lv_iconst (v := 1) hx hb (by decide +kernel : decode cL_days 13 = .ok (.iconst 1, 1)) (by decide) ?_
      exact W.iret (v := 1) hx hb hr9 (fun t ht hW => ⟨rfl, mPost_end hP hD hS ht⟩) hS.2.2 (by decide +kernel : decode cL_days 14 = .ok (.ireturn, 1)) hlocks
    | j + 1, hj => simp at hj
set_option maxRecDepth 20000 in
theorem gh_ahead : gOK RL 64 Mx104 (RX9, TX9, 14) 3 [1116, 1117, 1118, 106, 1119] = true := by decide +kernel
set_option maxRecDepth 20000 in
theorem hc_ahead {lau : Launch} {z : Nat} {D : va_G} {ad : Nat → Nat} {cy : Nat → ClassId} (hst : lau.stackTraces = false) {p1 p2 p3 : Int32} {F : Nat} {S S1 : mS} {r1 : Option Value ⊕ Nat} (hf : f_X9_ahead F p1 p2 p3 S = some (r1, S1)) {k : Int32} {S2 : mS} (hr : HR r1 S1 [3, 1] k S2) : hCon lau z D ad cy yL_ahead cL_ahead 6 [(0, 12, 15, 24), (0, 12, 19, 13)] [.ref 0, .int p1, .int p2, .int p3, .ref 75] S k S2 := by
  refine va_MetW (cc := cL_ahead) (maxL := 6) (ret := some .int) (hh := [(0, 12, 15, 24), (0, 12, 19, 13)]) (by decide) rfl ?_
  intro p e s m args below meth c s₁ B hml hv
  obtain ⟨rfl, hz, hP, hK, hD, hX, hN⟩ := hv
  have hx := B.exec
  have hb := B.bytes
  have hr9 := B.returns
  have hts0 := atoms_spec (ws := hWs yL_ahead cL_ahead 6 [(0, 12, 15, 24), (0, 12, 19, 13)]) B.pre
  have hts : ∀ w ∈ mTs, w.before _ s = true := fun w hw => hts0 w (List.mem_cons_of_mem _ hw)
  have hown : s.vm.findClass RL = some m.cls := findClass_of_methodNamed B.named
  have hlocks := B.notSynchronized
  have htab := vx_table (x := yL_law_) B (hts0 _ List.mem_cons_self)
  have hS : va_S (mAz z) s.heap s.heap [] := va_S.rf
  have hl := lv_entry ([.ref (ad 0), .int p1, .int p2, .int p3, .ref (ad 75)]) (n := 6) (Nat.le_of_ble_eq_true rfl)
  show W p lau e hRm s m _ below meth c s.heap [] 0 0 _ (entryFrame m ([.ref (ad 0), .int p1, .int p2, .int p3, .ref (ad 75)] : List Value).toArray 6)
  rw [lg_entry_eq]
  generalize (lg_sl ([.ref (ad 0), .int p1, .int p2, .int p3, .ref (ad 75)]) ++ List.replicate (6 - (lg_sl ([.ref (ad 0), .int p1, .int p2, .int p3, .ref (ad 75)])).length) Slot.unset).toArray = ls at hl ⊢
  have hl : lv_has ls 6 [(0, .ref (ad 0)), (1, .int p1), (2, .int p2), (3, .int p3), (4, .ref (ad 75))] := hl
  refine lv_aload hx hb (by decide +kernel : decode cL_ahead 0 = .ok (.aload 4, 2)) (lv_at hl 4 rfl) ?_
  refine lv_iconst (v := 0) hx hb (by decide +kernel : decode cL_ahead 2 = .ok (.iconst 0, 1)) (by decide) ?_
  refine lv_aload_n hx hb (by decide +kernel : decode cL_ahead 3 = .ok (.aload_n 0, 1)) rfl (lv_at hl 0 rfl) ?_
  refine lv_iload_n hx hb (by decide +kernel : decode cL_ahead 4 = .ok (.iload_n 1, 1)) rfl (lv_at hl 1 rfl) ?_
  refine lv_iload_n hx hb (by decide +kernel : decode cL_ahead 5 = .ok (.iload_n 2, 1)) rfl (lv_at hl 2 rfl) ?_
  refine lv_iload_n hx hb (by decide +kernel : decode cL_ahead 6 = .ok (.iload_n 3, 1)) rfl (lv_at hl 3 rfl) ?_
  refine gCall (own := RL) (as := [.int p1, .int p2, .int p3]) (i := 0) (r := (r1, S1)) (M' := Mx104) (d := 60) (rest := [.int 0, .ref (ad 75)]) ⟨hx, hb, hml, hown, hts⟩ gh_ahead (mX_m z ad) hz hX hK (con_of hst (j := 104) rfl (Nat.le_of_ble_eq_true rfl) (fun w hw => by simp only [List.mem_cons, List.not_mem_nil, or_false] at hw; rcases hw with rfl | rfl | rfl | rfl <;> rfl) (f_X9_ahead_ok (d := 54) hf)) hP hD hS hl.1 (ci := 8) rfl rfl (Nat.le_of_ble_eq_true rfl) (by decide +kernel : decode cL_ahead 7 = .ok (.invokevirtual 64, 3)) ⟨by decide, by decide⟩ ⟨by decide, by decide⟩ (fun v hv H1 locs1 hP hD hS => ?_) (fun k9 hk9 H1 locs1 q ce hP hD hS hce hcv hcl => ?_)
  · obtain ⟨x, rfl, rfl, rfl⟩ := HR_in hr hv
    refine W.eq (g2 := F0 m 10 ls [.int x, .int 0, .ref (ad 75)]) rfl ?_
    refine lv_i2l hx hb (by decide +kernel : decode cL_ahead 10 = .ok (.i2l, 1)) rfl ?_
    refine va_last (A := mAz z) hx hb hK hP hD hS 75 3 (mW_get (i := 75) rfl) rfl vin0 (by decide +kernel : decode cL_ahead 11 = .ok (.lastore, 1)) (fun H1 locs1 hP hD hS => ?_)
    rw [out_set (x := x) rfl] at hP hD
    refine lv_goto (tgt := 23) hx hb (by decide +kernel : decode cL_ahead 12 = .ok (.goto 11, 3)) (by decide) ?_
    refine lv_iconst (v := 0) hx hb (by decide +kernel : decode cL_ahead 23 = .ok (.iconst 0, 1)) (by decide) ?_
    exact W.iret (v := 0) hx hb hr9 (fun t ht hW => ⟨rfl, mPost_end hP hD hS ht⟩) hS.2.2 (by decide +kernel : decode cL_ahead 24 = .ok (.ireturn, 1)) hlocks
  · obtain ⟨j, hj, hj8, rfl, rfl⟩ := HR_ex hr hk9
    match j, hj with
    | 0, hj =>
      cases hj
      refine vz_catch (own := RL) (name := exN 3) (E := exN 3) hown [] ⟨0, 12, 15, 24⟩ [⟨0, 12, 19, 13⟩] htab (fun _ h => absurd h List.not_mem_nil) (by decide) (by decide) (hts _ wl_3) (isEx_use rfl (hX.1 _ wc_3 rfl)) hce hcv hcl ?_
      refine lv_astore (lv' := [(5, .ref q), (0, .ref (ad 0)), (1, .int p1), (2, .int p2), (3, .int p3), (4, .ref (ad 75))]) hx hb (by decide +kernel : decode cL_ahead 15 = .ok (.astore 5, 2)) hl (by decide) rfl (fun ls hl => ?_)
      refine lv_iconst (v := 1) hx hb (by decide +kernel : decode cL_ahead 17 = .ok (.iconst 1, 1)) (by decide) ?_
      exact W.iret (v := 1) hx hb hr9 (fun t ht hW => ⟨rfl, mPost_end hP hD hS ht⟩) hS.2.2 (by decide +kernel : decode cL_ahead 18 = .ok (.ireturn, 1)) hlocks
    | 1, hj =>
      cases hj
      refine vz_catch (own := RL) (name := exN 1) (E := exN 1) hown [⟨0, 12, 15, 24⟩] ⟨0, 12, 19, 13⟩ [] htab (List.forall_mem_cons.mpr ⟨Or.inr ⟨by decide, exN 3, hts _ wl_3, hN.2.2.1⟩, fun _ h => absurd h List.not_mem_nil⟩) (by decide) (by decide) (hts _ wl_1) (isEx_use rfl (hX.1 _ wc_1 rfl)) hce hcv hcl ?_
      refine lv_astore (lv' := [(5, .ref q), (0, .ref (ad 0)), (1, .int p1), (2, .int p2), (3, .int p3), (4, .ref (ad 75))]) hx hb (by decide +kernel : decode cL_ahead 19 = .ok (.astore 5, 2)) hl (by decide) rfl (fun ls hl => ?_)
      refine lv_iconst (v := 2) hx hb (by decide +kernel : decode cL_ahead 21 = .ok (.iconst 2, 1)) (by decide) ?_
      exact W.iret (v := 2) hx hb hr9 (fun t ht hW => ⟨rfl, mPost_end hP hD hS ht⟩) hS.2.2 (by decide +kernel : decode cL_ahead 22 = .ok (.ireturn, 1)) hlocks
    | j + 2, hj => simp at hj
set_option maxRecDepth 20000 in
theorem gh_when : gOK RL 68 Mx106 (RX9, TX9, 14) 2 [1127, 1128, 1129, 106, 1130] = true := by decide +kernel
set_option maxRecDepth 20000 in
theorem hc_when {lau : Launch} {z : Nat} {D : va_G} {ad : Nat → Nat} {cy : Nat → ClassId} (hst : lau.stackTraces = false) {p1 p2 : Int32} {F : Nat} {S S1 : mS} {r1 : Option Value ⊕ Nat} (hf : f_X9_when F p1 p2 S = some (r1, S1)) {k : Int32} {S2 : mS} (hr : HR r1 S1 [3, 1] k S2) : hCon lau z D ad cy yL_when cL_when 5 [(0, 10, 13, 24), (0, 10, 17, 13)] [.ref 0, .int p1, .int p2, .ref 75] S k S2 := by
  refine va_MetW (cc := cL_when) (maxL := 5) (ret := some .int) (hh := [(0, 10, 13, 24), (0, 10, 17, 13)]) (by decide) rfl ?_
  intro p e s m args below meth c s₁ B hml hv
  obtain ⟨rfl, hz, hP, hK, hD, hX, hN⟩ := hv
  have hx := B.exec
  have hb := B.bytes
  have hr9 := B.returns
  have hts0 := atoms_spec (ws := hWs yL_when cL_when 5 [(0, 10, 13, 24), (0, 10, 17, 13)]) B.pre
  have hts : ∀ w ∈ mTs, w.before _ s = true := fun w hw => hts0 w (List.mem_cons_of_mem _ hw)
  have hown : s.vm.findClass RL = some m.cls := findClass_of_methodNamed B.named
  have hlocks := B.notSynchronized
  have htab := vx_table (x := yL_law_) B (hts0 _ List.mem_cons_self)
  have hS : va_S (mAz z) s.heap s.heap [] := va_S.rf
  have hl := lv_entry ([.ref (ad 0), .int p1, .int p2, .ref (ad 75)]) (n := 5) (Nat.le_of_ble_eq_true rfl)
  show W p lau e hRm s m _ below meth c s.heap [] 0 0 _ (entryFrame m ([.ref (ad 0), .int p1, .int p2, .ref (ad 75)] : List Value).toArray 5)
  rw [lg_entry_eq]
  generalize (lg_sl ([.ref (ad 0), .int p1, .int p2, .ref (ad 75)]) ++ List.replicate (5 - (lg_sl ([.ref (ad 0), .int p1, .int p2, .ref (ad 75)])).length) Slot.unset).toArray = ls at hl ⊢
  have hl : lv_has ls 5 [(0, .ref (ad 0)), (1, .int p1), (2, .int p2), (3, .ref (ad 75))] := hl
  refine lv_aload_n hx hb (by decide +kernel : decode cL_when 0 = .ok (.aload_n 3, 1)) rfl (lv_at hl 3 rfl) ?_
  refine lv_iconst (v := 0) hx hb (by decide +kernel : decode cL_when 1 = .ok (.iconst 0, 1)) (by decide) ?_
  refine lv_aload_n hx hb (by decide +kernel : decode cL_when 2 = .ok (.aload_n 0, 1)) rfl (lv_at hl 0 rfl) ?_
  refine lv_iload_n hx hb (by decide +kernel : decode cL_when 3 = .ok (.iload_n 1, 1)) rfl (lv_at hl 1 rfl) ?_
  refine lv_iload_n hx hb (by decide +kernel : decode cL_when 4 = .ok (.iload_n 2, 1)) rfl (lv_at hl 2 rfl) ?_
  refine gCall (own := RL) (as := [.int p1, .int p2]) (i := 0) (r := (r1, S1)) (M' := Mx106) (d := 60) (rest := [.int 0, .ref (ad 75)]) ⟨hx, hb, hml, hown, hts⟩ gh_when (mX_m z ad) hz hX hK (con_of hst (j := 106) rfl (Nat.le_of_ble_eq_true rfl) (fun w hw => by simp only [List.mem_cons, List.not_mem_nil, or_false] at hw; rcases hw with rfl | rfl | rfl <;> rfl) (f_X9_when_ok (d := 54) hf)) hP hD hS hl.1 (ci := 8) rfl rfl (Nat.le_of_ble_eq_true rfl) (by decide +kernel : decode cL_when 5 = .ok (.invokevirtual 68, 3)) ⟨by decide, by decide⟩ ⟨by decide, by decide⟩ (fun v hv H1 locs1 hP hD hS => ?_) (fun k9 hk9 H1 locs1 q ce hP hD hS hce hcv hcl => ?_)
  · obtain ⟨x, rfl, rfl, rfl⟩ := HR_in hr hv
    refine W.eq (g2 := F0 m 8 ls [.int x, .int 0, .ref (ad 75)]) rfl ?_
    refine lv_i2l hx hb (by decide +kernel : decode cL_when 8 = .ok (.i2l, 1)) rfl ?_
    refine va_last (A := mAz z) hx hb hK hP hD hS 75 3 (mW_get (i := 75) rfl) rfl vin0 (by decide +kernel : decode cL_when 9 = .ok (.lastore, 1)) (fun H1 locs1 hP hD hS => ?_)
    rw [out_set (x := x) rfl] at hP hD
    refine lv_goto (tgt := 21) hx hb (by decide +kernel : decode cL_when 10 = .ok (.goto 11, 3)) (by decide) ?_
    refine lv_iconst (v := 0) hx hb (by decide +kernel : decode cL_when 21 = .ok (.iconst 0, 1)) (by decide) ?_
    exact W.iret (v := 0) hx hb hr9 (fun t ht hW => ⟨rfl, mPost_end hP hD hS ht⟩) hS.2.2 (by decide +kernel : decode cL_when 22 = .ok (.ireturn, 1)) hlocks
  · obtain ⟨j, hj, hj8, rfl, rfl⟩ := HR_ex hr hk9
    match j, hj with
    | 0, hj =>
      cases hj
      refine vz_catch (own := RL) (name := exN 3) (E := exN 3) hown [] ⟨0, 10, 13, 24⟩ [⟨0, 10, 17, 13⟩] htab (fun _ h => absurd h List.not_mem_nil) (by decide) (by decide) (hts _ wl_3) (isEx_use rfl (hX.1 _ wc_3 rfl)) hce hcv hcl ?_
      refine lv_astore (lv' := [(4, .ref q), (0, .ref (ad 0)), (1, .int p1), (2, .int p2), (3, .ref (ad 75))]) hx hb (by decide +kernel : decode cL_when 13 = .ok (.astore 4, 2)) hl (by decide) rfl (fun ls hl => ?_)
      refine lv_iconst (v := 1) hx hb (by decide +kernel : decode cL_when 15 = .ok (.iconst 1, 1)) (by decide) ?_
      exact W.iret (v := 1) hx hb hr9 (fun t ht hW => ⟨rfl, mPost_end hP hD hS ht⟩) hS.2.2 (by decide +kernel : decode cL_when 16 = .ok (.ireturn, 1)) hlocks
    | 1, hj =>
      cases hj
      refine vz_catch (own := RL) (name := exN 1) (E := exN 1) hown [⟨0, 10, 13, 24⟩] ⟨0, 10, 17, 13⟩ [] htab (List.forall_mem_cons.mpr ⟨Or.inr ⟨by decide, exN 3, hts _ wl_3, hN.2.2.1⟩, fun _ h => absurd h List.not_mem_nil⟩) (by decide) (by decide) (hts _ wl_1) (isEx_use rfl (hX.1 _ wc_1 rfl)) hce hcv hcl ?_
      refine lv_astore (lv' := [(4, .ref q), (0, .ref (ad 0)), (1, .int p1), (2, .int p2), (3, .ref (ad 75))]) hx hb (by decide +kernel : decode cL_when 17 = .ok (.astore 4, 2)) hl (by decide) rfl (fun ls hl => ?_)
      refine lv_iconst (v := 2) hx hb (by decide +kernel : decode cL_when 19 = .ok (.iconst 2, 1)) (by decide) ?_
      exact W.iret (v := 2) hx hb hr9 (fun t ht hW => ⟨rfl, mPost_end hP hD hS ht⟩) hS.2.2 (by decide +kernel : decode cL_when 20 = .ok (.ireturn, 1)) hlocks
    | j + 2, hj => simp at hj
set_option maxRecDepth 20000 in
theorem gh_late : gOK RL 71 Mx107 (RX9, TX9, 14) 1 [1134, 1135, 1136, 106, 1137] = true := by decide +kernel
set_option maxRecDepth 20000 in
theorem hc_late {lau : Launch} {z : Nat} {D : va_G} {ad : Nat → Nat} {cy : Nat → ClassId} (hst : lau.stackTraces = false) {p1 : Int32} {F : Nat} {S S1 : mS} {r1 : Option Value ⊕ Nat} (hf : f_X9_late F p1 S = some (r1, S1)) {k : Int32} {S2 : mS} (hr : HR r1 S1 [3] k S2) : hCon lau z D ad cy yL_late cL_late 4 [(0, 9, 12, 24)] [.ref 0, .int p1, .ref 75] S k S2 := by
  refine va_MetW (cc := cL_late) (maxL := 4) (ret := some .int) (hh := [(0, 9, 12, 24)]) (by decide) rfl ?_
  intro p e s m args below meth c s₁ B hml hv
  obtain ⟨rfl, hz, hP, hK, hD, hX, hN⟩ := hv
  have hx := B.exec
  have hb := B.bytes
  have hr9 := B.returns
  have hts0 := atoms_spec (ws := hWs yL_late cL_late 4 [(0, 9, 12, 24)]) B.pre
  have hts : ∀ w ∈ mTs, w.before _ s = true := fun w hw => hts0 w (List.mem_cons_of_mem _ hw)
  have hown : s.vm.findClass RL = some m.cls := findClass_of_methodNamed B.named
  have hlocks := B.notSynchronized
  have htab := vx_table (x := yL_law_) B (hts0 _ List.mem_cons_self)
  have hS : va_S (mAz z) s.heap s.heap [] := va_S.rf
  have hl := lv_entry ([.ref (ad 0), .int p1, .ref (ad 75)]) (n := 4) (Nat.le_of_ble_eq_true rfl)
  show W p lau e hRm s m _ below meth c s.heap [] 0 0 _ (entryFrame m ([.ref (ad 0), .int p1, .ref (ad 75)] : List Value).toArray 4)
  rw [lg_entry_eq]
  generalize (lg_sl ([.ref (ad 0), .int p1, .ref (ad 75)]) ++ List.replicate (4 - (lg_sl ([.ref (ad 0), .int p1, .ref (ad 75)])).length) Slot.unset).toArray = ls at hl ⊢
  have hl : lv_has ls 4 [(0, .ref (ad 0)), (1, .int p1), (2, .ref (ad 75))] := hl
  refine lv_aload_n hx hb (by decide +kernel : decode cL_late 0 = .ok (.aload_n 2, 1)) rfl (lv_at hl 2 rfl) ?_
  refine lv_iconst (v := 0) hx hb (by decide +kernel : decode cL_late 1 = .ok (.iconst 0, 1)) (by decide) ?_
  refine lv_aload_n hx hb (by decide +kernel : decode cL_late 2 = .ok (.aload_n 0, 1)) rfl (lv_at hl 0 rfl) ?_
  refine lv_iload_n hx hb (by decide +kernel : decode cL_late 3 = .ok (.iload_n 1, 1)) rfl (lv_at hl 1 rfl) ?_
  refine gCall (own := RL) (as := [.int p1]) (i := 0) (r := (r1, S1)) (M' := Mx107) (d := 60) (rest := [.int 0, .ref (ad 75)]) ⟨hx, hb, hml, hown, hts⟩ gh_late (mX_m z ad) hz hX hK (con_of hst (j := 107) rfl (Nat.le_of_ble_eq_true rfl) (fun w hw => by simp only [List.mem_cons, List.not_mem_nil, or_false] at hw; rcases hw with rfl | rfl <;> rfl) (f_X9_late_ok (d := 54) hf)) hP hD hS hl.1 (ci := 8) rfl rfl (Nat.le_of_ble_eq_true rfl) (by decide +kernel : decode cL_late 4 = .ok (.invokevirtual 71, 3)) ⟨by decide, by decide⟩ ⟨by decide, by decide⟩ (fun v hv H1 locs1 hP hD hS => ?_) (fun k9 hk9 H1 locs1 q ce hP hD hS hce hcv hcl => ?_)
  · obtain ⟨x, rfl, rfl, rfl⟩ := HR_in hr hv
    refine W.eq (g2 := F0 m 7 ls [.int x, .int 0, .ref (ad 75)]) rfl ?_
    refine lv_i2l hx hb (by decide +kernel : decode cL_late 7 = .ok (.i2l, 1)) rfl ?_
    refine va_last (A := mAz z) hx hb hK hP hD hS 75 3 (mW_get (i := 75) rfl) rfl vin0 (by decide +kernel : decode cL_late 8 = .ok (.lastore, 1)) (fun H1 locs1 hP hD hS => ?_)
    rw [out_set (x := x) rfl] at hP hD
    refine lv_goto (tgt := 15) hx hb (by decide +kernel : decode cL_late 9 = .ok (.goto 6, 3)) (by decide) ?_
    refine lv_iconst (v := 0) hx hb (by decide +kernel : decode cL_late 15 = .ok (.iconst 0, 1)) (by decide) ?_
    exact W.iret (v := 0) hx hb hr9 (fun t ht hW => ⟨rfl, mPost_end hP hD hS ht⟩) hS.2.2 (by decide +kernel : decode cL_late 16 = .ok (.ireturn, 1)) hlocks
  · obtain ⟨j, hj, hj8, rfl, rfl⟩ := HR_ex hr hk9
    match j, hj with
    | 0, hj =>
      cases hj
      refine vz_catch (own := RL) (name := exN 3) (E := exN 3) hown [] ⟨0, 9, 12, 24⟩ [] htab (fun _ h => absurd h List.not_mem_nil) (by decide) (by decide) (hts _ wl_3) (isEx_use rfl (hX.1 _ wc_3 rfl)) hce hcv hcl ?_
      refine lv_astore_n (lv' := [(3, .ref q), (0, .ref (ad 0)), (1, .int p1), (2, .ref (ad 75))]) hx hb (by decide +kernel : decode cL_late 12 = .ok (.astore_n 3, 1)) rfl hl (by decide) rfl (fun ls hl => ?_)
      refine lv_iconst (v := 1) hx hb (by decide +kernel : decode cL_late 13 = .ok (.iconst 1, 1)) (by decide) ?_
      exact W.iret (v := 1) hx hb hr9 (fun t ht hW => ⟨rfl, mPost_end hP hD hS ht⟩) hS.2.2 (by decide +kernel : decode cL_late 14 = .ok (.ireturn, 1)) hlocks
    | j + 1, hj => simp at hj
set_option maxRecDepth 20000 in
theorem gh_harvest : gOK RL 74 Mx108 (RX9, TX9, 14) 2 [1141, 1142, 1143, 106, 1144] = true := by decide +kernel
set_option maxRecDepth 20000 in
theorem hc_harvest {lau : Launch} {z : Nat} {D : va_G} {ad : Nat → Nat} {cy : Nat → ClassId} (hst : lau.stackTraces = false) {p1 p2 : Int32} {F : Nat} {S S1 : mS} {r1 : Option Value ⊕ Nat} (hf : f_X9_harvest F p1 p2 S = some (r1, S1)) {k : Int32} {S2 : mS} (hr : HR r1 S1 [1] k S2) : hCon lau z D ad cy yL_harvest cL_harvest 5 [(0, 10, 13, 13)] [.ref 0, .int p1, .int p2, .ref 75] S k S2 := by
  refine va_MetW (cc := cL_harvest) (maxL := 5) (ret := some .int) (hh := [(0, 10, 13, 13)]) (by decide) rfl ?_
  intro p e s m args below meth c s₁ B hml hv
  obtain ⟨rfl, hz, hP, hK, hD, hX, hN⟩ := hv
  have hx := B.exec
  have hb := B.bytes
  have hr9 := B.returns
  have hts0 := atoms_spec (ws := hWs yL_harvest cL_harvest 5 [(0, 10, 13, 13)]) B.pre
  have hts : ∀ w ∈ mTs, w.before _ s = true := fun w hw => hts0 w (List.mem_cons_of_mem _ hw)
  have hown : s.vm.findClass RL = some m.cls := findClass_of_methodNamed B.named
  have hlocks := B.notSynchronized
  have htab := vx_table (x := yL_law_) B (hts0 _ List.mem_cons_self)
  have hS : va_S (mAz z) s.heap s.heap [] := va_S.rf
  have hl := lv_entry ([.ref (ad 0), .int p1, .int p2, .ref (ad 75)]) (n := 5) (Nat.le_of_ble_eq_true rfl)
  show W p lau e hRm s m _ below meth c s.heap [] 0 0 _ (entryFrame m ([.ref (ad 0), .int p1, .int p2, .ref (ad 75)] : List Value).toArray 5)
  rw [lg_entry_eq]
  generalize (lg_sl ([.ref (ad 0), .int p1, .int p2, .ref (ad 75)]) ++ List.replicate (5 - (lg_sl ([.ref (ad 0), .int p1, .int p2, .ref (ad 75)])).length) Slot.unset).toArray = ls at hl ⊢
  have hl : lv_has ls 5 [(0, .ref (ad 0)), (1, .int p1), (2, .int p2), (3, .ref (ad 75))] := hl
  refine lv_aload_n hx hb (by decide +kernel : decode cL_harvest 0 = .ok (.aload_n 3, 1)) rfl (lv_at hl 3 rfl) ?_
  refine lv_iconst (v := 0) hx hb (by decide +kernel : decode cL_harvest 1 = .ok (.iconst 0, 1)) (by decide) ?_
  refine lv_aload_n hx hb (by decide +kernel : decode cL_harvest 2 = .ok (.aload_n 0, 1)) rfl (lv_at hl 0 rfl) ?_
  refine lv_iload_n hx hb (by decide +kernel : decode cL_harvest 3 = .ok (.iload_n 1, 1)) rfl (lv_at hl 1 rfl) ?_
  refine lv_iload_n hx hb (by decide +kernel : decode cL_harvest 4 = .ok (.iload_n 2, 1)) rfl (lv_at hl 2 rfl) ?_
  refine gCall (own := RL) (as := [.int p1, .int p2]) (i := 0) (r := (r1, S1)) (M' := Mx108) (d := 60) (rest := [.int 0, .ref (ad 75)]) ⟨hx, hb, hml, hown, hts⟩ gh_harvest (mX_m z ad) hz hX hK (con_of hst (j := 108) rfl (Nat.le_of_ble_eq_true rfl) (fun w hw => by simp only [List.mem_cons, List.not_mem_nil, or_false] at hw; rcases hw with rfl | rfl | rfl <;> rfl) (f_X9_harvest_ok (d := 54) hf)) hP hD hS hl.1 (ci := 8) rfl rfl (Nat.le_of_ble_eq_true rfl) (by decide +kernel : decode cL_harvest 5 = .ok (.invokevirtual 74, 3)) ⟨by decide, by decide⟩ ⟨by decide, by decide⟩ (fun v hv H1 locs1 hP hD hS => ?_) (fun k9 hk9 H1 locs1 q ce hP hD hS hce hcv hcl => ?_)
  · obtain ⟨x, rfl, rfl, rfl⟩ := HR_in hr hv
    refine W.eq (g2 := F0 m 8 ls [.int x, .int 0, .ref (ad 75)]) rfl ?_
    refine lv_i2l hx hb (by decide +kernel : decode cL_harvest 8 = .ok (.i2l, 1)) rfl ?_
    refine va_last (A := mAz z) hx hb hK hP hD hS 75 3 (mW_get (i := 75) rfl) rfl vin0 (by decide +kernel : decode cL_harvest 9 = .ok (.lastore, 1)) (fun H1 locs1 hP hD hS => ?_)
    rw [out_set (x := x) rfl] at hP hD
    refine lv_goto (tgt := 17) hx hb (by decide +kernel : decode cL_harvest 10 = .ok (.goto 7, 3)) (by decide) ?_
    refine lv_iconst (v := 0) hx hb (by decide +kernel : decode cL_harvest 17 = .ok (.iconst 0, 1)) (by decide) ?_
    exact W.iret (v := 0) hx hb hr9 (fun t ht hW => ⟨rfl, mPost_end hP hD hS ht⟩) hS.2.2 (by decide +kernel : decode cL_harvest 18 = .ok (.ireturn, 1)) hlocks
  · obtain ⟨j, hj, hj8, rfl, rfl⟩ := HR_ex hr hk9
    match j, hj with
    | 0, hj =>
      cases hj
      refine vz_catch (own := RL) (name := exN 1) (E := exN 1) hown [] ⟨0, 10, 13, 13⟩ [] htab (fun _ h => absurd h List.not_mem_nil) (by decide) (by decide) (hts _ wl_1) (isEx_use rfl (hX.1 _ wc_1 rfl)) hce hcv hcl ?_
      refine lv_astore (lv' := [(4, .ref q), (0, .ref (ad 0)), (1, .int p1), (2, .int p2), (3, .ref (ad 75))]) hx hb (by decide +kernel : decode cL_harvest 13 = .ok (.astore 4, 2)) hl (by decide) rfl (fun ls hl => ?_)
      refine lv_iconst (v := 1) hx hb (by decide +kernel : decode cL_harvest 15 = .ok (.iconst 1, 1)) (by decide) ?_
      exact W.iret (v := 1) hx hb hr9 (fun t ht hW => ⟨rfl, mPost_end hP hD hS ht⟩) hS.2.2 (by decide +kernel : decode cL_harvest 16 = .ok (.ireturn, 1)) hlocks
    | j + 1, hj => simp at hj
set_option maxRecDepth 20000 in
theorem gh_leave : gOK RL 77 Mx110 (RX9, TX9, 14) 1 [1193, 1194, 1195, 106, 1196] = true := by decide +kernel
set_option maxRecDepth 20000 in
theorem hc_leave {lau : Launch} {z : Nat} {D : va_G} {ad : Nat → Nat} {cy : Nat → ClassId} (hst : lau.stackTraces = false) {p1 : Int32} {F : Nat} {S S1 : mS} {r1 : Option Value ⊕ Nat} (hf : f_X9_leave F p1 S = some (r1, S1)) {k : Int32} {S2 : mS} (hr : HR r1 S1 [1] k S2) : hCon lau z D ad cy yL_leave cL_leave 4 [(0, 9, 12, 13)] [.ref 0, .int p1, .ref 75] S k S2 := by
  refine va_MetW (cc := cL_leave) (maxL := 4) (ret := some .int) (hh := [(0, 9, 12, 13)]) (by decide) rfl ?_
  intro p e s m args below meth c s₁ B hml hv
  obtain ⟨rfl, hz, hP, hK, hD, hX, hN⟩ := hv
  have hx := B.exec
  have hb := B.bytes
  have hr9 := B.returns
  have hts0 := atoms_spec (ws := hWs yL_leave cL_leave 4 [(0, 9, 12, 13)]) B.pre
  have hts : ∀ w ∈ mTs, w.before _ s = true := fun w hw => hts0 w (List.mem_cons_of_mem _ hw)
  have hown : s.vm.findClass RL = some m.cls := findClass_of_methodNamed B.named
  have hlocks := B.notSynchronized
  have htab := vx_table (x := yL_law_) B (hts0 _ List.mem_cons_self)
  have hS : va_S (mAz z) s.heap s.heap [] := va_S.rf
  have hl := lv_entry ([.ref (ad 0), .int p1, .ref (ad 75)]) (n := 4) (Nat.le_of_ble_eq_true rfl)
  show W p lau e hRm s m _ below meth c s.heap [] 0 0 _ (entryFrame m ([.ref (ad 0), .int p1, .ref (ad 75)] : List Value).toArray 4)
  rw [lg_entry_eq]
  generalize (lg_sl ([.ref (ad 0), .int p1, .ref (ad 75)]) ++ List.replicate (4 - (lg_sl ([.ref (ad 0), .int p1, .ref (ad 75)])).length) Slot.unset).toArray = ls at hl ⊢
  have hl : lv_has ls 4 [(0, .ref (ad 0)), (1, .int p1), (2, .ref (ad 75))] := hl
  refine lv_aload_n hx hb (by decide +kernel : decode cL_leave 0 = .ok (.aload_n 2, 1)) rfl (lv_at hl 2 rfl) ?_
  refine lv_iconst (v := 0) hx hb (by decide +kernel : decode cL_leave 1 = .ok (.iconst 0, 1)) (by decide) ?_
  refine lv_aload_n hx hb (by decide +kernel : decode cL_leave 2 = .ok (.aload_n 0, 1)) rfl (lv_at hl 0 rfl) ?_
  refine lv_iload_n hx hb (by decide +kernel : decode cL_leave 3 = .ok (.iload_n 1, 1)) rfl (lv_at hl 1 rfl) ?_
  refine gCall (own := RL) (as := [.int p1]) (i := 0) (r := (r1, S1)) (M' := Mx110) (d := 60) (rest := [.int 0, .ref (ad 75)]) ⟨hx, hb, hml, hown, hts⟩ gh_leave (mX_m z ad) hz hX hK (con_of hst (j := 110) rfl (Nat.le_of_ble_eq_true rfl) (fun w hw => by simp only [List.mem_cons, List.not_mem_nil, or_false] at hw; rcases hw with rfl | rfl <;> rfl) (f_X9_leave_ok (d := 57) hf)) hP hD hS hl.1 (ci := 8) rfl rfl (Nat.le_of_ble_eq_true rfl) (by decide +kernel : decode cL_leave 4 = .ok (.invokevirtual 77, 3)) ⟨by decide, by decide⟩ ⟨by decide, by decide⟩ (fun v hv H1 locs1 hP hD hS => ?_) (fun k9 hk9 H1 locs1 q ce hP hD hS hce hcv hcl => ?_)
  · obtain ⟨x, rfl, rfl, rfl⟩ := HR_in hr hv
    refine W.eq (g2 := F0 m 7 ls [.int x, .int 0, .ref (ad 75)]) rfl ?_
    refine lv_i2l hx hb (by decide +kernel : decode cL_leave 7 = .ok (.i2l, 1)) rfl ?_
    refine va_last (A := mAz z) hx hb hK hP hD hS 75 3 (mW_get (i := 75) rfl) rfl vin0 (by decide +kernel : decode cL_leave 8 = .ok (.lastore, 1)) (fun H1 locs1 hP hD hS => ?_)
    rw [out_set (x := x) rfl] at hP hD
    refine lv_goto (tgt := 15) hx hb (by decide +kernel : decode cL_leave 9 = .ok (.goto 6, 3)) (by decide) ?_
    refine lv_iconst (v := 0) hx hb (by decide +kernel : decode cL_leave 15 = .ok (.iconst 0, 1)) (by decide) ?_
    exact W.iret (v := 0) hx hb hr9 (fun t ht hW => ⟨rfl, mPost_end hP hD hS ht⟩) hS.2.2 (by decide +kernel : decode cL_leave 16 = .ok (.ireturn, 1)) hlocks
  · obtain ⟨j, hj, hj8, rfl, rfl⟩ := HR_ex hr hk9
    match j, hj with
    | 0, hj =>
      cases hj
      refine vz_catch (own := RL) (name := exN 1) (E := exN 1) hown [] ⟨0, 9, 12, 13⟩ [] htab (fun _ h => absurd h List.not_mem_nil) (by decide) (by decide) (hts _ wl_1) (isEx_use rfl (hX.1 _ wc_1 rfl)) hce hcv hcl ?_
      refine lv_astore_n (lv' := [(3, .ref q), (0, .ref (ad 0)), (1, .int p1), (2, .ref (ad 75))]) hx hb (by decide +kernel : decode cL_leave 12 = .ok (.astore_n 3, 1)) rfl hl (by decide) rfl (fun ls hl => ?_)
      refine lv_iconst (v := 1) hx hb (by decide +kernel : decode cL_leave 13 = .ok (.iconst 1, 1)) (by decide) ?_
      exact W.iret (v := 1) hx hb hr9 (fun t ht hW => ⟨rfl, mPost_end hP hD hS ht⟩) hS.2.2 (by decide +kernel : decode cL_leave 14 = .ok (.ireturn, 1)) hlocks
    | j + 1, hj => simp at hj
set_option maxRecDepth 20000 in
theorem gh_lasts : gOK RL 80 Mx113 (RX9, TX9, 14) 2 [1200, 1201, 1202, 106, 1203] = true := by decide +kernel
set_option maxRecDepth 20000 in
theorem hc_lasts {lau : Launch} {z : Nat} {D : va_G} {ad : Nat → Nat} {cy : Nat → ClassId} (hst : lau.stackTraces = false) {p1 p2 : Int32} {F : Nat} {S S1 : mS} {r1 : Option Value ⊕ Nat} (hf : f_X9_lasts F p1 p2 S = some (r1, S1)) {k : Int32} {S2 : mS} (hr : HR r1 S1 [3, 1] k S2) : hCon lau z D ad cy yL_lasts cL_lasts 5 [(0, 10, 13, 24), (0, 10, 17, 13)] [.ref 0, .int p1, .int p2, .ref 75] S k S2 := by
  refine va_MetW (cc := cL_lasts) (maxL := 5) (ret := some .int) (hh := [(0, 10, 13, 24), (0, 10, 17, 13)]) (by decide) rfl ?_
  intro p e s m args below meth c s₁ B hml hv
  obtain ⟨rfl, hz, hP, hK, hD, hX, hN⟩ := hv
  have hx := B.exec
  have hb := B.bytes
  have hr9 := B.returns
  have hts0 := atoms_spec (ws := hWs yL_lasts cL_lasts 5 [(0, 10, 13, 24), (0, 10, 17, 13)]) B.pre
  have hts : ∀ w ∈ mTs, w.before _ s = true := fun w hw => hts0 w (List.mem_cons_of_mem _ hw)
  have hown : s.vm.findClass RL = some m.cls := findClass_of_methodNamed B.named
  have hlocks := B.notSynchronized
  have htab := vx_table (x := yL_law_) B (hts0 _ List.mem_cons_self)
  have hS : va_S (mAz z) s.heap s.heap [] := va_S.rf
  have hl := lv_entry ([.ref (ad 0), .int p1, .int p2, .ref (ad 75)]) (n := 5) (Nat.le_of_ble_eq_true rfl)
  show W p lau e hRm s m _ below meth c s.heap [] 0 0 _ (entryFrame m ([.ref (ad 0), .int p1, .int p2, .ref (ad 75)] : List Value).toArray 5)
  rw [lg_entry_eq]
  generalize (lg_sl ([.ref (ad 0), .int p1, .int p2, .ref (ad 75)]) ++ List.replicate (5 - (lg_sl ([.ref (ad 0), .int p1, .int p2, .ref (ad 75)])).length) Slot.unset).toArray = ls at hl ⊢
  have hl : lv_has ls 5 [(0, .ref (ad 0)), (1, .int p1), (2, .int p2), (3, .ref (ad 75))] := hl
  refine lv_aload_n hx hb (by decide +kernel : decode cL_lasts 0 = .ok (.aload_n 3, 1)) rfl (lv_at hl 3 rfl) ?_
  refine lv_iconst (v := 0) hx hb (by decide +kernel : decode cL_lasts 1 = .ok (.iconst 0, 1)) (by decide) ?_
  refine lv_aload_n hx hb (by decide +kernel : decode cL_lasts 2 = .ok (.aload_n 0, 1)) rfl (lv_at hl 0 rfl) ?_
  refine lv_iload_n hx hb (by decide +kernel : decode cL_lasts 3 = .ok (.iload_n 1, 1)) rfl (lv_at hl 1 rfl) ?_
  refine lv_iload_n hx hb (by decide +kernel : decode cL_lasts 4 = .ok (.iload_n 2, 1)) rfl (lv_at hl 2 rfl) ?_
  refine gCall (own := RL) (as := [.int p1, .int p2]) (i := 0) (r := (r1, S1)) (M' := Mx113) (d := 60) (rest := [.int 0, .ref (ad 75)]) ⟨hx, hb, hml, hown, hts⟩ gh_lasts (mX_m z ad) hz hX hK (con_of hst (j := 113) rfl (Nat.le_of_ble_eq_true rfl) (fun w hw => by simp only [List.mem_cons, List.not_mem_nil, or_false] at hw; rcases hw with rfl | rfl | rfl <;> rfl) (f_X9_lasts_ok (d := 55) hf)) hP hD hS hl.1 (ci := 8) rfl rfl (Nat.le_of_ble_eq_true rfl) (by decide +kernel : decode cL_lasts 5 = .ok (.invokevirtual 80, 3)) ⟨by decide, by decide⟩ ⟨by decide, by decide⟩ (fun v hv H1 locs1 hP hD hS => ?_) (fun k9 hk9 H1 locs1 q ce hP hD hS hce hcv hcl => ?_)
  · obtain ⟨x, rfl, rfl, rfl⟩ := HR_in hr hv
    refine W.eq (g2 := F0 m 8 ls [.int x, .int 0, .ref (ad 75)]) rfl ?_
    refine lv_i2l hx hb (by decide +kernel : decode cL_lasts 8 = .ok (.i2l, 1)) rfl ?_
    refine va_last (A := mAz z) hx hb hK hP hD hS 75 3 (mW_get (i := 75) rfl) rfl vin0 (by decide +kernel : decode cL_lasts 9 = .ok (.lastore, 1)) (fun H1 locs1 hP hD hS => ?_)
    rw [out_set (x := x) rfl] at hP hD
    refine lv_goto (tgt := 21) hx hb (by decide +kernel : decode cL_lasts 10 = .ok (.goto 11, 3)) (by decide) ?_
    refine lv_iconst (v := 0) hx hb (by decide +kernel : decode cL_lasts 21 = .ok (.iconst 0, 1)) (by decide) ?_
    exact W.iret (v := 0) hx hb hr9 (fun t ht hW => ⟨rfl, mPost_end hP hD hS ht⟩) hS.2.2 (by decide +kernel : decode cL_lasts 22 = .ok (.ireturn, 1)) hlocks
  · obtain ⟨j, hj, hj8, rfl, rfl⟩ := HR_ex hr hk9
    match j, hj with
    | 0, hj =>
      cases hj
      refine vz_catch (own := RL) (name := exN 3) (E := exN 3) hown [] ⟨0, 10, 13, 24⟩ [⟨0, 10, 17, 13⟩] htab (fun _ h => absurd h List.not_mem_nil) (by decide) (by decide) (hts _ wl_3) (isEx_use rfl (hX.1 _ wc_3 rfl)) hce hcv hcl ?_
      refine lv_astore (lv' := [(4, .ref q), (0, .ref (ad 0)), (1, .int p1), (2, .int p2), (3, .ref (ad 75))]) hx hb (by decide +kernel : decode cL_lasts 13 = .ok (.astore 4, 2)) hl (by decide) rfl (fun ls hl => ?_)
      refine lv_iconst (v := 1) hx hb (by decide +kernel : decode cL_lasts 15 = .ok (.iconst 1, 1)) (by decide) ?_
      exact W.iret (v := 1) hx hb hr9 (fun t ht hW => ⟨rfl, mPost_end hP hD hS ht⟩) hS.2.2 (by decide +kernel : decode cL_lasts 16 = .ok (.ireturn, 1)) hlocks
    | 1, hj =>
      cases hj
      refine vz_catch (own := RL) (name := exN 1) (E := exN 1) hown [⟨0, 10, 13, 24⟩] ⟨0, 10, 17, 13⟩ [] htab (List.forall_mem_cons.mpr ⟨Or.inr ⟨by decide, exN 3, hts _ wl_3, hN.2.2.1⟩, fun _ h => absurd h List.not_mem_nil⟩) (by decide) (by decide) (hts _ wl_1) (isEx_use rfl (hX.1 _ wc_1 rfl)) hce hcv hcl ?_
      refine lv_astore (lv' := [(4, .ref q), (0, .ref (ad 0)), (1, .int p1), (2, .int p2), (3, .ref (ad 75))]) hx hb (by decide +kernel : decode cL_lasts 17 = .ok (.astore 4, 2)) hl (by decide) rfl (fun ls hl => ?_)
      refine lv_iconst (v := 2) hx hb (by decide +kernel : decode cL_lasts 19 = .ok (.iconst 2, 1)) (by decide) ?_
      exact W.iret (v := 2) hx hb hr9 (fun t ht hW => ⟨rfl, mPost_end hP hD hS ht⟩) hS.2.2 (by decide +kernel : decode cL_lasts 20 = .ok (.ireturn, 1)) hlocks
    | j + 2, hj => simp at hj
set_option maxRecDepth 20000 in
theorem gh_enough : gOK RL 83 Mx114 (RX9, TX9, 14) 2 [1208, 1209, 1210, 106, 1211] = true := by decide +kernel
set_option maxRecDepth 20000 in
theorem hc_enough {lau : Launch} {z : Nat} {D : va_G} {ad : Nat → Nat} {cy : Nat → ClassId} (hst : lau.stackTraces = false) {p1 p2 : Int32} {F : Nat} {S S1 : mS} {r1 : Option Value ⊕ Nat} (hf : f_X9_enough F p1 p2 S = some (r1, S1)) {k : Int32} {S2 : mS} (hr : HR r1 S1 [3] k S2) : hCon lau z D ad cy yL_enough cL_enough 5 [(0, 10, 13, 24)] [.ref 0, .int p1, .int p2, .ref 75] S k S2 := by
  refine va_MetW (cc := cL_enough) (maxL := 5) (ret := some .int) (hh := [(0, 10, 13, 24)]) (by decide) rfl ?_
  intro p e s m args below meth c s₁ B hml hv
  obtain ⟨rfl, hz, hP, hK, hD, hX, hN⟩ := hv
  have hx := B.exec
  have hb := B.bytes
  have hr9 := B.returns
  have hts0 := atoms_spec (ws := hWs yL_enough cL_enough 5 [(0, 10, 13, 24)]) B.pre
  have hts : ∀ w ∈ mTs, w.before _ s = true := fun w hw => hts0 w (List.mem_cons_of_mem _ hw)
  have hown : s.vm.findClass RL = some m.cls := findClass_of_methodNamed B.named
  have hlocks := B.notSynchronized
  have htab := vx_table (x := yL_law_) B (hts0 _ List.mem_cons_self)
  have hS : va_S (mAz z) s.heap s.heap [] := va_S.rf
  have hl := lv_entry ([.ref (ad 0), .int p1, .int p2, .ref (ad 75)]) (n := 5) (Nat.le_of_ble_eq_true rfl)
  show W p lau e hRm s m _ below meth c s.heap [] 0 0 _ (entryFrame m ([.ref (ad 0), .int p1, .int p2, .ref (ad 75)] : List Value).toArray 5)
  rw [lg_entry_eq]
  generalize (lg_sl ([.ref (ad 0), .int p1, .int p2, .ref (ad 75)]) ++ List.replicate (5 - (lg_sl ([.ref (ad 0), .int p1, .int p2, .ref (ad 75)])).length) Slot.unset).toArray = ls at hl ⊢
  have hl : lv_has ls 5 [(0, .ref (ad 0)), (1, .int p1), (2, .int p2), (3, .ref (ad 75))] := hl
  refine lv_aload_n hx hb (by decide +kernel : decode cL_enough 0 = .ok (.aload_n 3, 1)) rfl (lv_at hl 3 rfl) ?_
  refine lv_iconst (v := 0) hx hb (by decide +kernel : decode cL_enough 1 = .ok (.iconst 0, 1)) (by decide) ?_
  refine lv_aload_n hx hb (by decide +kernel : decode cL_enough 2 = .ok (.aload_n 0, 1)) rfl (lv_at hl 0 rfl) ?_
  refine lv_iload_n hx hb (by decide +kernel : decode cL_enough 3 = .ok (.iload_n 1, 1)) rfl (lv_at hl 1 rfl) ?_
  refine lv_iload_n hx hb (by decide +kernel : decode cL_enough 4 = .ok (.iload_n 2, 1)) rfl (lv_at hl 2 rfl) ?_
  refine gCall (own := RL) (as := [.int p1, .int p2]) (i := 0) (r := (r1, S1)) (M' := Mx114) (d := 60) (rest := [.int 0, .ref (ad 75)]) ⟨hx, hb, hml, hown, hts⟩ gh_enough (mX_m z ad) hz hX hK (con_of hst (j := 114) rfl (Nat.le_of_ble_eq_true rfl) (fun w hw => by simp only [List.mem_cons, List.not_mem_nil, or_false] at hw; rcases hw with rfl | rfl | rfl <;> rfl) (f_X9_enough_ok (d := 57) hf)) hP hD hS hl.1 (ci := 8) rfl rfl (Nat.le_of_ble_eq_true rfl) (by decide +kernel : decode cL_enough 5 = .ok (.invokevirtual 83, 3)) ⟨by decide, by decide⟩ ⟨by decide, by decide⟩ (fun v hv H1 locs1 hP hD hS => ?_) (fun k9 hk9 H1 locs1 q ce hP hD hS hce hcv hcl => ?_)
  · obtain ⟨x, rfl, rfl, rfl⟩ := HR_in hr hv
    refine W.eq (g2 := F0 m 8 ls [.int x, .int 0, .ref (ad 75)]) rfl ?_
    refine lv_i2l hx hb (by decide +kernel : decode cL_enough 8 = .ok (.i2l, 1)) rfl ?_
    refine va_last (A := mAz z) hx hb hK hP hD hS 75 3 (mW_get (i := 75) rfl) rfl vin0 (by decide +kernel : decode cL_enough 9 = .ok (.lastore, 1)) (fun H1 locs1 hP hD hS => ?_)
    rw [out_set (x := x) rfl] at hP hD
    refine lv_goto (tgt := 17) hx hb (by decide +kernel : decode cL_enough 10 = .ok (.goto 7, 3)) (by decide) ?_
    refine lv_iconst (v := 0) hx hb (by decide +kernel : decode cL_enough 17 = .ok (.iconst 0, 1)) (by decide) ?_
    exact W.iret (v := 0) hx hb hr9 (fun t ht hW => ⟨rfl, mPost_end hP hD hS ht⟩) hS.2.2 (by decide +kernel : decode cL_enough 18 = .ok (.ireturn, 1)) hlocks
  · obtain ⟨j, hj, hj8, rfl, rfl⟩ := HR_ex hr hk9
    match j, hj with
    | 0, hj =>
      cases hj
      refine vz_catch (own := RL) (name := exN 3) (E := exN 3) hown [] ⟨0, 10, 13, 24⟩ [] htab (fun _ h => absurd h List.not_mem_nil) (by decide) (by decide) (hts _ wl_3) (isEx_use rfl (hX.1 _ wc_3 rfl)) hce hcv hcl ?_
      refine lv_astore (lv' := [(4, .ref q), (0, .ref (ad 0)), (1, .int p1), (2, .int p2), (3, .ref (ad 75))]) hx hb (by decide +kernel : decode cL_enough 13 = .ok (.astore 4, 2)) hl (by decide) rfl (fun ls hl => ?_)
      refine lv_iconst (v := 1) hx hb (by decide +kernel : decode cL_enough 15 = .ok (.iconst 1, 1)) (by decide) ?_
      exact W.iret (v := 1) hx hb hr9 (fun t ht hW => ⟨rfl, mPost_end hP hD hS ht⟩) hS.2.2 (by decide +kernel : decode cL_enough 16 = .ok (.ireturn, 1)) hlocks
    | j + 1, hj => simp at hj
set_option maxRecDepth 20000 in
theorem gh_shifts : gOK RL 86 Mx115 (RX9, TX9, 14) 2 [1219, 1220, 1221, 106, 1222] = true := by decide +kernel
set_option maxRecDepth 20000 in
theorem hc_shifts {lau : Launch} {z : Nat} {D : va_G} {ad : Nat → Nat} {cy : Nat → ClassId} (hst : lau.stackTraces = false) {p1 p2 : Int32} {F : Nat} {S S1 : mS} {r1 : Option Value ⊕ Nat} (hf : f_X9_shifts F p1 p2 S = some (r1, S1)) {k : Int32} {S2 : mS} (hr : HR r1 S1 [3] k S2) : hCon lau z D ad cy yL_shifts cL_shifts 5 [(0, 10, 13, 24)] [.ref 0, .int p1, .int p2, .ref 75] S k S2 := by
  refine va_MetW (cc := cL_shifts) (maxL := 5) (ret := some .int) (hh := [(0, 10, 13, 24)]) (by decide) rfl ?_
  intro p e s m args below meth c s₁ B hml hv
  obtain ⟨rfl, hz, hP, hK, hD, hX, hN⟩ := hv
  have hx := B.exec
  have hb := B.bytes
  have hr9 := B.returns
  have hts0 := atoms_spec (ws := hWs yL_shifts cL_shifts 5 [(0, 10, 13, 24)]) B.pre
  have hts : ∀ w ∈ mTs, w.before _ s = true := fun w hw => hts0 w (List.mem_cons_of_mem _ hw)
  have hown : s.vm.findClass RL = some m.cls := findClass_of_methodNamed B.named
  have hlocks := B.notSynchronized
  have htab := vx_table (x := yL_law_) B (hts0 _ List.mem_cons_self)
  have hS : va_S (mAz z) s.heap s.heap [] := va_S.rf
  have hl := lv_entry ([.ref (ad 0), .int p1, .int p2, .ref (ad 75)]) (n := 5) (Nat.le_of_ble_eq_true rfl)
  show W p lau e hRm s m _ below meth c s.heap [] 0 0 _ (entryFrame m ([.ref (ad 0), .int p1, .int p2, .ref (ad 75)] : List Value).toArray 5)
  rw [lg_entry_eq]
  generalize (lg_sl ([.ref (ad 0), .int p1, .int p2, .ref (ad 75)]) ++ List.replicate (5 - (lg_sl ([.ref (ad 0), .int p1, .int p2, .ref (ad 75)])).length) Slot.unset).toArray = ls at hl ⊢
  have hl : lv_has ls 5 [(0, .ref (ad 0)), (1, .int p1), (2, .int p2), (3, .ref (ad 75))] := hl
  refine lv_aload_n hx hb (by decide +kernel : decode cL_shifts 0 = .ok (.aload_n 3, 1)) rfl (lv_at hl 3 rfl) ?_
  refine lv_iconst (v := 0) hx hb (by decide +kernel : decode cL_shifts 1 = .ok (.iconst 0, 1)) (by decide) ?_
  refine lv_aload_n hx hb (by decide +kernel : decode cL_shifts 2 = .ok (.aload_n 0, 1)) rfl (lv_at hl 0 rfl) ?_
  refine lv_iload_n hx hb (by decide +kernel : decode cL_shifts 3 = .ok (.iload_n 1, 1)) rfl (lv_at hl 1 rfl) ?_
  refine lv_iload_n hx hb (by decide +kernel : decode cL_shifts 4 = .ok (.iload_n 2, 1)) rfl (lv_at hl 2 rfl) ?_
  refine gCall (own := RL) (as := [.int p1, .int p2]) (i := 0) (r := (r1, S1)) (M' := Mx115) (d := 60) (rest := [.int 0, .ref (ad 75)]) ⟨hx, hb, hml, hown, hts⟩ gh_shifts (mX_m z ad) hz hX hK (con_of hst (j := 115) rfl (Nat.le_of_ble_eq_true rfl) (fun w hw => by simp only [List.mem_cons, List.not_mem_nil, or_false] at hw; rcases hw with rfl | rfl | rfl <;> rfl) (f_X9_shifts_ok (d := 56) hf)) hP hD hS hl.1 (ci := 8) rfl rfl (Nat.le_of_ble_eq_true rfl) (by decide +kernel : decode cL_shifts 5 = .ok (.invokevirtual 86, 3)) ⟨by decide, by decide⟩ ⟨by decide, by decide⟩ (fun v hv H1 locs1 hP hD hS => ?_) (fun k9 hk9 H1 locs1 q ce hP hD hS hce hcv hcl => ?_)
  · obtain ⟨x, rfl, rfl, rfl⟩ := HR_in hr hv
    refine W.eq (g2 := F0 m 8 ls [.int x, .int 0, .ref (ad 75)]) rfl ?_
    refine lv_i2l hx hb (by decide +kernel : decode cL_shifts 8 = .ok (.i2l, 1)) rfl ?_
    refine va_last (A := mAz z) hx hb hK hP hD hS 75 3 (mW_get (i := 75) rfl) rfl vin0 (by decide +kernel : decode cL_shifts 9 = .ok (.lastore, 1)) (fun H1 locs1 hP hD hS => ?_)
    rw [out_set (x := x) rfl] at hP hD
    refine lv_goto (tgt := 17) hx hb (by decide +kernel : decode cL_shifts 10 = .ok (.goto 7, 3)) (by decide) ?_
    refine lv_iconst (v := 0) hx hb (by decide +kernel : decode cL_shifts 17 = .ok (.iconst 0, 1)) (by decide) ?_
    exact W.iret (v := 0) hx hb hr9 (fun t ht hW => ⟨rfl, mPost_end hP hD hS ht⟩) hS.2.2 (by decide +kernel : decode cL_shifts 18 = .ok (.ireturn, 1)) hlocks
  · obtain ⟨j, hj, hj8, rfl, rfl⟩ := HR_ex hr hk9
    match j, hj with
    | 0, hj =>
      cases hj
      refine vz_catch (own := RL) (name := exN 3) (E := exN 3) hown [] ⟨0, 10, 13, 24⟩ [] htab (fun _ h => absurd h List.not_mem_nil) (by decide) (by decide) (hts _ wl_3) (isEx_use rfl (hX.1 _ wc_3 rfl)) hce hcv hcl ?_
      refine lv_astore (lv' := [(4, .ref q), (0, .ref (ad 0)), (1, .int p1), (2, .int p2), (3, .ref (ad 75))]) hx hb (by decide +kernel : decode cL_shifts 13 = .ok (.astore 4, 2)) hl (by decide) rfl (fun ls hl => ?_)
      refine lv_iconst (v := 1) hx hb (by decide +kernel : decode cL_shifts 15 = .ok (.iconst 1, 1)) (by decide) ?_
      exact W.iret (v := 1) hx hb hr9 (fun t ht hW => ⟨rfl, mPost_end hP hD hS ht⟩) hS.2.2 (by decide +kernel : decode cL_shifts 16 = .ok (.ireturn, 1)) hlocks
    | j + 1, hj => simp at hj
set_option maxRecDepth 20000 in
theorem gh_farthest : gOK RL 89 Mx117 (RX9, TX9, 14) 3 [1231, 1232, 1233, 106, 1234] = true := by decide +kernel
set_option maxRecDepth 20000 in
theorem hc_farthest {lau : Launch} {z : Nat} {D : va_G} {ad : Nat → Nat} {cy : Nat → ClassId} (hst : lau.stackTraces = false) {p1 p2 p3 : Int32} {F : Nat} {S S1 : mS} {r1 : Option Value ⊕ Nat} (hf : f_X9_farthest F p1 p2 p3 S = some (r1, S1)) {k : Int32} {S2 : mS} (hr : HR r1 S1 [3, 1] k S2) : hCon lau z D ad cy yL_farthest cL_farthest 6 [(0, 12, 15, 24), (0, 12, 19, 13)] [.ref 0, .int p1, .int p2, .int p3, .ref 75] S k S2 := by
  refine va_MetW (cc := cL_farthest) (maxL := 6) (ret := some .int) (hh := [(0, 12, 15, 24), (0, 12, 19, 13)]) (by decide) rfl ?_
  intro p e s m args below meth c s₁ B hml hv
  obtain ⟨rfl, hz, hP, hK, hD, hX, hN⟩ := hv
  have hx := B.exec
  have hb := B.bytes
  have hr9 := B.returns
  have hts0 := atoms_spec (ws := hWs yL_farthest cL_farthest 6 [(0, 12, 15, 24), (0, 12, 19, 13)]) B.pre
  have hts : ∀ w ∈ mTs, w.before _ s = true := fun w hw => hts0 w (List.mem_cons_of_mem _ hw)
  have hown : s.vm.findClass RL = some m.cls := findClass_of_methodNamed B.named
  have hlocks := B.notSynchronized
  have htab := vx_table (x := yL_law_) B (hts0 _ List.mem_cons_self)
  have hS : va_S (mAz z) s.heap s.heap [] := va_S.rf
  have hl := lv_entry ([.ref (ad 0), .int p1, .int p2, .int p3, .ref (ad 75)]) (n := 6) (Nat.le_of_ble_eq_true rfl)
  show W p lau e hRm s m _ below meth c s.heap [] 0 0 _ (entryFrame m ([.ref (ad 0), .int p1, .int p2, .int p3, .ref (ad 75)] : List Value).toArray 6)
  rw [lg_entry_eq]
  generalize (lg_sl ([.ref (ad 0), .int p1, .int p2, .int p3, .ref (ad 75)]) ++ List.replicate (6 - (lg_sl ([.ref (ad 0), .int p1, .int p2, .int p3, .ref (ad 75)])).length) Slot.unset).toArray = ls at hl ⊢
  have hl : lv_has ls 6 [(0, .ref (ad 0)), (1, .int p1), (2, .int p2), (3, .int p3), (4, .ref (ad 75))] := hl
  refine lv_aload hx hb (by decide +kernel : decode cL_farthest 0 = .ok (.aload 4, 2)) (lv_at hl 4 rfl) ?_
  refine lv_iconst (v := 0) hx hb (by decide +kernel : decode cL_farthest 2 = .ok (.iconst 0, 1)) (by decide) ?_
  refine lv_aload_n hx hb (by decide +kernel : decode cL_farthest 3 = .ok (.aload_n 0, 1)) rfl (lv_at hl 0 rfl) ?_
  refine lv_iload_n hx hb (by decide +kernel : decode cL_farthest 4 = .ok (.iload_n 1, 1)) rfl (lv_at hl 1 rfl) ?_
  refine lv_iload_n hx hb (by decide +kernel : decode cL_farthest 5 = .ok (.iload_n 2, 1)) rfl (lv_at hl 2 rfl) ?_
  refine lv_iload_n hx hb (by decide +kernel : decode cL_farthest 6 = .ok (.iload_n 3, 1)) rfl (lv_at hl 3 rfl) ?_
  refine gCall (own := RL) (as := [.int p1, .int p2, .int p3]) (i := 0) (r := (r1, S1)) (M' := Mx117) (d := 60) (rest := [.int 0, .ref (ad 75)]) ⟨hx, hb, hml, hown, hts⟩ gh_farthest (mX_m z ad) hz hX hK (con_of hst (j := 117) rfl (Nat.le_of_ble_eq_true rfl) (fun w hw => by simp only [List.mem_cons, List.not_mem_nil, or_false] at hw; rcases hw with rfl | rfl | rfl | rfl <;> rfl) (f_X9_farthest_ok (d := 56) hf)) hP hD hS hl.1 (ci := 8) rfl rfl (Nat.le_of_ble_eq_true rfl) (by decide +kernel : decode cL_farthest 7 = .ok (.invokevirtual 89, 3)) ⟨by decide, by decide⟩ ⟨by decide, by decide⟩ (fun v hv H1 locs1 hP hD hS => ?_) (fun k9 hk9 H1 locs1 q ce hP hD hS hce hcv hcl => ?_)
  · obtain ⟨x, rfl, rfl, rfl⟩ := HR_in hr hv
    refine W.eq (g2 := F0 m 10 ls [.int x, .int 0, .ref (ad 75)]) rfl ?_
    refine lv_i2l hx hb (by decide +kernel : decode cL_farthest 10 = .ok (.i2l, 1)) rfl ?_
    refine va_last (A := mAz z) hx hb hK hP hD hS 75 3 (mW_get (i := 75) rfl) rfl vin0 (by decide +kernel : decode cL_farthest 11 = .ok (.lastore, 1)) (fun H1 locs1 hP hD hS => ?_)
    rw [out_set (x := x) rfl] at hP hD
    refine lv_goto (tgt := 23) hx hb (by decide +kernel : decode cL_farthest 12 = .ok (.goto 11, 3)) (by decide) ?_
    refine lv_iconst (v := 0) hx hb (by decide +kernel : decode cL_farthest 23 = .ok (.iconst 0, 1)) (by decide) ?_
    exact W.iret (v := 0) hx hb hr9 (fun t ht hW => ⟨rfl, mPost_end hP hD hS ht⟩) hS.2.2 (by decide +kernel : decode cL_farthest 24 = .ok (.ireturn, 1)) hlocks
  · obtain ⟨j, hj, hj8, rfl, rfl⟩ := HR_ex hr hk9
    match j, hj with
    | 0, hj =>
      cases hj
      refine vz_catch (own := RL) (name := exN 3) (E := exN 3) hown [] ⟨0, 12, 15, 24⟩ [⟨0, 12, 19, 13⟩] htab (fun _ h => absurd h List.not_mem_nil) (by decide) (by decide) (hts _ wl_3) (isEx_use rfl (hX.1 _ wc_3 rfl)) hce hcv hcl ?_
      refine lv_astore (lv' := [(5, .ref q), (0, .ref (ad 0)), (1, .int p1), (2, .int p2), (3, .int p3), (4, .ref (ad 75))]) hx hb (by decide +kernel : decode cL_farthest 15 = .ok (.astore 5, 2)) hl (by decide) rfl (fun ls hl => ?_)
      refine lv_iconst (v := 1) hx hb (by decide +kernel : decode cL_farthest 17 = .ok (.iconst 1, 1)) (by decide) ?_
      exact W.iret (v := 1) hx hb hr9 (fun t ht hW => ⟨rfl, mPost_end hP hD hS ht⟩) hS.2.2 (by decide +kernel : decode cL_farthest 18 = .ok (.ireturn, 1)) hlocks
    | 1, hj =>
      cases hj
      refine vz_catch (own := RL) (name := exN 1) (E := exN 1) hown [⟨0, 12, 15, 24⟩] ⟨0, 12, 19, 13⟩ [] htab (List.forall_mem_cons.mpr ⟨Or.inr ⟨by decide, exN 3, hts _ wl_3, hN.2.2.1⟩, fun _ h => absurd h List.not_mem_nil⟩) (by decide) (by decide) (hts _ wl_1) (isEx_use rfl (hX.1 _ wc_1 rfl)) hce hcv hcl ?_
      refine lv_astore (lv' := [(5, .ref q), (0, .ref (ad 0)), (1, .int p1), (2, .int p2), (3, .int p3), (4, .ref (ad 75))]) hx hb (by decide +kernel : decode cL_farthest 19 = .ok (.astore 5, 2)) hl (by decide) rfl (fun ls hl => ?_)
      refine lv_iconst (v := 2) hx hb (by decide +kernel : decode cL_farthest 21 = .ok (.iconst 2, 1)) (by decide) ?_
      exact W.iret (v := 2) hx hb hr9 (fun t ht hW => ⟨rfl, mPost_end hP hD hS ht⟩) hS.2.2 (by decide +kernel : decode cL_farthest 22 = .ok (.ireturn, 1)) hlocks
    | j + 2, hj => simp at hj
set_option maxRecDepth 20000 in
theorem gh_calm : gOK RL 92 Mx118 (RX9, TX9, 14) 1 [1238, 1239, 1240, 106, 1241] = true := by decide +kernel
set_option maxRecDepth 20000 in
theorem hc_calm {lau : Launch} {z : Nat} {D : va_G} {ad : Nat → Nat} {cy : Nat → ClassId} (hst : lau.stackTraces = false) {p1 : Int32} {F : Nat} {S S1 : mS} {r1 : Option Value ⊕ Nat} (hf : f_X9_calm F p1 S = some (r1, S1)) {k : Int32} {S2 : mS} (hr : HR r1 S1 [3] k S2) : hCon lau z D ad cy yL_calm cL_calm 4 [(0, 9, 12, 24)] [.ref 0, .int p1, .ref 75] S k S2 := by
  refine va_MetW (cc := cL_calm) (maxL := 4) (ret := some .int) (hh := [(0, 9, 12, 24)]) (by decide) rfl ?_
  intro p e s m args below meth c s₁ B hml hv
  obtain ⟨rfl, hz, hP, hK, hD, hX, hN⟩ := hv
  have hx := B.exec
  have hb := B.bytes
  have hr9 := B.returns
  have hts0 := atoms_spec (ws := hWs yL_calm cL_calm 4 [(0, 9, 12, 24)]) B.pre
  have hts : ∀ w ∈ mTs, w.before _ s = true := fun w hw => hts0 w (List.mem_cons_of_mem _ hw)
  have hown : s.vm.findClass RL = some m.cls := findClass_of_methodNamed B.named
  have hlocks := B.notSynchronized
  have htab := vx_table (x := yL_law_) B (hts0 _ List.mem_cons_self)
  have hS : va_S (mAz z) s.heap s.heap [] := va_S.rf
  have hl := lv_entry ([.ref (ad 0), .int p1, .ref (ad 75)]) (n := 4) (Nat.le_of_ble_eq_true rfl)
  show W p lau e hRm s m _ below meth c s.heap [] 0 0 _ (entryFrame m ([.ref (ad 0), .int p1, .ref (ad 75)] : List Value).toArray 4)
  rw [lg_entry_eq]
  generalize (lg_sl ([.ref (ad 0), .int p1, .ref (ad 75)]) ++ List.replicate (4 - (lg_sl ([.ref (ad 0), .int p1, .ref (ad 75)])).length) Slot.unset).toArray = ls at hl ⊢
  have hl : lv_has ls 4 [(0, .ref (ad 0)), (1, .int p1), (2, .ref (ad 75))] := hl
  refine lv_aload_n hx hb (by decide +kernel : decode cL_calm 0 = .ok (.aload_n 2, 1)) rfl (lv_at hl 2 rfl) ?_
  refine lv_iconst (v := 0) hx hb (by decide +kernel : decode cL_calm 1 = .ok (.iconst 0, 1)) (by decide) ?_
  refine lv_aload_n hx hb (by decide +kernel : decode cL_calm 2 = .ok (.aload_n 0, 1)) rfl (lv_at hl 0 rfl) ?_
  refine lv_iload_n hx hb (by decide +kernel : decode cL_calm 3 = .ok (.iload_n 1, 1)) rfl (lv_at hl 1 rfl) ?_
  refine gCall (own := RL) (as := [.int p1]) (i := 0) (r := (r1, S1)) (M' := Mx118) (d := 60) (rest := [.int 0, .ref (ad 75)]) ⟨hx, hb, hml, hown, hts⟩ gh_calm (mX_m z ad) hz hX hK (con_of hst (j := 118) rfl (Nat.le_of_ble_eq_true rfl) (fun w hw => by simp only [List.mem_cons, List.not_mem_nil, or_false] at hw; rcases hw with rfl | rfl <;> rfl) (f_X9_calm_ok (d := 55) hf)) hP hD hS hl.1 (ci := 8) rfl rfl (Nat.le_of_ble_eq_true rfl) (by decide +kernel : decode cL_calm 4 = .ok (.invokevirtual 92, 3)) ⟨by decide, by decide⟩ ⟨by decide, by decide⟩ (fun v hv H1 locs1 hP hD hS => ?_) (fun k9 hk9 H1 locs1 q ce hP hD hS hce hcv hcl => ?_)
  · obtain ⟨x, rfl, rfl, rfl⟩ := HR_in hr hv
    refine W.eq (g2 := F0 m 7 ls [.int x, .int 0, .ref (ad 75)]) rfl ?_
    refine lv_i2l hx hb (by decide +kernel : decode cL_calm 7 = .ok (.i2l, 1)) rfl ?_
    refine va_last (A := mAz z) hx hb hK hP hD hS 75 3 (mW_get (i := 75) rfl) rfl vin0 (by decide +kernel : decode cL_calm 8 = .ok (.lastore, 1)) (fun H1 locs1 hP hD hS => ?_)
    rw [out_set (x := x) rfl] at hP hD
    refine lv_goto (tgt := 15) hx hb (by decide +kernel : decode cL_calm 9 = .ok (.goto 6, 3)) (by decide) ?_
    refine lv_iconst (v := 0) hx hb (by decide +kernel : decode cL_calm 15 = .ok (.iconst 0, 1)) (by decide) ?_
    exact W.iret (v := 0) hx hb hr9 (fun t ht hW => ⟨rfl, mPost_end hP hD hS ht⟩) hS.2.2 (by decide +kernel : decode cL_calm 16 = .ok (.ireturn, 1)) hlocks
  · obtain ⟨j, hj, hj8, rfl, rfl⟩ := HR_ex hr hk9
    match j, hj with
    | 0, hj =>
      cases hj
      refine vz_catch (own := RL) (name := exN 3) (E := exN 3) hown [] ⟨0, 9, 12, 24⟩ [] htab (fun _ h => absurd h List.not_mem_nil) (by decide) (by decide) (hts _ wl_3) (isEx_use rfl (hX.1 _ wc_3 rfl)) hce hcv hcl ?_
      refine lv_astore_n (lv' := [(3, .ref q), (0, .ref (ad 0)), (1, .int p1), (2, .ref (ad 75))]) hx hb (by decide +kernel : decode cL_calm 12 = .ok (.astore_n 3, 1)) rfl hl (by decide) rfl (fun ls hl => ?_)
      refine lv_iconst (v := 1) hx hb (by decide +kernel : decode cL_calm 13 = .ok (.iconst 1, 1)) (by decide) ?_
      exact W.iret (v := 1) hx hb hr9 (fun t ht hW => ⟨rfl, mPost_end hP hD hS ht⟩) hS.2.2 (by decide +kernel : decode cL_calm 14 = .ok (.ireturn, 1)) hlocks
    | j + 1, hj => simp at hj
set_option maxRecDepth 20000 in
theorem gh_trips : gOK RL 95 Mx119 (RX9, TX9, 14) 2 [1245, 1246, 1247, 106, 1248] = true := by decide +kernel
set_option maxRecDepth 20000 in
theorem hc_trips {lau : Launch} {z : Nat} {D : va_G} {ad : Nat → Nat} {cy : Nat → ClassId} (hst : lau.stackTraces = false) {p1 p2 : Int32} {F : Nat} {S S1 : mS} {r1 : Option Value ⊕ Nat} (hf : f_X9_trips F p1 p2 S = some (r1, S1)) {k : Int32} {S2 : mS} (hr : HR r1 S1 [3] k S2) : hCon lau z D ad cy yL_trips cL_trips 5 [(0, 10, 13, 24)] [.ref 0, .int p1, .int p2, .ref 75] S k S2 := by
  refine va_MetW (cc := cL_trips) (maxL := 5) (ret := some .int) (hh := [(0, 10, 13, 24)]) (by decide) rfl ?_
  intro p e s m args below meth c s₁ B hml hv
  obtain ⟨rfl, hz, hP, hK, hD, hX, hN⟩ := hv
  have hx := B.exec
  have hb := B.bytes
  have hr9 := B.returns
  have hts0 := atoms_spec (ws := hWs yL_trips cL_trips 5 [(0, 10, 13, 24)]) B.pre
  have hts : ∀ w ∈ mTs, w.before _ s = true := fun w hw => hts0 w (List.mem_cons_of_mem _ hw)
  have hown : s.vm.findClass RL = some m.cls := findClass_of_methodNamed B.named
  have hlocks := B.notSynchronized
  have htab := vx_table (x := yL_law_) B (hts0 _ List.mem_cons_self)
  have hS : va_S (mAz z) s.heap s.heap [] := va_S.rf
  have hl := lv_entry ([.ref (ad 0), .int p1, .int p2, .ref (ad 75)]) (n := 5) (Nat.le_of_ble_eq_true rfl)
  show W p lau e hRm s m _ below meth c s.heap [] 0 0 _ (entryFrame m ([.ref (ad 0), .int p1, .int p2, .ref (ad 75)] : List Value).toArray 5)
  rw [lg_entry_eq]
  generalize (lg_sl ([.ref (ad 0), .int p1, .int p2, .ref (ad 75)]) ++ List.replicate (5 - (lg_sl ([.ref (ad 0), .int p1, .int p2, .ref (ad 75)])).length) Slot.unset).toArray = ls at hl ⊢
  have hl : lv_has ls 5 [(0, .ref (ad 0)), (1, .int p1), (2, .int p2), (3, .ref (ad 75))] := hl
  refine lv_aload_n hx hb (by decide +kernel : decode cL_trips 0 = .ok (.aload_n 3, 1)) rfl (lv_at hl 3 rfl) ?_
  refine lv_iconst (v := 0) hx hb (by decide +kernel : decode cL_trips 1 = .ok (.iconst 0, 1)) (by decide) ?_
  refine lv_aload_n hx hb (by decide +kernel : decode cL_trips 2 = .ok (.aload_n 0, 1)) rfl (lv_at hl 0 rfl) ?_
  refine lv_iload_n hx hb (by decide +kernel : decode cL_trips 3 = .ok (.iload_n 1, 1)) rfl (lv_at hl 1 rfl) ?_
  refine lv_iload_n hx hb (by decide +kernel : decode cL_trips 4 = .ok (.iload_n 2, 1)) rfl (lv_at hl 2 rfl) ?_
  refine gCall (own := RL) (as := [.int p1, .int p2]) (i := 0) (r := (r1, S1)) (M' := Mx119) (d := 60) (rest := [.int 0, .ref (ad 75)]) ⟨hx, hb, hml, hown, hts⟩ gh_trips (mX_m z ad) hz hX hK (con_of hst (j := 119) rfl (Nat.le_of_ble_eq_true rfl) (fun w hw => by simp only [List.mem_cons, List.not_mem_nil, or_false] at hw; rcases hw with rfl | rfl | rfl <;> rfl) (f_X9_trips_ok (d := 54) hf)) hP hD hS hl.1 (ci := 8) rfl rfl (Nat.le_of_ble_eq_true rfl) (by decide +kernel : decode cL_trips 5 = .ok (.invokevirtual 95, 3)) ⟨by decide, by decide⟩ ⟨by decide, by decide⟩ (fun v hv H1 locs1 hP hD hS => ?_) (fun k9 hk9 H1 locs1 q ce hP hD hS hce hcv hcl => ?_)
  · obtain ⟨x, rfl, rfl, rfl⟩ := HR_in hr hv
    refine W.eq (g2 := F0 m 8 ls [.int x, .int 0, .ref (ad 75)]) rfl ?_
    refine lv_i2l hx hb (by decide +kernel : decode cL_trips 8 = .ok (.i2l, 1)) rfl ?_
    refine va_last (A := mAz z) hx hb hK hP hD hS 75 3 (mW_get (i := 75) rfl) rfl vin0 (by decide +kernel : decode cL_trips 9 = .ok (.lastore, 1)) (fun H1 locs1 hP hD hS => ?_)
    rw [out_set (x := x) rfl] at hP hD
    refine lv_goto (tgt := 17) hx hb (by decide +kernel : decode cL_trips 10 = .ok (.goto 7, 3)) (by decide) ?_
    refine lv_iconst (v := 0) hx hb (by decide +kernel : decode cL_trips 17 = .ok (.iconst 0, 1)) (by decide) ?_
    exact W.iret (v := 0) hx hb hr9 (fun t ht hW => ⟨rfl, mPost_end hP hD hS ht⟩) hS.2.2 (by decide +kernel : decode cL_trips 18 = .ok (.ireturn, 1)) hlocks
  · obtain ⟨j, hj, hj8, rfl, rfl⟩ := HR_ex hr hk9
    match j, hj with
    | 0, hj =>
      cases hj
      refine vz_catch (own := RL) (name := exN 3) (E := exN 3) hown [] ⟨0, 10, 13, 24⟩ [] htab (fun _ h => absurd h List.not_mem_nil) (by decide) (by decide) (hts _ wl_3) (isEx_use rfl (hX.1 _ wc_3 rfl)) hce hcv hcl ?_
      refine lv_astore (lv' := [(4, .ref q), (0, .ref (ad 0)), (1, .int p1), (2, .int p2), (3, .ref (ad 75))]) hx hb (by decide +kernel : decode cL_trips 13 = .ok (.astore 4, 2)) hl (by decide) rfl (fun ls hl => ?_)
      refine lv_iconst (v := 1) hx hb (by decide +kernel : decode cL_trips 15 = .ok (.iconst 1, 1)) (by decide) ?_
      exact W.iret (v := 1) hx hb hr9 (fun t ht hW => ⟨rfl, mPost_end hP hD hS ht⟩) hS.2.2 (by decide +kernel : decode cL_trips 16 = .ok (.ireturn, 1)) hlocks
    | j + 1, hj => simp at hj
set_option maxRecDepth 20000 in
theorem gh_recovers : gOK RL 98 Mx120 (RX9, TX9, 14) 2 [1252, 1253, 1254, 106, 1255] = true := by decide +kernel
set_option maxRecDepth 20000 in
theorem hc_recovers {lau : Launch} {z : Nat} {D : va_G} {ad : Nat → Nat} {cy : Nat → ClassId} (hst : lau.stackTraces = false) {p1 p2 : Int32} {F : Nat} {S S1 : mS} {r1 : Option Value ⊕ Nat} (hf : f_X9_recovers F p1 p2 S = some (r1, S1)) {k : Int32} {S2 : mS} (hr : HR r1 S1 [3] k S2) : hCon lau z D ad cy yL_recovers cL_recovers 5 [(0, 10, 13, 24)] [.ref 0, .int p1, .int p2, .ref 75] S k S2 := by
  refine va_MetW (cc := cL_recovers) (maxL := 5) (ret := some .int) (hh := [(0, 10, 13, 24)]) (by decide) rfl ?_
  intro p e s m args below meth c s₁ B hml hv
  obtain ⟨rfl, hz, hP, hK, hD, hX, hN⟩ := hv
  have hx := B.exec
  have hb := B.bytes
  have hr9 := B.returns
  have hts0 := atoms_spec (ws := hWs yL_recovers cL_recovers 5 [(0, 10, 13, 24)]) B.pre
  have hts : ∀ w ∈ mTs, w.before _ s = true := fun w hw => hts0 w (List.mem_cons_of_mem _ hw)
  have hown : s.vm.findClass RL = some m.cls := findClass_of_methodNamed B.named
  have hlocks := B.notSynchronized
  have htab := vx_table (x := yL_law_) B (hts0 _ List.mem_cons_self)
  have hS : va_S (mAz z) s.heap s.heap [] := va_S.rf
  have hl := lv_entry ([.ref (ad 0), .int p1, .int p2, .ref (ad 75)]) (n := 5) (Nat.le_of_ble_eq_true rfl)
  show W p lau e hRm s m _ below meth c s.heap [] 0 0 _ (entryFrame m ([.ref (ad 0), .int p1, .int p2, .ref (ad 75)] : List Value).toArray 5)
  rw [lg_entry_eq]
  generalize (lg_sl ([.ref (ad 0), .int p1, .int p2, .ref (ad 75)]) ++ List.replicate (5 - (lg_sl ([.ref (ad 0), .int p1, .int p2, .ref (ad 75)])).length) Slot.unset).toArray = ls at hl ⊢
  have hl : lv_has ls 5 [(0, .ref (ad 0)), (1, .int p1), (2, .int p2), (3, .ref (ad 75))] := hl
  refine lv_aload_n hx hb (by decide +kernel : decode cL_recovers 0 = .ok (.aload_n 3, 1)) rfl (lv_at hl 3 rfl) ?_
  refine lv_iconst (v := 0) hx hb (by decide +kernel : decode cL_recovers 1 = .ok (.iconst 0, 1)) (by decide) ?_
  refine lv_aload_n hx hb (by decide +kernel : decode cL_recovers 2 = .ok (.aload_n 0, 1)) rfl (lv_at hl 0 rfl) ?_
  refine lv_iload_n hx hb (by decide +kernel : decode cL_recovers 3 = .ok (.iload_n 1, 1)) rfl (lv_at hl 1 rfl) ?_
  refine lv_iload_n hx hb (by decide +kernel : decode cL_recovers 4 = .ok (.iload_n 2, 1)) rfl (lv_at hl 2 rfl) ?_
  refine gCall (own := RL) (as := [.int p1, .int p2]) (i := 0) (r := (r1, S1)) (M' := Mx120) (d := 60) (rest := [.int 0, .ref (ad 75)]) ⟨hx, hb, hml, hown, hts⟩ gh_recovers (mX_m z ad) hz hX hK (con_of hst (j := 120) rfl (Nat.le_of_ble_eq_true rfl) (fun w hw => by simp only [List.mem_cons, List.not_mem_nil, or_false] at hw; rcases hw with rfl | rfl | rfl <;> rfl) (f_X9_recovers_ok (d := 56) hf)) hP hD hS hl.1 (ci := 8) rfl rfl (Nat.le_of_ble_eq_true rfl) (by decide +kernel : decode cL_recovers 5 = .ok (.invokevirtual 98, 3)) ⟨by decide, by decide⟩ ⟨by decide, by decide⟩ (fun v hv H1 locs1 hP hD hS => ?_) (fun k9 hk9 H1 locs1 q ce hP hD hS hce hcv hcl => ?_)
  · obtain ⟨x, rfl, rfl, rfl⟩ := HR_in hr hv
    refine W.eq (g2 := F0 m 8 ls [.int x, .int 0, .ref (ad 75)]) rfl ?_
    refine lv_i2l hx hb (by decide +kernel : decode cL_recovers 8 = .ok (.i2l, 1)) rfl ?_
    refine va_last (A := mAz z) hx hb hK hP hD hS 75 3 (mW_get (i := 75) rfl) rfl vin0 (by decide +kernel : decode cL_recovers 9 = .ok (.lastore, 1)) (fun H1 locs1 hP hD hS => ?_)
    rw [out_set (x := x) rfl] at hP hD
    refine lv_goto (tgt := 17) hx hb (by decide +kernel : decode cL_recovers 10 = .ok (.goto 7, 3)) (by decide) ?_
    refine lv_iconst (v := 0) hx hb (by decide +kernel : decode cL_recovers 17 = .ok (.iconst 0, 1)) (by decide) ?_
    exact W.iret (v := 0) hx hb hr9 (fun t ht hW => ⟨rfl, mPost_end hP hD hS ht⟩) hS.2.2 (by decide +kernel : decode cL_recovers 18 = .ok (.ireturn, 1)) hlocks
  · obtain ⟨j, hj, hj8, rfl, rfl⟩ := HR_ex hr hk9
    match j, hj with
    | 0, hj =>
      cases hj
      refine vz_catch (own := RL) (name := exN 3) (E := exN 3) hown [] ⟨0, 10, 13, 24⟩ [] htab (fun _ h => absurd h List.not_mem_nil) (by decide) (by decide) (hts _ wl_3) (isEx_use rfl (hX.1 _ wc_3 rfl)) hce hcv hcl ?_
      refine lv_astore (lv' := [(4, .ref q), (0, .ref (ad 0)), (1, .int p1), (2, .int p2), (3, .ref (ad 75))]) hx hb (by decide +kernel : decode cL_recovers 13 = .ok (.astore 4, 2)) hl (by decide) rfl (fun ls hl => ?_)
      refine lv_iconst (v := 1) hx hb (by decide +kernel : decode cL_recovers 15 = .ok (.iconst 1, 1)) (by decide) ?_
      exact W.iret (v := 1) hx hb hr9 (fun t ht hW => ⟨rfl, mPost_end hP hD hS ht⟩) hS.2.2 (by decide +kernel : decode cL_recovers 16 = .ok (.ireturn, 1)) hlocks
    | j + 1, hj => simp at hj
set_option maxRecDepth 20000 in
theorem gh_loss : gOK RL 101 Mx109 (RX9, TX9, 14) 1 [1261, 1262, 1263, 106, 1264] = true := by decide +kernel
set_option maxRecDepth 20000 in
theorem hc_loss {lau : Launch} {z : Nat} {D : va_G} {ad : Nat → Nat} {cy : Nat → ClassId} (hst : lau.stackTraces = false) {p1 : Int32} {F : Nat} {S S1 : mS} {r1 : Option Value ⊕ Nat} (hf : f_X9_loss F p1 S = some (r1, S1)) {k : Int32} {S2 : mS} (hr : HR r1 S1 [1] k S2) : hCon lau z D ad cy yL_loss cL_loss 4 [(0, 9, 12, 13)] [.ref 0, .int p1, .ref 75] S k S2 := by
  refine va_MetW (cc := cL_loss) (maxL := 4) (ret := some .int) (hh := [(0, 9, 12, 13)]) (by decide) rfl ?_
  intro p e s m args below meth c s₁ B hml hv
  obtain ⟨rfl, hz, hP, hK, hD, hX, hN⟩ := hv
  have hx := B.exec
  have hb := B.bytes
  have hr9 := B.returns
  have hts0 := atoms_spec (ws := hWs yL_loss cL_loss 4 [(0, 9, 12, 13)]) B.pre
  have hts : ∀ w ∈ mTs, w.before _ s = true := fun w hw => hts0 w (List.mem_cons_of_mem _ hw)
  have hown : s.vm.findClass RL = some m.cls := findClass_of_methodNamed B.named
  have hlocks := B.notSynchronized
  have htab := vx_table (x := yL_law_) B (hts0 _ List.mem_cons_self)
  have hS : va_S (mAz z) s.heap s.heap [] := va_S.rf
  have hl := lv_entry ([.ref (ad 0), .int p1, .ref (ad 75)]) (n := 4) (Nat.le_of_ble_eq_true rfl)
  show W p lau e hRm s m _ below meth c s.heap [] 0 0 _ (entryFrame m ([.ref (ad 0), .int p1, .ref (ad 75)] : List Value).toArray 4)
  rw [lg_entry_eq]
  generalize (lg_sl ([.ref (ad 0), .int p1, .ref (ad 75)]) ++ List.replicate (4 - (lg_sl ([.ref (ad 0), .int p1, .ref (ad 75)])).length) Slot.unset).toArray = ls at hl ⊢
  have hl : lv_has ls 4 [(0, .ref (ad 0)), (1, .int p1), (2, .ref (ad 75))] := hl
  refine lv_aload_n hx hb (by decide +kernel : decode cL_loss 0 = .ok (.aload_n 2, 1)) rfl (lv_at hl 2 rfl) ?_
  refine lv_iconst (v := 0) hx hb (by decide +kernel : decode cL_loss 1 = .ok (.iconst 0, 1)) (by decide) ?_
  refine lv_aload_n hx hb (by decide +kernel : decode cL_loss 2 = .ok (.aload_n 0, 1)) rfl (lv_at hl 0 rfl) ?_
  refine lv_iload_n hx hb (by decide +kernel : decode cL_loss 3 = .ok (.iload_n 1, 1)) rfl (lv_at hl 1 rfl) ?_
  refine gCall (own := RL) (as := [.int p1]) (i := 0) (r := (r1, S1)) (M' := Mx109) (d := 60) (rest := [.int 0, .ref (ad 75)]) ⟨hx, hb, hml, hown, hts⟩ gh_loss (mX_m z ad) hz hX hK (con_of hst (j := 109) rfl (Nat.le_of_ble_eq_true rfl) (fun w hw => by simp only [List.mem_cons, List.not_mem_nil, or_false] at hw; rcases hw with rfl | rfl <;> rfl) (f_X9_loss_ok (d := 54) hf)) hP hD hS hl.1 (ci := 8) rfl rfl (Nat.le_of_ble_eq_true rfl) (by decide +kernel : decode cL_loss 4 = .ok (.invokevirtual 101, 3)) ⟨by decide, by decide⟩ ⟨by decide, by decide⟩ (fun v hv H1 locs1 hP hD hS => ?_) (fun k9 hk9 H1 locs1 q ce hP hD hS hce hcv hcl => ?_)
  · obtain ⟨x, rfl, rfl, rfl⟩ := HR_in hr hv
    refine W.eq (g2 := F0 m 7 ls [.int x, .int 0, .ref (ad 75)]) rfl ?_
    refine lv_i2l hx hb (by decide +kernel : decode cL_loss 7 = .ok (.i2l, 1)) rfl ?_
    refine va_last (A := mAz z) hx hb hK hP hD hS 75 3 (mW_get (i := 75) rfl) rfl vin0 (by decide +kernel : decode cL_loss 8 = .ok (.lastore, 1)) (fun H1 locs1 hP hD hS => ?_)
    rw [out_set (x := x) rfl] at hP hD
    refine lv_goto (tgt := 15) hx hb (by decide +kernel : decode cL_loss 9 = .ok (.goto 6, 3)) (by decide) ?_
    refine lv_iconst (v := 0) hx hb (by decide +kernel : decode cL_loss 15 = .ok (.iconst 0, 1)) (by decide) ?_
    exact W.iret (v := 0) hx hb hr9 (fun t ht hW => ⟨rfl, mPost_end hP hD hS ht⟩) hS.2.2 (by decide +kernel : decode cL_loss 16 = .ok (.ireturn, 1)) hlocks
  · obtain ⟨j, hj, hj8, rfl, rfl⟩ := HR_ex hr hk9
    match j, hj with
    | 0, hj =>
      cases hj
      refine vz_catch (own := RL) (name := exN 1) (E := exN 1) hown [] ⟨0, 9, 12, 13⟩ [] htab (fun _ h => absurd h List.not_mem_nil) (by decide) (by decide) (hts _ wl_1) (isEx_use rfl (hX.1 _ wc_1 rfl)) hce hcv hcl ?_
      refine lv_astore_n (lv' := [(3, .ref q), (0, .ref (ad 0)), (1, .int p1), (2, .ref (ad 75))]) hx hb (by decide +kernel : decode cL_loss 12 = .ok (.astore_n 3, 1)) rfl hl (by decide) rfl (fun ls hl => ?_)
      refine lv_iconst (v := 1) hx hb (by decide +kernel : decode cL_loss 13 = .ok (.iconst 1, 1)) (by decide) ?_
      exact W.iret (v := 1) hx hb hr9 (fun t ht hW => ⟨rfl, mPost_end hP hD hS ht⟩) hS.2.2 (by decide +kernel : decode cL_loss 14 = .ok (.ireturn, 1)) hlocks
    | j + 1, hj => simp at hj
set_option maxRecDepth 20000 in
theorem gh_pairs : gOK RL 104 Mx122 (RX9, TX9, 14) 1 [1272, 1273, 1274, 106, 1275] = true := by decide +kernel
set_option maxRecDepth 20000 in
theorem hc_pairs {lau : Launch} {z : Nat} {D : va_G} {ad : Nat → Nat} {cy : Nat → ClassId} (hst : lau.stackTraces = false) {p1 : Int32} {F : Nat} {S S1 : mS} {r1 : Option Value ⊕ Nat} (hf : f_X9_pairs F p1 S = some (r1, S1)) {k : Int32} {S2 : mS} (hr : HR r1 S1 [1] k S2) : hCon lau z D ad cy yL_pairs cL_pairs 4 [(0, 9, 12, 13)] [.ref 0, .int p1, .ref 75] S k S2 := by
  refine va_MetW (cc := cL_pairs) (maxL := 4) (ret := some .int) (hh := [(0, 9, 12, 13)]) (by decide) rfl ?_
  intro p e s m args below meth c s₁ B hml hv
  obtain ⟨rfl, hz, hP, hK, hD, hX, hN⟩ := hv
  have hx := B.exec
  have hb := B.bytes
  have hr9 := B.returns
  have hts0 := atoms_spec (ws := hWs yL_pairs cL_pairs 4 [(0, 9, 12, 13)]) B.pre
  have hts : ∀ w ∈ mTs, w.before _ s = true := fun w hw => hts0 w (List.mem_cons_of_mem _ hw)
  have hown : s.vm.findClass RL = some m.cls := findClass_of_methodNamed B.named
  have hlocks := B.notSynchronized
  have htab := vx_table (x := yL_law_) B (hts0 _ List.mem_cons_self)
  have hS : va_S (mAz z) s.heap s.heap [] := va_S.rf
  have hl := lv_entry ([.ref (ad 0), .int p1, .ref (ad 75)]) (n := 4) (Nat.le_of_ble_eq_true rfl)
  show W p lau e hRm s m _ below meth c s.heap [] 0 0 _ (entryFrame m ([.ref (ad 0), .int p1, .ref (ad 75)] : List Value).toArray 4)
  rw [lg_entry_eq]
  generalize (lg_sl ([.ref (ad 0), .int p1, .ref (ad 75)]) ++ List.replicate (4 - (lg_sl ([.ref (ad 0), .int p1, .ref (ad 75)])).length) Slot.unset).toArray = ls at hl ⊢
  have hl : lv_has ls 4 [(0, .ref (ad 0)), (1, .int p1), (2, .ref (ad 75))] := hl
  refine lv_aload_n hx hb (by decide +kernel : decode cL_pairs 0 = .ok (.aload_n 2, 1)) rfl (lv_at hl 2 rfl) ?_
  refine lv_iconst (v := 0) hx hb (by decide +kernel : decode cL_pairs 1 = .ok (.iconst 0, 1)) (by decide) ?_
  refine lv_aload_n hx hb (by decide +kernel : decode cL_pairs 2 = .ok (.aload_n 0, 1)) rfl (lv_at hl 0 rfl) ?_
  refine lv_iload_n hx hb (by decide +kernel : decode cL_pairs 3 = .ok (.iload_n 1, 1)) rfl (lv_at hl 1 rfl) ?_
  refine gCall (own := RL) (as := [.int p1]) (i := 0) (r := (r1, S1)) (M' := Mx122) (d := 60) (rest := [.int 0, .ref (ad 75)]) ⟨hx, hb, hml, hown, hts⟩ gh_pairs (mX_m z ad) hz hX hK (con_of hst (j := 122) rfl (Nat.le_of_ble_eq_true rfl) (fun w hw => by simp only [List.mem_cons, List.not_mem_nil, or_false] at hw; rcases hw with rfl | rfl <;> rfl) (f_X9_pairs_ok (d := 57) hf)) hP hD hS hl.1 (ci := 8) rfl rfl (Nat.le_of_ble_eq_true rfl) (by decide +kernel : decode cL_pairs 4 = .ok (.invokevirtual 104, 3)) ⟨by decide, by decide⟩ ⟨by decide, by decide⟩ (fun v hv H1 locs1 hP hD hS => ?_) (fun k9 hk9 H1 locs1 q ce hP hD hS hce hcv hcl => ?_)
  · obtain ⟨x, rfl, rfl, rfl⟩ := HR_in hr hv
    refine W.eq (g2 := F0 m 7 ls [.int x, .int 0, .ref (ad 75)]) rfl ?_
    refine lv_i2l hx hb (by decide +kernel : decode cL_pairs 7 = .ok (.i2l, 1)) rfl ?_
    refine va_last (A := mAz z) hx hb hK hP hD hS 75 3 (mW_get (i := 75) rfl) rfl vin0 (by decide +kernel : decode cL_pairs 8 = .ok (.lastore, 1)) (fun H1 locs1 hP hD hS => ?_)
    rw [out_set (x := x) rfl] at hP hD
    refine lv_goto (tgt := 15) hx hb (by decide +kernel : decode cL_pairs 9 = .ok (.goto 6, 3)) (by decide) ?_
    refine lv_iconst (v := 0) hx hb (by decide +kernel : decode cL_pairs 15 = .ok (.iconst 0, 1)) (by decide) ?_
    exact W.iret (v := 0) hx hb hr9 (fun t ht hW => ⟨rfl, mPost_end hP hD hS ht⟩) hS.2.2 (by decide +kernel : decode cL_pairs 16 = .ok (.ireturn, 1)) hlocks
  · obtain ⟨j, hj, hj8, rfl, rfl⟩ := HR_ex hr hk9
    match j, hj with
    | 0, hj =>
      cases hj
      refine vz_catch (own := RL) (name := exN 1) (E := exN 1) hown [] ⟨0, 9, 12, 13⟩ [] htab (fun _ h => absurd h List.not_mem_nil) (by decide) (by decide) (hts _ wl_1) (isEx_use rfl (hX.1 _ wc_1 rfl)) hce hcv hcl ?_
      refine lv_astore_n (lv' := [(3, .ref q), (0, .ref (ad 0)), (1, .int p1), (2, .ref (ad 75))]) hx hb (by decide +kernel : decode cL_pairs 12 = .ok (.astore_n 3, 1)) rfl hl (by decide) rfl (fun ls hl => ?_)
      refine lv_iconst (v := 1) hx hb (by decide +kernel : decode cL_pairs 13 = .ok (.iconst 1, 1)) (by decide) ?_
      exact W.iret (v := 1) hx hb hr9 (fun t ht hW => ⟨rfl, mPost_end hP hD hS ht⟩) hS.2.2 (by decide +kernel : decode cL_pairs 14 = .ok (.ireturn, 1)) hlocks
    | j + 1, hj => simp at hj
set_option maxRecDepth 20000 in
theorem gh_jerks : gOK RL 107 Mx123 (RX9, TX9, 14) 2 [1279, 1280, 1281, 106, 1282] = true := by decide +kernel
set_option maxRecDepth 20000 in
theorem hc_jerks {lau : Launch} {z : Nat} {D : va_G} {ad : Nat → Nat} {cy : Nat → ClassId} (hst : lau.stackTraces = false) {p1 p2 : Int32} {F : Nat} {S S1 : mS} {r1 : Option Value ⊕ Nat} (hf : f_X9_jerks F p1 p2 S = some (r1, S1)) {k : Int32} {S2 : mS} (hr : HR r1 S1 [1] k S2) : hCon lau z D ad cy yL_jerks cL_jerks 5 [(0, 10, 13, 13)] [.ref 0, .int p1, .int p2, .ref 75] S k S2 := by
  refine va_MetW (cc := cL_jerks) (maxL := 5) (ret := some .int) (hh := [(0, 10, 13, 13)]) (by decide) rfl ?_
  intro p e s m args below meth c s₁ B hml hv
  obtain ⟨rfl, hz, hP, hK, hD, hX, hN⟩ := hv
  have hx := B.exec
  have hb := B.bytes
  have hr9 := B.returns
  have hts0 := atoms_spec (ws := hWs yL_jerks cL_jerks 5 [(0, 10, 13, 13)]) B.pre
  have hts : ∀ w ∈ mTs, w.before _ s = true := fun w hw => hts0 w (List.mem_cons_of_mem _ hw)
  have hown : s.vm.findClass RL = some m.cls := findClass_of_methodNamed B.named
  have hlocks := B.notSynchronized
  have htab := vx_table (x := yL_law_) B (hts0 _ List.mem_cons_self)
  have hS : va_S (mAz z) s.heap s.heap [] := va_S.rf
  have hl := lv_entry ([.ref (ad 0), .int p1, .int p2, .ref (ad 75)]) (n := 5) (Nat.le_of_ble_eq_true rfl)
  show W p lau e hRm s m _ below meth c s.heap [] 0 0 _ (entryFrame m ([.ref (ad 0), .int p1, .int p2, .ref (ad 75)] : List Value).toArray 5)
  rw [lg_entry_eq]
  generalize (lg_sl ([.ref (ad 0), .int p1, .int p2, .ref (ad 75)]) ++ List.replicate (5 - (lg_sl ([.ref (ad 0), .int p1, .int p2, .ref (ad 75)])).length) Slot.unset).toArray = ls at hl ⊢
  have hl : lv_has ls 5 [(0, .ref (ad 0)), (1, .int p1), (2, .int p2), (3, .ref (ad 75))] := hl
  refine lv_aload_n hx hb (by decide +kernel : decode cL_jerks 0 = .ok (.aload_n 3, 1)) rfl (lv_at hl 3 rfl) ?_
  refine lv_iconst (v := 0) hx hb (by decide +kernel : decode cL_jerks 1 = .ok (.iconst 0, 1)) (by decide) ?_
  refine lv_aload_n hx hb (by decide +kernel : decode cL_jerks 2 = .ok (.aload_n 0, 1)) rfl (lv_at hl 0 rfl) ?_
  refine lv_iload_n hx hb (by decide +kernel : decode cL_jerks 3 = .ok (.iload_n 1, 1)) rfl (lv_at hl 1 rfl) ?_
  refine lv_iload_n hx hb (by decide +kernel : decode cL_jerks 4 = .ok (.iload_n 2, 1)) rfl (lv_at hl 2 rfl) ?_
  refine gCall (own := RL) (as := [.int p1, .int p2]) (i := 0) (r := (r1, S1)) (M' := Mx123) (d := 60) (rest := [.int 0, .ref (ad 75)]) ⟨hx, hb, hml, hown, hts⟩ gh_jerks (mX_m z ad) hz hX hK (con_of hst (j := 123) rfl (Nat.le_of_ble_eq_true rfl) (fun w hw => by simp only [List.mem_cons, List.not_mem_nil, or_false] at hw; rcases hw with rfl | rfl | rfl <;> rfl) (f_X9_jerks_ok (d := 59) hf)) hP hD hS hl.1 (ci := 8) rfl rfl (Nat.le_of_ble_eq_true rfl) (by decide +kernel : decode cL_jerks 5 = .ok (.invokevirtual 107, 3)) ⟨by decide, by decide⟩ ⟨by decide, by decide⟩ (fun v hv H1 locs1 hP hD hS => ?_) (fun k9 hk9 H1 locs1 q ce hP hD hS hce hcv hcl => ?_)
  · obtain ⟨x, rfl, rfl, rfl⟩ := HR_in hr hv
    refine W.eq (g2 := F0 m 8 ls [.int x, .int 0, .ref (ad 75)]) rfl ?_
    refine lv_i2l hx hb (by decide +kernel : decode cL_jerks 8 = .ok (.i2l, 1)) rfl ?_
    refine va_last (A := mAz z) hx hb hK hP hD hS 75 3 (mW_get (i := 75) rfl) rfl vin0 (by decide +kernel : decode cL_jerks 9 = .ok (.lastore, 1)) (fun H1 locs1 hP hD hS => ?_)
    rw [out_set (x := x) rfl] at hP hD
    refine lv_goto (tgt := 17) hx hb (by decide +kernel : decode cL_jerks 10 = .ok (.goto 7, 3)) (by decide) ?_
    refine lv_iconst (v := 0) hx hb (by decide +kernel : decode cL_jerks 17 = .ok (.iconst 0, 1)) (by decide) ?_
    exact W.iret (v := 0) hx hb hr9 (fun t ht hW => ⟨rfl, mPost_end hP hD hS ht⟩) hS.2.2 (by decide +kernel : decode cL_jerks 18 = .ok (.ireturn, 1)) hlocks
  · obtain ⟨j, hj, hj8, rfl, rfl⟩ := HR_ex hr hk9
    match j, hj with
    | 0, hj =>
      cases hj
      refine vz_catch (own := RL) (name := exN 1) (E := exN 1) hown [] ⟨0, 10, 13, 13⟩ [] htab (fun _ h => absurd h List.not_mem_nil) (by decide) (by decide) (hts _ wl_1) (isEx_use rfl (hX.1 _ wc_1 rfl)) hce hcv hcl ?_
      refine lv_astore (lv' := [(4, .ref q), (0, .ref (ad 0)), (1, .int p1), (2, .int p2), (3, .ref (ad 75))]) hx hb (by decide +kernel : decode cL_jerks 13 = .ok (.astore 4, 2)) hl (by decide) rfl (fun ls hl => ?_)
      refine lv_iconst (v := 1) hx hb (by decide +kernel : decode cL_jerks 15 = .ok (.iconst 1, 1)) (by decide) ?_
      exact W.iret (v := 1) hx hb hr9 (fun t ht hW => ⟨rfl, mPost_end hP hD hS ht⟩) hS.2.2 (by decide +kernel : decode cL_jerks 16 = .ok (.ireturn, 1)) hlocks
    | j + 1, hj => simp at hj
set_option maxRecDepth 20000 in
theorem gh_safe : gOK RL 110 Mx124 (RX9, TX9, 14) 2 [1286, 1287, 1288, 106, 1289] = true := by decide +kernel
set_option maxRecDepth 20000 in
theorem hc_safe {lau : Launch} {z : Nat} {D : va_G} {ad : Nat → Nat} {cy : Nat → ClassId} (hst : lau.stackTraces = false) {p1 p2 : Int32} {F : Nat} {S S1 : mS} {r1 : Option Value ⊕ Nat} (hf : f_X9_safe F p1 p2 S = some (r1, S1)) {k : Int32} {S2 : mS} (hr : HRb r1 S1 [1] k S2) : hCon lau z D ad cy yL_safe cL_safe 5 [(0, 17, 20, 13)] [.ref 0, .int p1, .int p2, .ref 75] S k S2 := by
  refine va_MetW (cc := cL_safe) (maxL := 5) (ret := some .int) (hh := [(0, 17, 20, 13)]) (by decide) rfl ?_
  intro p e s m args below meth c s₁ B hml hv
  obtain ⟨rfl, hz, hP, hK, hD, hX, hN⟩ := hv
  have hx := B.exec
  have hb := B.bytes
  have hr9 := B.returns
  have hts0 := atoms_spec (ws := hWs yL_safe cL_safe 5 [(0, 17, 20, 13)]) B.pre
  have hts : ∀ w ∈ mTs, w.before _ s = true := fun w hw => hts0 w (List.mem_cons_of_mem _ hw)
  have hown : s.vm.findClass RL = some m.cls := findClass_of_methodNamed B.named
  have hlocks := B.notSynchronized
  have htab := vx_table (x := yL_law_) B (hts0 _ List.mem_cons_self)
  have hS : va_S (mAz z) s.heap s.heap [] := va_S.rf
  have hl := lv_entry ([.ref (ad 0), .int p1, .int p2, .ref (ad 75)]) (n := 5) (Nat.le_of_ble_eq_true rfl)
  show W p lau e hRm s m _ below meth c s.heap [] 0 0 _ (entryFrame m ([.ref (ad 0), .int p1, .int p2, .ref (ad 75)] : List Value).toArray 5)
  rw [lg_entry_eq]
  generalize (lg_sl ([.ref (ad 0), .int p1, .int p2, .ref (ad 75)]) ++ List.replicate (5 - (lg_sl ([.ref (ad 0), .int p1, .int p2, .ref (ad 75)])).length) Slot.unset).toArray = ls at hl ⊢
  have hl : lv_has ls 5 [(0, .ref (ad 0)), (1, .int p1), (2, .int p2), (3, .ref (ad 75))] := hl
  refine lv_aload_n hx hb (by decide +kernel : decode cL_safe 0 = .ok (.aload_n 3, 1)) rfl (lv_at hl 3 rfl) ?_
  refine lv_iconst (v := 0) hx hb (by decide +kernel : decode cL_safe 1 = .ok (.iconst 0, 1)) (by decide) ?_
  refine lv_aload_n hx hb (by decide +kernel : decode cL_safe 2 = .ok (.aload_n 0, 1)) rfl (lv_at hl 0 rfl) ?_
  refine lv_iload_n hx hb (by decide +kernel : decode cL_safe 3 = .ok (.iload_n 1, 1)) rfl (lv_at hl 1 rfl) ?_
  refine lv_iload_n hx hb (by decide +kernel : decode cL_safe 4 = .ok (.iload_n 2, 1)) rfl (lv_at hl 2 rfl) ?_
  refine gCall (own := RL) (as := [.int p1, .int p2]) (i := 0) (r := (r1, S1)) (M' := Mx124) (d := 60) (rest := [.int 0, .ref (ad 75)]) ⟨hx, hb, hml, hown, hts⟩ gh_safe (mX_m z ad) hz hX hK (con_of hst (j := 124) rfl (Nat.le_of_ble_eq_true rfl) (fun w hw => by simp only [List.mem_cons, List.not_mem_nil, or_false] at hw; rcases hw with rfl | rfl | rfl <;> rfl) (f_X9_safe_ok (d := 59) hf)) hP hD hS hl.1 (ci := 8) rfl rfl (Nat.le_of_ble_eq_true rfl) (by decide +kernel : decode cL_safe 5 = .ok (.invokevirtual 110, 3)) ⟨by decide, by decide⟩ ⟨by decide, by decide⟩ (fun v hv H1 locs1 hP hD hS => ?_) (fun k9 hk9 H1 locs1 q ce hP hD hS hce hcv hcl => ?_)
  · obtain ⟨x, rfl, rfl, rfl⟩ := HRb_in hr hv
    refine W.eq (g2 := F0 m 8 ls [.int x, .int 0, .ref (ad 75)]) rfl ?_
    refine lv_if_eq (tgt := 15) hx hb (by decide +kernel : decode cL_safe 8 = .ok (.ifCond .eq 7, 3)) (by decide) (fun c0 => ?_) (fun c0 => ?_)
    · rw [if_pos c0]
      refine lv_lconst (v := 0) hx hb (by decide +kernel : decode cL_safe 15 = .ok (.lconst 0, 1)) (by decide) ?_
      refine va_last (A := mAz z) hx hb hK hP hD hS 75 3 (mW_get (i := 75) rfl) rfl vin0 (by decide +kernel : decode cL_safe 16 = .ok (.lastore, 1)) (fun H1 locs1 hP hD hS => ?_)
      rw [out_set (x := 0) (y := 0) (by decide)] at hP hD
      refine lv_goto (tgt := 24) hx hb (by decide +kernel : decode cL_safe 17 = .ok (.goto 7, 3)) (by decide) ?_
      refine lv_iconst (v := 0) hx hb (by decide +kernel : decode cL_safe 24 = .ok (.iconst 0, 1)) (by decide) ?_
      exact W.iret (v := 0) hx hb hr9 (fun t ht hW => ⟨rfl, mPost_end hP hD hS ht⟩) hS.2.2 (by decide +kernel : decode cL_safe 25 = .ok (.ireturn, 1)) hlocks
    · rw [if_neg c0]
      refine lv_lconst (v := 1) hx hb (by decide +kernel : decode cL_safe 11 = .ok (.lconst 1, 1)) (by decide) ?_
      refine lv_goto (tgt := 16) hx hb (by decide +kernel : decode cL_safe 12 = .ok (.goto 4, 3)) (by decide) ?_
      refine va_last (A := mAz z) hx hb hK hP hD hS 75 3 (mW_get (i := 75) rfl) rfl vin0 (by decide +kernel : decode cL_safe 16 = .ok (.lastore, 1)) (fun H1 locs1 hP hD hS => ?_)
      rw [out_set (x := 1) (y := 1) (by decide)] at hP hD
      refine lv_goto (tgt := 24) hx hb (by decide +kernel : decode cL_safe 17 = .ok (.goto 7, 3)) (by decide) ?_
      refine lv_iconst (v := 0) hx hb (by decide +kernel : decode cL_safe 24 = .ok (.iconst 0, 1)) (by decide) ?_
      exact W.iret (v := 0) hx hb hr9 (fun t ht hW => ⟨rfl, mPost_end hP hD hS ht⟩) hS.2.2 (by decide +kernel : decode cL_safe 25 = .ok (.ireturn, 1)) hlocks
  · obtain ⟨j, hj, hj8, rfl, rfl⟩ := HRb_ex hr hk9
    match j, hj with
    | 0, hj =>
      cases hj
      refine vz_catch (own := RL) (name := exN 1) (E := exN 1) hown [] ⟨0, 17, 20, 13⟩ [] htab (fun _ h => absurd h List.not_mem_nil) (by decide) (by decide) (hts _ wl_1) (isEx_use rfl (hX.1 _ wc_1 rfl)) hce hcv hcl ?_
      refine lv_astore (lv' := [(4, .ref q), (0, .ref (ad 0)), (1, .int p1), (2, .int p2), (3, .ref (ad 75))]) hx hb (by decide +kernel : decode cL_safe 20 = .ok (.astore 4, 2)) hl (by decide) rfl (fun ls hl => ?_)
      refine lv_iconst (v := 1) hx hb (by decide +kernel : decode cL_safe 22 = .ok (.iconst 1, 1)) (by decide) ?_
      exact W.iret (v := 1) hx hb hr9 (fun t ht hW => ⟨rfl, mPost_end hP hD hS ht⟩) hS.2.2 (by decide +kernel : decode cL_safe 23 = .ok (.ireturn, 1)) hlocks
    | j + 1, hj => simp at hj
set_option maxRecDepth 20000 in
theorem gh_heard : gOK RL 114 Mx125 (RX9, TX9, 14) 3 [1293, 1294, 1295, 106, 1296] = true := by decide +kernel
set_option maxRecDepth 20000 in
theorem hc_heard {lau : Launch} {z : Nat} {D : va_G} {ad : Nat → Nat} {cy : Nat → ClassId} (hst : lau.stackTraces = false) {p1 p2 p3 : Int32} {F : Nat} {S S1 : mS} {r1 : Option Value ⊕ Nat} (hf : f_X9_heard F p1 p2 p3 S = some (r1, S1)) {k : Int32} {S2 : mS} (hr : HR r1 S1 [1] k S2) : hCon lau z D ad cy yL_heard cL_heard 6 [(0, 12, 15, 13)] [.ref 0, .int p1, .int p2, .int p3, .ref 75] S k S2 := by
  refine va_MetW (cc := cL_heard) (maxL := 6) (ret := some .int) (hh := [(0, 12, 15, 13)]) (by decide) rfl ?_
  intro p e s m args below meth c s₁ B hml hv
  obtain ⟨rfl, hz, hP, hK, hD, hX, hN⟩ := hv
  have hx := B.exec
  have hb := B.bytes
  have hr9 := B.returns
  have hts0 := atoms_spec (ws := hWs yL_heard cL_heard 6 [(0, 12, 15, 13)]) B.pre
  have hts : ∀ w ∈ mTs, w.before _ s = true := fun w hw => hts0 w (List.mem_cons_of_mem _ hw)
  have hown : s.vm.findClass RL = some m.cls := findClass_of_methodNamed B.named
  have hlocks := B.notSynchronized
  have htab := vx_table (x := yL_law_) B (hts0 _ List.mem_cons_self)
  have hS : va_S (mAz z) s.heap s.heap [] := va_S.rf
  have hl := lv_entry ([.ref (ad 0), .int p1, .int p2, .int p3, .ref (ad 75)]) (n := 6) (Nat.le_of_ble_eq_true rfl)
  show W p lau e hRm s m _ below meth c s.heap [] 0 0 _ (entryFrame m ([.ref (ad 0), .int p1, .int p2, .int p3, .ref (ad 75)] : List Value).toArray 6)
  rw [lg_entry_eq]
  generalize (lg_sl ([.ref (ad 0), .int p1, .int p2, .int p3, .ref (ad 75)]) ++ List.replicate (6 - (lg_sl ([.ref (ad 0), .int p1, .int p2, .int p3, .ref (ad 75)])).length) Slot.unset).toArray = ls at hl ⊢
  have hl : lv_has ls 6 [(0, .ref (ad 0)), (1, .int p1), (2, .int p2), (3, .int p3), (4, .ref (ad 75))] := hl
  refine lv_aload hx hb (by decide +kernel : decode cL_heard 0 = .ok (.aload 4, 2)) (lv_at hl 4 rfl) ?_
  refine lv_iconst (v := 0) hx hb (by decide +kernel : decode cL_heard 2 = .ok (.iconst 0, 1)) (by decide) ?_
  refine lv_aload_n hx hb (by decide +kernel : decode cL_heard 3 = .ok (.aload_n 0, 1)) rfl (lv_at hl 0 rfl) ?_
  refine lv_iload_n hx hb (by decide +kernel : decode cL_heard 4 = .ok (.iload_n 1, 1)) rfl (lv_at hl 1 rfl) ?_
  refine lv_iload_n hx hb (by decide +kernel : decode cL_heard 5 = .ok (.iload_n 2, 1)) rfl (lv_at hl 2 rfl) ?_
  refine lv_iload_n hx hb (by decide +kernel : decode cL_heard 6 = .ok (.iload_n 3, 1)) rfl (lv_at hl 3 rfl) ?_
  refine gCall (own := RL) (as := [.int p1, .int p2, .int p3]) (i := 0) (r := (r1, S1)) (M' := Mx125) (d := 60) (rest := [.int 0, .ref (ad 75)]) ⟨hx, hb, hml, hown, hts⟩ gh_heard (mX_m z ad) hz hX hK (con_of hst (j := 125) rfl (Nat.le_of_ble_eq_true rfl) (fun w hw => by simp only [List.mem_cons, List.not_mem_nil, or_false] at hw; rcases hw with rfl | rfl | rfl | rfl <;> rfl) (f_X9_heard_ok (d := 59) hf)) hP hD hS hl.1 (ci := 8) rfl rfl (Nat.le_of_ble_eq_true rfl) (by decide +kernel : decode cL_heard 7 = .ok (.invokevirtual 114, 3)) ⟨by decide, by decide⟩ ⟨by decide, by decide⟩ (fun v hv H1 locs1 hP hD hS => ?_) (fun k9 hk9 H1 locs1 q ce hP hD hS hce hcv hcl => ?_)
  · obtain ⟨x, rfl, rfl, rfl⟩ := HR_in hr hv
    refine W.eq (g2 := F0 m 10 ls [.int x, .int 0, .ref (ad 75)]) rfl ?_
    refine lv_i2l hx hb (by decide +kernel : decode cL_heard 10 = .ok (.i2l, 1)) rfl ?_
    refine va_last (A := mAz z) hx hb hK hP hD hS 75 3 (mW_get (i := 75) rfl) rfl vin0 (by decide +kernel : decode cL_heard 11 = .ok (.lastore, 1)) (fun H1 locs1 hP hD hS => ?_)
    rw [out_set (x := x) rfl] at hP hD
    refine lv_goto (tgt := 19) hx hb (by decide +kernel : decode cL_heard 12 = .ok (.goto 7, 3)) (by decide) ?_
    refine lv_iconst (v := 0) hx hb (by decide +kernel : decode cL_heard 19 = .ok (.iconst 0, 1)) (by decide) ?_
    exact W.iret (v := 0) hx hb hr9 (fun t ht hW => ⟨rfl, mPost_end hP hD hS ht⟩) hS.2.2 (by decide +kernel : decode cL_heard 20 = .ok (.ireturn, 1)) hlocks
  · obtain ⟨j, hj, hj8, rfl, rfl⟩ := HR_ex hr hk9
    match j, hj with
    | 0, hj =>
      cases hj
      refine vz_catch (own := RL) (name := exN 1) (E := exN 1) hown [] ⟨0, 12, 15, 13⟩ [] htab (fun _ h => absurd h List.not_mem_nil) (by decide) (by decide) (hts _ wl_1) (isEx_use rfl (hX.1 _ wc_1 rfl)) hce hcv hcl ?_
      refine lv_astore (lv' := [(5, .ref q), (0, .ref (ad 0)), (1, .int p1), (2, .int p2), (3, .int p3), (4, .ref (ad 75))]) hx hb (by decide +kernel : decode cL_heard 15 = .ok (.astore 5, 2)) hl (by decide) rfl (fun ls hl => ?_)
      refine lv_iconst (v := 1) hx hb (by decide +kernel : decode cL_heard 17 = .ok (.iconst 1, 1)) (by decide) ?_
      exact W.iret (v := 1) hx hb hr9 (fun t ht hW => ⟨rfl, mPost_end hP hD hS ht⟩) hS.2.2 (by decide +kernel : decode cL_heard 18 = .ok (.ireturn, 1)) hlocks
    | j + 1, hj => simp at hj
set_option maxRecDepth 20000 in
theorem gh_share : gOK RL 117 Mx128 (RX9, TX9, 14) 2 [1300, 1301, 1302, 106, 1303] = true := by decide +kernel
set_option maxRecDepth 20000 in
theorem hc_share {lau : Launch} {z : Nat} {D : va_G} {ad : Nat → Nat} {cy : Nat → ClassId} (hst : lau.stackTraces = false) {p1 p2 : Int32} {F : Nat} {S S1 : mS} {r1 : Option Value ⊕ Nat} (hf : f_X9_share p1 p2 S = some (r1, S1)) {k : Int32} {S2 : mS} (hr : HR r1 S1 [1] k S2) : hCon lau z D ad cy yL_share cL_share 5 [(0, 10, 13, 13)] [.ref 0, .int p1, .int p2, .ref 75] S k S2 := by
  refine va_MetW (cc := cL_share) (maxL := 5) (ret := some .int) (hh := [(0, 10, 13, 13)]) (by decide) rfl ?_
  intro p e s m args below meth c s₁ B hml hv
  obtain ⟨rfl, hz, hP, hK, hD, hX, hN⟩ := hv
  have hx := B.exec
  have hb := B.bytes
  have hr9 := B.returns
  have hts0 := atoms_spec (ws := hWs yL_share cL_share 5 [(0, 10, 13, 13)]) B.pre
  have hts : ∀ w ∈ mTs, w.before _ s = true := fun w hw => hts0 w (List.mem_cons_of_mem _ hw)
  have hown : s.vm.findClass RL = some m.cls := findClass_of_methodNamed B.named
  have hlocks := B.notSynchronized
  have htab := vx_table (x := yL_law_) B (hts0 _ List.mem_cons_self)
  have hS : va_S (mAz z) s.heap s.heap [] := va_S.rf
  have hl := lv_entry ([.ref (ad 0), .int p1, .int p2, .ref (ad 75)]) (n := 5) (Nat.le_of_ble_eq_true rfl)
  show W p lau e hRm s m _ below meth c s.heap [] 0 0 _ (entryFrame m ([.ref (ad 0), .int p1, .int p2, .ref (ad 75)] : List Value).toArray 5)
  rw [lg_entry_eq]
  generalize (lg_sl ([.ref (ad 0), .int p1, .int p2, .ref (ad 75)]) ++ List.replicate (5 - (lg_sl ([.ref (ad 0), .int p1, .int p2, .ref (ad 75)])).length) Slot.unset).toArray = ls at hl ⊢
  have hl : lv_has ls 5 [(0, .ref (ad 0)), (1, .int p1), (2, .int p2), (3, .ref (ad 75))] := hl
  refine lv_aload_n hx hb (by decide +kernel : decode cL_share 0 = .ok (.aload_n 3, 1)) rfl (lv_at hl 3 rfl) ?_
  refine lv_iconst (v := 0) hx hb (by decide +kernel : decode cL_share 1 = .ok (.iconst 0, 1)) (by decide) ?_
  refine lv_aload_n hx hb (by decide +kernel : decode cL_share 2 = .ok (.aload_n 0, 1)) rfl (lv_at hl 0 rfl) ?_
  refine lv_iload_n hx hb (by decide +kernel : decode cL_share 3 = .ok (.iload_n 1, 1)) rfl (lv_at hl 1 rfl) ?_
  refine lv_iload_n hx hb (by decide +kernel : decode cL_share 4 = .ok (.iload_n 2, 1)) rfl (lv_at hl 2 rfl) ?_
  refine gCall (own := RL) (as := [.int p1, .int p2]) (i := 0) (r := (r1, S1)) (M' := Mx128) (d := 60) (rest := [.int 0, .ref (ad 75)]) ⟨hx, hb, hml, hown, hts⟩ gh_share (mX_m z ad) hz hX hK (con_of hst (j := 128) rfl (Nat.le_of_ble_eq_true rfl) (fun w hw => by simp only [List.mem_cons, List.not_mem_nil, or_false] at hw; rcases hw with rfl | rfl | rfl <;> rfl) (f_X9_share_ok (d := 59) hf)) hP hD hS hl.1 (ci := 8) rfl rfl (Nat.le_of_ble_eq_true rfl) (by decide +kernel : decode cL_share 5 = .ok (.invokevirtual 117, 3)) ⟨by decide, by decide⟩ ⟨by decide, by decide⟩ (fun v hv H1 locs1 hP hD hS => ?_) (fun k9 hk9 H1 locs1 q ce hP hD hS hce hcv hcl => ?_)
  · obtain ⟨x, rfl, rfl, rfl⟩ := HR_in hr hv
    refine W.eq (g2 := F0 m 8 ls [.int x, .int 0, .ref (ad 75)]) rfl ?_
    refine lv_i2l hx hb (by decide +kernel : decode cL_share 8 = .ok (.i2l, 1)) rfl ?_
    refine va_last (A := mAz z) hx hb hK hP hD hS 75 3 (mW_get (i := 75) rfl) rfl vin0 (by decide +kernel : decode cL_share 9 = .ok (.lastore, 1)) (fun H1 locs1 hP hD hS => ?_)
    rw [out_set (x := x) rfl] at hP hD
    refine lv_goto (tgt := 17) hx hb (by decide +kernel : decode cL_share 10 = .ok (.goto 7, 3)) (by decide) ?_
    refine lv_iconst (v := 0) hx hb (by decide +kernel : decode cL_share 17 = .ok (.iconst 0, 1)) (by decide) ?_
    exact W.iret (v := 0) hx hb hr9 (fun t ht hW => ⟨rfl, mPost_end hP hD hS ht⟩) hS.2.2 (by decide +kernel : decode cL_share 18 = .ok (.ireturn, 1)) hlocks
  · obtain ⟨j, hj, hj8, rfl, rfl⟩ := HR_ex hr hk9
    match j, hj with
    | 0, hj =>
      cases hj
      refine vz_catch (own := RL) (name := exN 1) (E := exN 1) hown [] ⟨0, 10, 13, 13⟩ [] htab (fun _ h => absurd h List.not_mem_nil) (by decide) (by decide) (hts _ wl_1) (isEx_use rfl (hX.1 _ wc_1 rfl)) hce hcv hcl ?_
      refine lv_astore (lv' := [(4, .ref q), (0, .ref (ad 0)), (1, .int p1), (2, .int p2), (3, .ref (ad 75))]) hx hb (by decide +kernel : decode cL_share 13 = .ok (.astore 4, 2)) hl (by decide) rfl (fun ls hl => ?_)
      refine lv_iconst (v := 1) hx hb (by decide +kernel : decode cL_share 15 = .ok (.iconst 1, 1)) (by decide) ?_
      exact W.iret (v := 1) hx hb hr9 (fun t ht hW => ⟨rfl, mPost_end hP hD hS ht⟩) hS.2.2 (by decide +kernel : decode cL_share 16 = .ok (.ireturn, 1)) hlocks
    | j + 1, hj => simp at hj
set_option maxRecDepth 20000 in
theorem gh_trial : gOK RL 120 Mx111 (RX9, TX9, 14) 2 [1307, 1308, 1309, 106, 1310] = true := by decide +kernel
set_option maxRecDepth 20000 in
theorem hc_trial {lau : Launch} {z : Nat} {D : va_G} {ad : Nat → Nat} {cy : Nat → ClassId} (hst : lau.stackTraces = false) {p1 p2 : Int32} {F : Nat} {S S1 : mS} {r1 : Option Value ⊕ Nat} (hf : f_X9_trial F p1 p2 S = some (r1, S1)) {k : Int32} {S2 : mS} (hr : HR r1 S1 [1] k S2) : hCon lau z D ad cy yL_trial cL_trial 5 [(0, 10, 13, 13)] [.ref 0, .int p1, .int p2, .ref 75] S k S2 := by
  refine va_MetW (cc := cL_trial) (maxL := 5) (ret := some .int) (hh := [(0, 10, 13, 13)]) (by decide) rfl ?_
  intro p e s m args below meth c s₁ B hml hv
  obtain ⟨rfl, hz, hP, hK, hD, hX, hN⟩ := hv
  have hx := B.exec
  have hb := B.bytes
  have hr9 := B.returns
  have hts0 := atoms_spec (ws := hWs yL_trial cL_trial 5 [(0, 10, 13, 13)]) B.pre
  have hts : ∀ w ∈ mTs, w.before _ s = true := fun w hw => hts0 w (List.mem_cons_of_mem _ hw)
  have hown : s.vm.findClass RL = some m.cls := findClass_of_methodNamed B.named
  have hlocks := B.notSynchronized
  have htab := vx_table (x := yL_law_) B (hts0 _ List.mem_cons_self)
  have hS : va_S (mAz z) s.heap s.heap [] := va_S.rf
  have hl := lv_entry ([.ref (ad 0), .int p1, .int p2, .ref (ad 75)]) (n := 5) (Nat.le_of_ble_eq_true rfl)
  show W p lau e hRm s m _ below meth c s.heap [] 0 0 _ (entryFrame m ([.ref (ad 0), .int p1, .int p2, .ref (ad 75)] : List Value).toArray 5)
  rw [lg_entry_eq]
  generalize (lg_sl ([.ref (ad 0), .int p1, .int p2, .ref (ad 75)]) ++ List.replicate (5 - (lg_sl ([.ref (ad 0), .int p1, .int p2, .ref (ad 75)])).length) Slot.unset).toArray = ls at hl ⊢
  have hl : lv_has ls 5 [(0, .ref (ad 0)), (1, .int p1), (2, .int p2), (3, .ref (ad 75))] := hl
  refine lv_aload_n hx hb (by decide +kernel : decode cL_trial 0 = .ok (.aload_n 3, 1)) rfl (lv_at hl 3 rfl) ?_
  refine lv_iconst (v := 0) hx hb (by decide +kernel : decode cL_trial 1 = .ok (.iconst 0, 1)) (by decide) ?_
  refine lv_aload_n hx hb (by decide +kernel : decode cL_trial 2 = .ok (.aload_n 0, 1)) rfl (lv_at hl 0 rfl) ?_
  refine lv_iload_n hx hb (by decide +kernel : decode cL_trial 3 = .ok (.iload_n 1, 1)) rfl (lv_at hl 1 rfl) ?_
  refine lv_iload_n hx hb (by decide +kernel : decode cL_trial 4 = .ok (.iload_n 2, 1)) rfl (lv_at hl 2 rfl) ?_
  refine gCall (own := RL) (as := [.int p1, .int p2]) (i := 0) (r := (r1, S1)) (M' := Mx111) (d := 60) (rest := [.int 0, .ref (ad 75)]) ⟨hx, hb, hml, hown, hts⟩ gh_trial (mX_m z ad) hz hX hK (con_of hst (j := 111) rfl (Nat.le_of_ble_eq_true rfl) (fun w hw => by simp only [List.mem_cons, List.not_mem_nil, or_false] at hw; rcases hw with rfl | rfl | rfl <;> rfl) (f_X9_trial_ok (d := 54) hf)) hP hD hS hl.1 (ci := 8) rfl rfl (Nat.le_of_ble_eq_true rfl) (by decide +kernel : decode cL_trial 5 = .ok (.invokevirtual 120, 3)) ⟨by decide, by decide⟩ ⟨by decide, by decide⟩ (fun v hv H1 locs1 hP hD hS => ?_) (fun k9 hk9 H1 locs1 q ce hP hD hS hce hcv hcl => ?_)
  · obtain ⟨x, rfl, rfl, rfl⟩ := HR_in hr hv
    refine W.eq (g2 := F0 m 8 ls [.int x, .int 0, .ref (ad 75)]) rfl ?_
    refine lv_i2l hx hb (by decide +kernel : decode cL_trial 8 = .ok (.i2l, 1)) rfl ?_
    refine va_last (A := mAz z) hx hb hK hP hD hS 75 3 (mW_get (i := 75) rfl) rfl vin0 (by decide +kernel : decode cL_trial 9 = .ok (.lastore, 1)) (fun H1 locs1 hP hD hS => ?_)
    rw [out_set (x := x) rfl] at hP hD
    refine lv_goto (tgt := 17) hx hb (by decide +kernel : decode cL_trial 10 = .ok (.goto 7, 3)) (by decide) ?_
    refine lv_iconst (v := 0) hx hb (by decide +kernel : decode cL_trial 17 = .ok (.iconst 0, 1)) (by decide) ?_
    exact W.iret (v := 0) hx hb hr9 (fun t ht hW => ⟨rfl, mPost_end hP hD hS ht⟩) hS.2.2 (by decide +kernel : decode cL_trial 18 = .ok (.ireturn, 1)) hlocks
  · obtain ⟨j, hj, hj8, rfl, rfl⟩ := HR_ex hr hk9
    match j, hj with
    | 0, hj =>
      cases hj
      refine vz_catch (own := RL) (name := exN 1) (E := exN 1) hown [] ⟨0, 10, 13, 13⟩ [] htab (fun _ h => absurd h List.not_mem_nil) (by decide) (by decide) (hts _ wl_1) (isEx_use rfl (hX.1 _ wc_1 rfl)) hce hcv hcl ?_
      refine lv_astore (lv' := [(4, .ref q), (0, .ref (ad 0)), (1, .int p1), (2, .int p2), (3, .ref (ad 75))]) hx hb (by decide +kernel : decode cL_trial 13 = .ok (.astore 4, 2)) hl (by decide) rfl (fun ls hl => ?_)
      refine lv_iconst (v := 1) hx hb (by decide +kernel : decode cL_trial 15 = .ok (.iconst 1, 1)) (by decide) ?_
      exact W.iret (v := 1) hx hb hr9 (fun t ht hW => ⟨rfl, mPost_end hP hD hS ht⟩) hS.2.2 (by decide +kernel : decode cL_trial 16 = .ok (.ireturn, 1)) hlocks
    | j + 1, hj => simp at hj
set_option maxRecDepth 20000 in
theorem gh_span : gOK RL 123 Mx112 (RX9, TX9, 14) 2 [1314, 1315, 1316, 106, 1317] = true := by decide +kernel
set_option maxRecDepth 20000 in
theorem hc_span {lau : Launch} {z : Nat} {D : va_G} {ad : Nat → Nat} {cy : Nat → ClassId} (hst : lau.stackTraces = false) {p1 p2 : Int32} {F : Nat} {S S1 : mS} {r1 : Option Value ⊕ Nat} (hf : f_X9_span F p1 p2 S = some (r1, S1)) {k : Int32} {S2 : mS} (hr : HR r1 S1 [1] k S2) : hCon lau z D ad cy yL_span cL_span 5 [(0, 10, 13, 13)] [.ref 0, .int p1, .int p2, .ref 75] S k S2 := by
  refine va_MetW (cc := cL_span) (maxL := 5) (ret := some .int) (hh := [(0, 10, 13, 13)]) (by decide) rfl ?_
  intro p e s m args below meth c s₁ B hml hv
  obtain ⟨rfl, hz, hP, hK, hD, hX, hN⟩ := hv
  have hx := B.exec
  have hb := B.bytes
  have hr9 := B.returns
  have hts0 := atoms_spec (ws := hWs yL_span cL_span 5 [(0, 10, 13, 13)]) B.pre
  have hts : ∀ w ∈ mTs, w.before _ s = true := fun w hw => hts0 w (List.mem_cons_of_mem _ hw)
  have hown : s.vm.findClass RL = some m.cls := findClass_of_methodNamed B.named
  have hlocks := B.notSynchronized
  have htab := vx_table (x := yL_law_) B (hts0 _ List.mem_cons_self)
  have hS : va_S (mAz z) s.heap s.heap [] := va_S.rf
  have hl := lv_entry ([.ref (ad 0), .int p1, .int p2, .ref (ad 75)]) (n := 5) (Nat.le_of_ble_eq_true rfl)
  show W p lau e hRm s m _ below meth c s.heap [] 0 0 _ (entryFrame m ([.ref (ad 0), .int p1, .int p2, .ref (ad 75)] : List Value).toArray 5)
  rw [lg_entry_eq]
  generalize (lg_sl ([.ref (ad 0), .int p1, .int p2, .ref (ad 75)]) ++ List.replicate (5 - (lg_sl ([.ref (ad 0), .int p1, .int p2, .ref (ad 75)])).length) Slot.unset).toArray = ls at hl ⊢
  have hl : lv_has ls 5 [(0, .ref (ad 0)), (1, .int p1), (2, .int p2), (3, .ref (ad 75))] := hl
  refine lv_aload_n hx hb (by decide +kernel : decode cL_span 0 = .ok (.aload_n 3, 1)) rfl (lv_at hl 3 rfl) ?_
  refine lv_iconst (v := 0) hx hb (by decide +kernel : decode cL_span 1 = .ok (.iconst 0, 1)) (by decide) ?_
  refine lv_aload_n hx hb (by decide +kernel : decode cL_span 2 = .ok (.aload_n 0, 1)) rfl (lv_at hl 0 rfl) ?_
  refine lv_iload_n hx hb (by decide +kernel : decode cL_span 3 = .ok (.iload_n 1, 1)) rfl (lv_at hl 1 rfl) ?_
  refine lv_iload_n hx hb (by decide +kernel : decode cL_span 4 = .ok (.iload_n 2, 1)) rfl (lv_at hl 2 rfl) ?_
  refine gCall (own := RL) (as := [.int p1, .int p2]) (i := 0) (r := (r1, S1)) (M' := Mx112) (d := 60) (rest := [.int 0, .ref (ad 75)]) ⟨hx, hb, hml, hown, hts⟩ gh_span (mX_m z ad) hz hX hK (con_of hst (j := 112) rfl (Nat.le_of_ble_eq_true rfl) (fun w hw => by simp only [List.mem_cons, List.not_mem_nil, or_false] at hw; rcases hw with rfl | rfl | rfl <;> rfl) (f_X9_span_ok (d := 53) hf)) hP hD hS hl.1 (ci := 8) rfl rfl (Nat.le_of_ble_eq_true rfl) (by decide +kernel : decode cL_span 5 = .ok (.invokevirtual 123, 3)) ⟨by decide, by decide⟩ ⟨by decide, by decide⟩ (fun v hv H1 locs1 hP hD hS => ?_) (fun k9 hk9 H1 locs1 q ce hP hD hS hce hcv hcl => ?_)
  · obtain ⟨x, rfl, rfl, rfl⟩ := HR_in hr hv
    refine W.eq (g2 := F0 m 8 ls [.int x, .int 0, .ref (ad 75)]) rfl ?_
    refine lv_i2l hx hb (by decide +kernel : decode cL_span 8 = .ok (.i2l, 1)) rfl ?_
    refine va_last (A := mAz z) hx hb hK hP hD hS 75 3 (mW_get (i := 75) rfl) rfl vin0 (by decide +kernel : decode cL_span 9 = .ok (.lastore, 1)) (fun H1 locs1 hP hD hS => ?_)
    rw [out_set (x := x) rfl] at hP hD
    refine lv_goto (tgt := 17) hx hb (by decide +kernel : decode cL_span 10 = .ok (.goto 7, 3)) (by decide) ?_
    refine lv_iconst (v := 0) hx hb (by decide +kernel : decode cL_span 17 = .ok (.iconst 0, 1)) (by decide) ?_
    exact W.iret (v := 0) hx hb hr9 (fun t ht hW => ⟨rfl, mPost_end hP hD hS ht⟩) hS.2.2 (by decide +kernel : decode cL_span 18 = .ok (.ireturn, 1)) hlocks
  · obtain ⟨j, hj, hj8, rfl, rfl⟩ := HR_ex hr hk9
    match j, hj with
    | 0, hj =>
      cases hj
      refine vz_catch (own := RL) (name := exN 1) (E := exN 1) hown [] ⟨0, 10, 13, 13⟩ [] htab (fun _ h => absurd h List.not_mem_nil) (by decide) (by decide) (hts _ wl_1) (isEx_use rfl (hX.1 _ wc_1 rfl)) hce hcv hcl ?_
      refine lv_astore (lv' := [(4, .ref q), (0, .ref (ad 0)), (1, .int p1), (2, .int p2), (3, .ref (ad 75))]) hx hb (by decide +kernel : decode cL_span 13 = .ok (.astore 4, 2)) hl (by decide) rfl (fun ls hl => ?_)
      refine lv_iconst (v := 1) hx hb (by decide +kernel : decode cL_span 15 = .ok (.iconst 1, 1)) (by decide) ?_
      exact W.iret (v := 1) hx hb hr9 (fun t ht hW => ⟨rfl, mPost_end hP hD hS ht⟩) hS.2.2 (by decide +kernel : decode cL_span 16 = .ok (.ireturn, 1)) hlocks
    | j + 1, hj => simp at hj
set_option maxRecDepth 20000 in
theorem gh_led : gOK RL 126 Mx131 (RX9, TX9, 14) 2 [1326, 1327, 1328, 106, 1329] = true := by decide +kernel
set_option maxRecDepth 20000 in
theorem hc_led {lau : Launch} {z : Nat} {D : va_G} {ad : Nat → Nat} {cy : Nat → ClassId} (hst : lau.stackTraces = false) {p1 p2 : Int32} {F : Nat} {S S1 : mS} {r1 : Option Value ⊕ Nat} (hf : f_X9_led F p1 p2 S = some (r1, S1)) {k : Int32} {S2 : mS} (hr : HR r1 S1 [3] k S2) : hCon lau z D ad cy yL_led cL_led 5 [(0, 10, 13, 24)] [.ref 0, .int p1, .int p2, .ref 75] S k S2 := by
  refine va_MetW (cc := cL_led) (maxL := 5) (ret := some .int) (hh := [(0, 10, 13, 24)]) (by decide) rfl ?_
  intro p e s m args below meth c s₁ B hml hv
  obtain ⟨rfl, hz, hP, hK, hD, hX, hN⟩ := hv
  have hx := B.exec
  have hb := B.bytes
  have hr9 := B.returns
  have hts0 := atoms_spec (ws := hWs yL_led cL_led 5 [(0, 10, 13, 24)]) B.pre
  have hts : ∀ w ∈ mTs, w.before _ s = true := fun w hw => hts0 w (List.mem_cons_of_mem _ hw)
  have hown : s.vm.findClass RL = some m.cls := findClass_of_methodNamed B.named
  have hlocks := B.notSynchronized
  have htab := vx_table (x := yL_law_) B (hts0 _ List.mem_cons_self)
  have hS : va_S (mAz z) s.heap s.heap [] := va_S.rf
  have hl := lv_entry ([.ref (ad 0), .int p1, .int p2, .ref (ad 75)]) (n := 5) (Nat.le_of_ble_eq_true rfl)
  show W p lau e hRm s m _ below meth c s.heap [] 0 0 _ (entryFrame m ([.ref (ad 0), .int p1, .int p2, .ref (ad 75)] : List Value).toArray 5)
  rw [lg_entry_eq]
  generalize (lg_sl ([.ref (ad 0), .int p1, .int p2, .ref (ad 75)]) ++ List.replicate (5 - (lg_sl ([.ref (ad 0), .int p1, .int p2, .ref (ad 75)])).length) Slot.unset).toArray = ls at hl ⊢
  have hl : lv_has ls 5 [(0, .ref (ad 0)), (1, .int p1), (2, .int p2), (3, .ref (ad 75))] := hl
  refine lv_aload_n hx hb (by decide +kernel : decode cL_led 0 = .ok (.aload_n 3, 1)) rfl (lv_at hl 3 rfl) ?_
  refine lv_iconst (v := 0) hx hb (by decide +kernel : decode cL_led 1 = .ok (.iconst 0, 1)) (by decide) ?_
  refine lv_aload_n hx hb (by decide +kernel : decode cL_led 2 = .ok (.aload_n 0, 1)) rfl (lv_at hl 0 rfl) ?_
  refine lv_iload_n hx hb (by decide +kernel : decode cL_led 3 = .ok (.iload_n 1, 1)) rfl (lv_at hl 1 rfl) ?_
  refine lv_iload_n hx hb (by decide +kernel : decode cL_led 4 = .ok (.iload_n 2, 1)) rfl (lv_at hl 2 rfl) ?_
  refine gCall (own := RL) (as := [.int p1, .int p2]) (i := 0) (r := (r1, S1)) (M' := Mx131) (d := 60) (rest := [.int 0, .ref (ad 75)]) ⟨hx, hb, hml, hown, hts⟩ gh_led (mX_m z ad) hz hX hK (con_of hst (j := 131) rfl (Nat.le_of_ble_eq_true rfl) (fun w hw => by simp only [List.mem_cons, List.not_mem_nil, or_false] at hw; rcases hw with rfl | rfl | rfl <;> rfl) (f_X9_led_ok (d := 57) hf)) hP hD hS hl.1 (ci := 8) rfl rfl (Nat.le_of_ble_eq_true rfl) (by decide +kernel : decode cL_led 5 = .ok (.invokevirtual 126, 3)) ⟨by decide, by decide⟩ ⟨by decide, by decide⟩ (fun v hv H1 locs1 hP hD hS => ?_) (fun k9 hk9 H1 locs1 q ce hP hD hS hce hcv hcl => ?_)
  · obtain ⟨x, rfl, rfl, rfl⟩ := HR_in hr hv
    refine W.eq (g2 := F0 m 8 ls [.int x, .int 0, .ref (ad 75)]) rfl ?_
    refine lv_i2l hx hb (by decide +kernel : decode cL_led 8 = .ok (.i2l, 1)) rfl ?_
    refine va_last (A := mAz z) hx hb hK hP hD hS 75 3 (mW_get (i := 75) rfl) rfl vin0 (by decide +kernel : decode cL_led 9 = .ok (.lastore, 1)) (fun H1 locs1 hP hD hS => ?_)
    rw [out_set (x := x) rfl] at hP hD
    refine lv_goto (tgt := 17) hx hb (by decide +kernel : decode cL_led 10 = .ok (.goto 7, 3)) (by decide) ?_
    refine lv_iconst (v := 0) hx hb (by decide +kernel : decode cL_led 17 = .ok (.iconst 0, 1)) (by decide) ?_
    exact W.iret (v := 0) hx hb hr9 (fun t ht hW => ⟨rfl, mPost_end hP hD hS ht⟩) hS.2.2 (by decide +kernel : decode cL_led 18 = .ok (.ireturn, 1)) hlocks
  · obtain ⟨j, hj, hj8, rfl, rfl⟩ := HR_ex hr hk9
    match j, hj with
    | 0, hj =>
      cases hj
      refine vz_catch (own := RL) (name := exN 3) (E := exN 3) hown [] ⟨0, 10, 13, 24⟩ [] htab (fun _ h => absurd h List.not_mem_nil) (by decide) (by decide) (hts _ wl_3) (isEx_use rfl (hX.1 _ wc_3 rfl)) hce hcv hcl ?_
      refine lv_astore (lv' := [(4, .ref q), (0, .ref (ad 0)), (1, .int p1), (2, .int p2), (3, .ref (ad 75))]) hx hb (by decide +kernel : decode cL_led 13 = .ok (.astore 4, 2)) hl (by decide) rfl (fun ls hl => ?_)
      refine lv_iconst (v := 1) hx hb (by decide +kernel : decode cL_led 15 = .ok (.iconst 1, 1)) (by decide) ?_
      exact W.iret (v := 1) hx hb hr9 (fun t ht hW => ⟨rfl, mPost_end hP hD hS ht⟩) hS.2.2 (by decide +kernel : decode cL_led 16 = .ok (.ireturn, 1)) hlocks
    | j + 1, hj => simp at hj
set_option maxRecDepth 20000 in
theorem gh_log : gOK RL 129 Mx133 (RX9, TX9, 14) 2 [1337, 1338, 1339, 106, 1340] = true := by decide +kernel
set_option maxRecDepth 20000 in
theorem hc_log {lau : Launch} {z : Nat} {D : va_G} {ad : Nat → Nat} {cy : Nat → ClassId} (hst : lau.stackTraces = false) {p1 p2 : Int32} {F : Nat} {S S1 : mS} {r1 : Option Value ⊕ Nat} (hf : f_X9_log p1 p2 S = some (r1, S1)) {k : Int32} {S2 : mS} (hr : HR r1 S1 [4] k S2) : hCon lau z D ad cy yL_log cL_log 5 [(0, 10, 13, 26)] [.ref 0, .int p1, .int p2, .ref 75] S k S2 := by
  refine va_MetW (cc := cL_log) (maxL := 5) (ret := some .int) (hh := [(0, 10, 13, 26)]) (by decide) rfl ?_
  intro p e s m args below meth c s₁ B hml hv
  obtain ⟨rfl, hz, hP, hK, hD, hX, hN⟩ := hv
  have hx := B.exec
  have hb := B.bytes
  have hr9 := B.returns
  have hts0 := atoms_spec (ws := hWs yL_log cL_log 5 [(0, 10, 13, 26)]) B.pre
  have hts : ∀ w ∈ mTs, w.before _ s = true := fun w hw => hts0 w (List.mem_cons_of_mem _ hw)
  have hown : s.vm.findClass RL = some m.cls := findClass_of_methodNamed B.named
  have hlocks := B.notSynchronized
  have htab := vx_table (x := yL_law_) B (hts0 _ List.mem_cons_self)
  have hS : va_S (mAz z) s.heap s.heap [] := va_S.rf
  have hl := lv_entry ([.ref (ad 0), .int p1, .int p2, .ref (ad 75)]) (n := 5) (Nat.le_of_ble_eq_true rfl)
  show W p lau e hRm s m _ below meth c s.heap [] 0 0 _ (entryFrame m ([.ref (ad 0), .int p1, .int p2, .ref (ad 75)] : List Value).toArray 5)
  rw [lg_entry_eq]
  generalize (lg_sl ([.ref (ad 0), .int p1, .int p2, .ref (ad 75)]) ++ List.replicate (5 - (lg_sl ([.ref (ad 0), .int p1, .int p2, .ref (ad 75)])).length) Slot.unset).toArray = ls at hl ⊢
  have hl : lv_has ls 5 [(0, .ref (ad 0)), (1, .int p1), (2, .int p2), (3, .ref (ad 75))] := hl
  refine lv_aload_n hx hb (by decide +kernel : decode cL_log 0 = .ok (.aload_n 3, 1)) rfl (lv_at hl 3 rfl) ?_
  refine lv_iconst (v := 0) hx hb (by decide +kernel : decode cL_log 1 = .ok (.iconst 0, 1)) (by decide) ?_
  refine lv_aload_n hx hb (by decide +kernel : decode cL_log 2 = .ok (.aload_n 0, 1)) rfl (lv_at hl 0 rfl) ?_
  refine lv_iload_n hx hb (by decide +kernel : decode cL_log 3 = .ok (.iload_n 1, 1)) rfl (lv_at hl 1 rfl) ?_
  refine lv_iload_n hx hb (by decide +kernel : decode cL_log 4 = .ok (.iload_n 2, 1)) rfl (lv_at hl 2 rfl) ?_
  refine gCall (own := RL) (as := [.int p1, .int p2]) (i := 0) (r := (r1, S1)) (M' := Mx133) (d := 60) (rest := [.int 0, .ref (ad 75)]) ⟨hx, hb, hml, hown, hts⟩ gh_log (mX_m z ad) hz hX hK (con_of hst (j := 133) rfl (Nat.le_of_ble_eq_true rfl) (fun w hw => by simp only [List.mem_cons, List.not_mem_nil, or_false] at hw; rcases hw with rfl | rfl | rfl <;> rfl) (f_X9_log_ok (d := 58) hf)) hP hD hS hl.1 (ci := 8) rfl rfl (Nat.le_of_ble_eq_true rfl) (by decide +kernel : decode cL_log 5 = .ok (.invokevirtual 129, 3)) ⟨by decide, by decide⟩ ⟨by decide, by decide⟩ (fun v hv H1 locs1 hP hD hS => ?_) (fun k9 hk9 H1 locs1 q ce hP hD hS hce hcv hcl => ?_)
  · obtain ⟨x, rfl, rfl, rfl⟩ := HR_in hr hv
    refine W.eq (g2 := F0 m 8 ls [.int x, .int 0, .ref (ad 75)]) rfl ?_
    refine lv_i2l hx hb (by decide +kernel : decode cL_log 8 = .ok (.i2l, 1)) rfl ?_
    refine va_last (A := mAz z) hx hb hK hP hD hS 75 3 (mW_get (i := 75) rfl) rfl vin0 (by decide +kernel : decode cL_log 9 = .ok (.lastore, 1)) (fun H1 locs1 hP hD hS => ?_)
    rw [out_set (x := x) rfl] at hP hD
    refine lv_goto (tgt := 17) hx hb (by decide +kernel : decode cL_log 10 = .ok (.goto 7, 3)) (by decide) ?_
    refine lv_iconst (v := 0) hx hb (by decide +kernel : decode cL_log 17 = .ok (.iconst 0, 1)) (by decide) ?_
    exact W.iret (v := 0) hx hb hr9 (fun t ht hW => ⟨rfl, mPost_end hP hD hS ht⟩) hS.2.2 (by decide +kernel : decode cL_log 18 = .ok (.ireturn, 1)) hlocks
  · obtain ⟨j, hj, hj8, rfl, rfl⟩ := HR_ex hr hk9
    match j, hj with
    | 0, hj =>
      cases hj
      refine vz_catch (own := RL) (name := exN 4) (E := exN 4) hown [] ⟨0, 10, 13, 26⟩ [] htab (fun _ h => absurd h List.not_mem_nil) (by decide) (by decide) (hts _ wl_4) (isEx_use rfl (hX.1 _ wc_4 rfl)) hce hcv hcl ?_
      refine lv_astore (lv' := [(4, .ref q), (0, .ref (ad 0)), (1, .int p1), (2, .int p2), (3, .ref (ad 75))]) hx hb (by decide +kernel : decode cL_log 13 = .ok (.astore 4, 2)) hl (by decide) rfl (fun ls hl => ?_)
      refine lv_iconst (v := 1) hx hb (by decide +kernel : decode cL_log 15 = .ok (.iconst 1, 1)) (by decide) ?_
      exact W.iret (v := 1) hx hb hr9 (fun t ht hW => ⟨rfl, mPost_end hP hD hS ht⟩) hS.2.2 (by decide +kernel : decode cL_log 16 = .ok (.ireturn, 1)) hlocks
    | j + 1, hj => simp at hj
