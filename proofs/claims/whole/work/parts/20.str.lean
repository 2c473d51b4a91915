/-! String.length and String.charAt over the texts -/
def sRm (k : Nat) : Room := { frames := k, cells := 0, slots := 0, locals := 30 * k }
def sQ (v : Int32) : Array Value → State → Outcome → State → Prop := fun _ st o t => o = .returned (some (.int v)) ∧ t.heap = st.heap
def sQv : Array Value → State → Outcome → State → Prop := fun _ st o t => o = .returned none ∧ t.heap = st.heap
def sNo : Addr → Prop := fun _ => False
def sWs (y : MethodName) (b : ByteArray) (n : Nat) (r : Option FieldType) : List Cond := .code y b n r :: mTs
theorem sWs_good {y : MethodName} {b : ByteArray} {n : Nat} {r : Option FieldType} (h : Cond.code y b n r ∈ mTs) : GoodIn mTs (sWs y b n r) := goodIn_c h (fun w hw => ⟨hw, mTs_good hw⟩)
theorem str_ok : mStr.all (fun bs => decide (bs.length < 1000) && bs.all (fun b => decide (((b &&& 255).toUInt32 % 65536).toInt32 = b) && decide (narrow .char (.int b) = .int b))) = true := by decide +kernel
theorem str_len {i : Nat} : (mStr.getD i []).length < 1000 := by
  by_cases h : i < mStr.length
  · have h1 := List.all_eq_true.mp str_ok (mStr[i]) (List.getElem_mem h)
    simp only [Bool.and_eq_true, decide_eq_true_eq] at h1
    rw [List.getD_eq_getElem?_getD, List.getElem?_eq_getElem h]
    exact h1.1
  · rw [List.getD_eq_getElem?_getD, List.getElem?_eq_none (Nat.le_of_not_lt h)]
    decide
theorem str_byte {i j : Nat} (h : j < (mStr.getD i []).length) : ((((mStr.getD i []).getD j 0) &&& 255).toUInt32 % 65536).toInt32 = (mStr.getD i []).getD j 0 ∧ narrow .char (.int ((mStr.getD i []).getD j 0)) = .int ((mStr.getD i []).getD j 0) := by
  have hi : i < mStr.length := by
    rcases Nat.lt_or_ge i mStr.length with q | q
    · exact q
    · rw [List.getD_eq_getElem?_getD, List.getElem?_eq_none q] at h
      cases h
  have h1 := List.all_eq_true.mp str_ok (mStr[i]) (List.getElem_mem hi)
  simp only [Bool.and_eq_true, List.all_eq_true, decide_eq_true_eq] at h1
  have e : mStr.getD i [] = mStr[i] := by rw [List.getD_eq_getElem?_getD, List.getElem?_eq_getElem hi]; rfl
  rw [e] at h ⊢
  have e2 : (mStr[i]).getD j 0 = (mStr[i])[j] := by rw [List.getD_eq_getElem?_getD, List.getElem?_eq_getElem h]; rfl
  rw [e2]
  exact h1.2 _ (List.getElem_mem h)
section STR
variable {p : Program} {lau : Launch} {e : Env} {R : Room} {s : State} {m : MethodId} {args : Array Value} {below : List Frame} {meth : Method} {c : Code} {Q : State → Prop} {z : Nat} {ad : Nat → Nat}
variable {H : Heap} {locs : List Loc} {ls : Array Slot} {cells slots pc : Nat} {st0 rest : List Value}
theorem sBack {v : Int32} {a0 : Array Value} (hr : va_Run p lau e R s m args below meth c H locs cells slots 0 0 (F0 m pc ls st0) rest (sQ v a0) sNo) (kk : W p lau e R s m args below meth c H locs cells slots Q (F0 m (pc + 3) ls (.int v :: rest))) :
    W p lau e R s m args below meth c H locs cells slots Q (F0 m pc ls st0) := by
  intro T hT X
  obtain ⟨w, st₀, t, T', L, h0, X', hL, e1, e2, ⟨ho, ht⟩, st⟩ := hr T hT X
  cases ho
  have hL0 : L = [] := List.eq_nil_iff_forall_not_mem.mpr (fun q hq => hL q hq)
  subst hL0
  rw [List.append_nil] at X'
  obtain ⟨t2, a1, b1⟩ := kk T' (e1.trans (ht.trans h0)) X'
  exact ⟨t2, st t2 a1, b1⟩
theorem sBackv {a0 : Array Value} (hr : va_Run p lau e R s m args below meth c H locs cells slots 0 0 (F0 m pc ls st0) rest (sQv a0) sNo) (kk : W p lau e R s m args below meth c H locs cells slots Q (F0 m (pc + 3) ls rest)) :
    W p lau e R s m args below meth c H locs cells slots Q (F0 m pc ls st0) := by
  intro T hT X
  obtain ⟨w, st₀, t, T', L, h0, X', hL, e1, e2, ⟨ho, ht⟩, st⟩ := hr T hT X
  cases ho
  have hL0 : L = [] := List.eq_nil_iff_forall_not_mem.mpr (fun q hq => hL q hq)
  subst hL0
  rw [List.append_nil] at X'
  obtain ⟨t2, a1, b1⟩ := kk T' (e1.trans (ht.trans h0)) X'
  exact ⟨t2, st t2 a1, b1⟩
theorem sBlind {as : List Value} : FrameBlind (va_Pc as (mX z ad)) := fun a U g mk h => ⟨h.1, mX_m z ad U _ h.2 (State.WarmedH.refl U) (fun _ _ _ => rfl)⟩
theorem sAt (hX : mX z ad s) (hS : va_S (mAz z) s.heap H locs) {as : List Value} : ∀ U : State, U.heap = H → s.WarmedH U.vm → va_Pc as (mX z ad) as.toArray U := by
  intro U hU hW
  subst hU
  exact ⟨rfl, mX_m z ad s U hX hW (fun a h1 h2 => hS.2.1 a h1 h2)⟩
end STR
abbrev sStr : String := "java/lang/String"
def sy_coder : MethodName := ⟨"java/lang/String", "coder", "()B"⟩
abbrev sc_coder : ByteArray := prog_23_method_152_code
theorem sw_coder : Cond.code sy_coder sc_coder 1 (some .byte) ∈ mTs := mIp_mem (i := 626) (by decide +kernel)
def sy_length : MethodName := ⟨"java/lang/String", "length", "()I"⟩
abbrev sc_length : ByteArray := prog_23_method_54_code
theorem sw_length : Cond.code sy_length sc_length 1 (some .int) ∈ mTs := mIp_mem (i := 622) (by decide +kernel)
def sy_isLatin1 : MethodName := ⟨"java/lang/String", "isLatin1", "()Z"⟩
abbrev sc_isLatin1 : ByteArray := prog_23_method_154_code
theorem sw_isLatin1 : Cond.code sy_isLatin1 sc_isLatin1 1 (some .boolean) ∈ mTs := mIp_mem (i := 636) (by decide +kernel)
def sy_pre : MethodName := ⟨"jdk/internal/util/Preconditions", "checkIndex", "(IILjava/util/function/BiFunction;)I"⟩
abbrev sc_pre : ByteArray := prog_32_method_11_code
theorem sw_pre : Cond.code sy_pre sc_pre 3 (some .int) ∈ mTs := mIp_mem (i := 647) (by decide +kernel)
def sy_chk : MethodName := ⟨"java/lang/String", "checkIndex", "(II)V"⟩
abbrev sc_chk : ByteArray := prog_23_method_155_code
theorem sw_chk : Cond.code sy_chk sc_chk 2 (none) ∈ mTs := mIp_mem (i := 642) (by decide +kernel)
def sy_lat : MethodName := ⟨"java/lang/StringLatin1", "charAt", "([BI)C"⟩
abbrev sc_lat : ByteArray := prog_24_method_2_code
theorem sw_lat : Cond.code sy_lat sc_lat 2 (some .char) ∈ mTs := mIp_mem (i := 639) (by decide +kernel)
def sy_charAt : MethodName := ⟨"java/lang/String", "charAt", "(I)C"⟩
abbrev sc_charAt : ByteArray := prog_23_method_56_code
theorem sw_charAt : Cond.code sy_charAt sc_charAt 2 (some .char) ∈ mTs := mIp_mem (i := 632) (by decide +kernel)
theorem sl_coder_0 : Cond.fieldLink sStr 38 sStr "COMPACT_STRINGS" "Z" ∈ mTs := mIp_mem (i := 627) (by decide +kernel)
theorem sl_coder_1 : Cond.fieldLink sStr 15 sStr "coder" "B" ∈ mTs := mIp_mem (i := 1979) (by decide +kernel)
theorem sl_length_0 : Cond.fieldLink sStr 9 sStr "value" "[B" ∈ mTs := mIp_mem (i := 1978) (by decide +kernel)
theorem sl_length_1 : Cond.methodLink sStr 335 sy_coder ∈ mTs := mIp_mem (i := 623) (by decide +kernel)
theorem sl_length_2 : Cond.instanceMethod sy_coder ∈ mTs := mIp_mem (i := 624) (by decide +kernel)
theorem sl_length_3 : Cond.selects sStr sy_coder sy_coder ∈ mTs := mIp_mem (i := 625) (by decide +kernel)
theorem sl_length_4 : Cond.initialized sStr ∈ mTs := mIp_mem (i := 118) (by decide +kernel)
theorem sl_chk_0 : Cond.fieldLink sStr 1053 "jdk/internal/util/Preconditions" "SIOOBE_FORMATTER" "Ljava/util/function/BiFunction;" ∈ mTs := mIp_mem (i := 643) (by decide +kernel)
theorem sl_chk_1 : Cond.methodLink sStr 1059 sy_pre ∈ mTs := mIp_mem (i := 645) (by decide +kernel)
theorem sl_chk_2 : Cond.static sy_pre ∈ mTs := mIp_mem (i := 646) (by decide +kernel)
theorem sl_chk_3 : Cond.initialized sy_pre.cls ∈ mTs := mIp_mem (i := 120) (by decide +kernel)
theorem sl_lat_0 : Cond.methodLink "java/lang/StringLatin1" 9 sy_chk ∈ mTs := mIp_mem (i := 640) (by decide +kernel)
theorem sl_lat_1 : Cond.static sy_chk ∈ mTs := mIp_mem (i := 641) (by decide +kernel)
theorem sl_lat_2 : Cond.initialized sy_chk.cls ∈ mTs := mIp_mem (i := 118) (by decide +kernel)
theorem sl_charAt_0 : Cond.methodLink sStr 492 sy_isLatin1 ∈ mTs := mIp_mem (i := 633) (by decide +kernel)
theorem sl_charAt_1 : Cond.instanceMethod sy_isLatin1 ∈ mTs := mIp_mem (i := 634) (by decide +kernel)
theorem sl_charAt_2 : Cond.selects sStr sy_isLatin1 sy_isLatin1 ∈ mTs := mIp_mem (i := 635) (by decide +kernel)
theorem sl_charAt_3 : Cond.methodLink sStr 495 sy_lat ∈ mTs := mIp_mem (i := 637) (by decide +kernel)
theorem sl_charAt_4 : Cond.static sy_lat ∈ mTs := mIp_mem (i := 638) (by decide +kernel)
theorem sl_charAt_5 : Cond.initialized sy_lat.cls ∈ mTs := mIp_mem (i := 119) (by decide +kernel)
theorem sl_call_0 : Cond.instanceMethod sy_length ∈ mTs := mIp_mem (i := 620) (by decide +kernel)
theorem sl_call_1 : Cond.selects sStr sy_length sy_length ∈ mTs := mIp_mem (i := 621) (by decide +kernel)
theorem sl_call_2 : Cond.instanceMethod sy_charAt ∈ mTs := mIp_mem (i := 630) (by decide +kernel)
theorem sl_call_3 : Cond.selects sStr sy_charAt sy_charAt ∈ mTs := mIp_mem (i := 631) (by decide +kernel)
section STR2
variable {lau : Launch} {z : Nat} {ad : Nat → Nat}
set_option maxHeartbeats 1000000 in
theorem sm_coder {i : Nat} (hi : i < mStr.length) : Met lau sy_coder (sWs sy_coder sc_coder 1 (some .byte)) (sRm 0) (va_Pc [.ref (ad (1000 + i))] (mX z ad)) (sQ 0) 0 0 sNo := by
  refine Met.ofW (cc := sc_coder) (maxL := 1) (ret := some .byte) (by decide) rfl ?_
  intro p e s m args below meth c s₁ B hml hv
  obtain ⟨rfl, hX⟩ := hv
  have hx := B.exec
  have hb := B.bytes
  have hr := B.returns
  have hts0 := atoms_spec (ws := sWs sy_coder sc_coder 1 (some .byte)) B.pre
  have hts : ∀ w ∈ mTs, w.before _ s = true := fun w hw => hts0 w (List.mem_cons_of_mem _ hw)
  have hown : s.vm.findClass sy_coder.cls = some m.cls := findClass_of_methodNamed B.named
  have hlocks := B.notSynchronized
  have hS : va_S (mAz z) s.heap s.heap [] := va_S.rf
  have hl := lv_entry ([.ref (ad (1000 + i))]) (n := 1) (Nat.le_of_ble_eq_true rfl)
  rw [lg_entry_eq]
  generalize (lg_sl ([.ref (ad (1000 + i))]) ++ List.replicate (1 - (lg_sl ([.ref (ad (1000 + i))])).length) Slot.unset).toArray = ls at hl ⊢
  have hl : lv_has ls 1 [(0, .ref (ad (1000 + i)))] := hl
  refine va_gets hx hb hX.2.2.2.1.1 hS hown (hts _ sl_coder_0) (fun _ h => h) (by decide +kernel : decode sc_coder 0 = .ok (.getstatic 38, 3)) ?_
  refine lv_if_eq (tgt := 13) hx hb (by decide +kernel : decode sc_coder 3 = .ok (.ifCond .eq 10, 3)) (by decide) (fun q => absurd q (by decide)) (fun _ => ?_)
  refine lv_aload_n hx hb (by decide +kernel : decode sc_coder 6 = .ok (.aload_n 0, 1)) rfl (lv_at hl 0 rfl) ?_
  refine vk_getf hx hb (hX.2.2.1 i hi).2.1 hS hown (hts _ sl_coder_1) (fun _ h => h) (by decide +kernel : decode sc_coder 7 = .ok (.getfield 15, 3)) ?_
  refine lv_goto (tgt := 14) hx hb (by decide +kernel : decode sc_coder 10 = .ok (.goto 4, 3)) (by decide) ?_
  exact W.zret (v := 0) hx hb hr rfl (fun t ht _ => ⟨rfl, ht⟩) (fun q hq => nomatch hq) (by decide +kernel : decode sc_coder 14 = .ok (.ireturn, 1)) hlocks
set_option maxHeartbeats 1000000 in
theorem sm_isLatin1 {i : Nat} (hi : i < mStr.length) : Met lau sy_isLatin1 (sWs sy_isLatin1 sc_isLatin1 1 (some .boolean)) (sRm 0) (va_Pc [.ref (ad (1000 + i))] (mX z ad)) (sQ 1) 0 0 sNo := by
  refine Met.ofW (cc := sc_isLatin1) (maxL := 1) (ret := some .boolean) (by decide) rfl ?_
  intro p e s m args below meth c s₁ B hml hv
  obtain ⟨rfl, hX⟩ := hv
  have hx := B.exec
  have hb := B.bytes
  have hr := B.returns
  have hts0 := atoms_spec (ws := sWs sy_isLatin1 sc_isLatin1 1 (some .boolean)) B.pre
  have hts : ∀ w ∈ mTs, w.before _ s = true := fun w hw => hts0 w (List.mem_cons_of_mem _ hw)
  have hown : s.vm.findClass sy_isLatin1.cls = some m.cls := findClass_of_methodNamed B.named
  have hlocks := B.notSynchronized
  have hS : va_S (mAz z) s.heap s.heap [] := va_S.rf
  have hl := lv_entry ([.ref (ad (1000 + i))]) (n := 1) (Nat.le_of_ble_eq_true rfl)
  rw [lg_entry_eq]
  generalize (lg_sl ([.ref (ad (1000 + i))]) ++ List.replicate (1 - (lg_sl ([.ref (ad (1000 + i))])).length) Slot.unset).toArray = ls at hl ⊢
  have hl : lv_has ls 1 [(0, .ref (ad (1000 + i)))] := hl
  refine va_gets hx hb hX.2.2.2.1.1 hS hown (hts _ sl_coder_0) (fun _ h => h) (by decide +kernel : decode sc_isLatin1 0 = .ok (.getstatic 38, 3)) ?_
  refine lv_if_eq (tgt := 17) hx hb (by decide +kernel : decode sc_isLatin1 3 = .ok (.ifCond .eq 14, 3)) (by decide) (fun q => absurd q (by decide)) (fun _ => ?_)
  refine lv_aload_n hx hb (by decide +kernel : decode sc_isLatin1 6 = .ok (.aload_n 0, 1)) rfl (lv_at hl 0 rfl) ?_
  refine vk_getf hx hb (hX.2.2.1 i hi).2.1 hS hown (hts _ sl_coder_1) (fun _ h => h) (by decide +kernel : decode sc_isLatin1 7 = .ok (.getfield 15, 3)) ?_
  refine lv_if_ne (tgt := 17) hx hb (by decide +kernel : decode sc_isLatin1 10 = .ok (.ifCond .ne 7, 3)) (by decide) (fun q => absurd rfl q) (fun _ => ?_)
  refine lv_iconst (v := 1) hx hb (by decide +kernel : decode sc_isLatin1 13 = .ok (.iconst 1, 1)) (by decide) ?_
  refine lv_goto (tgt := 18) hx hb (by decide +kernel : decode sc_isLatin1 14 = .ok (.goto 4, 3)) (by decide) ?_
  exact W.zret (v := 1) hx hb hr (by decide) (fun t ht _ => ⟨rfl, ht⟩) (fun q hq => nomatch hq) (by decide +kernel : decode sc_isLatin1 18 = .ok (.ireturn, 1)) hlocks
set_option maxHeartbeats 1000000 in
theorem sm_length {i : Nat} (hi : i < mStr.length) : Met lau sy_length (sWs sy_length sc_length 1 (some .int)) (sRm 1) (va_Pc [.ref (ad (1000 + i))] (mX z ad)) (sQ (Int32.ofNat (mStr.getD i []).length)) 0 0 sNo := by
  refine Met.ofW (cc := sc_length) (maxL := 1) (ret := some .int) (by decide) rfl ?_
  intro p e s m args below meth c s₁ B hml hv
  obtain ⟨rfl, hX⟩ := hv
  have hx := B.exec
  have hb := B.bytes
  have hr := B.returns
  have hts0 := atoms_spec (ws := sWs sy_length sc_length 1 (some .int)) B.pre
  have hts : ∀ w ∈ mTs, w.before _ s = true := fun w hw => hts0 w (List.mem_cons_of_mem _ hw)
  have hown : s.vm.findClass sy_length.cls = some m.cls := findClass_of_methodNamed B.named
  have hlocks := B.notSynchronized
  have hS : va_S (mAz z) s.heap s.heap [] := va_S.rf
  have hl := lv_entry ([.ref (ad (1000 + i))]) (n := 1) (Nat.le_of_ble_eq_true rfl)
  rw [lg_entry_eq]
  generalize (lg_sl ([.ref (ad (1000 + i))]) ++ List.replicate (1 - (lg_sl ([.ref (ad (1000 + i))])).length) Slot.unset).toArray = ls at hl ⊢
  have hl : lv_has ls 1 [(0, .ref (ad (1000 + i)))] := hl
  obtain ⟨hO, hC, v, hV, hT⟩ := hX.2.2.1 i hi
  refine lv_aload_n hx hb (by decide +kernel : decode sc_length 0 = .ok (.aload_n 0, 1)) rfl (lv_at hl 0 rfl) ?_
  refine vk_getf hx hb hV hS hown (hts _ sl_length_0) (fun _ h => h) (by decide +kernel : decode sc_length 1 = .ok (.getfield 9, 3)) ?_
  refine va_tlen hx hb hT hS rfl (by decide +kernel : decode sc_length 4 = .ok (.arraylength, 1)) ?_
  refine lv_aload_n hx hb (by decide +kernel : decode sc_length 5 = .ok (.aload_n 0, 1)) rfl (lv_at hl 0 rfl) ?_
  refine sBack (va_runV (Ts := mTs) (As := []) (rest := [.int (Int32.ofNat (mStr.getD i []).length)]) ⟨hx, hb, hml, hown, hts⟩ (sm_coder (lau := lau) (z := z) (ad := ad) hi) (cwV 0 hts (goodIn_c sl_length_1 (goodIn_c sl_length_2 (goodIn_c sl_length_3 (goodIn_c sl_length_4 (sWs_good sw_coder))))) rfl rfl rfl (by decide +kernel) ⟨Nat.le_of_ble_eq_true rfl, Nat.le_of_ble_eq_true rfl⟩) ⟨sBlind, va_Orecv hO hS, sAt hX hS⟩ rfl rfl hl.1 rfl (lv_room (Nat.le_of_ble_eq_true rfl)) (by decide +kernel : decode sc_length 6 = .ok (.invokevirtual 335, 3)) ⟨Nat.le_refl _, Nat.le_refl _⟩) ?_
  refine lv_ishr hx hb (by decide +kernel : decode sc_length 9 = .ok (.ishr, 1)) ?_
  rw [sb_shr0]
  exact W.iret hx hb hr (fun t ht _ => ⟨rfl, ht⟩) (fun q hq => nomatch hq) (by decide +kernel : decode sc_length 10 = .ok (.ireturn, 1)) hlocks
set_option maxHeartbeats 1000000 in
theorem sm_pre {a b : Int32} {v : Value} (hv1 : v = .null ∨ ∃ t, v = .ref t) (ha : ¬ a < 0) (hab : a < b) : Met lau sy_pre (sWs sy_pre sc_pre 3 (some .int)) (sRm 0) (va_Pc [.int a, .int b, v] (mX z ad)) (sQ a) 0 0 sNo := by
  refine Met.ofW (cc := sc_pre) (maxL := 3) (ret := some .int) (by decide) rfl ?_
  intro p e s m args below meth c s₁ B hml hv
  obtain ⟨rfl, hX⟩ := hv
  have hx := B.exec
  have hb := B.bytes
  have hr := B.returns
  have hts0 := atoms_spec (ws := sWs sy_pre sc_pre 3 (some .int)) B.pre
  have hts : ∀ w ∈ mTs, w.before _ s = true := fun w hw => hts0 w (List.mem_cons_of_mem _ hw)
  have hown : s.vm.findClass sy_pre.cls = some m.cls := findClass_of_methodNamed B.named
  have hlocks := B.notSynchronized
  have hS : va_S (mAz z) s.heap s.heap [] := va_S.rf
  have hl := lv_entry ([.int a, .int b, v]) (n := 3) (by rcases hv1 with rfl | ⟨t, rfl⟩ <;> exact Nat.le_of_ble_eq_true rfl)
  rw [lg_entry_eq]
  generalize (lg_sl ([.int a, .int b, v]) ++ List.replicate (3 - (lg_sl ([.int a, .int b, v])).length) Slot.unset).toArray = ls at hl ⊢
  have hl : lv_has ls 3 [(0, .int a), (1, .int b)] := ⟨hl.1, hl.2.1, fun q hq => hl.2.2 q (by
    simp only [List.mem_cons, List.not_mem_nil, or_false] at hq
    rcases hq with rfl | rfl
    · exact List.mem_cons_self
    · exact List.mem_cons_of_mem _ List.mem_cons_self)⟩
  refine lv_iload_n hx hb (by decide +kernel : decode sc_pre 0 = .ok (.iload_n 0, 1)) rfl (lv_at hl 0 rfl) ?_
  refine lv_if_lt (tgt := 9) hx hb (by decide +kernel : decode sc_pre 1 = .ok (.ifCond .lt 8, 3)) (by decide) (fun q => absurd q ha) (fun _ => ?_)
  refine lv_iload_n hx hb (by decide +kernel : decode sc_pre 4 = .ok (.iload_n 0, 1)) rfl (lv_at hl 0 rfl) ?_
  refine lv_iload_n hx hb (by decide +kernel : decode sc_pre 5 = .ok (.iload_n 1, 1)) rfl (lv_at hl 1 rfl) ?_
  refine lv_icmp_lt (tgt := 16) hx hb (by decide +kernel : decode sc_pre 6 = .ok (.if_icmp .lt 10, 3)) (by decide) (fun _ => ?_) (fun q => absurd hab q)
  refine lv_iload_n hx hb (by decide +kernel : decode sc_pre 16 = .ok (.iload_n 0, 1)) rfl (lv_at hl 0 rfl) ?_
  exact W.iret hx hb hr (fun t ht _ => ⟨rfl, ht⟩) (fun q hq => nomatch hq) (by decide +kernel : decode sc_pre 17 = .ok (.ireturn, 1)) hlocks
set_option maxHeartbeats 1000000 in
theorem sm_chk {a b : Int32} (ha : ¬ a < 0) (hab : a < b) : Met lau sy_chk (sWs sy_chk sc_chk 2 (none)) (sRm 1) (va_Pc [.int a, .int b] (mX z ad)) (sQv) 0 0 sNo := by
  refine Met.ofW (cc := sc_chk) (maxL := 2) (ret := none) (by decide) rfl ?_
  intro p e s m args below meth c s₁ B hml hv
  obtain ⟨rfl, hX⟩ := hv
  have hx := B.exec
  have hb := B.bytes
  have hr := B.returns
  have hts0 := atoms_spec (ws := sWs sy_chk sc_chk 2 (none)) B.pre
  have hts : ∀ w ∈ mTs, w.before _ s = true := fun w hw => hts0 w (List.mem_cons_of_mem _ hw)
  have hown : s.vm.findClass sy_chk.cls = some m.cls := findClass_of_methodNamed B.named
  have hlocks := B.notSynchronized
  have hS : va_S (mAz z) s.heap s.heap [] := va_S.rf
  have hl := lv_entry ([.int a, .int b]) (n := 2) (Nat.le_of_ble_eq_true rfl)
  rw [lg_entry_eq]
  generalize (lg_sl ([.int a, .int b]) ++ List.replicate (2 - (lg_sl ([.int a, .int b])).length) Slot.unset).toArray = ls at hl ⊢
  have hl : lv_has ls 2 [(0, .int a), (1, .int b)] := hl
  have key : ∀ v : Value, (v = .null ∨ ∃ t, v = .ref t) → va_Z "jdk/internal/util/Preconditions" "SIOOBE_FORMATTER" "Ljava/util/function/BiFunction;" v (mAz z) s s.heap → W p lau e (headSpec (sWs sy_chk sc_chk 2 none) (sRm 1)).room s m [Value.int a, Value.int b].toArray below meth c s.heap [] 0 0 (MQ below sQv [Value.int a, Value.int b].toArray s 0 0 sNo) (F0 m 0 ls []) := by
    intro v hv1 hZ
    refine lv_iload_n hx hb (by decide +kernel : decode sc_chk 0 = .ok (.iload_n 0, 1)) rfl (lv_at hl 0 rfl) ?_
    refine lv_iload_n hx hb (by decide +kernel : decode sc_chk 1 = .ok (.iload_n 1, 1)) rfl (lv_at hl 1 rfl) ?_
    refine va_gets hx hb hZ hS hown (hts _ sl_chk_0) (fun _ h => h) (by decide +kernel : decode sc_chk 2 = .ok (.getstatic 1053, 3)) ?_
    refine sBack (va_runS (Ts := mTs) (As := [.int a, .int b, v]) (rest := []) ⟨hx, hb, hml, hown, hts⟩ (sm_pre (lau := lau) (z := z) (ad := ad) hv1 ha hab) (va_cwS 3 hts (goodIn_c sl_chk_1 (goodIn_c sl_chk_2 (goodIn_c sl_chk_3 (sWs_good sw_pre)))) rfl rfl rfl (by decide +kernel) ⟨Nat.le_of_ble_eq_true rfl, Nat.le_of_ble_eq_true rfl⟩) ⟨sBlind, sAt hX hS⟩ rfl rfl hl.1 rfl (lv_room (Nat.le_of_ble_eq_true rfl)) (by decide +kernel : decode sc_chk 5 = .ok (.invokestatic 1059, 3)) ⟨Nat.le_refl _, Nat.le_refl _⟩) ?_
    refine lv_pop hx hb (by decide +kernel : decode sc_chk 8 = .ok (.pop, 1)) rfl ?_
    exact W.vret hx hb hr (fun t ht _ => ⟨rfl, ht⟩) (fun q hq => nomatch hq) (by decide +kernel : decode sc_chk 9 = .ok (.return_, 1)) hlocks
  rcases hX.2.2.2.1.2 with hZ | ⟨t, hZ⟩
  · exact key .null (Or.inl rfl) hZ
  · exact key (.ref t) (Or.inr ⟨t, rfl⟩) hZ
set_option maxHeartbeats 1000000 in
theorem sm_lat {i v : Nat} {a : Int32} (hin : inb a (mStr.getD i []).length = true) : Met lau sy_lat (sWs sy_lat sc_lat 2 (some .char)) (sRm 2) (va_Pc [.ref v, .int a] (fun U => mX z ad U ∧ va_T .byte v (mStr.getD i []).length (fun j => .int ((mStr.getD i []).getD j 0)) (mAz z) U U.heap)) (sQ ((mStr.getD i []).getD a.toNatClampNeg 0)) 0 0 sNo := by
  refine Met.ofW (cc := sc_lat) (maxL := 2) (ret := some .char) (by decide) rfl ?_
  intro p e s m args below meth c s₁ B hml hv
  obtain ⟨rfl, hX, hT⟩ := hv
  have hx := B.exec
  have hb := B.bytes
  have hr := B.returns
  have hts0 := atoms_spec (ws := sWs sy_lat sc_lat 2 (some .char)) B.pre
  have hts : ∀ w ∈ mTs, w.before _ s = true := fun w hw => hts0 w (List.mem_cons_of_mem _ hw)
  have hown : s.vm.findClass sy_lat.cls = some m.cls := findClass_of_methodNamed B.named
  have hlocks := B.notSynchronized
  have hS : va_S (mAz z) s.heap s.heap [] := va_S.rf
  have hl := lv_entry ([.ref v, .int a]) (n := 2) (Nat.le_of_ble_eq_true rfl)
  rw [lg_entry_eq]
  generalize (lg_sl ([.ref v, .int a]) ++ List.replicate (2 - (lg_sl ([.ref v, .int a])).length) Slot.unset).toArray = ls at hl ⊢
  have hl : lv_has ls 2 [(0, .ref v), (1, .int a)] := hl
  have hvp := inb_in hin
  have hlen := str_len (i := i)
  obtain ⟨j, hj, rfl⟩ := vp_in_of hvp (by omega)
  refine lv_iload_n hx hb (by decide +kernel : decode sc_lat 0 = .ok (.iload_n 1, 1)) rfl (lv_at hl 1 rfl) ?_
  refine lv_aload_n hx hb (by decide +kernel : decode sc_lat 1 = .ok (.aload_n 0, 1)) rfl (lv_at hl 0 rfl) ?_
  refine va_tlen hx hb hT hS rfl (by decide +kernel : decode sc_lat 2 = .ok (.arraylength, 1)) ?_
  refine sBackv (va_runS (Ts := mTs) (As := [.int (nI j), .int (Int32.ofNat (mStr.getD i []).length)]) (rest := []) ⟨hx, hb, hml, hown, hts⟩ (sm_chk (lau := lau) (z := z) (ad := ad) (nI_pos (by omega)) (nI_lt hj (by omega))) (va_cwS 2 hts (goodIn_c sl_lat_0 (goodIn_c sl_lat_1 (goodIn_c sl_lat_2 (sWs_good sw_chk)))) rfl rfl rfl (by decide +kernel) ⟨Nat.le_of_ble_eq_true rfl, Nat.le_of_ble_eq_true rfl⟩) ⟨sBlind, sAt hX hS⟩ rfl rfl hl.1 rfl (lv_room (Nat.le_of_ble_eq_true rfl)) (by decide +kernel : decode sc_lat 3 = .ok (.invokestatic 9, 3)) ⟨Nat.le_refl _, Nat.le_refl _⟩) ?_
  refine lv_aload_n hx hb (by decide +kernel : decode sc_lat 6 = .ok (.aload_n 0, 1)) rfl (lv_at hl 0 rfl) ?_
  refine lv_iload_n hx hb (by decide +kernel : decode sc_lat 7 = .ok (.iload_n 1, 1)) rfl (lv_at hl 1 rfl) ?_
  refine va_tb hx hb hT hS hvp rfl (by decide +kernel : decode sc_lat 8 = .ok (.baload, 1)) ?_
  refine lv_sipush (v := 255) hx hb (by decide +kernel : decode sc_lat 9 = .ok (.sipush 255, 3)) (by decide) ?_
  refine lv_iand hx hb (by decide +kernel : decode sc_lat 12 = .ok (.iand, 1)) ?_
  have hby := str_byte (i := i) (j := (nI j).toNatClampNeg) (by rw [nI_clamp (by omega)]; exact hj)
  refine lv_i2c hx hb (by decide +kernel : decode sc_lat 13 = .ok (.i2c, 1)) hby.1 ?_
  exact W.zret hx hb hr hby.2 (fun t ht _ => ⟨rfl, ht⟩) (fun q hq => nomatch hq) (by decide +kernel : decode sc_lat 14 = .ok (.ireturn, 1)) hlocks
set_option maxHeartbeats 1000000 in
theorem sm_charAt {i : Nat} {a : Int32} (hi : i < mStr.length) (hin : inb a (mStr.getD i []).length = true) : Met lau sy_charAt (sWs sy_charAt sc_charAt 2 (some .char)) (sRm 3) (va_Pc [.ref (ad (1000 + i)), .int a] (mX z ad)) (sQ ((mStr.getD i []).getD a.toNatClampNeg 0)) 0 0 sNo := by
  refine Met.ofW (cc := sc_charAt) (maxL := 2) (ret := some .char) (by decide) rfl ?_
  intro p e s m args below meth c s₁ B hml hv
  obtain ⟨rfl, hX⟩ := hv
  have hx := B.exec
  have hb := B.bytes
  have hr := B.returns
  have hts0 := atoms_spec (ws := sWs sy_charAt sc_charAt 2 (some .char)) B.pre
  have hts : ∀ w ∈ mTs, w.before _ s = true := fun w hw => hts0 w (List.mem_cons_of_mem _ hw)
  have hown : s.vm.findClass sy_charAt.cls = some m.cls := findClass_of_methodNamed B.named
  have hlocks := B.notSynchronized
  have hS : va_S (mAz z) s.heap s.heap [] := va_S.rf
  have hl := lv_entry ([.ref (ad (1000 + i)), .int a]) (n := 2) (Nat.le_of_ble_eq_true rfl)
  rw [lg_entry_eq]
  generalize (lg_sl ([.ref (ad (1000 + i)), .int a]) ++ List.replicate (2 - (lg_sl ([.ref (ad (1000 + i)), .int a])).length) Slot.unset).toArray = ls at hl ⊢
  have hl : lv_has ls 2 [(0, .ref (ad (1000 + i))), (1, .int a)] := hl
  obtain ⟨hO, hC, v, hV, hT⟩ := hX.2.2.1 i hi
  refine lv_aload_n hx hb (by decide +kernel : decode sc_charAt 0 = .ok (.aload_n 0, 1)) rfl (lv_at hl 0 rfl) ?_
  refine sBack (va_runV (Ts := mTs) (As := []) (rest := []) ⟨hx, hb, hml, hown, hts⟩ (sm_isLatin1 (lau := lau) (z := z) (ad := ad) hi) (cwV 0 hts (goodIn_c sl_charAt_0 (goodIn_c sl_charAt_1 (goodIn_c sl_charAt_2 (goodIn_c sl_length_4 (sWs_good sw_isLatin1))))) rfl rfl rfl (by decide +kernel) ⟨Nat.le_of_ble_eq_true rfl, Nat.le_of_ble_eq_true rfl⟩) ⟨sBlind, va_Orecv hO hS, sAt hX hS⟩ rfl rfl hl.1 rfl (lv_room (Nat.le_of_ble_eq_true rfl)) (by decide +kernel : decode sc_charAt 1 = .ok (.invokevirtual 492, 3)) ⟨Nat.le_refl _, Nat.le_refl _⟩) ?_
  refine lv_if_eq (tgt := 16) hx hb (by decide +kernel : decode sc_charAt 4 = .ok (.ifCond .eq 12, 3)) (by decide) (fun q => absurd q (by decide)) (fun _ => ?_)
  refine lv_aload_n hx hb (by decide +kernel : decode sc_charAt 7 = .ok (.aload_n 0, 1)) rfl (lv_at hl 0 rfl) ?_
  refine vk_getf hx hb hV hS hown (hts _ sl_length_0) (fun _ h => h) (by decide +kernel : decode sc_charAt 8 = .ok (.getfield 9, 3)) ?_
  refine lv_iload_n hx hb (by decide +kernel : decode sc_charAt 11 = .ok (.iload_n 1, 1)) rfl (lv_at hl 1 rfl) ?_
  refine sBack (va_runS (Ts := mTs) (As := [.ref v, .int a]) (rest := []) ⟨hx, hb, hml, hown, hts⟩ (sm_lat (lau := lau) (z := z) (ad := ad) (v := v) hin) (va_cwS 2 hts (goodIn_c sl_charAt_3 (goodIn_c sl_charAt_4 (goodIn_c sl_charAt_5 (sWs_good sw_lat)))) rfl rfl rfl (by decide +kernel) ⟨Nat.le_of_ble_eq_true rfl, Nat.le_of_ble_eq_true rfl⟩) ⟨fun a U g mk h => ⟨h.1, mX_m z ad U _ h.2.1 (State.WarmedH.refl U) (fun _ _ _ => rfl), va_T.moved (Vm.Alike.refl U.vm) h.2.2⟩, fun U hU hW => ⟨rfl, (sAt (as := []) hX hS U hU hW).2, by rw [hU]; exact va_T.moved hW.alike hT⟩⟩ rfl rfl hl.1 rfl (lv_room (Nat.le_of_ble_eq_true rfl)) (by decide +kernel : decode sc_charAt 12 = .ok (.invokestatic 495, 3)) ⟨Nat.le_refl _, Nat.le_refl _⟩) ?_
  have hlen := str_len (i := i)
  obtain ⟨j, hj, rfl⟩ := vp_in_of (inb_in hin) (by omega)
  have hby := str_byte (i := i) (j := (nI j).toNatClampNeg) (by rw [nI_clamp (by omega)]; exact hj)
  exact W.zret hx hb hr hby.2 (fun t ht _ => ⟨rfl, ht⟩) (fun q hq => nomatch hq) (by decide +kernel : decode sc_charAt 15 = .ok (.ireturn, 1)) hlocks
end STR2

set_option maxHeartbeats 1000000 in
theorem strOK : StrOK := by
  intro p lau e R s m args below meth c Q z D ad cy M code n a b e0 pc k d v l st S g c1 c2 ps hcode F hX hz hR hkm hd hk h h1 h2
  obtain ⟨hx, hb, hml, hr, hown, hts, hlocks, hexc, hK⟩ := F
  intro H locs ls hl hP hD hS
  replace hl : mHas ad ls M.2.2.1 l := hl
  replace hP : va_P D vwCl (mW ad cy S) H := hP
  replace hD : va_D (mAz z) (mW ad cy S) := hD
  show W p lau e R s m args below meth c H locs k (6 * k) Q (F0 m pc ls (st.map (mV ad)))
  rcases hcode with rfl | rfl
  · replace h : hh43 M n a b e0 v pc l st S k = some (.inl (g, c1, c2)) := h
    simp only [okG, Bool.and_eq_true, beq_iff_eq] at hk
    obtain ⟨rfl, hk⟩ := hk
    have hlk := hts _ (mIp_mem hk)
    unfold hh43 at h
    rcases st with _ | ⟨w, r⟩
    · cases h
    · cases w with
      | ref i =>
        dsimp only at h
        generalize hj : i - 1000 = j at h
        cases hq : mStr[j]? with
        | none => rw [hq] at h; cases h
        | some bs =>
          rw [hq] at h
          cases hsm : sm (Value.ref i :: r) with
          | false => rw [hsm] at h; cases h
          | true =>
            rw [hsm] at h
            by_cases hi : 1000 ≤ i
            · have K := Wt.on h (decide_eq_true hi) h1 hl hP hD hS
              obtain rfl : i = 1000 + j := (Nat.add_sub_cancel' hi).symm.trans (congrArg (fun z => 1000 + z) hj)
              have hjl : j < mStr.length := (List.getElem?_eq_some_iff.mp hq).1
              have ebs : mStr.getD j [] = bs := by rw [List.getD_eq_getElem?_getD, hq]; rfl
              obtain ⟨hO, -⟩ := hX.2.2.1 j hjl
              have hs8 := sm_le (ad := ad) (sm_tl hsm)
              subst hR
              refine sBack (va_runV (Ts := mTs) (As := []) (rest := r.map (mV ad)) ⟨hx, hb, hml, hown, hts⟩ (sm_length (lau := lau) (z := z) (ad := ad) hjl) (cwV 0 hts (goodIn_c (mIp_mem hk) (goodIn_c sl_call_0 (goodIn_c sl_call_1 (goodIn_c sl_length_4 (sWs_good sw_length))))) rfl rfl rfl (by decide +kernel) ⟨by show 1 + 1 ≤ d + 8; omega, by show 8 + (1 + 11) + 30 * 1 ≤ 100 * d + 200; omega⟩) ⟨sBlind, va_Orecv hO hS, sAt hX hS⟩ rfl rfl hl.1 rfl (lv_room hs8) hd ⟨hkm, Nat.mul_le_mul_left 6 hkm⟩) ?_
              rw [ebs]
              exact K
            · exact (gx_bad h (decide_eq_false hi) h2).elim
      | _ => cases h
  · replace h : hh44 M n a b e0 v pc l st S k = some (.inl (g, c1, c2)) := h
    simp only [okG, Bool.and_eq_true, beq_iff_eq] at hk
    obtain ⟨rfl, hk⟩ := hk
    have hlk := hts _ (mIp_mem hk)
    unfold hh44 at h
    rcases st with _ | ⟨w, r⟩
    · cases h
    · cases w with
      | int y =>
        rcases r with _ | ⟨w, r⟩
        · cases h
        · cases w with
          | ref i =>
            dsimp only at h
            generalize hj : i - 1000 = j at h
            cases hq : mStr[j]? with
            | none => rw [hq] at h; cases h
            | some bs =>
              rw [hq] at h
              cases hsm : sm (Value.int y :: Value.ref i :: r) with
              | false => rw [hsm] at h; cases h
              | true =>
                rw [hsm] at h
                by_cases hi : 1000 ≤ i ∧ inb y bs.length = true
                · have K := Wt.on h (by rw [decide_eq_true hi.1, hi.2]; rfl) h1 hl hP hD hS
                  obtain rfl : i = 1000 + j := (Nat.add_sub_cancel' hi.1).symm.trans (congrArg (fun z => 1000 + z) hj)
                  have hjl : j < mStr.length := (List.getElem?_eq_some_iff.mp hq).1
                  have ebs : mStr.getD j [] = bs := by rw [List.getD_eq_getElem?_getD, hq]; rfl
                  obtain ⟨hO, -⟩ := hX.2.2.1 j hjl
                  have hs8 := sm_le (ad := ad) (sm_tl (sm_tl hsm))
                  subst hR
                  refine sBack (va_runV (Ts := mTs) (As := [.int y]) (rest := r.map (mV ad)) ⟨hx, hb, hml, hown, hts⟩ (sm_charAt (lau := lau) (z := z) (ad := ad) hjl (by rw [ebs]; exact hi.2)) (cwV 1 hts (goodIn_c (mIp_mem hk) (goodIn_c sl_call_2 (goodIn_c sl_call_3 (goodIn_c sl_length_4 (sWs_good sw_charAt))))) rfl rfl rfl (by decide +kernel) ⟨by show 3 + 1 ≤ d + 8; omega, by show 8 + (2 + 11) + 30 * 3 ≤ 100 * d + 200; omega⟩) ⟨sBlind, va_Orecv hO hS, sAt hX hS⟩ rfl rfl hl.1 rfl (lv_room hs8) hd ⟨hkm, Nat.mul_le_mul_left 6 hkm⟩) ?_
                  rw [ebs]
                  exact K
                · refine (gx_bad h ?_ h2).elim
                  cases hb1 : inb y bs.length with
                  | false => rw [Bool.and_false]
                  | true =>
                    rw [Bool.and_true]
                    exact decide_eq_false (fun q => hi ⟨q, hb1⟩)
          | _ => cases h
      | _ => cases h
