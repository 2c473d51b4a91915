/-! the texts, the statics, the exceptions, as the methods want them -/
set_option maxRecDepth 100000 in
theorem fw_4 : (Jvm.Cond.eq (Jvm.Term.static "java/lang/String" "COMPACT_STRINGS" "Z") (Jvm.Term.int (1 : Int32))) ∈ flatC giC := List.mem_of_getElem? (i := 4) (by decide +kernel)
set_option maxRecDepth 100000 in
theorem fw_5 : (Jvm.Cond.isRef (Jvm.Term.static "jdk/internal/util/Preconditions" "SIOOBE_FORMATTER" "Ljava/util/function/BiFunction;")) ∈ flatC giC := List.mem_of_getElem? (i := 5) (by decide +kernel)
set_option maxRecDepth 100000 in
theorem fw_9 : (Jvm.Cond.isRef (Jvm.Term.static "java/lang/Throwable" "UNASSIGNED_STACK" "[Ljava/lang/StackTraceElement;")) ∈ flatC giC := List.mem_of_getElem? (i := 9) (by decide +kernel)
set_option maxRecDepth 100000 in
theorem fw_10 : (Jvm.Cond.isRef (Jvm.Term.static "java/lang/Throwable" "SUPPRESSED_SENTINEL" "Ljava/util/List;")) ∈ flatC giC := List.mem_of_getElem? (i := 10) (by decide +kernel)
set_option maxRecDepth 100000 in
theorem fw_21 : (Jvm.Cond.not (Jvm.Cond.castable "java/lang/UnsupportedOperationException" "java/lang/IllegalArgumentException")) ∈ flatC giC := List.mem_of_getElem? (i := 21) (by decide +kernel)
set_option maxRecDepth 100000 in
theorem fw_51 : (Jvm.Cond.not (Jvm.Cond.castable "java/util/NoSuchElementException" "java/lang/IndexOutOfBoundsException")) ∈ flatC giC := List.mem_of_getElem? (i := 51) (by decide +kernel)
set_option maxRecDepth 100000 in
theorem fw_49 : (Jvm.Cond.not (Jvm.Cond.castable "java/lang/IllegalArgumentException" "java/lang/IndexOutOfBoundsException")) ∈ flatC giC := List.mem_of_getElem? (i := 49) (by decide +kernel)
set_option maxRecDepth 100000 in
theorem fw_52 : (Jvm.Cond.not (Jvm.Cond.castable "java/lang/IllegalStateException" "java/lang/IndexOutOfBoundsException")) ∈ flatC giC := List.mem_of_getElem? (i := 52) (by decide +kernel)
set_option maxRecDepth 100000 in
theorem fw_24 : (Jvm.Cond.not (Jvm.Cond.castable "java/lang/IllegalStateException" "java/lang/IllegalArgumentException")) ∈ flatC giC := List.mem_of_getElem? (i := 24) (by decide +kernel)
section MX2
variable {args : Array Value} {s : State} {z : Nat}
theorem pairR {a b : Term} {v : Value} (hp : (Cond.eq a b).before args s = true) (ha : a.eval args s none [] s = some v) : b.eval args s none [] s = some v := by
  obtain ⟨y, h1, h2⟩ := Cond.eq_one (args := args) (first := s) (o := none) (s := s) (idx := []) hp
  cases Option.some.inj (h1.symm.trans ha)
  exact h2
theorem pairL {a b : Term} {v : Value} (hp : (Cond.eq a b).before args s = true) (hb : b.eval args s none [] s = some v) : a.eval args s none [] s = some v := by
  obtain ⟨y, h1, h2⟩ := Cond.eq_one (args := args) (first := s) (o := none) (s := s) (idx := []) hp
  cases Option.some.inj (h2.symm.trans hb)
  exact h1
set_option maxRecDepth 20000 in
theorem sr_607 : Cond.stringRef "LedgeEggs$IsleText" 25 "ledge" ∈ lw_tbl := List.mem_of_getElem? (i := 607) (by decide +kernel)
set_option maxRecDepth 20000 in
theorem sr_682 : Cond.stringRef "LedgeEggs$IsleText" 67 "roof" ∈ lw_tbl := List.mem_of_getElem? (i := 682) (by decide +kernel)
set_option maxRecDepth 20000 in
theorem sr_688 : Cond.stringRef "LedgeEggs$IsleText" 73 "eggs" ∈ lw_tbl := List.mem_of_getElem? (i := 688) (by decide +kernel)
set_option maxRecDepth 20000 in
theorem sr_689 : Cond.stringRef "LedgeEggs$IsleText" 75 "age" ∈ lw_tbl := List.mem_of_getElem? (i := 689) (by decide +kernel)
set_option maxRecDepth 20000 in
theorem sr_690 : Cond.stringRef "LedgeEggs$IsleText" 77 "birds" ∈ lw_tbl := List.mem_of_getElem? (i := 690) (by decide +kernel)
set_option maxRecDepth 20000 in
theorem sr_704 : Cond.stringRef "LedgeEggs$IsleText" 37 "rope" ∈ lw_tbl := List.mem_of_getElem? (i := 704) (by decide +kernel)
set_option maxRecDepth 20000 in
theorem sr_709 : Cond.stringRef "LedgeEggs$IsleText" 90 "bears" ∈ lw_tbl := List.mem_of_getElem? (i := 709) (by decide +kernel)
set_option maxRecDepth 20000 in
theorem sr_711 : Cond.stringRef "LedgeEggs$IsleText" 42 "holder" ∈ lw_tbl := List.mem_of_getElem? (i := 711) (by decide +kernel)
set_option maxRecDepth 20000 in
theorem sr_720 : Cond.stringRef "LedgeEggs$IsleText" 47 "climber" ∈ lw_tbl := List.mem_of_getElem? (i := 720) (by decide +kernel)
set_option maxRecDepth 20000 in
theorem sr_729 : Cond.stringRef "LedgeEggs$IsleText" 52 "gale" ∈ lw_tbl := List.mem_of_getElem? (i := 729) (by decide +kernel)
set_option maxRecDepth 20000 in
theorem sr_734 : Cond.stringRef "LedgeEggs$IsleText" 58 "stones" ∈ lw_tbl := List.mem_of_getElem? (i := 734) (by decide +kernel)
set_option maxRecDepth 20000 in
theorem sr_742 : Cond.stringRef "LedgeEggs$LawText" 49 "swing" ∈ lw_tbl := List.mem_of_getElem? (i := 742) (by decide +kernel)
set_option maxRecDepth 20000 in
theorem sr_744 : Cond.stringRef "LedgeEggs$LawText" 51 "wear" ∈ lw_tbl := List.mem_of_getElem? (i := 744) (by decide +kernel)
set_option maxRecDepth 20000 in
theorem sr_745 : Cond.stringRef "LedgeEggs$LawText" 53 "lay" ∈ lw_tbl := List.mem_of_getElem? (i := 745) (by decide +kernel)
set_option maxRecDepth 20000 in
theorem sr_748 : Cond.stringRef "LedgeEggs$LawText" 33 "if" ∈ lw_tbl := List.mem_of_getElem? (i := 748) (by decide +kernel)
set_option maxRecDepth 20000 in
theorem sr_757 : Cond.stringRef "LedgeEggs$LawText" 66 "not" ∈ lw_tbl := List.mem_of_getElem? (i := 757) (by decide +kernel)
set_option maxRecDepth 20000 in
theorem sr_766 : Cond.stringRef "LedgeEggs$LawText" 72 "fresh" ∈ lw_tbl := List.mem_of_getElem? (i := 766) (by decide +kernel)
set_option maxRecDepth 20000 in
theorem sr_778 : Cond.stringRef "LedgeEggs$LawText" 84 "fathom" ∈ lw_tbl := List.mem_of_getElem? (i := 778) (by decide +kernel)
set_option maxRecDepth 20000 in
theorem sr_779 : Cond.stringRef "LedgeEggs$LawText" 86 "roof" ∈ lw_tbl := List.mem_of_getElem? (i := 779) (by decide +kernel)
set_option maxRecDepth 20000 in
theorem sr_780 : Cond.stringRef "LedgeEggs$LawText" 88 "eggs" ∈ lw_tbl := List.mem_of_getElem? (i := 780) (by decide +kernel)
set_option maxRecDepth 20000 in
theorem sr_781 : Cond.stringRef "LedgeEggs$LawText" 90 "age" ∈ lw_tbl := List.mem_of_getElem? (i := 781) (by decide +kernel)
set_option maxRecDepth 20000 in
theorem sr_782 : Cond.stringRef "LedgeEggs$LawText" 92 "birds" ∈ lw_tbl := List.mem_of_getElem? (i := 782) (by decide +kernel)
set_option maxRecDepth 20000 in
theorem sr_783 : Cond.stringRef "LedgeEggs$LawText" 94 "kick" ∈ lw_tbl := List.mem_of_getElem? (i := 783) (by decide +kernel)
set_option maxRecDepth 20000 in
theorem sr_784 : Cond.stringRef "LedgeEggs$LawText" 96 "wind" ∈ lw_tbl := List.mem_of_getElem? (i := 784) (by decide +kernel)
set_option maxRecDepth 20000 in
theorem sr_785 : Cond.stringRef "LedgeEggs$LawText" 98 "day" ∈ lw_tbl := List.mem_of_getElem? (i := 785) (by decide +kernel)
set_option maxRecDepth 20000 in
theorem sr_786 : Cond.stringRef "LedgeEggs$LawText" 58 "and" ∈ lw_tbl := List.mem_of_getElem? (i := 786) (by decide +kernel)
set_option maxRecDepth 20000 in
theorem sr_787 : Cond.stringRef "LedgeEggs$LawText" 64 "or" ∈ lw_tbl := List.mem_of_getElem? (i := 787) (by decide +kernel)
set_option maxRecDepth 20000 in
theorem sr_837 : Cond.stringRef "LedgeEggs" 110 "the text is wrong" ∈ lw_tbl := List.mem_of_getElem? (i := 837) (by decide +kernel)
set_option maxRecDepth 20000 in
theorem sr_873 : Cond.stringRef "LedgeEggs" 121 "there are 12 texts" ∈ lw_tbl := List.mem_of_getElem? (i := 873) (by decide +kernel)
set_option maxRecDepth 20000 in
theorem sr_917 : Cond.stringRef "LedgeEggs" 319 "no such ledge" ∈ lw_tbl := List.mem_of_getElem? (i := 917) (by decide +kernel)
set_option maxRecDepth 20000 in
theorem sr_933 : Cond.stringRef "LedgeEggs" 146 "no such what" ∈ lw_tbl := List.mem_of_getElem? (i := 933) (by decide +kernel)
set_option maxRecDepth 20000 in
theorem sr_969 : Cond.stringRef "LedgeEggs" 322 "no such holder" ∈ lw_tbl := List.mem_of_getElem? (i := 969) (by decide +kernel)
set_option maxRecDepth 20000 in
theorem sr_982 : Cond.stringRef "LedgeEggs" 324 "no such climber" ∈ lw_tbl := List.mem_of_getElem? (i := 982) (by decide +kernel)
set_option maxRecDepth 20000 in
theorem sr_993 : Cond.stringRef "LedgeEggs" 326 "the number is none" ∈ lw_tbl := List.mem_of_getElem? (i := 993) (by decide +kernel)
set_option maxRecDepth 20000 in
theorem sr_1035 : Cond.stringRef "LedgeEggs" 202 "one cannot be let down" ∈ lw_tbl := List.mem_of_getElem? (i := 1035) (by decide +kernel)
set_option maxRecDepth 20000 in
theorem sr_1478 : Cond.stringRef "LedgeEggsModel" 129 "ledge" ∈ lw_tbl := List.mem_of_getElem? (i := 1478) (by decide +kernel)
set_option maxRecDepth 20000 in
theorem sr_1497 : Cond.stringRef "LedgeEggsModel" 115 "roof" ∈ lw_tbl := List.mem_of_getElem? (i := 1497) (by decide +kernel)
set_option maxRecDepth 20000 in
theorem sr_1502 : Cond.stringRef "LedgeEggsModel" 121 "eggs" ∈ lw_tbl := List.mem_of_getElem? (i := 1502) (by decide +kernel)
set_option maxRecDepth 20000 in
theorem sr_1503 : Cond.stringRef "LedgeEggsModel" 123 "age" ∈ lw_tbl := List.mem_of_getElem? (i := 1503) (by decide +kernel)
set_option maxRecDepth 20000 in
theorem sr_1504 : Cond.stringRef "LedgeEggsModel" 125 "birds" ∈ lw_tbl := List.mem_of_getElem? (i := 1504) (by decide +kernel)
set_option maxRecDepth 20000 in
theorem sr_1508 : Cond.stringRef "LedgeEggsModel" 135 "rope" ∈ lw_tbl := List.mem_of_getElem? (i := 1508) (by decide +kernel)
set_option maxRecDepth 20000 in
theorem sr_1513 : Cond.stringRef "LedgeEggsModel" 127 "bears" ∈ lw_tbl := List.mem_of_getElem? (i := 1513) (by decide +kernel)
set_option maxRecDepth 20000 in
theorem sr_1514 : Cond.stringRef "LedgeEggsModel" 140 "holder" ∈ lw_tbl := List.mem_of_getElem? (i := 1514) (by decide +kernel)
set_option maxRecDepth 20000 in
theorem sr_1523 : Cond.stringRef "LedgeEggsModel" 145 "climber" ∈ lw_tbl := List.mem_of_getElem? (i := 1523) (by decide +kernel)
set_option maxRecDepth 20000 in
theorem sr_1532 : Cond.stringRef "LedgeEggsModel" 150 "gale" ∈ lw_tbl := List.mem_of_getElem? (i := 1532) (by decide +kernel)
set_option maxRecDepth 20000 in
theorem sr_1537 : Cond.stringRef "LedgeEggsModel" 156 "stones" ∈ lw_tbl := List.mem_of_getElem? (i := 1537) (by decide +kernel)
set_option maxRecDepth 20000 in
theorem sr_1542 : Cond.stringRef "LedgeEggsModel" 205 "swing" ∈ lw_tbl := List.mem_of_getElem? (i := 1542) (by decide +kernel)
set_option maxRecDepth 20000 in
theorem sr_1543 : Cond.stringRef "LedgeEggsModel" 207 "wear" ∈ lw_tbl := List.mem_of_getElem? (i := 1543) (by decide +kernel)
set_option maxRecDepth 20000 in
theorem sr_1544 : Cond.stringRef "LedgeEggsModel" 209 "lay" ∈ lw_tbl := List.mem_of_getElem? (i := 1544) (by decide +kernel)
set_option maxRecDepth 20000 in
theorem sr_1545 : Cond.stringRef "LedgeEggsModel" 211 "if" ∈ lw_tbl := List.mem_of_getElem? (i := 1545) (by decide +kernel)
set_option maxRecDepth 20000 in
theorem sr_1566 : Cond.stringRef "LedgeEggsModel" 185 "not" ∈ lw_tbl := List.mem_of_getElem? (i := 1566) (by decide +kernel)
set_option maxRecDepth 20000 in
theorem sr_1571 : Cond.stringRef "LedgeEggsModel" 193 "fresh" ∈ lw_tbl := List.mem_of_getElem? (i := 1571) (by decide +kernel)
set_option maxRecDepth 20000 in
theorem sr_1580 : Cond.stringRef "LedgeEggsModel" 165 "kick" ∈ lw_tbl := List.mem_of_getElem? (i := 1580) (by decide +kernel)
set_option maxRecDepth 20000 in
theorem sr_1581 : Cond.stringRef "LedgeEggsModel" 167 "fathom" ∈ lw_tbl := List.mem_of_getElem? (i := 1581) (by decide +kernel)
set_option maxRecDepth 20000 in
theorem sr_1582 : Cond.stringRef "LedgeEggsModel" 169 "wind" ∈ lw_tbl := List.mem_of_getElem? (i := 1582) (by decide +kernel)
set_option maxRecDepth 20000 in
theorem sr_1583 : Cond.stringRef "LedgeEggsModel" 171 "day" ∈ lw_tbl := List.mem_of_getElem? (i := 1583) (by decide +kernel)
set_option maxRecDepth 20000 in
theorem sr_1584 : Cond.stringRef "LedgeEggsModel" 198 "and" ∈ lw_tbl := List.mem_of_getElem? (i := 1584) (by decide +kernel)
set_option maxRecDepth 20000 in
theorem sr_1585 : Cond.stringRef "LedgeEggsModel" 203 "or" ∈ lw_tbl := List.mem_of_getElem? (i := 1585) (by decide +kernel)
set_option maxRecDepth 20000 in
theorem ls_1 : Cond.laysStatic "java/lang/String" "COMPACT_STRINGS" "Z" ∈ lw_tbl := List.mem_of_getElem? (i := 628) (by decide +kernel)
set_option maxRecDepth 20000 in
theorem ls_2 : Cond.laysStatic "jdk/internal/util/Preconditions" "SIOOBE_FORMATTER" "Ljava/util/function/BiFunction;" ∈ lw_tbl := List.mem_of_getElem? (i := 644) (by decide +kernel)
set_option maxRecDepth 20000 in
theorem ls_3 : Cond.laysStatic "java/lang/Throwable" "UNASSIGNED_STACK" "[Ljava/lang/StackTraceElement;" ∈ lw_tbl := List.mem_of_getElem? (i := 821) (by decide +kernel)
set_option maxRecDepth 20000 in
theorem ls_4 : Cond.laysStatic "java/lang/Throwable" "SUPPRESSED_SENTINEL" "Ljava/util/List;" ∈ lw_tbl := List.mem_of_getElem? (i := 823) (by decide +kernel)
set_option maxRecDepth 20000 in
theorem li_1 : Cond.initialized "java/lang/String" ∈ lw_tbl := List.mem_of_getElem? (i := 118) (by decide +kernel)
set_option maxRecDepth 20000 in
theorem li_2 : Cond.initialized "jdk/internal/util/Preconditions" ∈ lw_tbl := List.mem_of_getElem? (i := 120) (by decide +kernel)
set_option maxRecDepth 20000 in
theorem li_3 : Cond.initialized "java/lang/Throwable" ∈ lw_tbl := List.mem_of_getElem? (i := 122) (by decide +kernel)
theorem exw (hts : ∀ w ∈ lw_tbl, w.before args s = true) : ∀ w ∈ lw_tbl, isEx w = true → va_Nw w s := fun w hw he => by
  match w, he, hw with
  | .castable _ _, _, hw => exact va_Nw.of rfl (hts _ hw)
  | .declares _, _, hw => exact va_Nw.of rfl (hts _ hw)
  | .methodLinkNest _ _ _ _, _, hw => exact va_Nw.of rfl (hts _ hw)
set_option maxHeartbeats 4000000 in
theorem mX_of (hts : ∀ w ∈ lw_tbl, w.before args s = true) (hg : ∀ w ∈ flatC giC, w.before args s = true) : ∃ sA : Nat → Nat, ∀ ad : Nat → Nat, (∀ i, i < 31 → ad (1000 + i) = sA i) → mX s.heap.size ad s := by
  have hA : ∀ a : Nat, a < s.heap.size → ¬ mAz s.heap.size a := fun a h => Nat.not_le.mpr h
  obtain ⟨a0, e0, o0, k0, v0, x0, y0⟩ := st_at0 (A := mAz s.heap.size) hg hA
  obtain ⟨a1, e1, o1, k1, v1, x1, y1⟩ := st_at1 (A := mAz s.heap.size) hg hA
  obtain ⟨a2, e2, o2, k2, v2, x2, y2⟩ := st_at2 (A := mAz s.heap.size) hg hA
  obtain ⟨a3, e3, o3, k3, v3, x3, y3⟩ := st_at3 (A := mAz s.heap.size) hg hA
  obtain ⟨a4, e4, o4, k4, v4, x4, y4⟩ := st_at4 (A := mAz s.heap.size) hg hA
  obtain ⟨a5, e5, o5, k5, v5, x5, y5⟩ := st_at5 (A := mAz s.heap.size) hg hA
  obtain ⟨a6, e6, o6, k6, v6, x6, y6⟩ := st_at6 (A := mAz s.heap.size) hg hA
  obtain ⟨a7, e7, o7, k7, v7, x7, y7⟩ := st_at7 (A := mAz s.heap.size) hg hA
  obtain ⟨a8, e8, o8, k8, v8, x8, y8⟩ := st_at8 (A := mAz s.heap.size) hg hA
  obtain ⟨a9, e9, o9, k9, v9, x9, y9⟩ := st_at9 (A := mAz s.heap.size) hg hA
  obtain ⟨a10, e10, o10, k10, v10, x10, y10⟩ := st_at10 (A := mAz s.heap.size) hg hA
  obtain ⟨a11, e11, o11, k11, v11, x11, y11⟩ := st_at11 (A := mAz s.heap.size) hg hA
  obtain ⟨a12, e12, o12, k12, v12, x12, y12⟩ := st_at12 (A := mAz s.heap.size) hg hA
  obtain ⟨a13, e13, o13, k13, v13, x13, y13⟩ := st_at13 (A := mAz s.heap.size) hg hA
  obtain ⟨a14, e14, o14, k14, v14, x14, y14⟩ := st_at14 (A := mAz s.heap.size) hg hA
  obtain ⟨a15, e15, o15, k15, v15, x15, y15⟩ := st_at15 (A := mAz s.heap.size) hg hA
  obtain ⟨a16, e16, o16, k16, v16, x16, y16⟩ := st_at16 (A := mAz s.heap.size) hg hA
  obtain ⟨a17, e17, o17, k17, v17, x17, y17⟩ := st_at17 (A := mAz s.heap.size) hg hA
  obtain ⟨a18, e18, o18, k18, v18, x18, y18⟩ := st_at18 (A := mAz s.heap.size) hg hA
  obtain ⟨a19, e19, o19, k19, v19, x19, y19⟩ := st_at19 (A := mAz s.heap.size) hg hA
  obtain ⟨a20, e20, o20, k20, v20, x20, y20⟩ := st_at20 (A := mAz s.heap.size) hg hA
  obtain ⟨a21, e21, o21, k21, v21, x21, y21⟩ := st_at21 (A := mAz s.heap.size) hg hA
  obtain ⟨a22, e22, o22, k22, v22, x22, y22⟩ := st_at22 (A := mAz s.heap.size) hg hA
  obtain ⟨a23, e23, o23, k23, v23, x23, y23⟩ := st_at23 (A := mAz s.heap.size) hg hA
  obtain ⟨a24, e24, o24, k24, v24, x24, y24⟩ := st_at24 (A := mAz s.heap.size) hg hA
  obtain ⟨a25, e25, o25, k25, v25, x25, y25⟩ := st_at25 (A := mAz s.heap.size) hg hA
  obtain ⟨a26, e26, o26, k26, v26, x26, y26⟩ := st_at26 (A := mAz s.heap.size) hg hA
  obtain ⟨a27, e27, o27, k27, v27, x27, y27⟩ := st_at27 (A := mAz s.heap.size) hg hA
  obtain ⟨a28, e28, o28, k28, v28, x28, y28⟩ := st_at28 (A := mAz s.heap.size) hg hA
  obtain ⟨a29, e29, o29, k29, v29, x29, y29⟩ := st_at29 (A := mAz s.heap.size) hg hA
  obtain ⟨a30, e30, o30, k30, v30, x30, y30⟩ := st_at30 (A := mAz s.heap.size) hg hA
  refine ⟨fun i => ([a0, a1, a2, a3, a4, a5, a6, a7, a8, a9, a10, a11, a12, a13, a14, a15, a16, a17, a18, a19, a20, a21, a22, a23, a24, a25, a26, a27, a28, a29, a30] : List Nat).getD i 0, fun ad had => ⟨exw hts, ?_, ?_, ⟨?_, ?_⟩, ?_, ?_⟩⟩
  · have h : ∀ i, i < 31 → ad (1000 + i) = ([a0, a1, a2, a3, a4, a5, a6, a7, a8, a9, a10, a11, a12, a13, a14, a15, a16, a17, a18, a19, a20, a21, a22, a23, a24, a25, a26, a27, a28, a29, a30] : List Nat).getD i 0 := had
    have h0 : ad 1000 = a0 := h 0 (by decide)
    have h1 : ad 1001 = a1 := h 1 (by decide)
    have h2 : ad 1002 = a2 := h 2 (by decide)
    have h3 : ad 1003 = a3 := h 3 (by decide)
    have h4 : ad 1004 = a4 := h 4 (by decide)
    have h5 : ad 1005 = a5 := h 5 (by decide)
    have h6 : ad 1006 = a6 := h 6 (by decide)
    have h7 : ad 1007 = a7 := h 7 (by decide)
    have h8 : ad 1008 = a8 := h 8 (by decide)
    have h9 : ad 1009 = a9 := h 9 (by decide)
    have h10 : ad 1010 = a10 := h 10 (by decide)
    have h11 : ad 1011 = a11 := h 11 (by decide)
    have h12 : ad 1012 = a12 := h 12 (by decide)
    have h13 : ad 1013 = a13 := h 13 (by decide)
    have h14 : ad 1014 = a14 := h 14 (by decide)
    have h15 : ad 1015 = a15 := h 15 (by decide)
    have h16 : ad 1016 = a16 := h 16 (by decide)
    have h17 : ad 1017 = a17 := h 17 (by decide)
    have h18 : ad 1018 = a18 := h 18 (by decide)
    have h19 : ad 1019 = a19 := h 19 (by decide)
    have h20 : ad 1020 = a20 := h 20 (by decide)
    have h21 : ad 1021 = a21 := h 21 (by decide)
    have h22 : ad 1022 = a22 := h 22 (by decide)
    have h23 : ad 1023 = a23 := h 23 (by decide)
    have h24 : ad 1024 = a24 := h 24 (by decide)
    have h25 : ad 1025 = a25 := h 25 (by decide)
    have h26 : ad 1026 = a26 := h 26 (by decide)
    have h27 : ad 1027 = a27 := h 27 (by decide)
    have h28 : ad 1028 = a28 := h 28 (by decide)
    have h29 : ad 1029 = a29 := h 29 (by decide)
    have h30 : ad 1030 = a30 := h 30 (by decide)
    exact List.forall_mem_cons.mpr ⟨(show vk_R "LedgeEggs$IsleText" 25 "ledge" (ad 1000) s by rw [h0]; exact vk_R.of (hts _ sr_607) e0), List.forall_mem_cons.mpr ⟨(show vk_R "LedgeEggs$IsleText" 67 "roof" (ad 1001) s by rw [h1]; exact vk_R.of (hts _ sr_682) e1), List.forall_mem_cons.mpr ⟨(show vk_R "LedgeEggs$IsleText" 73 "eggs" (ad 1002) s by rw [h2]; exact vk_R.of (hts _ sr_688) e2), List.forall_mem_cons.mpr ⟨(show vk_R "LedgeEggs$IsleText" 75 "age" (ad 1003) s by rw [h3]; exact vk_R.of (hts _ sr_689) e3), List.forall_mem_cons.mpr ⟨(show vk_R "LedgeEggs$IsleText" 77 "birds" (ad 1004) s by rw [h4]; exact vk_R.of (hts _ sr_690) e4), List.forall_mem_cons.mpr ⟨(show vk_R "LedgeEggs$IsleText" 37 "rope" (ad 1005) s by rw [h5]; exact vk_R.of (hts _ sr_704) e5), List.forall_mem_cons.mpr ⟨(show vk_R "LedgeEggs$IsleText" 90 "bears" (ad 1006) s by rw [h6]; exact vk_R.of (hts _ sr_709) e6), List.forall_mem_cons.mpr ⟨(show vk_R "LedgeEggs$IsleText" 42 "holder" (ad 1007) s by rw [h7]; exact vk_R.of (hts _ sr_711) e7), List.forall_mem_cons.mpr ⟨(show vk_R "LedgeEggs$IsleText" 47 "climber" (ad 1008) s by rw [h8]; exact vk_R.of (hts _ sr_720) e8), List.forall_mem_cons.mpr ⟨(show vk_R "LedgeEggs$IsleText" 52 "gale" (ad 1009) s by rw [h9]; exact vk_R.of (hts _ sr_729) e9), List.forall_mem_cons.mpr ⟨(show vk_R "LedgeEggs$IsleText" 58 "stones" (ad 1010) s by rw [h10]; exact vk_R.of (hts _ sr_734) e10), List.forall_mem_cons.mpr ⟨(show vk_R "LedgeEggs$LawText" 49 "swing" (ad 1011) s by rw [h11]; exact vk_R.of (hts _ sr_742) e11), List.forall_mem_cons.mpr ⟨(show vk_R "LedgeEggs$LawText" 51 "wear" (ad 1012) s by rw [h12]; exact vk_R.of (hts _ sr_744) e12), List.forall_mem_cons.mpr ⟨(show vk_R "LedgeEggs$LawText" 53 "lay" (ad 1013) s by rw [h13]; exact vk_R.of (hts _ sr_745) e13), List.forall_mem_cons.mpr ⟨(show vk_R "LedgeEggs$LawText" 33 "if" (ad 1014) s by rw [h14]; exact vk_R.of (hts _ sr_748) e14), List.forall_mem_cons.mpr ⟨(show vk_R "LedgeEggs$LawText" 66 "not" (ad 1015) s by rw [h15]; exact vk_R.of (hts _ sr_757) e15), List.forall_mem_cons.mpr ⟨(show vk_R "LedgeEggs$LawText" 72 "fresh" (ad 1016) s by rw [h16]; exact vk_R.of (hts _ sr_766) e16), List.forall_mem_cons.mpr ⟨(show vk_R "LedgeEggs$LawText" 84 "fathom" (ad 1017) s by rw [h17]; exact vk_R.of (hts _ sr_778) e17), List.forall_mem_cons.mpr ⟨(show vk_R "LedgeEggs$LawText" 86 "roof" (ad 1001) s by rw [h1]; exact vk_R.of (hts _ sr_779) (pairR (hg _ fw_242) e1)), List.forall_mem_cons.mpr ⟨(show vk_R "LedgeEggs$LawText" 88 "eggs" (ad 1002) s by rw [h2]; exact vk_R.of (hts _ sr_780) (pairR (hg _ fw_251) e2)), List.forall_mem_cons.mpr ⟨(show vk_R "LedgeEggs$LawText" 90 "age" (ad 1003) s by rw [h3]; exact vk_R.of (hts _ sr_781) (pairR (hg _ fw_259) e3)), List.forall_mem_cons.mpr ⟨(show vk_R "LedgeEggs$LawText" 92 "birds" (ad 1004) s by rw [h4]; exact vk_R.of (hts _ sr_782) (pairR (hg _ fw_269) e4)), List.forall_mem_cons.mpr ⟨(show vk_R "LedgeEggs$LawText" 94 "kick" (ad 1018) s by rw [h18]; exact vk_R.of (hts _ sr_783) e18), List.forall_mem_cons.mpr ⟨(show vk_R "LedgeEggs$LawText" 96 "wind" (ad 1019) s by rw [h19]; exact vk_R.of (hts _ sr_784) e19), List.forall_mem_cons.mpr ⟨(show vk_R "LedgeEggs$LawText" 98 "day" (ad 1020) s by rw [h20]; exact vk_R.of (hts _ sr_785) e20), List.forall_mem_cons.mpr ⟨(show vk_R "LedgeEggs$LawText" 58 "and" (ad 1021) s by rw [h21]; exact vk_R.of (hts _ sr_786) e21), List.forall_mem_cons.mpr ⟨(show vk_R "LedgeEggs$LawText" 64 "or" (ad 1022) s by rw [h22]; exact vk_R.of (hts _ sr_787) e22), List.forall_mem_cons.mpr ⟨(show vk_R "LedgeEggs" 110 "the text is wrong" (ad 1023) s by rw [h23]; exact vk_R.of (hts _ sr_837) e23), List.forall_mem_cons.mpr ⟨(show vk_R "LedgeEggs" 121 "there are 12 texts" (ad 1024) s by rw [h24]; exact vk_R.of (hts _ sr_873) e24), List.forall_mem_cons.mpr ⟨(show vk_R "LedgeEggs" 319 "no such ledge" (ad 1025) s by rw [h25]; exact vk_R.of (hts _ sr_917) e25), List.forall_mem_cons.mpr ⟨(show vk_R "LedgeEggs" 146 "no such what" (ad 1026) s by rw [h26]; exact vk_R.of (hts _ sr_933) e26), List.forall_mem_cons.mpr ⟨(show vk_R "LedgeEggs" 322 "no such holder" (ad 1027) s by rw [h27]; exact vk_R.of (hts _ sr_969) e27), List.forall_mem_cons.mpr ⟨(show vk_R "LedgeEggs" 324 "no such climber" (ad 1028) s by rw [h28]; exact vk_R.of (hts _ sr_982) e28), List.forall_mem_cons.mpr ⟨(show vk_R "LedgeEggs" 326 "the number is none" (ad 1029) s by rw [h29]; exact vk_R.of (hts _ sr_993) e29), List.forall_mem_cons.mpr ⟨(show vk_R "LedgeEggs" 202 "one cannot be let down" (ad 1030) s by rw [h30]; exact vk_R.of (hts _ sr_1035) e30), List.forall_mem_cons.mpr ⟨(show vk_R "LedgeEggsModel" 129 "ledge" (ad 1000) s by rw [h0]; exact vk_R.of (hts _ sr_1478) (pairR (hg _ fw_476) e0)), List.forall_mem_cons.mpr ⟨(show vk_R "LedgeEggsModel" 115 "roof" (ad 1001) s by rw [h1]; exact vk_R.of (hts _ sr_1497) (pairR (hg _ fw_485) e1)), List.forall_mem_cons.mpr ⟨(show vk_R "LedgeEggsModel" 121 "eggs" (ad 1002) s by rw [h2]; exact vk_R.of (hts _ sr_1502) (pairR (hg _ fw_495) e2)), List.forall_mem_cons.mpr ⟨(show vk_R "LedgeEggsModel" 123 "age" (ad 1003) s by rw [h3]; exact vk_R.of (hts _ sr_1503) (pairR (hg _ fw_504) e3)), List.forall_mem_cons.mpr ⟨(show vk_R "LedgeEggsModel" 125 "birds" (ad 1004) s by rw [h4]; exact vk_R.of (hts _ sr_1504) (pairR (hg _ fw_515) e4)), List.forall_mem_cons.mpr ⟨(show vk_R "LedgeEggsModel" 135 "rope" (ad 1005) s by rw [h5]; exact vk_R.of (hts _ sr_1508) (pairR (hg _ fw_525) e5)), List.forall_mem_cons.mpr ⟨(show vk_R "LedgeEggsModel" 127 "bears" (ad 1006) s by rw [h6]; exact vk_R.of (hts _ sr_1513) (pairR (hg _ fw_535) e6)), List.forall_mem_cons.mpr ⟨(show vk_R "LedgeEggsModel" 140 "holder" (ad 1007) s by rw [h7]; exact vk_R.of (hts _ sr_1514) (pairR (hg _ fw_546) e7)), List.forall_mem_cons.mpr ⟨(show vk_R "LedgeEggsModel" 145 "climber" (ad 1008) s by rw [h8]; exact vk_R.of (hts _ sr_1523) (pairR (hg _ fw_558) e8)), List.forall_mem_cons.mpr ⟨(show vk_R "LedgeEggsModel" 150 "gale" (ad 1009) s by rw [h9]; exact vk_R.of (hts _ sr_1532) (pairR (hg _ fw_567) e9)), List.forall_mem_cons.mpr ⟨(show vk_R "LedgeEggsModel" 156 "stones" (ad 1010) s by rw [h10]; exact vk_R.of (hts _ sr_1537) (pairR (hg _ fw_578) e10)), List.forall_mem_cons.mpr ⟨(show vk_R "LedgeEggsModel" 205 "swing" (ad 1011) s by rw [h11]; exact vk_R.of (hts _ sr_1542) (pairR (hg _ fw_588) e11)), List.forall_mem_cons.mpr ⟨(show vk_R "LedgeEggsModel" 207 "wear" (ad 1012) s by rw [h12]; exact vk_R.of (hts _ sr_1543) (pairR (hg _ fw_597) e12)), List.forall_mem_cons.mpr ⟨(show vk_R "LedgeEggsModel" 209 "lay" (ad 1013) s by rw [h13]; exact vk_R.of (hts _ sr_1544) (pairR (hg _ fw_605) e13)), List.forall_mem_cons.mpr ⟨(show vk_R "LedgeEggsModel" 211 "if" (ad 1014) s by rw [h14]; exact vk_R.of (hts _ sr_1545) (pairR (hg _ fw_612) e14)), List.forall_mem_cons.mpr ⟨(show vk_R "LedgeEggsModel" 185 "not" (ad 1015) s by rw [h15]; exact vk_R.of (hts _ sr_1566) (pairR (hg _ fw_620) e15)), List.forall_mem_cons.mpr ⟨(show vk_R "LedgeEggsModel" 193 "fresh" (ad 1016) s by rw [h16]; exact vk_R.of (hts _ sr_1571) (pairR (hg _ fw_630) e16)), List.forall_mem_cons.mpr ⟨(show vk_R "LedgeEggsModel" 165 "kick" (ad 1018) s by rw [h18]; exact vk_R.of (hts _ sr_1580) (pairR (hg _ fw_639) e18)), List.forall_mem_cons.mpr ⟨(show vk_R "LedgeEggsModel" 167 "fathom" (ad 1017) s by rw [h17]; exact vk_R.of (hts _ sr_1581) (pairR (hg _ fw_650) e17)), List.forall_mem_cons.mpr ⟨(show vk_R "LedgeEggsModel" 169 "wind" (ad 1019) s by rw [h19]; exact vk_R.of (hts _ sr_1582) (pairR (hg _ fw_659) e19)), List.forall_mem_cons.mpr ⟨(show vk_R "LedgeEggsModel" 171 "day" (ad 1020) s by rw [h20]; exact vk_R.of (hts _ sr_1583) (pairR (hg _ fw_667) e20)), List.forall_mem_cons.mpr ⟨(show vk_R "LedgeEggsModel" 198 "and" (ad 1021) s by rw [h21]; exact vk_R.of (hts _ sr_1584) (pairR (hg _ fw_675) e21)), List.forall_mem_cons.mpr ⟨(show vk_R "LedgeEggsModel" 203 "or" (ad 1022) s by rw [h22]; exact vk_R.of (hts _ sr_1585) (pairR (hg _ fw_682) e22)), fun _ h => absurd h List.not_mem_nil⟩⟩⟩⟩⟩⟩⟩⟩⟩⟩⟩⟩⟩⟩⟩⟩⟩⟩⟩⟩⟩⟩⟩⟩⟩⟩⟩⟩⟩⟩⟩⟩⟩⟩⟩⟩⟩⟩⟩⟩⟩⟩⟩⟩⟩⟩⟩⟩⟩⟩⟩⟩⟩⟩⟩⟩⟩⟩
  · intro i hi
    have hi31 : i < 31 := hi
    unfold mStO
    rw [had i hi31]
    match i, hi31 with
    | 0, _ => exact ⟨o0, k0, v0, x0, y0⟩
    | 1, _ => exact ⟨o1, k1, v1, x1, y1⟩
    | 2, _ => exact ⟨o2, k2, v2, x2, y2⟩
    | 3, _ => exact ⟨o3, k3, v3, x3, y3⟩
    | 4, _ => exact ⟨o4, k4, v4, x4, y4⟩
    | 5, _ => exact ⟨o5, k5, v5, x5, y5⟩
    | 6, _ => exact ⟨o6, k6, v6, x6, y6⟩
    | 7, _ => exact ⟨o7, k7, v7, x7, y7⟩
    | 8, _ => exact ⟨o8, k8, v8, x8, y8⟩
    | 9, _ => exact ⟨o9, k9, v9, x9, y9⟩
    | 10, _ => exact ⟨o10, k10, v10, x10, y10⟩
    | 11, _ => exact ⟨o11, k11, v11, x11, y11⟩
    | 12, _ => exact ⟨o12, k12, v12, x12, y12⟩
    | 13, _ => exact ⟨o13, k13, v13, x13, y13⟩
    | 14, _ => exact ⟨o14, k14, v14, x14, y14⟩
    | 15, _ => exact ⟨o15, k15, v15, x15, y15⟩
    | 16, _ => exact ⟨o16, k16, v16, x16, y16⟩
    | 17, _ => exact ⟨o17, k17, v17, x17, y17⟩
    | 18, _ => exact ⟨o18, k18, v18, x18, y18⟩
    | 19, _ => exact ⟨o19, k19, v19, x19, y19⟩
    | 20, _ => exact ⟨o20, k20, v20, x20, y20⟩
    | 21, _ => exact ⟨o21, k21, v21, x21, y21⟩
    | 22, _ => exact ⟨o22, k22, v22, x22, y22⟩
    | 23, _ => exact ⟨o23, k23, v23, x23, y23⟩
    | 24, _ => exact ⟨o24, k24, v24, x24, y24⟩
    | 25, _ => exact ⟨o25, k25, v25, x25, y25⟩
    | 26, _ => exact ⟨o26, k26, v26, x26, y26⟩
    | 27, _ => exact ⟨o27, k27, v27, x27, y27⟩
    | 28, _ => exact ⟨o28, k28, v28, x28, y28⟩
    | 29, _ => exact ⟨o29, k29, v29, x29, y29⟩
    | 30, _ => exact ⟨o30, k30, v30, x30, y30⟩
    | j + 31, hj => exact absurd hj (by omega)
  · exact va_Zof (hts _ ls_1) (hts _ li_1) (va_eqt (hg _ fw_4)) hA
  · exact va_Zqof (hts _ ls_2) (hts _ li_2) (hg _ fw_5) hA
  · exact vx_Zqof (hts _ ls_3) (hts _ li_3) (hg _ fw_9) hA
  · exact vx_Zqof (hts _ ls_4) (hts _ li_3) (hg _ fw_10) hA
theorem nX_of (hg : ∀ w ∈ flatC giC, w.before args s = true) : nX s := ⟨va_Nc.of (hg _ fw_21), va_Nc.of (hg _ fw_51), va_Nc.of (hg _ fw_49), va_Nc.of (hg _ fw_52), va_Nc.of (hg _ fw_24)⟩
end MX2
