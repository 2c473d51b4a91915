/-! what the statement says of texts and statics -/
abbrev giC : Cond := .and given_1 narrow_1
section MX
variable {args : Array Value} {s : State}
theorem str1 {tm : Term} {bs : List Int32} {A : Nat → Prop} (hN : bs.length < 2 ^ 31) (hex : (Cond.exactly tm "java/lang/String").before args s = true) (hco : (Cond.eq (.field tm "java/lang/String" "coder" "B") (.int 0)).before args s = true) (har : (Cond.arrayOf (.field tm "java/lang/String" "value" "[B") .byte).before args s = true)
    (hle : (Cond.eq (.length (.field tm "java/lang/String" "value" "[B")) (.int (Int32.ofNat bs.length))).before args s = true) (hel : ∀ j : Nat, j < bs.length → (Cond.eq (.elem (.field tm "java/lang/String" "value" "[B") (.int (Int32.ofNat j))) (.int (bs.getD j 0))).before args s = true) (hA : ∀ a : Nat, a < s.heap.size → ¬ A a) :
    ∃ a, tm.eval args s none [] s = some (.ref a) ∧ va_O "java/lang/String" a A s s.heap ∧ va_OF "java/lang/String" "coder" "B" (.int 0) a A s s.heap ∧ ∃ v, va_OF "java/lang/String" "value" "[B" (.ref v) a A s s.heap ∧ va_T .byte v bs.length (fun j => .int (bs.getD j 0)) A s s.heap := by
  obtain ⟨a, c, cA, kA, q1, q2, q3, q4, q5, q6, -⟩ := Cond.exactly_spec (args := args) (first := s) (o := none) (s := s) (idx := []) (t := tm) (cls := "java/lang/String") hex
  obtain ⟨t, ht, hT⟩ := va_Tof (f := fun j => .int (bs.getD j 0)) (A := A) hN har (va_eqt hle) (fun j hj => va_eqt (hel j hj)) hA
  exact ⟨a, q1, ⟨cA, q3, q5, by rw [q6]; exact q2, hA a (Array.getElem?_eq_some_iff.mp q3).1⟩, vk_OFof q1 (va_eqt hco) hA, t, vk_OFof q1 ht hA, hT⟩
def StrAt (A : Nat → Prop) (args : Array Value) (s : State) (tm : Term) (bs : List Int32) : Prop := ∃ a, tm.eval args s none [] s = some (.ref a) ∧ va_O "java/lang/String" a A s s.heap ∧ va_OF "java/lang/String" "coder" "B" (.int 0) a A s s.heap ∧ ∃ v, va_OF "java/lang/String" "value" "[B" (.ref v) a A s s.heap ∧ va_T .byte v bs.length (fun j => .int (bs.getD j 0)) A s s.heap
set_option maxRecDepth 100000 in
theorem fw_81 : (Jvm.Cond.exactly (Jvm.Term.string "LedgeEggs$IsleText" (25 : Nat)) "java/lang/String") ∈ flatC giC := List.mem_of_getElem? (i := 81) (by decide +kernel)
set_option maxRecDepth 100000 in
theorem fw_82 : (Jvm.Cond.eq (Jvm.Term.field (Jvm.Term.string "LedgeEggs$IsleText" (25 : Nat)) "java/lang/String" "coder" "B") (Jvm.Term.int (0 : Int32))) ∈ flatC giC := List.mem_of_getElem? (i := 82) (by decide +kernel)
set_option maxRecDepth 100000 in
theorem fw_83 : (Jvm.Cond.arrayOf (Jvm.Term.field (Jvm.Term.string "LedgeEggs$IsleText" (25 : Nat)) "java/lang/String" "value" "[B") Jvm.ClassFile.FieldType.byte) ∈ flatC giC := List.mem_of_getElem? (i := 83) (by decide +kernel)
set_option maxRecDepth 100000 in
theorem fw_84 : (Jvm.Cond.eq (Jvm.Term.length (Jvm.Term.field (Jvm.Term.string "LedgeEggs$IsleText" (25 : Nat)) "java/lang/String" "value" "[B")) (Jvm.Term.int (5 : Int32))) ∈ flatC giC := List.mem_of_getElem? (i := 84) (by decide +kernel)
set_option maxRecDepth 100000 in
theorem fw_85 : (Jvm.Cond.eq (Jvm.Term.elem (Jvm.Term.field (Jvm.Term.string "LedgeEggs$IsleText" (25 : Nat)) "java/lang/String" "value" "[B") (Jvm.Term.int (0 : Int32))) (Jvm.Term.int (108 : Int32))) ∈ flatC giC := List.mem_of_getElem? (i := 85) (by decide +kernel)
set_option maxRecDepth 100000 in
theorem fw_86 : (Jvm.Cond.eq (Jvm.Term.elem (Jvm.Term.field (Jvm.Term.string "LedgeEggs$IsleText" (25 : Nat)) "java/lang/String" "value" "[B") (Jvm.Term.int (1 : Int32))) (Jvm.Term.int (101 : Int32))) ∈ flatC giC := List.mem_of_getElem? (i := 86) (by decide +kernel)
set_option maxRecDepth 100000 in
theorem fw_87 : (Jvm.Cond.eq (Jvm.Term.elem (Jvm.Term.field (Jvm.Term.string "LedgeEggs$IsleText" (25 : Nat)) "java/lang/String" "value" "[B") (Jvm.Term.int (2 : Int32))) (Jvm.Term.int (100 : Int32))) ∈ flatC giC := List.mem_of_getElem? (i := 87) (by decide +kernel)
set_option maxRecDepth 100000 in
theorem fw_88 : (Jvm.Cond.eq (Jvm.Term.elem (Jvm.Term.field (Jvm.Term.string "LedgeEggs$IsleText" (25 : Nat)) "java/lang/String" "value" "[B") (Jvm.Term.int (3 : Int32))) (Jvm.Term.int (103 : Int32))) ∈ flatC giC := List.mem_of_getElem? (i := 88) (by decide +kernel)
set_option maxRecDepth 100000 in
theorem fw_89 : (Jvm.Cond.eq (Jvm.Term.elem (Jvm.Term.field (Jvm.Term.string "LedgeEggs$IsleText" (25 : Nat)) "java/lang/String" "value" "[B") (Jvm.Term.int (4 : Int32))) (Jvm.Term.int (101 : Int32))) ∈ flatC giC := List.mem_of_getElem? (i := 89) (by decide +kernel)
set_option maxRecDepth 100000 in
theorem fw_90 : (Jvm.Cond.exactly (Jvm.Term.string "LedgeEggs$IsleText" (67 : Nat)) "java/lang/String") ∈ flatC giC := List.mem_of_getElem? (i := 90) (by decide +kernel)
set_option maxRecDepth 100000 in
theorem fw_91 : (Jvm.Cond.eq (Jvm.Term.field (Jvm.Term.string "LedgeEggs$IsleText" (67 : Nat)) "java/lang/String" "coder" "B") (Jvm.Term.int (0 : Int32))) ∈ flatC giC := List.mem_of_getElem? (i := 91) (by decide +kernel)
set_option maxRecDepth 100000 in
theorem fw_92 : (Jvm.Cond.arrayOf (Jvm.Term.field (Jvm.Term.string "LedgeEggs$IsleText" (67 : Nat)) "java/lang/String" "value" "[B") Jvm.ClassFile.FieldType.byte) ∈ flatC giC := List.mem_of_getElem? (i := 92) (by decide +kernel)
set_option maxRecDepth 100000 in
theorem fw_93 : (Jvm.Cond.eq (Jvm.Term.length (Jvm.Term.field (Jvm.Term.string "LedgeEggs$IsleText" (67 : Nat)) "java/lang/String" "value" "[B")) (Jvm.Term.int (4 : Int32))) ∈ flatC giC := List.mem_of_getElem? (i := 93) (by decide +kernel)
set_option maxRecDepth 100000 in
theorem fw_94 : (Jvm.Cond.eq (Jvm.Term.elem (Jvm.Term.field (Jvm.Term.string "LedgeEggs$IsleText" (67 : Nat)) "java/lang/String" "value" "[B") (Jvm.Term.int (0 : Int32))) (Jvm.Term.int (114 : Int32))) ∈ flatC giC := List.mem_of_getElem? (i := 94) (by decide +kernel)
set_option maxRecDepth 100000 in
theorem fw_95 : (Jvm.Cond.eq (Jvm.Term.elem (Jvm.Term.field (Jvm.Term.string "LedgeEggs$IsleText" (67 : Nat)) "java/lang/String" "value" "[B") (Jvm.Term.int (1 : Int32))) (Jvm.Term.int (111 : Int32))) ∈ flatC giC := List.mem_of_getElem? (i := 95) (by decide +kernel)
set_option maxRecDepth 100000 in
theorem fw_96 : (Jvm.Cond.eq (Jvm.Term.elem (Jvm.Term.field (Jvm.Term.string "LedgeEggs$IsleText" (67 : Nat)) "java/lang/String" "value" "[B") (Jvm.Term.int (2 : Int32))) (Jvm.Term.int (111 : Int32))) ∈ flatC giC := List.mem_of_getElem? (i := 96) (by decide +kernel)
set_option maxRecDepth 100000 in
theorem fw_97 : (Jvm.Cond.eq (Jvm.Term.elem (Jvm.Term.field (Jvm.Term.string "LedgeEggs$IsleText" (67 : Nat)) "java/lang/String" "value" "[B") (Jvm.Term.int (3 : Int32))) (Jvm.Term.int (102 : Int32))) ∈ flatC giC := List.mem_of_getElem? (i := 97) (by decide +kernel)
set_option maxRecDepth 100000 in
theorem fw_98 : (Jvm.Cond.exactly (Jvm.Term.string "LedgeEggs$IsleText" (73 : Nat)) "java/lang/String") ∈ flatC giC := List.mem_of_getElem? (i := 98) (by decide +kernel)
set_option maxRecDepth 100000 in
theorem fw_99 : (Jvm.Cond.eq (Jvm.Term.field (Jvm.Term.string "LedgeEggs$IsleText" (73 : Nat)) "java/lang/String" "coder" "B") (Jvm.Term.int (0 : Int32))) ∈ flatC giC := List.mem_of_getElem? (i := 99) (by decide +kernel)
set_option maxRecDepth 100000 in
theorem fw_100 : (Jvm.Cond.arrayOf (Jvm.Term.field (Jvm.Term.string "LedgeEggs$IsleText" (73 : Nat)) "java/lang/String" "value" "[B") Jvm.ClassFile.FieldType.byte) ∈ flatC giC := List.mem_of_getElem? (i := 100) (by decide +kernel)
set_option maxRecDepth 100000 in
theorem fw_101 : (Jvm.Cond.eq (Jvm.Term.length (Jvm.Term.field (Jvm.Term.string "LedgeEggs$IsleText" (73 : Nat)) "java/lang/String" "value" "[B")) (Jvm.Term.int (4 : Int32))) ∈ flatC giC := List.mem_of_getElem? (i := 101) (by decide +kernel)
set_option maxRecDepth 100000 in
theorem fw_102 : (Jvm.Cond.eq (Jvm.Term.elem (Jvm.Term.field (Jvm.Term.string "LedgeEggs$IsleText" (73 : Nat)) "java/lang/String" "value" "[B") (Jvm.Term.int (0 : Int32))) (Jvm.Term.int (101 : Int32))) ∈ flatC giC := List.mem_of_getElem? (i := 102) (by decide +kernel)
set_option maxRecDepth 100000 in
theorem fw_103 : (Jvm.Cond.eq (Jvm.Term.elem (Jvm.Term.field (Jvm.Term.string "LedgeEggs$IsleText" (73 : Nat)) "java/lang/String" "value" "[B") (Jvm.Term.int (1 : Int32))) (Jvm.Term.int (103 : Int32))) ∈ flatC giC := List.mem_of_getElem? (i := 103) (by decide +kernel)
set_option maxRecDepth 100000 in
theorem fw_104 : (Jvm.Cond.eq (Jvm.Term.elem (Jvm.Term.field (Jvm.Term.string "LedgeEggs$IsleText" (73 : Nat)) "java/lang/String" "value" "[B") (Jvm.Term.int (2 : Int32))) (Jvm.Term.int (103 : Int32))) ∈ flatC giC := List.mem_of_getElem? (i := 104) (by decide +kernel)
set_option maxRecDepth 100000 in
theorem fw_105 : (Jvm.Cond.eq (Jvm.Term.elem (Jvm.Term.field (Jvm.Term.string "LedgeEggs$IsleText" (73 : Nat)) "java/lang/String" "value" "[B") (Jvm.Term.int (3 : Int32))) (Jvm.Term.int (115 : Int32))) ∈ flatC giC := List.mem_of_getElem? (i := 105) (by decide +kernel)
set_option maxRecDepth 100000 in
theorem fw_106 : (Jvm.Cond.exactly (Jvm.Term.string "LedgeEggs$IsleText" (75 : Nat)) "java/lang/String") ∈ flatC giC := List.mem_of_getElem? (i := 106) (by decide +kernel)
set_option maxRecDepth 100000 in
theorem fw_107 : (Jvm.Cond.eq (Jvm.Term.field (Jvm.Term.string "LedgeEggs$IsleText" (75 : Nat)) "java/lang/String" "coder" "B") (Jvm.Term.int (0 : Int32))) ∈ flatC giC := List.mem_of_getElem? (i := 107) (by decide +kernel)
set_option maxRecDepth 100000 in
theorem fw_108 : (Jvm.Cond.arrayOf (Jvm.Term.field (Jvm.Term.string "LedgeEggs$IsleText" (75 : Nat)) "java/lang/String" "value" "[B") Jvm.ClassFile.FieldType.byte) ∈ flatC giC := List.mem_of_getElem? (i := 108) (by decide +kernel)
set_option maxRecDepth 100000 in
theorem fw_109 : (Jvm.Cond.eq (Jvm.Term.length (Jvm.Term.field (Jvm.Term.string "LedgeEggs$IsleText" (75 : Nat)) "java/lang/String" "value" "[B")) (Jvm.Term.int (3 : Int32))) ∈ flatC giC := List.mem_of_getElem? (i := 109) (by decide +kernel)
set_option maxRecDepth 100000 in
theorem fw_110 : (Jvm.Cond.eq (Jvm.Term.elem (Jvm.Term.field (Jvm.Term.string "LedgeEggs$IsleText" (75 : Nat)) "java/lang/String" "value" "[B") (Jvm.Term.int (0 : Int32))) (Jvm.Term.int (97 : Int32))) ∈ flatC giC := List.mem_of_getElem? (i := 110) (by decide +kernel)
set_option maxRecDepth 100000 in
theorem fw_111 : (Jvm.Cond.eq (Jvm.Term.elem (Jvm.Term.field (Jvm.Term.string "LedgeEggs$IsleText" (75 : Nat)) "java/lang/String" "value" "[B") (Jvm.Term.int (1 : Int32))) (Jvm.Term.int (103 : Int32))) ∈ flatC giC := List.mem_of_getElem? (i := 111) (by decide +kernel)
set_option maxRecDepth 100000 in
theorem fw_112 : (Jvm.Cond.eq (Jvm.Term.elem (Jvm.Term.field (Jvm.Term.string "LedgeEggs$IsleText" (75 : Nat)) "java/lang/String" "value" "[B") (Jvm.Term.int (2 : Int32))) (Jvm.Term.int (101 : Int32))) ∈ flatC giC := List.mem_of_getElem? (i := 112) (by decide +kernel)
set_option maxRecDepth 100000 in
theorem fw_113 : (Jvm.Cond.exactly (Jvm.Term.string "LedgeEggs$IsleText" (77 : Nat)) "java/lang/String") ∈ flatC giC := List.mem_of_getElem? (i := 113) (by decide +kernel)
set_option maxRecDepth 100000 in
theorem fw_114 : (Jvm.Cond.eq (Jvm.Term.field (Jvm.Term.string "LedgeEggs$IsleText" (77 : Nat)) "java/lang/String" "coder" "B") (Jvm.Term.int (0 : Int32))) ∈ flatC giC := List.mem_of_getElem? (i := 114) (by decide +kernel)
set_option maxRecDepth 100000 in
theorem fw_115 : (Jvm.Cond.arrayOf (Jvm.Term.field (Jvm.Term.string "LedgeEggs$IsleText" (77 : Nat)) "java/lang/String" "value" "[B") Jvm.ClassFile.FieldType.byte) ∈ flatC giC := List.mem_of_getElem? (i := 115) (by decide +kernel)
set_option maxRecDepth 100000 in
theorem fw_116 : (Jvm.Cond.eq (Jvm.Term.length (Jvm.Term.field (Jvm.Term.string "LedgeEggs$IsleText" (77 : Nat)) "java/lang/String" "value" "[B")) (Jvm.Term.int (5 : Int32))) ∈ flatC giC := List.mem_of_getElem? (i := 116) (by decide +kernel)
set_option maxRecDepth 100000 in
theorem fw_117 : (Jvm.Cond.eq (Jvm.Term.elem (Jvm.Term.field (Jvm.Term.string "LedgeEggs$IsleText" (77 : Nat)) "java/lang/String" "value" "[B") (Jvm.Term.int (0 : Int32))) (Jvm.Term.int (98 : Int32))) ∈ flatC giC := List.mem_of_getElem? (i := 117) (by decide +kernel)
set_option maxRecDepth 100000 in
theorem fw_118 : (Jvm.Cond.eq (Jvm.Term.elem (Jvm.Term.field (Jvm.Term.string "LedgeEggs$IsleText" (77 : Nat)) "java/lang/String" "value" "[B") (Jvm.Term.int (1 : Int32))) (Jvm.Term.int (105 : Int32))) ∈ flatC giC := List.mem_of_getElem? (i := 118) (by decide +kernel)
set_option maxRecDepth 100000 in
theorem fw_119 : (Jvm.Cond.eq (Jvm.Term.elem (Jvm.Term.field (Jvm.Term.string "LedgeEggs$IsleText" (77 : Nat)) "java/lang/String" "value" "[B") (Jvm.Term.int (2 : Int32))) (Jvm.Term.int (114 : Int32))) ∈ flatC giC := List.mem_of_getElem? (i := 119) (by decide +kernel)
set_option maxRecDepth 100000 in
theorem fw_120 : (Jvm.Cond.eq (Jvm.Term.elem (Jvm.Term.field (Jvm.Term.string "LedgeEggs$IsleText" (77 : Nat)) "java/lang/String" "value" "[B") (Jvm.Term.int (3 : Int32))) (Jvm.Term.int (100 : Int32))) ∈ flatC giC := List.mem_of_getElem? (i := 120) (by decide +kernel)
set_option maxRecDepth 100000 in
theorem fw_121 : (Jvm.Cond.eq (Jvm.Term.elem (Jvm.Term.field (Jvm.Term.string "LedgeEggs$IsleText" (77 : Nat)) "java/lang/String" "value" "[B") (Jvm.Term.int (4 : Int32))) (Jvm.Term.int (115 : Int32))) ∈ flatC giC := List.mem_of_getElem? (i := 121) (by decide +kernel)
set_option maxRecDepth 100000 in
theorem fw_122 : (Jvm.Cond.exactly (Jvm.Term.string "LedgeEggs$IsleText" (37 : Nat)) "java/lang/String") ∈ flatC giC := List.mem_of_getElem? (i := 122) (by decide +kernel)
set_option maxRecDepth 100000 in
theorem fw_123 : (Jvm.Cond.eq (Jvm.Term.field (Jvm.Term.string "LedgeEggs$IsleText" (37 : Nat)) "java/lang/String" "coder" "B") (Jvm.Term.int (0 : Int32))) ∈ flatC giC := List.mem_of_getElem? (i := 123) (by decide +kernel)
set_option maxRecDepth 100000 in
theorem fw_124 : (Jvm.Cond.arrayOf (Jvm.Term.field (Jvm.Term.string "LedgeEggs$IsleText" (37 : Nat)) "java/lang/String" "value" "[B") Jvm.ClassFile.FieldType.byte) ∈ flatC giC := List.mem_of_getElem? (i := 124) (by decide +kernel)
set_option maxRecDepth 100000 in
theorem fw_125 : (Jvm.Cond.eq (Jvm.Term.length (Jvm.Term.field (Jvm.Term.string "LedgeEggs$IsleText" (37 : Nat)) "java/lang/String" "value" "[B")) (Jvm.Term.int (4 : Int32))) ∈ flatC giC := List.mem_of_getElem? (i := 125) (by decide +kernel)
set_option maxRecDepth 100000 in
theorem fw_126 : (Jvm.Cond.eq (Jvm.Term.elem (Jvm.Term.field (Jvm.Term.string "LedgeEggs$IsleText" (37 : Nat)) "java/lang/String" "value" "[B") (Jvm.Term.int (0 : Int32))) (Jvm.Term.int (114 : Int32))) ∈ flatC giC := List.mem_of_getElem? (i := 126) (by decide +kernel)
set_option maxRecDepth 100000 in
theorem fw_127 : (Jvm.Cond.eq (Jvm.Term.elem (Jvm.Term.field (Jvm.Term.string "LedgeEggs$IsleText" (37 : Nat)) "java/lang/String" "value" "[B") (Jvm.Term.int (1 : Int32))) (Jvm.Term.int (111 : Int32))) ∈ flatC giC := List.mem_of_getElem? (i := 127) (by decide +kernel)
set_option maxRecDepth 100000 in
theorem fw_128 : (Jvm.Cond.eq (Jvm.Term.elem (Jvm.Term.field (Jvm.Term.string "LedgeEggs$IsleText" (37 : Nat)) "java/lang/String" "value" "[B") (Jvm.Term.int (2 : Int32))) (Jvm.Term.int (112 : Int32))) ∈ flatC giC := List.mem_of_getElem? (i := 128) (by decide +kernel)
set_option maxRecDepth 100000 in
theorem fw_129 : (Jvm.Cond.eq (Jvm.Term.elem (Jvm.Term.field (Jvm.Term.string "LedgeEggs$IsleText" (37 : Nat)) "java/lang/String" "value" "[B") (Jvm.Term.int (3 : Int32))) (Jvm.Term.int (101 : Int32))) ∈ flatC giC := List.mem_of_getElem? (i := 129) (by decide +kernel)
set_option maxRecDepth 100000 in
theorem fw_130 : (Jvm.Cond.exactly (Jvm.Term.string "LedgeEggs$IsleText" (90 : Nat)) "java/lang/String") ∈ flatC giC := List.mem_of_getElem? (i := 130) (by decide +kernel)
set_option maxRecDepth 100000 in
theorem fw_131 : (Jvm.Cond.eq (Jvm.Term.field (Jvm.Term.string "LedgeEggs$IsleText" (90 : Nat)) "java/lang/String" "coder" "B") (Jvm.Term.int (0 : Int32))) ∈ flatC giC := List.mem_of_getElem? (i := 131) (by decide +kernel)
set_option maxRecDepth 100000 in
theorem fw_132 : (Jvm.Cond.arrayOf (Jvm.Term.field (Jvm.Term.string "LedgeEggs$IsleText" (90 : Nat)) "java/lang/String" "value" "[B") Jvm.ClassFile.FieldType.byte) ∈ flatC giC := List.mem_of_getElem? (i := 132) (by decide +kernel)
set_option maxRecDepth 100000 in
theorem fw_133 : (Jvm.Cond.eq (Jvm.Term.length (Jvm.Term.field (Jvm.Term.string "LedgeEggs$IsleText" (90 : Nat)) "java/lang/String" "value" "[B")) (Jvm.Term.int (5 : Int32))) ∈ flatC giC := List.mem_of_getElem? (i := 133) (by decide +kernel)
set_option maxRecDepth 100000 in
theorem fw_134 : (Jvm.Cond.eq (Jvm.Term.elem (Jvm.Term.field (Jvm.Term.string "LedgeEggs$IsleText" (90 : Nat)) "java/lang/String" "value" "[B") (Jvm.Term.int (0 : Int32))) (Jvm.Term.int (98 : Int32))) ∈ flatC giC := List.mem_of_getElem? (i := 134) (by decide +kernel)
set_option maxRecDepth 100000 in
theorem fw_135 : (Jvm.Cond.eq (Jvm.Term.elem (Jvm.Term.field (Jvm.Term.string "LedgeEggs$IsleText" (90 : Nat)) "java/lang/String" "value" "[B") (Jvm.Term.int (1 : Int32))) (Jvm.Term.int (101 : Int32))) ∈ flatC giC := List.mem_of_getElem? (i := 135) (by decide +kernel)
set_option maxRecDepth 100000 in
theorem fw_136 : (Jvm.Cond.eq (Jvm.Term.elem (Jvm.Term.field (Jvm.Term.string "LedgeEggs$IsleText" (90 : Nat)) "java/lang/String" "value" "[B") (Jvm.Term.int (2 : Int32))) (Jvm.Term.int (97 : Int32))) ∈ flatC giC := List.mem_of_getElem? (i := 136) (by decide +kernel)
set_option maxRecDepth 100000 in
theorem fw_137 : (Jvm.Cond.eq (Jvm.Term.elem (Jvm.Term.field (Jvm.Term.string "LedgeEggs$IsleText" (90 : Nat)) "java/lang/String" "value" "[B") (Jvm.Term.int (3 : Int32))) (Jvm.Term.int (114 : Int32))) ∈ flatC giC := List.mem_of_getElem? (i := 137) (by decide +kernel)
set_option maxRecDepth 100000 in
theorem fw_138 : (Jvm.Cond.eq (Jvm.Term.elem (Jvm.Term.field (Jvm.Term.string "LedgeEggs$IsleText" (90 : Nat)) "java/lang/String" "value" "[B") (Jvm.Term.int (4 : Int32))) (Jvm.Term.int (115 : Int32))) ∈ flatC giC := List.mem_of_getElem? (i := 138) (by decide +kernel)
set_option maxRecDepth 100000 in
theorem fw_139 : (Jvm.Cond.exactly (Jvm.Term.string "LedgeEggs$IsleText" (42 : Nat)) "java/lang/String") ∈ flatC giC := List.mem_of_getElem? (i := 139) (by decide +kernel)
set_option maxRecDepth 100000 in
theorem fw_140 : (Jvm.Cond.eq (Jvm.Term.field (Jvm.Term.string "LedgeEggs$IsleText" (42 : Nat)) "java/lang/String" "coder" "B") (Jvm.Term.int (0 : Int32))) ∈ flatC giC := List.mem_of_getElem? (i := 140) (by decide +kernel)
set_option maxRecDepth 100000 in
theorem fw_141 : (Jvm.Cond.arrayOf (Jvm.Term.field (Jvm.Term.string "LedgeEggs$IsleText" (42 : Nat)) "java/lang/String" "value" "[B") Jvm.ClassFile.FieldType.byte) ∈ flatC giC := List.mem_of_getElem? (i := 141) (by decide +kernel)
set_option maxRecDepth 100000 in
theorem fw_142 : (Jvm.Cond.eq (Jvm.Term.length (Jvm.Term.field (Jvm.Term.string "LedgeEggs$IsleText" (42 : Nat)) "java/lang/String" "value" "[B")) (Jvm.Term.int (6 : Int32))) ∈ flatC giC := List.mem_of_getElem? (i := 142) (by decide +kernel)
set_option maxRecDepth 100000 in
theorem fw_143 : (Jvm.Cond.eq (Jvm.Term.elem (Jvm.Term.field (Jvm.Term.string "LedgeEggs$IsleText" (42 : Nat)) "java/lang/String" "value" "[B") (Jvm.Term.int (0 : Int32))) (Jvm.Term.int (104 : Int32))) ∈ flatC giC := List.mem_of_getElem? (i := 143) (by decide +kernel)
set_option maxRecDepth 100000 in
theorem fw_144 : (Jvm.Cond.eq (Jvm.Term.elem (Jvm.Term.field (Jvm.Term.string "LedgeEggs$IsleText" (42 : Nat)) "java/lang/String" "value" "[B") (Jvm.Term.int (1 : Int32))) (Jvm.Term.int (111 : Int32))) ∈ flatC giC := List.mem_of_getElem? (i := 144) (by decide +kernel)
set_option maxRecDepth 100000 in
theorem fw_145 : (Jvm.Cond.eq (Jvm.Term.elem (Jvm.Term.field (Jvm.Term.string "LedgeEggs$IsleText" (42 : Nat)) "java/lang/String" "value" "[B") (Jvm.Term.int (2 : Int32))) (Jvm.Term.int (108 : Int32))) ∈ flatC giC := List.mem_of_getElem? (i := 145) (by decide +kernel)
set_option maxRecDepth 100000 in
theorem fw_146 : (Jvm.Cond.eq (Jvm.Term.elem (Jvm.Term.field (Jvm.Term.string "LedgeEggs$IsleText" (42 : Nat)) "java/lang/String" "value" "[B") (Jvm.Term.int (3 : Int32))) (Jvm.Term.int (100 : Int32))) ∈ flatC giC := List.mem_of_getElem? (i := 146) (by decide +kernel)
set_option maxRecDepth 100000 in
theorem fw_147 : (Jvm.Cond.eq (Jvm.Term.elem (Jvm.Term.field (Jvm.Term.string "LedgeEggs$IsleText" (42 : Nat)) "java/lang/String" "value" "[B") (Jvm.Term.int (4 : Int32))) (Jvm.Term.int (101 : Int32))) ∈ flatC giC := List.mem_of_getElem? (i := 147) (by decide +kernel)
set_option maxRecDepth 100000 in
theorem fw_148 : (Jvm.Cond.eq (Jvm.Term.elem (Jvm.Term.field (Jvm.Term.string "LedgeEggs$IsleText" (42 : Nat)) "java/lang/String" "value" "[B") (Jvm.Term.int (5 : Int32))) (Jvm.Term.int (114 : Int32))) ∈ flatC giC := List.mem_of_getElem? (i := 148) (by decide +kernel)
set_option maxRecDepth 100000 in
theorem fw_149 : (Jvm.Cond.exactly (Jvm.Term.string "LedgeEggs$IsleText" (47 : Nat)) "java/lang/String") ∈ flatC giC := List.mem_of_getElem? (i := 149) (by decide +kernel)
set_option maxRecDepth 100000 in
theorem fw_150 : (Jvm.Cond.eq (Jvm.Term.field (Jvm.Term.string "LedgeEggs$IsleText" (47 : Nat)) "java/lang/String" "coder" "B") (Jvm.Term.int (0 : Int32))) ∈ flatC giC := List.mem_of_getElem? (i := 150) (by decide +kernel)
set_option maxRecDepth 100000 in
theorem fw_151 : (Jvm.Cond.arrayOf (Jvm.Term.field (Jvm.Term.string "LedgeEggs$IsleText" (47 : Nat)) "java/lang/String" "value" "[B") Jvm.ClassFile.FieldType.byte) ∈ flatC giC := List.mem_of_getElem? (i := 151) (by decide +kernel)
set_option maxRecDepth 100000 in
theorem fw_152 : (Jvm.Cond.eq (Jvm.Term.length (Jvm.Term.field (Jvm.Term.string "LedgeEggs$IsleText" (47 : Nat)) "java/lang/String" "value" "[B")) (Jvm.Term.int (7 : Int32))) ∈ flatC giC := List.mem_of_getElem? (i := 152) (by decide +kernel)
set_option maxRecDepth 100000 in
theorem fw_153 : (Jvm.Cond.eq (Jvm.Term.elem (Jvm.Term.field (Jvm.Term.string "LedgeEggs$IsleText" (47 : Nat)) "java/lang/String" "value" "[B") (Jvm.Term.int (0 : Int32))) (Jvm.Term.int (99 : Int32))) ∈ flatC giC := List.mem_of_getElem? (i := 153) (by decide +kernel)
set_option maxRecDepth 100000 in
theorem fw_154 : (Jvm.Cond.eq (Jvm.Term.elem (Jvm.Term.field (Jvm.Term.string "LedgeEggs$IsleText" (47 : Nat)) "java/lang/String" "value" "[B") (Jvm.Term.int (1 : Int32))) (Jvm.Term.int (108 : Int32))) ∈ flatC giC := List.mem_of_getElem? (i := 154) (by decide +kernel)
set_option maxRecDepth 100000 in
theorem fw_155 : (Jvm.Cond.eq (Jvm.Term.elem (Jvm.Term.field (Jvm.Term.string "LedgeEggs$IsleText" (47 : Nat)) "java/lang/String" "value" "[B") (Jvm.Term.int (2 : Int32))) (Jvm.Term.int (105 : Int32))) ∈ flatC giC := List.mem_of_getElem? (i := 155) (by decide +kernel)
set_option maxRecDepth 100000 in
theorem fw_156 : (Jvm.Cond.eq (Jvm.Term.elem (Jvm.Term.field (Jvm.Term.string "LedgeEggs$IsleText" (47 : Nat)) "java/lang/String" "value" "[B") (Jvm.Term.int (3 : Int32))) (Jvm.Term.int (109 : Int32))) ∈ flatC giC := List.mem_of_getElem? (i := 156) (by decide +kernel)
set_option maxRecDepth 100000 in
theorem fw_157 : (Jvm.Cond.eq (Jvm.Term.elem (Jvm.Term.field (Jvm.Term.string "LedgeEggs$IsleText" (47 : Nat)) "java/lang/String" "value" "[B") (Jvm.Term.int (4 : Int32))) (Jvm.Term.int (98 : Int32))) ∈ flatC giC := List.mem_of_getElem? (i := 157) (by decide +kernel)
set_option maxRecDepth 100000 in
theorem fw_158 : (Jvm.Cond.eq (Jvm.Term.elem (Jvm.Term.field (Jvm.Term.string "LedgeEggs$IsleText" (47 : Nat)) "java/lang/String" "value" "[B") (Jvm.Term.int (5 : Int32))) (Jvm.Term.int (101 : Int32))) ∈ flatC giC := List.mem_of_getElem? (i := 158) (by decide +kernel)
set_option maxRecDepth 100000 in
theorem fw_159 : (Jvm.Cond.eq (Jvm.Term.elem (Jvm.Term.field (Jvm.Term.string "LedgeEggs$IsleText" (47 : Nat)) "java/lang/String" "value" "[B") (Jvm.Term.int (6 : Int32))) (Jvm.Term.int (114 : Int32))) ∈ flatC giC := List.mem_of_getElem? (i := 159) (by decide +kernel)
set_option maxRecDepth 100000 in
theorem fw_160 : (Jvm.Cond.exactly (Jvm.Term.string "LedgeEggs$IsleText" (52 : Nat)) "java/lang/String") ∈ flatC giC := List.mem_of_getElem? (i := 160) (by decide +kernel)
set_option maxRecDepth 100000 in
theorem fw_161 : (Jvm.Cond.eq (Jvm.Term.field (Jvm.Term.string "LedgeEggs$IsleText" (52 : Nat)) "java/lang/String" "coder" "B") (Jvm.Term.int (0 : Int32))) ∈ flatC giC := List.mem_of_getElem? (i := 161) (by decide +kernel)
set_option maxRecDepth 100000 in
theorem fw_162 : (Jvm.Cond.arrayOf (Jvm.Term.field (Jvm.Term.string "LedgeEggs$IsleText" (52 : Nat)) "java/lang/String" "value" "[B") Jvm.ClassFile.FieldType.byte) ∈ flatC giC := List.mem_of_getElem? (i := 162) (by decide +kernel)
set_option maxRecDepth 100000 in
theorem fw_163 : (Jvm.Cond.eq (Jvm.Term.length (Jvm.Term.field (Jvm.Term.string "LedgeEggs$IsleText" (52 : Nat)) "java/lang/String" "value" "[B")) (Jvm.Term.int (4 : Int32))) ∈ flatC giC := List.mem_of_getElem? (i := 163) (by decide +kernel)
set_option maxRecDepth 100000 in
theorem fw_164 : (Jvm.Cond.eq (Jvm.Term.elem (Jvm.Term.field (Jvm.Term.string "LedgeEggs$IsleText" (52 : Nat)) "java/lang/String" "value" "[B") (Jvm.Term.int (0 : Int32))) (Jvm.Term.int (103 : Int32))) ∈ flatC giC := List.mem_of_getElem? (i := 164) (by decide +kernel)
set_option maxRecDepth 100000 in
theorem fw_165 : (Jvm.Cond.eq (Jvm.Term.elem (Jvm.Term.field (Jvm.Term.string "LedgeEggs$IsleText" (52 : Nat)) "java/lang/String" "value" "[B") (Jvm.Term.int (1 : Int32))) (Jvm.Term.int (97 : Int32))) ∈ flatC giC := List.mem_of_getElem? (i := 165) (by decide +kernel)
set_option maxRecDepth 100000 in
theorem fw_166 : (Jvm.Cond.eq (Jvm.Term.elem (Jvm.Term.field (Jvm.Term.string "LedgeEggs$IsleText" (52 : Nat)) "java/lang/String" "value" "[B") (Jvm.Term.int (2 : Int32))) (Jvm.Term.int (108 : Int32))) ∈ flatC giC := List.mem_of_getElem? (i := 166) (by decide +kernel)
set_option maxRecDepth 100000 in
theorem fw_167 : (Jvm.Cond.eq (Jvm.Term.elem (Jvm.Term.field (Jvm.Term.string "LedgeEggs$IsleText" (52 : Nat)) "java/lang/String" "value" "[B") (Jvm.Term.int (3 : Int32))) (Jvm.Term.int (101 : Int32))) ∈ flatC giC := List.mem_of_getElem? (i := 167) (by decide +kernel)
set_option maxRecDepth 100000 in
theorem fw_168 : (Jvm.Cond.exactly (Jvm.Term.string "LedgeEggs$IsleText" (58 : Nat)) "java/lang/String") ∈ flatC giC := List.mem_of_getElem? (i := 168) (by decide +kernel)
set_option maxRecDepth 100000 in
theorem fw_169 : (Jvm.Cond.eq (Jvm.Term.field (Jvm.Term.string "LedgeEggs$IsleText" (58 : Nat)) "java/lang/String" "coder" "B") (Jvm.Term.int (0 : Int32))) ∈ flatC giC := List.mem_of_getElem? (i := 169) (by decide +kernel)
set_option maxRecDepth 100000 in
theorem fw_170 : (Jvm.Cond.arrayOf (Jvm.Term.field (Jvm.Term.string "LedgeEggs$IsleText" (58 : Nat)) "java/lang/String" "value" "[B") Jvm.ClassFile.FieldType.byte) ∈ flatC giC := List.mem_of_getElem? (i := 170) (by decide +kernel)
set_option maxRecDepth 100000 in
theorem fw_171 : (Jvm.Cond.eq (Jvm.Term.length (Jvm.Term.field (Jvm.Term.string "LedgeEggs$IsleText" (58 : Nat)) "java/lang/String" "value" "[B")) (Jvm.Term.int (6 : Int32))) ∈ flatC giC := List.mem_of_getElem? (i := 171) (by decide +kernel)
set_option maxRecDepth 100000 in
theorem fw_172 : (Jvm.Cond.eq (Jvm.Term.elem (Jvm.Term.field (Jvm.Term.string "LedgeEggs$IsleText" (58 : Nat)) "java/lang/String" "value" "[B") (Jvm.Term.int (0 : Int32))) (Jvm.Term.int (115 : Int32))) ∈ flatC giC := List.mem_of_getElem? (i := 172) (by decide +kernel)
set_option maxRecDepth 100000 in
theorem fw_173 : (Jvm.Cond.eq (Jvm.Term.elem (Jvm.Term.field (Jvm.Term.string "LedgeEggs$IsleText" (58 : Nat)) "java/lang/String" "value" "[B") (Jvm.Term.int (1 : Int32))) (Jvm.Term.int (116 : Int32))) ∈ flatC giC := List.mem_of_getElem? (i := 173) (by decide +kernel)
set_option maxRecDepth 100000 in
theorem fw_174 : (Jvm.Cond.eq (Jvm.Term.elem (Jvm.Term.field (Jvm.Term.string "LedgeEggs$IsleText" (58 : Nat)) "java/lang/String" "value" "[B") (Jvm.Term.int (2 : Int32))) (Jvm.Term.int (111 : Int32))) ∈ flatC giC := List.mem_of_getElem? (i := 174) (by decide +kernel)
set_option maxRecDepth 100000 in
theorem fw_175 : (Jvm.Cond.eq (Jvm.Term.elem (Jvm.Term.field (Jvm.Term.string "LedgeEggs$IsleText" (58 : Nat)) "java/lang/String" "value" "[B") (Jvm.Term.int (3 : Int32))) (Jvm.Term.int (110 : Int32))) ∈ flatC giC := List.mem_of_getElem? (i := 175) (by decide +kernel)
set_option maxRecDepth 100000 in
theorem fw_176 : (Jvm.Cond.eq (Jvm.Term.elem (Jvm.Term.field (Jvm.Term.string "LedgeEggs$IsleText" (58 : Nat)) "java/lang/String" "value" "[B") (Jvm.Term.int (4 : Int32))) (Jvm.Term.int (101 : Int32))) ∈ flatC giC := List.mem_of_getElem? (i := 176) (by decide +kernel)
set_option maxRecDepth 100000 in
theorem fw_177 : (Jvm.Cond.eq (Jvm.Term.elem (Jvm.Term.field (Jvm.Term.string "LedgeEggs$IsleText" (58 : Nat)) "java/lang/String" "value" "[B") (Jvm.Term.int (5 : Int32))) (Jvm.Term.int (115 : Int32))) ∈ flatC giC := List.mem_of_getElem? (i := 177) (by decide +kernel)
set_option maxRecDepth 100000 in
theorem fw_178 : (Jvm.Cond.exactly (Jvm.Term.string "LedgeEggs$LawText" (49 : Nat)) "java/lang/String") ∈ flatC giC := List.mem_of_getElem? (i := 178) (by decide +kernel)
set_option maxRecDepth 100000 in
theorem fw_179 : (Jvm.Cond.eq (Jvm.Term.field (Jvm.Term.string "LedgeEggs$LawText" (49 : Nat)) "java/lang/String" "coder" "B") (Jvm.Term.int (0 : Int32))) ∈ flatC giC := List.mem_of_getElem? (i := 179) (by decide +kernel)
set_option maxRecDepth 100000 in
theorem fw_180 : (Jvm.Cond.arrayOf (Jvm.Term.field (Jvm.Term.string "LedgeEggs$LawText" (49 : Nat)) "java/lang/String" "value" "[B") Jvm.ClassFile.FieldType.byte) ∈ flatC giC := List.mem_of_getElem? (i := 180) (by decide +kernel)
set_option maxRecDepth 100000 in
theorem fw_181 : (Jvm.Cond.eq (Jvm.Term.length (Jvm.Term.field (Jvm.Term.string "LedgeEggs$LawText" (49 : Nat)) "java/lang/String" "value" "[B")) (Jvm.Term.int (5 : Int32))) ∈ flatC giC := List.mem_of_getElem? (i := 181) (by decide +kernel)
set_option maxRecDepth 100000 in
theorem fw_182 : (Jvm.Cond.eq (Jvm.Term.elem (Jvm.Term.field (Jvm.Term.string "LedgeEggs$LawText" (49 : Nat)) "java/lang/String" "value" "[B") (Jvm.Term.int (0 : Int32))) (Jvm.Term.int (115 : Int32))) ∈ flatC giC := List.mem_of_getElem? (i := 182) (by decide +kernel)
set_option maxRecDepth 100000 in
theorem fw_183 : (Jvm.Cond.eq (Jvm.Term.elem (Jvm.Term.field (Jvm.Term.string "LedgeEggs$LawText" (49 : Nat)) "java/lang/String" "value" "[B") (Jvm.Term.int (1 : Int32))) (Jvm.Term.int (119 : Int32))) ∈ flatC giC := List.mem_of_getElem? (i := 183) (by decide +kernel)
set_option maxRecDepth 100000 in
theorem fw_184 : (Jvm.Cond.eq (Jvm.Term.elem (Jvm.Term.field (Jvm.Term.string "LedgeEggs$LawText" (49 : Nat)) "java/lang/String" "value" "[B") (Jvm.Term.int (2 : Int32))) (Jvm.Term.int (105 : Int32))) ∈ flatC giC := List.mem_of_getElem? (i := 184) (by decide +kernel)
set_option maxRecDepth 100000 in
theorem fw_185 : (Jvm.Cond.eq (Jvm.Term.elem (Jvm.Term.field (Jvm.Term.string "LedgeEggs$LawText" (49 : Nat)) "java/lang/String" "value" "[B") (Jvm.Term.int (3 : Int32))) (Jvm.Term.int (110 : Int32))) ∈ flatC giC := List.mem_of_getElem? (i := 185) (by decide +kernel)
set_option maxRecDepth 100000 in
theorem fw_186 : (Jvm.Cond.eq (Jvm.Term.elem (Jvm.Term.field (Jvm.Term.string "LedgeEggs$LawText" (49 : Nat)) "java/lang/String" "value" "[B") (Jvm.Term.int (4 : Int32))) (Jvm.Term.int (103 : Int32))) ∈ flatC giC := List.mem_of_getElem? (i := 186) (by decide +kernel)
set_option maxRecDepth 100000 in
theorem fw_187 : (Jvm.Cond.exactly (Jvm.Term.string "LedgeEggs$LawText" (51 : Nat)) "java/lang/String") ∈ flatC giC := List.mem_of_getElem? (i := 187) (by decide +kernel)
set_option maxRecDepth 100000 in
theorem fw_188 : (Jvm.Cond.eq (Jvm.Term.field (Jvm.Term.string "LedgeEggs$LawText" (51 : Nat)) "java/lang/String" "coder" "B") (Jvm.Term.int (0 : Int32))) ∈ flatC giC := List.mem_of_getElem? (i := 188) (by decide +kernel)
set_option maxRecDepth 100000 in
theorem fw_189 : (Jvm.Cond.arrayOf (Jvm.Term.field (Jvm.Term.string "LedgeEggs$LawText" (51 : Nat)) "java/lang/String" "value" "[B") Jvm.ClassFile.FieldType.byte) ∈ flatC giC := List.mem_of_getElem? (i := 189) (by decide +kernel)
set_option maxRecDepth 100000 in
theorem fw_190 : (Jvm.Cond.eq (Jvm.Term.length (Jvm.Term.field (Jvm.Term.string "LedgeEggs$LawText" (51 : Nat)) "java/lang/String" "value" "[B")) (Jvm.Term.int (4 : Int32))) ∈ flatC giC := List.mem_of_getElem? (i := 190) (by decide +kernel)
set_option maxRecDepth 100000 in
theorem fw_191 : (Jvm.Cond.eq (Jvm.Term.elem (Jvm.Term.field (Jvm.Term.string "LedgeEggs$LawText" (51 : Nat)) "java/lang/String" "value" "[B") (Jvm.Term.int (0 : Int32))) (Jvm.Term.int (119 : Int32))) ∈ flatC giC := List.mem_of_getElem? (i := 191) (by decide +kernel)
set_option maxRecDepth 100000 in
theorem fw_192 : (Jvm.Cond.eq (Jvm.Term.elem (Jvm.Term.field (Jvm.Term.string "LedgeEggs$LawText" (51 : Nat)) "java/lang/String" "value" "[B") (Jvm.Term.int (1 : Int32))) (Jvm.Term.int (101 : Int32))) ∈ flatC giC := List.mem_of_getElem? (i := 192) (by decide +kernel)
set_option maxRecDepth 100000 in
theorem fw_193 : (Jvm.Cond.eq (Jvm.Term.elem (Jvm.Term.field (Jvm.Term.string "LedgeEggs$LawText" (51 : Nat)) "java/lang/String" "value" "[B") (Jvm.Term.int (2 : Int32))) (Jvm.Term.int (97 : Int32))) ∈ flatC giC := List.mem_of_getElem? (i := 193) (by decide +kernel)
set_option maxRecDepth 100000 in
theorem fw_194 : (Jvm.Cond.eq (Jvm.Term.elem (Jvm.Term.field (Jvm.Term.string "LedgeEggs$LawText" (51 : Nat)) "java/lang/String" "value" "[B") (Jvm.Term.int (3 : Int32))) (Jvm.Term.int (114 : Int32))) ∈ flatC giC := List.mem_of_getElem? (i := 194) (by decide +kernel)
set_option maxRecDepth 100000 in
theorem fw_195 : (Jvm.Cond.exactly (Jvm.Term.string "LedgeEggs$LawText" (53 : Nat)) "java/lang/String") ∈ flatC giC := List.mem_of_getElem? (i := 195) (by decide +kernel)
set_option maxRecDepth 100000 in
theorem fw_196 : (Jvm.Cond.eq (Jvm.Term.field (Jvm.Term.string "LedgeEggs$LawText" (53 : Nat)) "java/lang/String" "coder" "B") (Jvm.Term.int (0 : Int32))) ∈ flatC giC := List.mem_of_getElem? (i := 196) (by decide +kernel)
set_option maxRecDepth 100000 in
theorem fw_197 : (Jvm.Cond.arrayOf (Jvm.Term.field (Jvm.Term.string "LedgeEggs$LawText" (53 : Nat)) "java/lang/String" "value" "[B") Jvm.ClassFile.FieldType.byte) ∈ flatC giC := List.mem_of_getElem? (i := 197) (by decide +kernel)
set_option maxRecDepth 100000 in
theorem fw_198 : (Jvm.Cond.eq (Jvm.Term.length (Jvm.Term.field (Jvm.Term.string "LedgeEggs$LawText" (53 : Nat)) "java/lang/String" "value" "[B")) (Jvm.Term.int (3 : Int32))) ∈ flatC giC := List.mem_of_getElem? (i := 198) (by decide +kernel)
set_option maxRecDepth 100000 in
theorem fw_199 : (Jvm.Cond.eq (Jvm.Term.elem (Jvm.Term.field (Jvm.Term.string "LedgeEggs$LawText" (53 : Nat)) "java/lang/String" "value" "[B") (Jvm.Term.int (0 : Int32))) (Jvm.Term.int (108 : Int32))) ∈ flatC giC := List.mem_of_getElem? (i := 199) (by decide +kernel)
set_option maxRecDepth 100000 in
theorem fw_200 : (Jvm.Cond.eq (Jvm.Term.elem (Jvm.Term.field (Jvm.Term.string "LedgeEggs$LawText" (53 : Nat)) "java/lang/String" "value" "[B") (Jvm.Term.int (1 : Int32))) (Jvm.Term.int (97 : Int32))) ∈ flatC giC := List.mem_of_getElem? (i := 200) (by decide +kernel)
set_option maxRecDepth 100000 in
theorem fw_201 : (Jvm.Cond.eq (Jvm.Term.elem (Jvm.Term.field (Jvm.Term.string "LedgeEggs$LawText" (53 : Nat)) "java/lang/String" "value" "[B") (Jvm.Term.int (2 : Int32))) (Jvm.Term.int (121 : Int32))) ∈ flatC giC := List.mem_of_getElem? (i := 201) (by decide +kernel)
set_option maxRecDepth 100000 in
theorem fw_202 : (Jvm.Cond.exactly (Jvm.Term.string "LedgeEggs$LawText" (33 : Nat)) "java/lang/String") ∈ flatC giC := List.mem_of_getElem? (i := 202) (by decide +kernel)
set_option maxRecDepth 100000 in
theorem fw_203 : (Jvm.Cond.eq (Jvm.Term.field (Jvm.Term.string "LedgeEggs$LawText" (33 : Nat)) "java/lang/String" "coder" "B") (Jvm.Term.int (0 : Int32))) ∈ flatC giC := List.mem_of_getElem? (i := 203) (by decide +kernel)
set_option maxRecDepth 100000 in
theorem fw_204 : (Jvm.Cond.arrayOf (Jvm.Term.field (Jvm.Term.string "LedgeEggs$LawText" (33 : Nat)) "java/lang/String" "value" "[B") Jvm.ClassFile.FieldType.byte) ∈ flatC giC := List.mem_of_getElem? (i := 204) (by decide +kernel)
set_option maxRecDepth 100000 in
theorem fw_205 : (Jvm.Cond.eq (Jvm.Term.length (Jvm.Term.field (Jvm.Term.string "LedgeEggs$LawText" (33 : Nat)) "java/lang/String" "value" "[B")) (Jvm.Term.int (2 : Int32))) ∈ flatC giC := List.mem_of_getElem? (i := 205) (by decide +kernel)
set_option maxRecDepth 100000 in
theorem fw_206 : (Jvm.Cond.eq (Jvm.Term.elem (Jvm.Term.field (Jvm.Term.string "LedgeEggs$LawText" (33 : Nat)) "java/lang/String" "value" "[B") (Jvm.Term.int (0 : Int32))) (Jvm.Term.int (105 : Int32))) ∈ flatC giC := List.mem_of_getElem? (i := 206) (by decide +kernel)
set_option maxRecDepth 100000 in
theorem fw_207 : (Jvm.Cond.eq (Jvm.Term.elem (Jvm.Term.field (Jvm.Term.string "LedgeEggs$LawText" (33 : Nat)) "java/lang/String" "value" "[B") (Jvm.Term.int (1 : Int32))) (Jvm.Term.int (102 : Int32))) ∈ flatC giC := List.mem_of_getElem? (i := 207) (by decide +kernel)
set_option maxRecDepth 100000 in
theorem fw_208 : (Jvm.Cond.exactly (Jvm.Term.string "LedgeEggs$LawText" (66 : Nat)) "java/lang/String") ∈ flatC giC := List.mem_of_getElem? (i := 208) (by decide +kernel)
set_option maxRecDepth 100000 in
theorem fw_209 : (Jvm.Cond.eq (Jvm.Term.field (Jvm.Term.string "LedgeEggs$LawText" (66 : Nat)) "java/lang/String" "coder" "B") (Jvm.Term.int (0 : Int32))) ∈ flatC giC := List.mem_of_getElem? (i := 209) (by decide +kernel)
set_option maxRecDepth 100000 in
theorem fw_210 : (Jvm.Cond.arrayOf (Jvm.Term.field (Jvm.Term.string "LedgeEggs$LawText" (66 : Nat)) "java/lang/String" "value" "[B") Jvm.ClassFile.FieldType.byte) ∈ flatC giC := List.mem_of_getElem? (i := 210) (by decide +kernel)
set_option maxRecDepth 100000 in
theorem fw_211 : (Jvm.Cond.eq (Jvm.Term.length (Jvm.Term.field (Jvm.Term.string "LedgeEggs$LawText" (66 : Nat)) "java/lang/String" "value" "[B")) (Jvm.Term.int (3 : Int32))) ∈ flatC giC := List.mem_of_getElem? (i := 211) (by decide +kernel)
set_option maxRecDepth 100000 in
theorem fw_212 : (Jvm.Cond.eq (Jvm.Term.elem (Jvm.Term.field (Jvm.Term.string "LedgeEggs$LawText" (66 : Nat)) "java/lang/String" "value" "[B") (Jvm.Term.int (0 : Int32))) (Jvm.Term.int (110 : Int32))) ∈ flatC giC := List.mem_of_getElem? (i := 212) (by decide +kernel)
set_option maxRecDepth 100000 in
theorem fw_213 : (Jvm.Cond.eq (Jvm.Term.elem (Jvm.Term.field (Jvm.Term.string "LedgeEggs$LawText" (66 : Nat)) "java/lang/String" "value" "[B") (Jvm.Term.int (1 : Int32))) (Jvm.Term.int (111 : Int32))) ∈ flatC giC := List.mem_of_getElem? (i := 213) (by decide +kernel)
set_option maxRecDepth 100000 in
theorem fw_214 : (Jvm.Cond.eq (Jvm.Term.elem (Jvm.Term.field (Jvm.Term.string "LedgeEggs$LawText" (66 : Nat)) "java/lang/String" "value" "[B") (Jvm.Term.int (2 : Int32))) (Jvm.Term.int (116 : Int32))) ∈ flatC giC := List.mem_of_getElem? (i := 214) (by decide +kernel)
set_option maxRecDepth 100000 in
theorem fw_215 : (Jvm.Cond.exactly (Jvm.Term.string "LedgeEggs$LawText" (72 : Nat)) "java/lang/String") ∈ flatC giC := List.mem_of_getElem? (i := 215) (by decide +kernel)
set_option maxRecDepth 100000 in
theorem fw_216 : (Jvm.Cond.eq (Jvm.Term.field (Jvm.Term.string "LedgeEggs$LawText" (72 : Nat)) "java/lang/String" "coder" "B") (Jvm.Term.int (0 : Int32))) ∈ flatC giC := List.mem_of_getElem? (i := 216) (by decide +kernel)
set_option maxRecDepth 100000 in
theorem fw_217 : (Jvm.Cond.arrayOf (Jvm.Term.field (Jvm.Term.string "LedgeEggs$LawText" (72 : Nat)) "java/lang/String" "value" "[B") Jvm.ClassFile.FieldType.byte) ∈ flatC giC := List.mem_of_getElem? (i := 217) (by decide +kernel)
set_option maxRecDepth 100000 in
theorem fw_218 : (Jvm.Cond.eq (Jvm.Term.length (Jvm.Term.field (Jvm.Term.string "LedgeEggs$LawText" (72 : Nat)) "java/lang/String" "value" "[B")) (Jvm.Term.int (5 : Int32))) ∈ flatC giC := List.mem_of_getElem? (i := 218) (by decide +kernel)
set_option maxRecDepth 100000 in
theorem fw_219 : (Jvm.Cond.eq (Jvm.Term.elem (Jvm.Term.field (Jvm.Term.string "LedgeEggs$LawText" (72 : Nat)) "java/lang/String" "value" "[B") (Jvm.Term.int (0 : Int32))) (Jvm.Term.int (102 : Int32))) ∈ flatC giC := List.mem_of_getElem? (i := 219) (by decide +kernel)
set_option maxRecDepth 100000 in
theorem fw_220 : (Jvm.Cond.eq (Jvm.Term.elem (Jvm.Term.field (Jvm.Term.string "LedgeEggs$LawText" (72 : Nat)) "java/lang/String" "value" "[B") (Jvm.Term.int (1 : Int32))) (Jvm.Term.int (114 : Int32))) ∈ flatC giC := List.mem_of_getElem? (i := 220) (by decide +kernel)
set_option maxRecDepth 100000 in
theorem fw_221 : (Jvm.Cond.eq (Jvm.Term.elem (Jvm.Term.field (Jvm.Term.string "LedgeEggs$LawText" (72 : Nat)) "java/lang/String" "value" "[B") (Jvm.Term.int (2 : Int32))) (Jvm.Term.int (101 : Int32))) ∈ flatC giC := List.mem_of_getElem? (i := 221) (by decide +kernel)
set_option maxRecDepth 100000 in
theorem fw_222 : (Jvm.Cond.eq (Jvm.Term.elem (Jvm.Term.field (Jvm.Term.string "LedgeEggs$LawText" (72 : Nat)) "java/lang/String" "value" "[B") (Jvm.Term.int (3 : Int32))) (Jvm.Term.int (115 : Int32))) ∈ flatC giC := List.mem_of_getElem? (i := 222) (by decide +kernel)
set_option maxRecDepth 100000 in
theorem fw_223 : (Jvm.Cond.eq (Jvm.Term.elem (Jvm.Term.field (Jvm.Term.string "LedgeEggs$LawText" (72 : Nat)) "java/lang/String" "value" "[B") (Jvm.Term.int (4 : Int32))) (Jvm.Term.int (104 : Int32))) ∈ flatC giC := List.mem_of_getElem? (i := 223) (by decide +kernel)
set_option maxRecDepth 100000 in
theorem fw_224 : (Jvm.Cond.exactly (Jvm.Term.string "LedgeEggs$LawText" (84 : Nat)) "java/lang/String") ∈ flatC giC := List.mem_of_getElem? (i := 224) (by decide +kernel)
set_option maxRecDepth 100000 in
theorem fw_225 : (Jvm.Cond.eq (Jvm.Term.field (Jvm.Term.string "LedgeEggs$LawText" (84 : Nat)) "java/lang/String" "coder" "B") (Jvm.Term.int (0 : Int32))) ∈ flatC giC := List.mem_of_getElem? (i := 225) (by decide +kernel)
set_option maxRecDepth 100000 in
theorem fw_226 : (Jvm.Cond.arrayOf (Jvm.Term.field (Jvm.Term.string "LedgeEggs$LawText" (84 : Nat)) "java/lang/String" "value" "[B") Jvm.ClassFile.FieldType.byte) ∈ flatC giC := List.mem_of_getElem? (i := 226) (by decide +kernel)
set_option maxRecDepth 100000 in
theorem fw_227 : (Jvm.Cond.eq (Jvm.Term.length (Jvm.Term.field (Jvm.Term.string "LedgeEggs$LawText" (84 : Nat)) "java/lang/String" "value" "[B")) (Jvm.Term.int (6 : Int32))) ∈ flatC giC := List.mem_of_getElem? (i := 227) (by decide +kernel)
set_option maxRecDepth 100000 in
theorem fw_228 : (Jvm.Cond.eq (Jvm.Term.elem (Jvm.Term.field (Jvm.Term.string "LedgeEggs$LawText" (84 : Nat)) "java/lang/String" "value" "[B") (Jvm.Term.int (0 : Int32))) (Jvm.Term.int (102 : Int32))) ∈ flatC giC := List.mem_of_getElem? (i := 228) (by decide +kernel)
set_option maxRecDepth 100000 in
theorem fw_229 : (Jvm.Cond.eq (Jvm.Term.elem (Jvm.Term.field (Jvm.Term.string "LedgeEggs$LawText" (84 : Nat)) "java/lang/String" "value" "[B") (Jvm.Term.int (1 : Int32))) (Jvm.Term.int (97 : Int32))) ∈ flatC giC := List.mem_of_getElem? (i := 229) (by decide +kernel)
set_option maxRecDepth 100000 in
theorem fw_230 : (Jvm.Cond.eq (Jvm.Term.elem (Jvm.Term.field (Jvm.Term.string "LedgeEggs$LawText" (84 : Nat)) "java/lang/String" "value" "[B") (Jvm.Term.int (2 : Int32))) (Jvm.Term.int (116 : Int32))) ∈ flatC giC := List.mem_of_getElem? (i := 230) (by decide +kernel)
set_option maxRecDepth 100000 in
theorem fw_231 : (Jvm.Cond.eq (Jvm.Term.elem (Jvm.Term.field (Jvm.Term.string "LedgeEggs$LawText" (84 : Nat)) "java/lang/String" "value" "[B") (Jvm.Term.int (3 : Int32))) (Jvm.Term.int (104 : Int32))) ∈ flatC giC := List.mem_of_getElem? (i := 231) (by decide +kernel)
set_option maxRecDepth 100000 in
theorem fw_232 : (Jvm.Cond.eq (Jvm.Term.elem (Jvm.Term.field (Jvm.Term.string "LedgeEggs$LawText" (84 : Nat)) "java/lang/String" "value" "[B") (Jvm.Term.int (4 : Int32))) (Jvm.Term.int (111 : Int32))) ∈ flatC giC := List.mem_of_getElem? (i := 232) (by decide +kernel)
set_option maxRecDepth 100000 in
theorem fw_233 : (Jvm.Cond.eq (Jvm.Term.elem (Jvm.Term.field (Jvm.Term.string "LedgeEggs$LawText" (84 : Nat)) "java/lang/String" "value" "[B") (Jvm.Term.int (5 : Int32))) (Jvm.Term.int (109 : Int32))) ∈ flatC giC := List.mem_of_getElem? (i := 233) (by decide +kernel)
set_option maxRecDepth 100000 in
theorem fw_270 : (Jvm.Cond.exactly (Jvm.Term.string "LedgeEggs$LawText" (94 : Nat)) "java/lang/String") ∈ flatC giC := List.mem_of_getElem? (i := 270) (by decide +kernel)
set_option maxRecDepth 100000 in
theorem fw_271 : (Jvm.Cond.eq (Jvm.Term.field (Jvm.Term.string "LedgeEggs$LawText" (94 : Nat)) "java/lang/String" "coder" "B") (Jvm.Term.int (0 : Int32))) ∈ flatC giC := List.mem_of_getElem? (i := 271) (by decide +kernel)
set_option maxRecDepth 100000 in
theorem fw_272 : (Jvm.Cond.arrayOf (Jvm.Term.field (Jvm.Term.string "LedgeEggs$LawText" (94 : Nat)) "java/lang/String" "value" "[B") Jvm.ClassFile.FieldType.byte) ∈ flatC giC := List.mem_of_getElem? (i := 272) (by decide +kernel)
set_option maxRecDepth 100000 in
theorem fw_273 : (Jvm.Cond.eq (Jvm.Term.length (Jvm.Term.field (Jvm.Term.string "LedgeEggs$LawText" (94 : Nat)) "java/lang/String" "value" "[B")) (Jvm.Term.int (4 : Int32))) ∈ flatC giC := List.mem_of_getElem? (i := 273) (by decide +kernel)
set_option maxRecDepth 100000 in
theorem fw_274 : (Jvm.Cond.eq (Jvm.Term.elem (Jvm.Term.field (Jvm.Term.string "LedgeEggs$LawText" (94 : Nat)) "java/lang/String" "value" "[B") (Jvm.Term.int (0 : Int32))) (Jvm.Term.int (107 : Int32))) ∈ flatC giC := List.mem_of_getElem? (i := 274) (by decide +kernel)
set_option maxRecDepth 100000 in
theorem fw_275 : (Jvm.Cond.eq (Jvm.Term.elem (Jvm.Term.field (Jvm.Term.string "LedgeEggs$LawText" (94 : Nat)) "java/lang/String" "value" "[B") (Jvm.Term.int (1 : Int32))) (Jvm.Term.int (105 : Int32))) ∈ flatC giC := List.mem_of_getElem? (i := 275) (by decide +kernel)
set_option maxRecDepth 100000 in
theorem fw_276 : (Jvm.Cond.eq (Jvm.Term.elem (Jvm.Term.field (Jvm.Term.string "LedgeEggs$LawText" (94 : Nat)) "java/lang/String" "value" "[B") (Jvm.Term.int (2 : Int32))) (Jvm.Term.int (99 : Int32))) ∈ flatC giC := List.mem_of_getElem? (i := 276) (by decide +kernel)
set_option maxRecDepth 100000 in
theorem fw_277 : (Jvm.Cond.eq (Jvm.Term.elem (Jvm.Term.field (Jvm.Term.string "LedgeEggs$LawText" (94 : Nat)) "java/lang/String" "value" "[B") (Jvm.Term.int (3 : Int32))) (Jvm.Term.int (107 : Int32))) ∈ flatC giC := List.mem_of_getElem? (i := 277) (by decide +kernel)
set_option maxRecDepth 100000 in
theorem fw_278 : (Jvm.Cond.exactly (Jvm.Term.string "LedgeEggs$LawText" (96 : Nat)) "java/lang/String") ∈ flatC giC := List.mem_of_getElem? (i := 278) (by decide +kernel)
set_option maxRecDepth 100000 in
theorem fw_279 : (Jvm.Cond.eq (Jvm.Term.field (Jvm.Term.string "LedgeEggs$LawText" (96 : Nat)) "java/lang/String" "coder" "B") (Jvm.Term.int (0 : Int32))) ∈ flatC giC := List.mem_of_getElem? (i := 279) (by decide +kernel)
set_option maxRecDepth 100000 in
theorem fw_280 : (Jvm.Cond.arrayOf (Jvm.Term.field (Jvm.Term.string "LedgeEggs$LawText" (96 : Nat)) "java/lang/String" "value" "[B") Jvm.ClassFile.FieldType.byte) ∈ flatC giC := List.mem_of_getElem? (i := 280) (by decide +kernel)
set_option maxRecDepth 100000 in
theorem fw_281 : (Jvm.Cond.eq (Jvm.Term.length (Jvm.Term.field (Jvm.Term.string "LedgeEggs$LawText" (96 : Nat)) "java/lang/String" "value" "[B")) (Jvm.Term.int (4 : Int32))) ∈ flatC giC := List.mem_of_getElem? (i := 281) (by decide +kernel)
set_option maxRecDepth 100000 in
theorem fw_282 : (Jvm.Cond.eq (Jvm.Term.elem (Jvm.Term.field (Jvm.Term.string "LedgeEggs$LawText" (96 : Nat)) "java/lang/String" "value" "[B") (Jvm.Term.int (0 : Int32))) (Jvm.Term.int (119 : Int32))) ∈ flatC giC := List.mem_of_getElem? (i := 282) (by decide +kernel)
set_option maxRecDepth 100000 in
theorem fw_283 : (Jvm.Cond.eq (Jvm.Term.elem (Jvm.Term.field (Jvm.Term.string "LedgeEggs$LawText" (96 : Nat)) "java/lang/String" "value" "[B") (Jvm.Term.int (1 : Int32))) (Jvm.Term.int (105 : Int32))) ∈ flatC giC := List.mem_of_getElem? (i := 283) (by decide +kernel)
set_option maxRecDepth 100000 in
theorem fw_284 : (Jvm.Cond.eq (Jvm.Term.elem (Jvm.Term.field (Jvm.Term.string "LedgeEggs$LawText" (96 : Nat)) "java/lang/String" "value" "[B") (Jvm.Term.int (2 : Int32))) (Jvm.Term.int (110 : Int32))) ∈ flatC giC := List.mem_of_getElem? (i := 284) (by decide +kernel)
set_option maxRecDepth 100000 in
theorem fw_285 : (Jvm.Cond.eq (Jvm.Term.elem (Jvm.Term.field (Jvm.Term.string "LedgeEggs$LawText" (96 : Nat)) "java/lang/String" "value" "[B") (Jvm.Term.int (3 : Int32))) (Jvm.Term.int (100 : Int32))) ∈ flatC giC := List.mem_of_getElem? (i := 285) (by decide +kernel)
set_option maxRecDepth 100000 in
theorem fw_286 : (Jvm.Cond.exactly (Jvm.Term.string "LedgeEggs$LawText" (98 : Nat)) "java/lang/String") ∈ flatC giC := List.mem_of_getElem? (i := 286) (by decide +kernel)
set_option maxRecDepth 100000 in
theorem fw_287 : (Jvm.Cond.eq (Jvm.Term.field (Jvm.Term.string "LedgeEggs$LawText" (98 : Nat)) "java/lang/String" "coder" "B") (Jvm.Term.int (0 : Int32))) ∈ flatC giC := List.mem_of_getElem? (i := 287) (by decide +kernel)
set_option maxRecDepth 100000 in
theorem fw_288 : (Jvm.Cond.arrayOf (Jvm.Term.field (Jvm.Term.string "LedgeEggs$LawText" (98 : Nat)) "java/lang/String" "value" "[B") Jvm.ClassFile.FieldType.byte) ∈ flatC giC := List.mem_of_getElem? (i := 288) (by decide +kernel)
set_option maxRecDepth 100000 in
theorem fw_289 : (Jvm.Cond.eq (Jvm.Term.length (Jvm.Term.field (Jvm.Term.string "LedgeEggs$LawText" (98 : Nat)) "java/lang/String" "value" "[B")) (Jvm.Term.int (3 : Int32))) ∈ flatC giC := List.mem_of_getElem? (i := 289) (by decide +kernel)
set_option maxRecDepth 100000 in
theorem fw_290 : (Jvm.Cond.eq (Jvm.Term.elem (Jvm.Term.field (Jvm.Term.string "LedgeEggs$LawText" (98 : Nat)) "java/lang/String" "value" "[B") (Jvm.Term.int (0 : Int32))) (Jvm.Term.int (100 : Int32))) ∈ flatC giC := List.mem_of_getElem? (i := 290) (by decide +kernel)
set_option maxRecDepth 100000 in
theorem fw_291 : (Jvm.Cond.eq (Jvm.Term.elem (Jvm.Term.field (Jvm.Term.string "LedgeEggs$LawText" (98 : Nat)) "java/lang/String" "value" "[B") (Jvm.Term.int (1 : Int32))) (Jvm.Term.int (97 : Int32))) ∈ flatC giC := List.mem_of_getElem? (i := 291) (by decide +kernel)
set_option maxRecDepth 100000 in
theorem fw_292 : (Jvm.Cond.eq (Jvm.Term.elem (Jvm.Term.field (Jvm.Term.string "LedgeEggs$LawText" (98 : Nat)) "java/lang/String" "value" "[B") (Jvm.Term.int (2 : Int32))) (Jvm.Term.int (121 : Int32))) ∈ flatC giC := List.mem_of_getElem? (i := 292) (by decide +kernel)
set_option maxRecDepth 100000 in
theorem fw_293 : (Jvm.Cond.exactly (Jvm.Term.string "LedgeEggs$LawText" (58 : Nat)) "java/lang/String") ∈ flatC giC := List.mem_of_getElem? (i := 293) (by decide +kernel)
set_option maxRecDepth 100000 in
theorem fw_294 : (Jvm.Cond.eq (Jvm.Term.field (Jvm.Term.string "LedgeEggs$LawText" (58 : Nat)) "java/lang/String" "coder" "B") (Jvm.Term.int (0 : Int32))) ∈ flatC giC := List.mem_of_getElem? (i := 294) (by decide +kernel)
set_option maxRecDepth 100000 in
theorem fw_295 : (Jvm.Cond.arrayOf (Jvm.Term.field (Jvm.Term.string "LedgeEggs$LawText" (58 : Nat)) "java/lang/String" "value" "[B") Jvm.ClassFile.FieldType.byte) ∈ flatC giC := List.mem_of_getElem? (i := 295) (by decide +kernel)
set_option maxRecDepth 100000 in
theorem fw_296 : (Jvm.Cond.eq (Jvm.Term.length (Jvm.Term.field (Jvm.Term.string "LedgeEggs$LawText" (58 : Nat)) "java/lang/String" "value" "[B")) (Jvm.Term.int (3 : Int32))) ∈ flatC giC := List.mem_of_getElem? (i := 296) (by decide +kernel)
set_option maxRecDepth 100000 in
theorem fw_297 : (Jvm.Cond.eq (Jvm.Term.elem (Jvm.Term.field (Jvm.Term.string "LedgeEggs$LawText" (58 : Nat)) "java/lang/String" "value" "[B") (Jvm.Term.int (0 : Int32))) (Jvm.Term.int (97 : Int32))) ∈ flatC giC := List.mem_of_getElem? (i := 297) (by decide +kernel)
set_option maxRecDepth 100000 in
theorem fw_298 : (Jvm.Cond.eq (Jvm.Term.elem (Jvm.Term.field (Jvm.Term.string "LedgeEggs$LawText" (58 : Nat)) "java/lang/String" "value" "[B") (Jvm.Term.int (1 : Int32))) (Jvm.Term.int (110 : Int32))) ∈ flatC giC := List.mem_of_getElem? (i := 298) (by decide +kernel)
set_option maxRecDepth 100000 in
theorem fw_299 : (Jvm.Cond.eq (Jvm.Term.elem (Jvm.Term.field (Jvm.Term.string "LedgeEggs$LawText" (58 : Nat)) "java/lang/String" "value" "[B") (Jvm.Term.int (2 : Int32))) (Jvm.Term.int (100 : Int32))) ∈ flatC giC := List.mem_of_getElem? (i := 299) (by decide +kernel)
set_option maxRecDepth 100000 in
theorem fw_300 : (Jvm.Cond.exactly (Jvm.Term.string "LedgeEggs$LawText" (64 : Nat)) "java/lang/String") ∈ flatC giC := List.mem_of_getElem? (i := 300) (by decide +kernel)
set_option maxRecDepth 100000 in
theorem fw_301 : (Jvm.Cond.eq (Jvm.Term.field (Jvm.Term.string "LedgeEggs$LawText" (64 : Nat)) "java/lang/String" "coder" "B") (Jvm.Term.int (0 : Int32))) ∈ flatC giC := List.mem_of_getElem? (i := 301) (by decide +kernel)
set_option maxRecDepth 100000 in
theorem fw_302 : (Jvm.Cond.arrayOf (Jvm.Term.field (Jvm.Term.string "LedgeEggs$LawText" (64 : Nat)) "java/lang/String" "value" "[B") Jvm.ClassFile.FieldType.byte) ∈ flatC giC := List.mem_of_getElem? (i := 302) (by decide +kernel)
set_option maxRecDepth 100000 in
theorem fw_303 : (Jvm.Cond.eq (Jvm.Term.length (Jvm.Term.field (Jvm.Term.string "LedgeEggs$LawText" (64 : Nat)) "java/lang/String" "value" "[B")) (Jvm.Term.int (2 : Int32))) ∈ flatC giC := List.mem_of_getElem? (i := 303) (by decide +kernel)
set_option maxRecDepth 100000 in
theorem fw_304 : (Jvm.Cond.eq (Jvm.Term.elem (Jvm.Term.field (Jvm.Term.string "LedgeEggs$LawText" (64 : Nat)) "java/lang/String" "value" "[B") (Jvm.Term.int (0 : Int32))) (Jvm.Term.int (111 : Int32))) ∈ flatC giC := List.mem_of_getElem? (i := 304) (by decide +kernel)
set_option maxRecDepth 100000 in
theorem fw_305 : (Jvm.Cond.eq (Jvm.Term.elem (Jvm.Term.field (Jvm.Term.string "LedgeEggs$LawText" (64 : Nat)) "java/lang/String" "value" "[B") (Jvm.Term.int (1 : Int32))) (Jvm.Term.int (114 : Int32))) ∈ flatC giC := List.mem_of_getElem? (i := 305) (by decide +kernel)
set_option maxRecDepth 100000 in
theorem fw_306 : (Jvm.Cond.exactly (Jvm.Term.string "LedgeEggs" (110 : Nat)) "java/lang/String") ∈ flatC giC := List.mem_of_getElem? (i := 306) (by decide +kernel)
set_option maxRecDepth 100000 in
theorem fw_307 : (Jvm.Cond.eq (Jvm.Term.field (Jvm.Term.string "LedgeEggs" (110 : Nat)) "java/lang/String" "coder" "B") (Jvm.Term.int (0 : Int32))) ∈ flatC giC := List.mem_of_getElem? (i := 307) (by decide +kernel)
set_option maxRecDepth 100000 in
theorem fw_308 : (Jvm.Cond.arrayOf (Jvm.Term.field (Jvm.Term.string "LedgeEggs" (110 : Nat)) "java/lang/String" "value" "[B") Jvm.ClassFile.FieldType.byte) ∈ flatC giC := List.mem_of_getElem? (i := 308) (by decide +kernel)
set_option maxRecDepth 100000 in
theorem fw_309 : (Jvm.Cond.eq (Jvm.Term.length (Jvm.Term.field (Jvm.Term.string "LedgeEggs" (110 : Nat)) "java/lang/String" "value" "[B")) (Jvm.Term.int (17 : Int32))) ∈ flatC giC := List.mem_of_getElem? (i := 309) (by decide +kernel)
set_option maxRecDepth 100000 in
theorem fw_310 : (Jvm.Cond.eq (Jvm.Term.elem (Jvm.Term.field (Jvm.Term.string "LedgeEggs" (110 : Nat)) "java/lang/String" "value" "[B") (Jvm.Term.int (0 : Int32))) (Jvm.Term.int (116 : Int32))) ∈ flatC giC := List.mem_of_getElem? (i := 310) (by decide +kernel)
set_option maxRecDepth 100000 in
theorem fw_311 : (Jvm.Cond.eq (Jvm.Term.elem (Jvm.Term.field (Jvm.Term.string "LedgeEggs" (110 : Nat)) "java/lang/String" "value" "[B") (Jvm.Term.int (1 : Int32))) (Jvm.Term.int (104 : Int32))) ∈ flatC giC := List.mem_of_getElem? (i := 311) (by decide +kernel)
set_option maxRecDepth 100000 in
theorem fw_312 : (Jvm.Cond.eq (Jvm.Term.elem (Jvm.Term.field (Jvm.Term.string "LedgeEggs" (110 : Nat)) "java/lang/String" "value" "[B") (Jvm.Term.int (2 : Int32))) (Jvm.Term.int (101 : Int32))) ∈ flatC giC := List.mem_of_getElem? (i := 312) (by decide +kernel)
set_option maxRecDepth 100000 in
theorem fw_313 : (Jvm.Cond.eq (Jvm.Term.elem (Jvm.Term.field (Jvm.Term.string "LedgeEggs" (110 : Nat)) "java/lang/String" "value" "[B") (Jvm.Term.int (3 : Int32))) (Jvm.Term.int (32 : Int32))) ∈ flatC giC := List.mem_of_getElem? (i := 313) (by decide +kernel)
set_option maxRecDepth 100000 in
theorem fw_314 : (Jvm.Cond.eq (Jvm.Term.elem (Jvm.Term.field (Jvm.Term.string "LedgeEggs" (110 : Nat)) "java/lang/String" "value" "[B") (Jvm.Term.int (4 : Int32))) (Jvm.Term.int (116 : Int32))) ∈ flatC giC := List.mem_of_getElem? (i := 314) (by decide +kernel)
set_option maxRecDepth 100000 in
theorem fw_315 : (Jvm.Cond.eq (Jvm.Term.elem (Jvm.Term.field (Jvm.Term.string "LedgeEggs" (110 : Nat)) "java/lang/String" "value" "[B") (Jvm.Term.int (5 : Int32))) (Jvm.Term.int (101 : Int32))) ∈ flatC giC := List.mem_of_getElem? (i := 315) (by decide +kernel)
set_option maxRecDepth 100000 in
theorem fw_316 : (Jvm.Cond.eq (Jvm.Term.elem (Jvm.Term.field (Jvm.Term.string "LedgeEggs" (110 : Nat)) "java/lang/String" "value" "[B") (Jvm.Term.int (6 : Int32))) (Jvm.Term.int (120 : Int32))) ∈ flatC giC := List.mem_of_getElem? (i := 316) (by decide +kernel)
set_option maxRecDepth 100000 in
theorem fw_317 : (Jvm.Cond.eq (Jvm.Term.elem (Jvm.Term.field (Jvm.Term.string "LedgeEggs" (110 : Nat)) "java/lang/String" "value" "[B") (Jvm.Term.int (7 : Int32))) (Jvm.Term.int (116 : Int32))) ∈ flatC giC := List.mem_of_getElem? (i := 317) (by decide +kernel)
set_option maxRecDepth 100000 in
theorem fw_318 : (Jvm.Cond.eq (Jvm.Term.elem (Jvm.Term.field (Jvm.Term.string "LedgeEggs" (110 : Nat)) "java/lang/String" "value" "[B") (Jvm.Term.int (8 : Int32))) (Jvm.Term.int (32 : Int32))) ∈ flatC giC := List.mem_of_getElem? (i := 318) (by decide +kernel)
set_option maxRecDepth 100000 in
theorem fw_319 : (Jvm.Cond.eq (Jvm.Term.elem (Jvm.Term.field (Jvm.Term.string "LedgeEggs" (110 : Nat)) "java/lang/String" "value" "[B") (Jvm.Term.int (9 : Int32))) (Jvm.Term.int (105 : Int32))) ∈ flatC giC := List.mem_of_getElem? (i := 319) (by decide +kernel)
set_option maxRecDepth 100000 in
theorem fw_320 : (Jvm.Cond.eq (Jvm.Term.elem (Jvm.Term.field (Jvm.Term.string "LedgeEggs" (110 : Nat)) "java/lang/String" "value" "[B") (Jvm.Term.int (10 : Int32))) (Jvm.Term.int (115 : Int32))) ∈ flatC giC := List.mem_of_getElem? (i := 320) (by decide +kernel)
set_option maxRecDepth 100000 in
theorem fw_321 : (Jvm.Cond.eq (Jvm.Term.elem (Jvm.Term.field (Jvm.Term.string "LedgeEggs" (110 : Nat)) "java/lang/String" "value" "[B") (Jvm.Term.int (11 : Int32))) (Jvm.Term.int (32 : Int32))) ∈ flatC giC := List.mem_of_getElem? (i := 321) (by decide +kernel)
set_option maxRecDepth 100000 in
theorem fw_322 : (Jvm.Cond.eq (Jvm.Term.elem (Jvm.Term.field (Jvm.Term.string "LedgeEggs" (110 : Nat)) "java/lang/String" "value" "[B") (Jvm.Term.int (12 : Int32))) (Jvm.Term.int (119 : Int32))) ∈ flatC giC := List.mem_of_getElem? (i := 322) (by decide +kernel)
set_option maxRecDepth 100000 in
theorem fw_323 : (Jvm.Cond.eq (Jvm.Term.elem (Jvm.Term.field (Jvm.Term.string "LedgeEggs" (110 : Nat)) "java/lang/String" "value" "[B") (Jvm.Term.int (13 : Int32))) (Jvm.Term.int (114 : Int32))) ∈ flatC giC := List.mem_of_getElem? (i := 323) (by decide +kernel)
set_option maxRecDepth 100000 in
theorem fw_324 : (Jvm.Cond.eq (Jvm.Term.elem (Jvm.Term.field (Jvm.Term.string "LedgeEggs" (110 : Nat)) "java/lang/String" "value" "[B") (Jvm.Term.int (14 : Int32))) (Jvm.Term.int (111 : Int32))) ∈ flatC giC := List.mem_of_getElem? (i := 324) (by decide +kernel)
set_option maxRecDepth 100000 in
theorem fw_325 : (Jvm.Cond.eq (Jvm.Term.elem (Jvm.Term.field (Jvm.Term.string "LedgeEggs" (110 : Nat)) "java/lang/String" "value" "[B") (Jvm.Term.int (15 : Int32))) (Jvm.Term.int (110 : Int32))) ∈ flatC giC := List.mem_of_getElem? (i := 325) (by decide +kernel)
set_option maxRecDepth 100000 in
theorem fw_326 : (Jvm.Cond.eq (Jvm.Term.elem (Jvm.Term.field (Jvm.Term.string "LedgeEggs" (110 : Nat)) "java/lang/String" "value" "[B") (Jvm.Term.int (16 : Int32))) (Jvm.Term.int (103 : Int32))) ∈ flatC giC := List.mem_of_getElem? (i := 326) (by decide +kernel)
set_option maxRecDepth 100000 in
theorem fw_327 : (Jvm.Cond.exactly (Jvm.Term.string "LedgeEggs" (121 : Nat)) "java/lang/String") ∈ flatC giC := List.mem_of_getElem? (i := 327) (by decide +kernel)
set_option maxRecDepth 100000 in
theorem fw_328 : (Jvm.Cond.eq (Jvm.Term.field (Jvm.Term.string "LedgeEggs" (121 : Nat)) "java/lang/String" "coder" "B") (Jvm.Term.int (0 : Int32))) ∈ flatC giC := List.mem_of_getElem? (i := 328) (by decide +kernel)
set_option maxRecDepth 100000 in
theorem fw_329 : (Jvm.Cond.arrayOf (Jvm.Term.field (Jvm.Term.string "LedgeEggs" (121 : Nat)) "java/lang/String" "value" "[B") Jvm.ClassFile.FieldType.byte) ∈ flatC giC := List.mem_of_getElem? (i := 329) (by decide +kernel)
set_option maxRecDepth 100000 in
theorem fw_330 : (Jvm.Cond.eq (Jvm.Term.length (Jvm.Term.field (Jvm.Term.string "LedgeEggs" (121 : Nat)) "java/lang/String" "value" "[B")) (Jvm.Term.int (18 : Int32))) ∈ flatC giC := List.mem_of_getElem? (i := 330) (by decide +kernel)
set_option maxRecDepth 100000 in
theorem fw_331 : (Jvm.Cond.eq (Jvm.Term.elem (Jvm.Term.field (Jvm.Term.string "LedgeEggs" (121 : Nat)) "java/lang/String" "value" "[B") (Jvm.Term.int (0 : Int32))) (Jvm.Term.int (116 : Int32))) ∈ flatC giC := List.mem_of_getElem? (i := 331) (by decide +kernel)
set_option maxRecDepth 100000 in
theorem fw_332 : (Jvm.Cond.eq (Jvm.Term.elem (Jvm.Term.field (Jvm.Term.string "LedgeEggs" (121 : Nat)) "java/lang/String" "value" "[B") (Jvm.Term.int (1 : Int32))) (Jvm.Term.int (104 : Int32))) ∈ flatC giC := List.mem_of_getElem? (i := 332) (by decide +kernel)
set_option maxRecDepth 100000 in
theorem fw_333 : (Jvm.Cond.eq (Jvm.Term.elem (Jvm.Term.field (Jvm.Term.string "LedgeEggs" (121 : Nat)) "java/lang/String" "value" "[B") (Jvm.Term.int (2 : Int32))) (Jvm.Term.int (101 : Int32))) ∈ flatC giC := List.mem_of_getElem? (i := 333) (by decide +kernel)
set_option maxRecDepth 100000 in
theorem fw_334 : (Jvm.Cond.eq (Jvm.Term.elem (Jvm.Term.field (Jvm.Term.string "LedgeEggs" (121 : Nat)) "java/lang/String" "value" "[B") (Jvm.Term.int (3 : Int32))) (Jvm.Term.int (114 : Int32))) ∈ flatC giC := List.mem_of_getElem? (i := 334) (by decide +kernel)
set_option maxRecDepth 100000 in
theorem fw_335 : (Jvm.Cond.eq (Jvm.Term.elem (Jvm.Term.field (Jvm.Term.string "LedgeEggs" (121 : Nat)) "java/lang/String" "value" "[B") (Jvm.Term.int (4 : Int32))) (Jvm.Term.int (101 : Int32))) ∈ flatC giC := List.mem_of_getElem? (i := 335) (by decide +kernel)
set_option maxRecDepth 100000 in
theorem fw_336 : (Jvm.Cond.eq (Jvm.Term.elem (Jvm.Term.field (Jvm.Term.string "LedgeEggs" (121 : Nat)) "java/lang/String" "value" "[B") (Jvm.Term.int (5 : Int32))) (Jvm.Term.int (32 : Int32))) ∈ flatC giC := List.mem_of_getElem? (i := 336) (by decide +kernel)
set_option maxRecDepth 100000 in
theorem fw_337 : (Jvm.Cond.eq (Jvm.Term.elem (Jvm.Term.field (Jvm.Term.string "LedgeEggs" (121 : Nat)) "java/lang/String" "value" "[B") (Jvm.Term.int (6 : Int32))) (Jvm.Term.int (97 : Int32))) ∈ flatC giC := List.mem_of_getElem? (i := 337) (by decide +kernel)
set_option maxRecDepth 100000 in
theorem fw_338 : (Jvm.Cond.eq (Jvm.Term.elem (Jvm.Term.field (Jvm.Term.string "LedgeEggs" (121 : Nat)) "java/lang/String" "value" "[B") (Jvm.Term.int (7 : Int32))) (Jvm.Term.int (114 : Int32))) ∈ flatC giC := List.mem_of_getElem? (i := 338) (by decide +kernel)
set_option maxRecDepth 100000 in
theorem fw_339 : (Jvm.Cond.eq (Jvm.Term.elem (Jvm.Term.field (Jvm.Term.string "LedgeEggs" (121 : Nat)) "java/lang/String" "value" "[B") (Jvm.Term.int (8 : Int32))) (Jvm.Term.int (101 : Int32))) ∈ flatC giC := List.mem_of_getElem? (i := 339) (by decide +kernel)
set_option maxRecDepth 100000 in
theorem fw_340 : (Jvm.Cond.eq (Jvm.Term.elem (Jvm.Term.field (Jvm.Term.string "LedgeEggs" (121 : Nat)) "java/lang/String" "value" "[B") (Jvm.Term.int (9 : Int32))) (Jvm.Term.int (32 : Int32))) ∈ flatC giC := List.mem_of_getElem? (i := 340) (by decide +kernel)
set_option maxRecDepth 100000 in
theorem fw_341 : (Jvm.Cond.eq (Jvm.Term.elem (Jvm.Term.field (Jvm.Term.string "LedgeEggs" (121 : Nat)) "java/lang/String" "value" "[B") (Jvm.Term.int (10 : Int32))) (Jvm.Term.int (49 : Int32))) ∈ flatC giC := List.mem_of_getElem? (i := 341) (by decide +kernel)
set_option maxRecDepth 100000 in
theorem fw_342 : (Jvm.Cond.eq (Jvm.Term.elem (Jvm.Term.field (Jvm.Term.string "LedgeEggs" (121 : Nat)) "java/lang/String" "value" "[B") (Jvm.Term.int (11 : Int32))) (Jvm.Term.int (50 : Int32))) ∈ flatC giC := List.mem_of_getElem? (i := 342) (by decide +kernel)
set_option maxRecDepth 100000 in
theorem fw_343 : (Jvm.Cond.eq (Jvm.Term.elem (Jvm.Term.field (Jvm.Term.string "LedgeEggs" (121 : Nat)) "java/lang/String" "value" "[B") (Jvm.Term.int (12 : Int32))) (Jvm.Term.int (32 : Int32))) ∈ flatC giC := List.mem_of_getElem? (i := 343) (by decide +kernel)
set_option maxRecDepth 100000 in
theorem fw_344 : (Jvm.Cond.eq (Jvm.Term.elem (Jvm.Term.field (Jvm.Term.string "LedgeEggs" (121 : Nat)) "java/lang/String" "value" "[B") (Jvm.Term.int (13 : Int32))) (Jvm.Term.int (116 : Int32))) ∈ flatC giC := List.mem_of_getElem? (i := 344) (by decide +kernel)
set_option maxRecDepth 100000 in
theorem fw_345 : (Jvm.Cond.eq (Jvm.Term.elem (Jvm.Term.field (Jvm.Term.string "LedgeEggs" (121 : Nat)) "java/lang/String" "value" "[B") (Jvm.Term.int (14 : Int32))) (Jvm.Term.int (101 : Int32))) ∈ flatC giC := List.mem_of_getElem? (i := 345) (by decide +kernel)
set_option maxRecDepth 100000 in
theorem fw_346 : (Jvm.Cond.eq (Jvm.Term.elem (Jvm.Term.field (Jvm.Term.string "LedgeEggs" (121 : Nat)) "java/lang/String" "value" "[B") (Jvm.Term.int (15 : Int32))) (Jvm.Term.int (120 : Int32))) ∈ flatC giC := List.mem_of_getElem? (i := 346) (by decide +kernel)
set_option maxRecDepth 100000 in
theorem fw_347 : (Jvm.Cond.eq (Jvm.Term.elem (Jvm.Term.field (Jvm.Term.string "LedgeEggs" (121 : Nat)) "java/lang/String" "value" "[B") (Jvm.Term.int (16 : Int32))) (Jvm.Term.int (116 : Int32))) ∈ flatC giC := List.mem_of_getElem? (i := 347) (by decide +kernel)
set_option maxRecDepth 100000 in
theorem fw_348 : (Jvm.Cond.eq (Jvm.Term.elem (Jvm.Term.field (Jvm.Term.string "LedgeEggs" (121 : Nat)) "java/lang/String" "value" "[B") (Jvm.Term.int (17 : Int32))) (Jvm.Term.int (115 : Int32))) ∈ flatC giC := List.mem_of_getElem? (i := 348) (by decide +kernel)
set_option maxRecDepth 100000 in
theorem fw_349 : (Jvm.Cond.exactly (Jvm.Term.string "LedgeEggs" (319 : Nat)) "java/lang/String") ∈ flatC giC := List.mem_of_getElem? (i := 349) (by decide +kernel)
set_option maxRecDepth 100000 in
theorem fw_350 : (Jvm.Cond.eq (Jvm.Term.field (Jvm.Term.string "LedgeEggs" (319 : Nat)) "java/lang/String" "coder" "B") (Jvm.Term.int (0 : Int32))) ∈ flatC giC := List.mem_of_getElem? (i := 350) (by decide +kernel)
set_option maxRecDepth 100000 in
theorem fw_351 : (Jvm.Cond.arrayOf (Jvm.Term.field (Jvm.Term.string "LedgeEggs" (319 : Nat)) "java/lang/String" "value" "[B") Jvm.ClassFile.FieldType.byte) ∈ flatC giC := List.mem_of_getElem? (i := 351) (by decide +kernel)
set_option maxRecDepth 100000 in
theorem fw_352 : (Jvm.Cond.eq (Jvm.Term.length (Jvm.Term.field (Jvm.Term.string "LedgeEggs" (319 : Nat)) "java/lang/String" "value" "[B")) (Jvm.Term.int (13 : Int32))) ∈ flatC giC := List.mem_of_getElem? (i := 352) (by decide +kernel)
set_option maxRecDepth 100000 in
theorem fw_353 : (Jvm.Cond.eq (Jvm.Term.elem (Jvm.Term.field (Jvm.Term.string "LedgeEggs" (319 : Nat)) "java/lang/String" "value" "[B") (Jvm.Term.int (0 : Int32))) (Jvm.Term.int (110 : Int32))) ∈ flatC giC := List.mem_of_getElem? (i := 353) (by decide +kernel)
set_option maxRecDepth 100000 in
theorem fw_354 : (Jvm.Cond.eq (Jvm.Term.elem (Jvm.Term.field (Jvm.Term.string "LedgeEggs" (319 : Nat)) "java/lang/String" "value" "[B") (Jvm.Term.int (1 : Int32))) (Jvm.Term.int (111 : Int32))) ∈ flatC giC := List.mem_of_getElem? (i := 354) (by decide +kernel)
set_option maxRecDepth 100000 in
theorem fw_355 : (Jvm.Cond.eq (Jvm.Term.elem (Jvm.Term.field (Jvm.Term.string "LedgeEggs" (319 : Nat)) "java/lang/String" "value" "[B") (Jvm.Term.int (2 : Int32))) (Jvm.Term.int (32 : Int32))) ∈ flatC giC := List.mem_of_getElem? (i := 355) (by decide +kernel)
set_option maxRecDepth 100000 in
theorem fw_356 : (Jvm.Cond.eq (Jvm.Term.elem (Jvm.Term.field (Jvm.Term.string "LedgeEggs" (319 : Nat)) "java/lang/String" "value" "[B") (Jvm.Term.int (3 : Int32))) (Jvm.Term.int (115 : Int32))) ∈ flatC giC := List.mem_of_getElem? (i := 356) (by decide +kernel)
set_option maxRecDepth 100000 in
theorem fw_357 : (Jvm.Cond.eq (Jvm.Term.elem (Jvm.Term.field (Jvm.Term.string "LedgeEggs" (319 : Nat)) "java/lang/String" "value" "[B") (Jvm.Term.int (4 : Int32))) (Jvm.Term.int (117 : Int32))) ∈ flatC giC := List.mem_of_getElem? (i := 357) (by decide +kernel)
set_option maxRecDepth 100000 in
theorem fw_358 : (Jvm.Cond.eq (Jvm.Term.elem (Jvm.Term.field (Jvm.Term.string "LedgeEggs" (319 : Nat)) "java/lang/String" "value" "[B") (Jvm.Term.int (5 : Int32))) (Jvm.Term.int (99 : Int32))) ∈ flatC giC := List.mem_of_getElem? (i := 358) (by decide +kernel)
set_option maxRecDepth 100000 in
theorem fw_359 : (Jvm.Cond.eq (Jvm.Term.elem (Jvm.Term.field (Jvm.Term.string "LedgeEggs" (319 : Nat)) "java/lang/String" "value" "[B") (Jvm.Term.int (6 : Int32))) (Jvm.Term.int (104 : Int32))) ∈ flatC giC := List.mem_of_getElem? (i := 359) (by decide +kernel)
set_option maxRecDepth 100000 in
theorem fw_360 : (Jvm.Cond.eq (Jvm.Term.elem (Jvm.Term.field (Jvm.Term.string "LedgeEggs" (319 : Nat)) "java/lang/String" "value" "[B") (Jvm.Term.int (7 : Int32))) (Jvm.Term.int (32 : Int32))) ∈ flatC giC := List.mem_of_getElem? (i := 360) (by decide +kernel)
set_option maxRecDepth 100000 in
theorem fw_361 : (Jvm.Cond.eq (Jvm.Term.elem (Jvm.Term.field (Jvm.Term.string "LedgeEggs" (319 : Nat)) "java/lang/String" "value" "[B") (Jvm.Term.int (8 : Int32))) (Jvm.Term.int (108 : Int32))) ∈ flatC giC := List.mem_of_getElem? (i := 361) (by decide +kernel)
set_option maxRecDepth 100000 in
theorem fw_362 : (Jvm.Cond.eq (Jvm.Term.elem (Jvm.Term.field (Jvm.Term.string "LedgeEggs" (319 : Nat)) "java/lang/String" "value" "[B") (Jvm.Term.int (9 : Int32))) (Jvm.Term.int (101 : Int32))) ∈ flatC giC := List.mem_of_getElem? (i := 362) (by decide +kernel)
set_option maxRecDepth 100000 in
theorem fw_363 : (Jvm.Cond.eq (Jvm.Term.elem (Jvm.Term.field (Jvm.Term.string "LedgeEggs" (319 : Nat)) "java/lang/String" "value" "[B") (Jvm.Term.int (10 : Int32))) (Jvm.Term.int (100 : Int32))) ∈ flatC giC := List.mem_of_getElem? (i := 363) (by decide +kernel)
set_option maxRecDepth 100000 in
theorem fw_364 : (Jvm.Cond.eq (Jvm.Term.elem (Jvm.Term.field (Jvm.Term.string "LedgeEggs" (319 : Nat)) "java/lang/String" "value" "[B") (Jvm.Term.int (11 : Int32))) (Jvm.Term.int (103 : Int32))) ∈ flatC giC := List.mem_of_getElem? (i := 364) (by decide +kernel)
set_option maxRecDepth 100000 in
theorem fw_365 : (Jvm.Cond.eq (Jvm.Term.elem (Jvm.Term.field (Jvm.Term.string "LedgeEggs" (319 : Nat)) "java/lang/String" "value" "[B") (Jvm.Term.int (12 : Int32))) (Jvm.Term.int (101 : Int32))) ∈ flatC giC := List.mem_of_getElem? (i := 365) (by decide +kernel)
set_option maxRecDepth 100000 in
theorem fw_366 : (Jvm.Cond.exactly (Jvm.Term.string "LedgeEggs" (146 : Nat)) "java/lang/String") ∈ flatC giC := List.mem_of_getElem? (i := 366) (by decide +kernel)
set_option maxRecDepth 100000 in
theorem fw_367 : (Jvm.Cond.eq (Jvm.Term.field (Jvm.Term.string "LedgeEggs" (146 : Nat)) "java/lang/String" "coder" "B") (Jvm.Term.int (0 : Int32))) ∈ flatC giC := List.mem_of_getElem? (i := 367) (by decide +kernel)
set_option maxRecDepth 100000 in
theorem fw_368 : (Jvm.Cond.arrayOf (Jvm.Term.field (Jvm.Term.string "LedgeEggs" (146 : Nat)) "java/lang/String" "value" "[B") Jvm.ClassFile.FieldType.byte) ∈ flatC giC := List.mem_of_getElem? (i := 368) (by decide +kernel)
set_option maxRecDepth 100000 in
theorem fw_369 : (Jvm.Cond.eq (Jvm.Term.length (Jvm.Term.field (Jvm.Term.string "LedgeEggs" (146 : Nat)) "java/lang/String" "value" "[B")) (Jvm.Term.int (12 : Int32))) ∈ flatC giC := List.mem_of_getElem? (i := 369) (by decide +kernel)
set_option maxRecDepth 100000 in
theorem fw_370 : (Jvm.Cond.eq (Jvm.Term.elem (Jvm.Term.field (Jvm.Term.string "LedgeEggs" (146 : Nat)) "java/lang/String" "value" "[B") (Jvm.Term.int (0 : Int32))) (Jvm.Term.int (110 : Int32))) ∈ flatC giC := List.mem_of_getElem? (i := 370) (by decide +kernel)
set_option maxRecDepth 100000 in
theorem fw_371 : (Jvm.Cond.eq (Jvm.Term.elem (Jvm.Term.field (Jvm.Term.string "LedgeEggs" (146 : Nat)) "java/lang/String" "value" "[B") (Jvm.Term.int (1 : Int32))) (Jvm.Term.int (111 : Int32))) ∈ flatC giC := List.mem_of_getElem? (i := 371) (by decide +kernel)
set_option maxRecDepth 100000 in
theorem fw_372 : (Jvm.Cond.eq (Jvm.Term.elem (Jvm.Term.field (Jvm.Term.string "LedgeEggs" (146 : Nat)) "java/lang/String" "value" "[B") (Jvm.Term.int (2 : Int32))) (Jvm.Term.int (32 : Int32))) ∈ flatC giC := List.mem_of_getElem? (i := 372) (by decide +kernel)
set_option maxRecDepth 100000 in
theorem fw_373 : (Jvm.Cond.eq (Jvm.Term.elem (Jvm.Term.field (Jvm.Term.string "LedgeEggs" (146 : Nat)) "java/lang/String" "value" "[B") (Jvm.Term.int (3 : Int32))) (Jvm.Term.int (115 : Int32))) ∈ flatC giC := List.mem_of_getElem? (i := 373) (by decide +kernel)
set_option maxRecDepth 100000 in
theorem fw_374 : (Jvm.Cond.eq (Jvm.Term.elem (Jvm.Term.field (Jvm.Term.string "LedgeEggs" (146 : Nat)) "java/lang/String" "value" "[B") (Jvm.Term.int (4 : Int32))) (Jvm.Term.int (117 : Int32))) ∈ flatC giC := List.mem_of_getElem? (i := 374) (by decide +kernel)
set_option maxRecDepth 100000 in
theorem fw_375 : (Jvm.Cond.eq (Jvm.Term.elem (Jvm.Term.field (Jvm.Term.string "LedgeEggs" (146 : Nat)) "java/lang/String" "value" "[B") (Jvm.Term.int (5 : Int32))) (Jvm.Term.int (99 : Int32))) ∈ flatC giC := List.mem_of_getElem? (i := 375) (by decide +kernel)
set_option maxRecDepth 100000 in
theorem fw_376 : (Jvm.Cond.eq (Jvm.Term.elem (Jvm.Term.field (Jvm.Term.string "LedgeEggs" (146 : Nat)) "java/lang/String" "value" "[B") (Jvm.Term.int (6 : Int32))) (Jvm.Term.int (104 : Int32))) ∈ flatC giC := List.mem_of_getElem? (i := 376) (by decide +kernel)
set_option maxRecDepth 100000 in
theorem fw_377 : (Jvm.Cond.eq (Jvm.Term.elem (Jvm.Term.field (Jvm.Term.string "LedgeEggs" (146 : Nat)) "java/lang/String" "value" "[B") (Jvm.Term.int (7 : Int32))) (Jvm.Term.int (32 : Int32))) ∈ flatC giC := List.mem_of_getElem? (i := 377) (by decide +kernel)
set_option maxRecDepth 100000 in
theorem fw_378 : (Jvm.Cond.eq (Jvm.Term.elem (Jvm.Term.field (Jvm.Term.string "LedgeEggs" (146 : Nat)) "java/lang/String" "value" "[B") (Jvm.Term.int (8 : Int32))) (Jvm.Term.int (119 : Int32))) ∈ flatC giC := List.mem_of_getElem? (i := 378) (by decide +kernel)
set_option maxRecDepth 100000 in
theorem fw_379 : (Jvm.Cond.eq (Jvm.Term.elem (Jvm.Term.field (Jvm.Term.string "LedgeEggs" (146 : Nat)) "java/lang/String" "value" "[B") (Jvm.Term.int (9 : Int32))) (Jvm.Term.int (104 : Int32))) ∈ flatC giC := List.mem_of_getElem? (i := 379) (by decide +kernel)
set_option maxRecDepth 100000 in
theorem fw_380 : (Jvm.Cond.eq (Jvm.Term.elem (Jvm.Term.field (Jvm.Term.string "LedgeEggs" (146 : Nat)) "java/lang/String" "value" "[B") (Jvm.Term.int (10 : Int32))) (Jvm.Term.int (97 : Int32))) ∈ flatC giC := List.mem_of_getElem? (i := 380) (by decide +kernel)
set_option maxRecDepth 100000 in
theorem fw_381 : (Jvm.Cond.eq (Jvm.Term.elem (Jvm.Term.field (Jvm.Term.string "LedgeEggs" (146 : Nat)) "java/lang/String" "value" "[B") (Jvm.Term.int (11 : Int32))) (Jvm.Term.int (116 : Int32))) ∈ flatC giC := List.mem_of_getElem? (i := 381) (by decide +kernel)
set_option maxRecDepth 100000 in
theorem fw_382 : (Jvm.Cond.exactly (Jvm.Term.string "LedgeEggs" (322 : Nat)) "java/lang/String") ∈ flatC giC := List.mem_of_getElem? (i := 382) (by decide +kernel)
set_option maxRecDepth 100000 in
theorem fw_383 : (Jvm.Cond.eq (Jvm.Term.field (Jvm.Term.string "LedgeEggs" (322 : Nat)) "java/lang/String" "coder" "B") (Jvm.Term.int (0 : Int32))) ∈ flatC giC := List.mem_of_getElem? (i := 383) (by decide +kernel)
set_option maxRecDepth 100000 in
theorem fw_384 : (Jvm.Cond.arrayOf (Jvm.Term.field (Jvm.Term.string "LedgeEggs" (322 : Nat)) "java/lang/String" "value" "[B") Jvm.ClassFile.FieldType.byte) ∈ flatC giC := List.mem_of_getElem? (i := 384) (by decide +kernel)
set_option maxRecDepth 100000 in
theorem fw_385 : (Jvm.Cond.eq (Jvm.Term.length (Jvm.Term.field (Jvm.Term.string "LedgeEggs" (322 : Nat)) "java/lang/String" "value" "[B")) (Jvm.Term.int (14 : Int32))) ∈ flatC giC := List.mem_of_getElem? (i := 385) (by decide +kernel)
set_option maxRecDepth 100000 in
theorem fw_386 : (Jvm.Cond.eq (Jvm.Term.elem (Jvm.Term.field (Jvm.Term.string "LedgeEggs" (322 : Nat)) "java/lang/String" "value" "[B") (Jvm.Term.int (0 : Int32))) (Jvm.Term.int (110 : Int32))) ∈ flatC giC := List.mem_of_getElem? (i := 386) (by decide +kernel)
set_option maxRecDepth 100000 in
theorem fw_387 : (Jvm.Cond.eq (Jvm.Term.elem (Jvm.Term.field (Jvm.Term.string "LedgeEggs" (322 : Nat)) "java/lang/String" "value" "[B") (Jvm.Term.int (1 : Int32))) (Jvm.Term.int (111 : Int32))) ∈ flatC giC := List.mem_of_getElem? (i := 387) (by decide +kernel)
set_option maxRecDepth 100000 in
theorem fw_388 : (Jvm.Cond.eq (Jvm.Term.elem (Jvm.Term.field (Jvm.Term.string "LedgeEggs" (322 : Nat)) "java/lang/String" "value" "[B") (Jvm.Term.int (2 : Int32))) (Jvm.Term.int (32 : Int32))) ∈ flatC giC := List.mem_of_getElem? (i := 388) (by decide +kernel)
set_option maxRecDepth 100000 in
theorem fw_389 : (Jvm.Cond.eq (Jvm.Term.elem (Jvm.Term.field (Jvm.Term.string "LedgeEggs" (322 : Nat)) "java/lang/String" "value" "[B") (Jvm.Term.int (3 : Int32))) (Jvm.Term.int (115 : Int32))) ∈ flatC giC := List.mem_of_getElem? (i := 389) (by decide +kernel)
set_option maxRecDepth 100000 in
theorem fw_390 : (Jvm.Cond.eq (Jvm.Term.elem (Jvm.Term.field (Jvm.Term.string "LedgeEggs" (322 : Nat)) "java/lang/String" "value" "[B") (Jvm.Term.int (4 : Int32))) (Jvm.Term.int (117 : Int32))) ∈ flatC giC := List.mem_of_getElem? (i := 390) (by decide +kernel)
set_option maxRecDepth 100000 in
theorem fw_391 : (Jvm.Cond.eq (Jvm.Term.elem (Jvm.Term.field (Jvm.Term.string "LedgeEggs" (322 : Nat)) "java/lang/String" "value" "[B") (Jvm.Term.int (5 : Int32))) (Jvm.Term.int (99 : Int32))) ∈ flatC giC := List.mem_of_getElem? (i := 391) (by decide +kernel)
set_option maxRecDepth 100000 in
theorem fw_392 : (Jvm.Cond.eq (Jvm.Term.elem (Jvm.Term.field (Jvm.Term.string "LedgeEggs" (322 : Nat)) "java/lang/String" "value" "[B") (Jvm.Term.int (6 : Int32))) (Jvm.Term.int (104 : Int32))) ∈ flatC giC := List.mem_of_getElem? (i := 392) (by decide +kernel)
set_option maxRecDepth 100000 in
theorem fw_393 : (Jvm.Cond.eq (Jvm.Term.elem (Jvm.Term.field (Jvm.Term.string "LedgeEggs" (322 : Nat)) "java/lang/String" "value" "[B") (Jvm.Term.int (7 : Int32))) (Jvm.Term.int (32 : Int32))) ∈ flatC giC := List.mem_of_getElem? (i := 393) (by decide +kernel)
set_option maxRecDepth 100000 in
theorem fw_394 : (Jvm.Cond.eq (Jvm.Term.elem (Jvm.Term.field (Jvm.Term.string "LedgeEggs" (322 : Nat)) "java/lang/String" "value" "[B") (Jvm.Term.int (8 : Int32))) (Jvm.Term.int (104 : Int32))) ∈ flatC giC := List.mem_of_getElem? (i := 394) (by decide +kernel)
set_option maxRecDepth 100000 in
theorem fw_395 : (Jvm.Cond.eq (Jvm.Term.elem (Jvm.Term.field (Jvm.Term.string "LedgeEggs" (322 : Nat)) "java/lang/String" "value" "[B") (Jvm.Term.int (9 : Int32))) (Jvm.Term.int (111 : Int32))) ∈ flatC giC := List.mem_of_getElem? (i := 395) (by decide +kernel)
set_option maxRecDepth 100000 in
theorem fw_396 : (Jvm.Cond.eq (Jvm.Term.elem (Jvm.Term.field (Jvm.Term.string "LedgeEggs" (322 : Nat)) "java/lang/String" "value" "[B") (Jvm.Term.int (10 : Int32))) (Jvm.Term.int (108 : Int32))) ∈ flatC giC := List.mem_of_getElem? (i := 396) (by decide +kernel)
set_option maxRecDepth 100000 in
theorem fw_397 : (Jvm.Cond.eq (Jvm.Term.elem (Jvm.Term.field (Jvm.Term.string "LedgeEggs" (322 : Nat)) "java/lang/String" "value" "[B") (Jvm.Term.int (11 : Int32))) (Jvm.Term.int (100 : Int32))) ∈ flatC giC := List.mem_of_getElem? (i := 397) (by decide +kernel)
set_option maxRecDepth 100000 in
theorem fw_398 : (Jvm.Cond.eq (Jvm.Term.elem (Jvm.Term.field (Jvm.Term.string "LedgeEggs" (322 : Nat)) "java/lang/String" "value" "[B") (Jvm.Term.int (12 : Int32))) (Jvm.Term.int (101 : Int32))) ∈ flatC giC := List.mem_of_getElem? (i := 398) (by decide +kernel)
set_option maxRecDepth 100000 in
theorem fw_399 : (Jvm.Cond.eq (Jvm.Term.elem (Jvm.Term.field (Jvm.Term.string "LedgeEggs" (322 : Nat)) "java/lang/String" "value" "[B") (Jvm.Term.int (13 : Int32))) (Jvm.Term.int (114 : Int32))) ∈ flatC giC := List.mem_of_getElem? (i := 399) (by decide +kernel)
set_option maxRecDepth 100000 in
theorem fw_400 : (Jvm.Cond.exactly (Jvm.Term.string "LedgeEggs" (324 : Nat)) "java/lang/String") ∈ flatC giC := List.mem_of_getElem? (i := 400) (by decide +kernel)
set_option maxRecDepth 100000 in
theorem fw_401 : (Jvm.Cond.eq (Jvm.Term.field (Jvm.Term.string "LedgeEggs" (324 : Nat)) "java/lang/String" "coder" "B") (Jvm.Term.int (0 : Int32))) ∈ flatC giC := List.mem_of_getElem? (i := 401) (by decide +kernel)
set_option maxRecDepth 100000 in
theorem fw_402 : (Jvm.Cond.arrayOf (Jvm.Term.field (Jvm.Term.string "LedgeEggs" (324 : Nat)) "java/lang/String" "value" "[B") Jvm.ClassFile.FieldType.byte) ∈ flatC giC := List.mem_of_getElem? (i := 402) (by decide +kernel)
set_option maxRecDepth 100000 in
theorem fw_403 : (Jvm.Cond.eq (Jvm.Term.length (Jvm.Term.field (Jvm.Term.string "LedgeEggs" (324 : Nat)) "java/lang/String" "value" "[B")) (Jvm.Term.int (15 : Int32))) ∈ flatC giC := List.mem_of_getElem? (i := 403) (by decide +kernel)
set_option maxRecDepth 100000 in
theorem fw_404 : (Jvm.Cond.eq (Jvm.Term.elem (Jvm.Term.field (Jvm.Term.string "LedgeEggs" (324 : Nat)) "java/lang/String" "value" "[B") (Jvm.Term.int (0 : Int32))) (Jvm.Term.int (110 : Int32))) ∈ flatC giC := List.mem_of_getElem? (i := 404) (by decide +kernel)
set_option maxRecDepth 100000 in
theorem fw_405 : (Jvm.Cond.eq (Jvm.Term.elem (Jvm.Term.field (Jvm.Term.string "LedgeEggs" (324 : Nat)) "java/lang/String" "value" "[B") (Jvm.Term.int (1 : Int32))) (Jvm.Term.int (111 : Int32))) ∈ flatC giC := List.mem_of_getElem? (i := 405) (by decide +kernel)
set_option maxRecDepth 100000 in
theorem fw_406 : (Jvm.Cond.eq (Jvm.Term.elem (Jvm.Term.field (Jvm.Term.string "LedgeEggs" (324 : Nat)) "java/lang/String" "value" "[B") (Jvm.Term.int (2 : Int32))) (Jvm.Term.int (32 : Int32))) ∈ flatC giC := List.mem_of_getElem? (i := 406) (by decide +kernel)
set_option maxRecDepth 100000 in
theorem fw_407 : (Jvm.Cond.eq (Jvm.Term.elem (Jvm.Term.field (Jvm.Term.string "LedgeEggs" (324 : Nat)) "java/lang/String" "value" "[B") (Jvm.Term.int (3 : Int32))) (Jvm.Term.int (115 : Int32))) ∈ flatC giC := List.mem_of_getElem? (i := 407) (by decide +kernel)
set_option maxRecDepth 100000 in
theorem fw_408 : (Jvm.Cond.eq (Jvm.Term.elem (Jvm.Term.field (Jvm.Term.string "LedgeEggs" (324 : Nat)) "java/lang/String" "value" "[B") (Jvm.Term.int (4 : Int32))) (Jvm.Term.int (117 : Int32))) ∈ flatC giC := List.mem_of_getElem? (i := 408) (by decide +kernel)
set_option maxRecDepth 100000 in
theorem fw_409 : (Jvm.Cond.eq (Jvm.Term.elem (Jvm.Term.field (Jvm.Term.string "LedgeEggs" (324 : Nat)) "java/lang/String" "value" "[B") (Jvm.Term.int (5 : Int32))) (Jvm.Term.int (99 : Int32))) ∈ flatC giC := List.mem_of_getElem? (i := 409) (by decide +kernel)
set_option maxRecDepth 100000 in
theorem fw_410 : (Jvm.Cond.eq (Jvm.Term.elem (Jvm.Term.field (Jvm.Term.string "LedgeEggs" (324 : Nat)) "java/lang/String" "value" "[B") (Jvm.Term.int (6 : Int32))) (Jvm.Term.int (104 : Int32))) ∈ flatC giC := List.mem_of_getElem? (i := 410) (by decide +kernel)
set_option maxRecDepth 100000 in
theorem fw_411 : (Jvm.Cond.eq (Jvm.Term.elem (Jvm.Term.field (Jvm.Term.string "LedgeEggs" (324 : Nat)) "java/lang/String" "value" "[B") (Jvm.Term.int (7 : Int32))) (Jvm.Term.int (32 : Int32))) ∈ flatC giC := List.mem_of_getElem? (i := 411) (by decide +kernel)
set_option maxRecDepth 100000 in
theorem fw_412 : (Jvm.Cond.eq (Jvm.Term.elem (Jvm.Term.field (Jvm.Term.string "LedgeEggs" (324 : Nat)) "java/lang/String" "value" "[B") (Jvm.Term.int (8 : Int32))) (Jvm.Term.int (99 : Int32))) ∈ flatC giC := List.mem_of_getElem? (i := 412) (by decide +kernel)
set_option maxRecDepth 100000 in
theorem fw_413 : (Jvm.Cond.eq (Jvm.Term.elem (Jvm.Term.field (Jvm.Term.string "LedgeEggs" (324 : Nat)) "java/lang/String" "value" "[B") (Jvm.Term.int (9 : Int32))) (Jvm.Term.int (108 : Int32))) ∈ flatC giC := List.mem_of_getElem? (i := 413) (by decide +kernel)
set_option maxRecDepth 100000 in
theorem fw_414 : (Jvm.Cond.eq (Jvm.Term.elem (Jvm.Term.field (Jvm.Term.string "LedgeEggs" (324 : Nat)) "java/lang/String" "value" "[B") (Jvm.Term.int (10 : Int32))) (Jvm.Term.int (105 : Int32))) ∈ flatC giC := List.mem_of_getElem? (i := 414) (by decide +kernel)
set_option maxRecDepth 100000 in
theorem fw_415 : (Jvm.Cond.eq (Jvm.Term.elem (Jvm.Term.field (Jvm.Term.string "LedgeEggs" (324 : Nat)) "java/lang/String" "value" "[B") (Jvm.Term.int (11 : Int32))) (Jvm.Term.int (109 : Int32))) ∈ flatC giC := List.mem_of_getElem? (i := 415) (by decide +kernel)
set_option maxRecDepth 100000 in
theorem fw_416 : (Jvm.Cond.eq (Jvm.Term.elem (Jvm.Term.field (Jvm.Term.string "LedgeEggs" (324 : Nat)) "java/lang/String" "value" "[B") (Jvm.Term.int (12 : Int32))) (Jvm.Term.int (98 : Int32))) ∈ flatC giC := List.mem_of_getElem? (i := 416) (by decide +kernel)
set_option maxRecDepth 100000 in
theorem fw_417 : (Jvm.Cond.eq (Jvm.Term.elem (Jvm.Term.field (Jvm.Term.string "LedgeEggs" (324 : Nat)) "java/lang/String" "value" "[B") (Jvm.Term.int (13 : Int32))) (Jvm.Term.int (101 : Int32))) ∈ flatC giC := List.mem_of_getElem? (i := 417) (by decide +kernel)
set_option maxRecDepth 100000 in
theorem fw_418 : (Jvm.Cond.eq (Jvm.Term.elem (Jvm.Term.field (Jvm.Term.string "LedgeEggs" (324 : Nat)) "java/lang/String" "value" "[B") (Jvm.Term.int (14 : Int32))) (Jvm.Term.int (114 : Int32))) ∈ flatC giC := List.mem_of_getElem? (i := 418) (by decide +kernel)
set_option maxRecDepth 100000 in
theorem fw_419 : (Jvm.Cond.exactly (Jvm.Term.string "LedgeEggs" (326 : Nat)) "java/lang/String") ∈ flatC giC := List.mem_of_getElem? (i := 419) (by decide +kernel)
set_option maxRecDepth 100000 in
theorem fw_420 : (Jvm.Cond.eq (Jvm.Term.field (Jvm.Term.string "LedgeEggs" (326 : Nat)) "java/lang/String" "coder" "B") (Jvm.Term.int (0 : Int32))) ∈ flatC giC := List.mem_of_getElem? (i := 420) (by decide +kernel)
set_option maxRecDepth 100000 in
theorem fw_421 : (Jvm.Cond.arrayOf (Jvm.Term.field (Jvm.Term.string "LedgeEggs" (326 : Nat)) "java/lang/String" "value" "[B") Jvm.ClassFile.FieldType.byte) ∈ flatC giC := List.mem_of_getElem? (i := 421) (by decide +kernel)
set_option maxRecDepth 100000 in
theorem fw_422 : (Jvm.Cond.eq (Jvm.Term.length (Jvm.Term.field (Jvm.Term.string "LedgeEggs" (326 : Nat)) "java/lang/String" "value" "[B")) (Jvm.Term.int (18 : Int32))) ∈ flatC giC := List.mem_of_getElem? (i := 422) (by decide +kernel)
set_option maxRecDepth 100000 in
theorem fw_423 : (Jvm.Cond.eq (Jvm.Term.elem (Jvm.Term.field (Jvm.Term.string "LedgeEggs" (326 : Nat)) "java/lang/String" "value" "[B") (Jvm.Term.int (0 : Int32))) (Jvm.Term.int (116 : Int32))) ∈ flatC giC := List.mem_of_getElem? (i := 423) (by decide +kernel)
set_option maxRecDepth 100000 in
theorem fw_424 : (Jvm.Cond.eq (Jvm.Term.elem (Jvm.Term.field (Jvm.Term.string "LedgeEggs" (326 : Nat)) "java/lang/String" "value" "[B") (Jvm.Term.int (1 : Int32))) (Jvm.Term.int (104 : Int32))) ∈ flatC giC := List.mem_of_getElem? (i := 424) (by decide +kernel)
set_option maxRecDepth 100000 in
theorem fw_425 : (Jvm.Cond.eq (Jvm.Term.elem (Jvm.Term.field (Jvm.Term.string "LedgeEggs" (326 : Nat)) "java/lang/String" "value" "[B") (Jvm.Term.int (2 : Int32))) (Jvm.Term.int (101 : Int32))) ∈ flatC giC := List.mem_of_getElem? (i := 425) (by decide +kernel)
set_option maxRecDepth 100000 in
theorem fw_426 : (Jvm.Cond.eq (Jvm.Term.elem (Jvm.Term.field (Jvm.Term.string "LedgeEggs" (326 : Nat)) "java/lang/String" "value" "[B") (Jvm.Term.int (3 : Int32))) (Jvm.Term.int (32 : Int32))) ∈ flatC giC := List.mem_of_getElem? (i := 426) (by decide +kernel)
set_option maxRecDepth 100000 in
theorem fw_427 : (Jvm.Cond.eq (Jvm.Term.elem (Jvm.Term.field (Jvm.Term.string "LedgeEggs" (326 : Nat)) "java/lang/String" "value" "[B") (Jvm.Term.int (4 : Int32))) (Jvm.Term.int (110 : Int32))) ∈ flatC giC := List.mem_of_getElem? (i := 427) (by decide +kernel)
set_option maxRecDepth 100000 in
theorem fw_428 : (Jvm.Cond.eq (Jvm.Term.elem (Jvm.Term.field (Jvm.Term.string "LedgeEggs" (326 : Nat)) "java/lang/String" "value" "[B") (Jvm.Term.int (5 : Int32))) (Jvm.Term.int (117 : Int32))) ∈ flatC giC := List.mem_of_getElem? (i := 428) (by decide +kernel)
set_option maxRecDepth 100000 in
theorem fw_429 : (Jvm.Cond.eq (Jvm.Term.elem (Jvm.Term.field (Jvm.Term.string "LedgeEggs" (326 : Nat)) "java/lang/String" "value" "[B") (Jvm.Term.int (6 : Int32))) (Jvm.Term.int (109 : Int32))) ∈ flatC giC := List.mem_of_getElem? (i := 429) (by decide +kernel)
set_option maxRecDepth 100000 in
theorem fw_430 : (Jvm.Cond.eq (Jvm.Term.elem (Jvm.Term.field (Jvm.Term.string "LedgeEggs" (326 : Nat)) "java/lang/String" "value" "[B") (Jvm.Term.int (7 : Int32))) (Jvm.Term.int (98 : Int32))) ∈ flatC giC := List.mem_of_getElem? (i := 430) (by decide +kernel)
set_option maxRecDepth 100000 in
theorem fw_431 : (Jvm.Cond.eq (Jvm.Term.elem (Jvm.Term.field (Jvm.Term.string "LedgeEggs" (326 : Nat)) "java/lang/String" "value" "[B") (Jvm.Term.int (8 : Int32))) (Jvm.Term.int (101 : Int32))) ∈ flatC giC := List.mem_of_getElem? (i := 431) (by decide +kernel)
set_option maxRecDepth 100000 in
theorem fw_432 : (Jvm.Cond.eq (Jvm.Term.elem (Jvm.Term.field (Jvm.Term.string "LedgeEggs" (326 : Nat)) "java/lang/String" "value" "[B") (Jvm.Term.int (9 : Int32))) (Jvm.Term.int (114 : Int32))) ∈ flatC giC := List.mem_of_getElem? (i := 432) (by decide +kernel)
set_option maxRecDepth 100000 in
theorem fw_433 : (Jvm.Cond.eq (Jvm.Term.elem (Jvm.Term.field (Jvm.Term.string "LedgeEggs" (326 : Nat)) "java/lang/String" "value" "[B") (Jvm.Term.int (10 : Int32))) (Jvm.Term.int (32 : Int32))) ∈ flatC giC := List.mem_of_getElem? (i := 433) (by decide +kernel)
set_option maxRecDepth 100000 in
theorem fw_434 : (Jvm.Cond.eq (Jvm.Term.elem (Jvm.Term.field (Jvm.Term.string "LedgeEggs" (326 : Nat)) "java/lang/String" "value" "[B") (Jvm.Term.int (11 : Int32))) (Jvm.Term.int (105 : Int32))) ∈ flatC giC := List.mem_of_getElem? (i := 434) (by decide +kernel)
set_option maxRecDepth 100000 in
theorem fw_435 : (Jvm.Cond.eq (Jvm.Term.elem (Jvm.Term.field (Jvm.Term.string "LedgeEggs" (326 : Nat)) "java/lang/String" "value" "[B") (Jvm.Term.int (12 : Int32))) (Jvm.Term.int (115 : Int32))) ∈ flatC giC := List.mem_of_getElem? (i := 435) (by decide +kernel)
set_option maxRecDepth 100000 in
theorem fw_436 : (Jvm.Cond.eq (Jvm.Term.elem (Jvm.Term.field (Jvm.Term.string "LedgeEggs" (326 : Nat)) "java/lang/String" "value" "[B") (Jvm.Term.int (13 : Int32))) (Jvm.Term.int (32 : Int32))) ∈ flatC giC := List.mem_of_getElem? (i := 436) (by decide +kernel)
set_option maxRecDepth 100000 in
theorem fw_437 : (Jvm.Cond.eq (Jvm.Term.elem (Jvm.Term.field (Jvm.Term.string "LedgeEggs" (326 : Nat)) "java/lang/String" "value" "[B") (Jvm.Term.int (14 : Int32))) (Jvm.Term.int (110 : Int32))) ∈ flatC giC := List.mem_of_getElem? (i := 437) (by decide +kernel)
set_option maxRecDepth 100000 in
theorem fw_438 : (Jvm.Cond.eq (Jvm.Term.elem (Jvm.Term.field (Jvm.Term.string "LedgeEggs" (326 : Nat)) "java/lang/String" "value" "[B") (Jvm.Term.int (15 : Int32))) (Jvm.Term.int (111 : Int32))) ∈ flatC giC := List.mem_of_getElem? (i := 438) (by decide +kernel)
set_option maxRecDepth 100000 in
theorem fw_439 : (Jvm.Cond.eq (Jvm.Term.elem (Jvm.Term.field (Jvm.Term.string "LedgeEggs" (326 : Nat)) "java/lang/String" "value" "[B") (Jvm.Term.int (16 : Int32))) (Jvm.Term.int (110 : Int32))) ∈ flatC giC := List.mem_of_getElem? (i := 439) (by decide +kernel)
set_option maxRecDepth 100000 in
theorem fw_440 : (Jvm.Cond.eq (Jvm.Term.elem (Jvm.Term.field (Jvm.Term.string "LedgeEggs" (326 : Nat)) "java/lang/String" "value" "[B") (Jvm.Term.int (17 : Int32))) (Jvm.Term.int (101 : Int32))) ∈ flatC giC := List.mem_of_getElem? (i := 440) (by decide +kernel)
set_option maxRecDepth 100000 in
theorem fw_441 : (Jvm.Cond.exactly (Jvm.Term.string "LedgeEggs" (202 : Nat)) "java/lang/String") ∈ flatC giC := List.mem_of_getElem? (i := 441) (by decide +kernel)
set_option maxRecDepth 100000 in
theorem fw_442 : (Jvm.Cond.eq (Jvm.Term.field (Jvm.Term.string "LedgeEggs" (202 : Nat)) "java/lang/String" "coder" "B") (Jvm.Term.int (0 : Int32))) ∈ flatC giC := List.mem_of_getElem? (i := 442) (by decide +kernel)
set_option maxRecDepth 100000 in
theorem fw_443 : (Jvm.Cond.arrayOf (Jvm.Term.field (Jvm.Term.string "LedgeEggs" (202 : Nat)) "java/lang/String" "value" "[B") Jvm.ClassFile.FieldType.byte) ∈ flatC giC := List.mem_of_getElem? (i := 443) (by decide +kernel)
set_option maxRecDepth 100000 in
theorem fw_444 : (Jvm.Cond.eq (Jvm.Term.length (Jvm.Term.field (Jvm.Term.string "LedgeEggs" (202 : Nat)) "java/lang/String" "value" "[B")) (Jvm.Term.int (22 : Int32))) ∈ flatC giC := List.mem_of_getElem? (i := 444) (by decide +kernel)
set_option maxRecDepth 100000 in
theorem fw_445 : (Jvm.Cond.eq (Jvm.Term.elem (Jvm.Term.field (Jvm.Term.string "LedgeEggs" (202 : Nat)) "java/lang/String" "value" "[B") (Jvm.Term.int (0 : Int32))) (Jvm.Term.int (111 : Int32))) ∈ flatC giC := List.mem_of_getElem? (i := 445) (by decide +kernel)
set_option maxRecDepth 100000 in
theorem fw_446 : (Jvm.Cond.eq (Jvm.Term.elem (Jvm.Term.field (Jvm.Term.string "LedgeEggs" (202 : Nat)) "java/lang/String" "value" "[B") (Jvm.Term.int (1 : Int32))) (Jvm.Term.int (110 : Int32))) ∈ flatC giC := List.mem_of_getElem? (i := 446) (by decide +kernel)
set_option maxRecDepth 100000 in
theorem fw_447 : (Jvm.Cond.eq (Jvm.Term.elem (Jvm.Term.field (Jvm.Term.string "LedgeEggs" (202 : Nat)) "java/lang/String" "value" "[B") (Jvm.Term.int (2 : Int32))) (Jvm.Term.int (101 : Int32))) ∈ flatC giC := List.mem_of_getElem? (i := 447) (by decide +kernel)
set_option maxRecDepth 100000 in
theorem fw_448 : (Jvm.Cond.eq (Jvm.Term.elem (Jvm.Term.field (Jvm.Term.string "LedgeEggs" (202 : Nat)) "java/lang/String" "value" "[B") (Jvm.Term.int (3 : Int32))) (Jvm.Term.int (32 : Int32))) ∈ flatC giC := List.mem_of_getElem? (i := 448) (by decide +kernel)
set_option maxRecDepth 100000 in
theorem fw_449 : (Jvm.Cond.eq (Jvm.Term.elem (Jvm.Term.field (Jvm.Term.string "LedgeEggs" (202 : Nat)) "java/lang/String" "value" "[B") (Jvm.Term.int (4 : Int32))) (Jvm.Term.int (99 : Int32))) ∈ flatC giC := List.mem_of_getElem? (i := 449) (by decide +kernel)
set_option maxRecDepth 100000 in
theorem fw_450 : (Jvm.Cond.eq (Jvm.Term.elem (Jvm.Term.field (Jvm.Term.string "LedgeEggs" (202 : Nat)) "java/lang/String" "value" "[B") (Jvm.Term.int (5 : Int32))) (Jvm.Term.int (97 : Int32))) ∈ flatC giC := List.mem_of_getElem? (i := 450) (by decide +kernel)
set_option maxRecDepth 100000 in
theorem fw_451 : (Jvm.Cond.eq (Jvm.Term.elem (Jvm.Term.field (Jvm.Term.string "LedgeEggs" (202 : Nat)) "java/lang/String" "value" "[B") (Jvm.Term.int (6 : Int32))) (Jvm.Term.int (110 : Int32))) ∈ flatC giC := List.mem_of_getElem? (i := 451) (by decide +kernel)
set_option maxRecDepth 100000 in
theorem fw_452 : (Jvm.Cond.eq (Jvm.Term.elem (Jvm.Term.field (Jvm.Term.string "LedgeEggs" (202 : Nat)) "java/lang/String" "value" "[B") (Jvm.Term.int (7 : Int32))) (Jvm.Term.int (110 : Int32))) ∈ flatC giC := List.mem_of_getElem? (i := 452) (by decide +kernel)
set_option maxRecDepth 100000 in
theorem fw_453 : (Jvm.Cond.eq (Jvm.Term.elem (Jvm.Term.field (Jvm.Term.string "LedgeEggs" (202 : Nat)) "java/lang/String" "value" "[B") (Jvm.Term.int (8 : Int32))) (Jvm.Term.int (111 : Int32))) ∈ flatC giC := List.mem_of_getElem? (i := 453) (by decide +kernel)
set_option maxRecDepth 100000 in
theorem fw_454 : (Jvm.Cond.eq (Jvm.Term.elem (Jvm.Term.field (Jvm.Term.string "LedgeEggs" (202 : Nat)) "java/lang/String" "value" "[B") (Jvm.Term.int (9 : Int32))) (Jvm.Term.int (116 : Int32))) ∈ flatC giC := List.mem_of_getElem? (i := 454) (by decide +kernel)
set_option maxRecDepth 100000 in
theorem fw_455 : (Jvm.Cond.eq (Jvm.Term.elem (Jvm.Term.field (Jvm.Term.string "LedgeEggs" (202 : Nat)) "java/lang/String" "value" "[B") (Jvm.Term.int (10 : Int32))) (Jvm.Term.int (32 : Int32))) ∈ flatC giC := List.mem_of_getElem? (i := 455) (by decide +kernel)
set_option maxRecDepth 100000 in
theorem fw_456 : (Jvm.Cond.eq (Jvm.Term.elem (Jvm.Term.field (Jvm.Term.string "LedgeEggs" (202 : Nat)) "java/lang/String" "value" "[B") (Jvm.Term.int (11 : Int32))) (Jvm.Term.int (98 : Int32))) ∈ flatC giC := List.mem_of_getElem? (i := 456) (by decide +kernel)
set_option maxRecDepth 100000 in
theorem fw_457 : (Jvm.Cond.eq (Jvm.Term.elem (Jvm.Term.field (Jvm.Term.string "LedgeEggs" (202 : Nat)) "java/lang/String" "value" "[B") (Jvm.Term.int (12 : Int32))) (Jvm.Term.int (101 : Int32))) ∈ flatC giC := List.mem_of_getElem? (i := 457) (by decide +kernel)
set_option maxRecDepth 100000 in
theorem fw_458 : (Jvm.Cond.eq (Jvm.Term.elem (Jvm.Term.field (Jvm.Term.string "LedgeEggs" (202 : Nat)) "java/lang/String" "value" "[B") (Jvm.Term.int (13 : Int32))) (Jvm.Term.int (32 : Int32))) ∈ flatC giC := List.mem_of_getElem? (i := 458) (by decide +kernel)
set_option maxRecDepth 100000 in
theorem fw_459 : (Jvm.Cond.eq (Jvm.Term.elem (Jvm.Term.field (Jvm.Term.string "LedgeEggs" (202 : Nat)) "java/lang/String" "value" "[B") (Jvm.Term.int (14 : Int32))) (Jvm.Term.int (108 : Int32))) ∈ flatC giC := List.mem_of_getElem? (i := 459) (by decide +kernel)
set_option maxRecDepth 100000 in
theorem fw_460 : (Jvm.Cond.eq (Jvm.Term.elem (Jvm.Term.field (Jvm.Term.string "LedgeEggs" (202 : Nat)) "java/lang/String" "value" "[B") (Jvm.Term.int (15 : Int32))) (Jvm.Term.int (101 : Int32))) ∈ flatC giC := List.mem_of_getElem? (i := 460) (by decide +kernel)
set_option maxRecDepth 100000 in
theorem fw_461 : (Jvm.Cond.eq (Jvm.Term.elem (Jvm.Term.field (Jvm.Term.string "LedgeEggs" (202 : Nat)) "java/lang/String" "value" "[B") (Jvm.Term.int (16 : Int32))) (Jvm.Term.int (116 : Int32))) ∈ flatC giC := List.mem_of_getElem? (i := 461) (by decide +kernel)
set_option maxRecDepth 100000 in
theorem fw_462 : (Jvm.Cond.eq (Jvm.Term.elem (Jvm.Term.field (Jvm.Term.string "LedgeEggs" (202 : Nat)) "java/lang/String" "value" "[B") (Jvm.Term.int (17 : Int32))) (Jvm.Term.int (32 : Int32))) ∈ flatC giC := List.mem_of_getElem? (i := 462) (by decide +kernel)
set_option maxRecDepth 100000 in
theorem fw_463 : (Jvm.Cond.eq (Jvm.Term.elem (Jvm.Term.field (Jvm.Term.string "LedgeEggs" (202 : Nat)) "java/lang/String" "value" "[B") (Jvm.Term.int (18 : Int32))) (Jvm.Term.int (100 : Int32))) ∈ flatC giC := List.mem_of_getElem? (i := 463) (by decide +kernel)
set_option maxRecDepth 100000 in
theorem fw_464 : (Jvm.Cond.eq (Jvm.Term.elem (Jvm.Term.field (Jvm.Term.string "LedgeEggs" (202 : Nat)) "java/lang/String" "value" "[B") (Jvm.Term.int (19 : Int32))) (Jvm.Term.int (111 : Int32))) ∈ flatC giC := List.mem_of_getElem? (i := 464) (by decide +kernel)
set_option maxRecDepth 100000 in
theorem fw_465 : (Jvm.Cond.eq (Jvm.Term.elem (Jvm.Term.field (Jvm.Term.string "LedgeEggs" (202 : Nat)) "java/lang/String" "value" "[B") (Jvm.Term.int (20 : Int32))) (Jvm.Term.int (119 : Int32))) ∈ flatC giC := List.mem_of_getElem? (i := 465) (by decide +kernel)
set_option maxRecDepth 100000 in
theorem fw_466 : (Jvm.Cond.eq (Jvm.Term.elem (Jvm.Term.field (Jvm.Term.string "LedgeEggs" (202 : Nat)) "java/lang/String" "value" "[B") (Jvm.Term.int (21 : Int32))) (Jvm.Term.int (110 : Int32))) ∈ flatC giC := List.mem_of_getElem? (i := 466) (by decide +kernel)
set_option maxRecDepth 100000 in
theorem fw_476 : (Jvm.Cond.eq (Jvm.Term.string "LedgeEggs$IsleText" (25 : Nat)) (Jvm.Term.string "LedgeEggsModel" (129 : Nat))) ∈ flatC giC := List.mem_of_getElem? (i := 476) (by decide +kernel)
set_option maxRecDepth 100000 in
theorem fw_242 : (Jvm.Cond.eq (Jvm.Term.string "LedgeEggs$IsleText" (67 : Nat)) (Jvm.Term.string "LedgeEggs$LawText" (86 : Nat))) ∈ flatC giC := List.mem_of_getElem? (i := 242) (by decide +kernel)
set_option maxRecDepth 100000 in
theorem fw_485 : (Jvm.Cond.eq (Jvm.Term.string "LedgeEggs$IsleText" (67 : Nat)) (Jvm.Term.string "LedgeEggsModel" (115 : Nat))) ∈ flatC giC := List.mem_of_getElem? (i := 485) (by decide +kernel)
set_option maxRecDepth 100000 in
theorem fw_251 : (Jvm.Cond.eq (Jvm.Term.string "LedgeEggs$IsleText" (73 : Nat)) (Jvm.Term.string "LedgeEggs$LawText" (88 : Nat))) ∈ flatC giC := List.mem_of_getElem? (i := 251) (by decide +kernel)
set_option maxRecDepth 100000 in
theorem fw_495 : (Jvm.Cond.eq (Jvm.Term.string "LedgeEggs$IsleText" (73 : Nat)) (Jvm.Term.string "LedgeEggsModel" (121 : Nat))) ∈ flatC giC := List.mem_of_getElem? (i := 495) (by decide +kernel)
set_option maxRecDepth 100000 in
theorem fw_259 : (Jvm.Cond.eq (Jvm.Term.string "LedgeEggs$IsleText" (75 : Nat)) (Jvm.Term.string "LedgeEggs$LawText" (90 : Nat))) ∈ flatC giC := List.mem_of_getElem? (i := 259) (by decide +kernel)
set_option maxRecDepth 100000 in
theorem fw_504 : (Jvm.Cond.eq (Jvm.Term.string "LedgeEggs$IsleText" (75 : Nat)) (Jvm.Term.string "LedgeEggsModel" (123 : Nat))) ∈ flatC giC := List.mem_of_getElem? (i := 504) (by decide +kernel)
set_option maxRecDepth 100000 in
theorem fw_269 : (Jvm.Cond.eq (Jvm.Term.string "LedgeEggs$IsleText" (77 : Nat)) (Jvm.Term.string "LedgeEggs$LawText" (92 : Nat))) ∈ flatC giC := List.mem_of_getElem? (i := 269) (by decide +kernel)
set_option maxRecDepth 100000 in
theorem fw_515 : (Jvm.Cond.eq (Jvm.Term.string "LedgeEggs$IsleText" (77 : Nat)) (Jvm.Term.string "LedgeEggsModel" (125 : Nat))) ∈ flatC giC := List.mem_of_getElem? (i := 515) (by decide +kernel)
set_option maxRecDepth 100000 in
theorem fw_525 : (Jvm.Cond.eq (Jvm.Term.string "LedgeEggs$IsleText" (37 : Nat)) (Jvm.Term.string "LedgeEggsModel" (135 : Nat))) ∈ flatC giC := List.mem_of_getElem? (i := 525) (by decide +kernel)
set_option maxRecDepth 100000 in
theorem fw_535 : (Jvm.Cond.eq (Jvm.Term.string "LedgeEggs$IsleText" (90 : Nat)) (Jvm.Term.string "LedgeEggsModel" (127 : Nat))) ∈ flatC giC := List.mem_of_getElem? (i := 535) (by decide +kernel)
set_option maxRecDepth 100000 in
theorem fw_546 : (Jvm.Cond.eq (Jvm.Term.string "LedgeEggs$IsleText" (42 : Nat)) (Jvm.Term.string "LedgeEggsModel" (140 : Nat))) ∈ flatC giC := List.mem_of_getElem? (i := 546) (by decide +kernel)
set_option maxRecDepth 100000 in
theorem fw_558 : (Jvm.Cond.eq (Jvm.Term.string "LedgeEggs$IsleText" (47 : Nat)) (Jvm.Term.string "LedgeEggsModel" (145 : Nat))) ∈ flatC giC := List.mem_of_getElem? (i := 558) (by decide +kernel)
set_option maxRecDepth 100000 in
theorem fw_567 : (Jvm.Cond.eq (Jvm.Term.string "LedgeEggs$IsleText" (52 : Nat)) (Jvm.Term.string "LedgeEggsModel" (150 : Nat))) ∈ flatC giC := List.mem_of_getElem? (i := 567) (by decide +kernel)
set_option maxRecDepth 100000 in
theorem fw_578 : (Jvm.Cond.eq (Jvm.Term.string "LedgeEggs$IsleText" (58 : Nat)) (Jvm.Term.string "LedgeEggsModel" (156 : Nat))) ∈ flatC giC := List.mem_of_getElem? (i := 578) (by decide +kernel)
set_option maxRecDepth 100000 in
theorem fw_588 : (Jvm.Cond.eq (Jvm.Term.string "LedgeEggs$LawText" (49 : Nat)) (Jvm.Term.string "LedgeEggsModel" (205 : Nat))) ∈ flatC giC := List.mem_of_getElem? (i := 588) (by decide +kernel)
set_option maxRecDepth 100000 in
theorem fw_597 : (Jvm.Cond.eq (Jvm.Term.string "LedgeEggs$LawText" (51 : Nat)) (Jvm.Term.string "LedgeEggsModel" (207 : Nat))) ∈ flatC giC := List.mem_of_getElem? (i := 597) (by decide +kernel)
set_option maxRecDepth 100000 in
theorem fw_605 : (Jvm.Cond.eq (Jvm.Term.string "LedgeEggs$LawText" (53 : Nat)) (Jvm.Term.string "LedgeEggsModel" (209 : Nat))) ∈ flatC giC := List.mem_of_getElem? (i := 605) (by decide +kernel)
set_option maxRecDepth 100000 in
theorem fw_612 : (Jvm.Cond.eq (Jvm.Term.string "LedgeEggs$LawText" (33 : Nat)) (Jvm.Term.string "LedgeEggsModel" (211 : Nat))) ∈ flatC giC := List.mem_of_getElem? (i := 612) (by decide +kernel)
set_option maxRecDepth 100000 in
theorem fw_620 : (Jvm.Cond.eq (Jvm.Term.string "LedgeEggs$LawText" (66 : Nat)) (Jvm.Term.string "LedgeEggsModel" (185 : Nat))) ∈ flatC giC := List.mem_of_getElem? (i := 620) (by decide +kernel)
set_option maxRecDepth 100000 in
theorem fw_630 : (Jvm.Cond.eq (Jvm.Term.string "LedgeEggs$LawText" (72 : Nat)) (Jvm.Term.string "LedgeEggsModel" (193 : Nat))) ∈ flatC giC := List.mem_of_getElem? (i := 630) (by decide +kernel)
set_option maxRecDepth 100000 in
theorem fw_650 : (Jvm.Cond.eq (Jvm.Term.string "LedgeEggs$LawText" (84 : Nat)) (Jvm.Term.string "LedgeEggsModel" (167 : Nat))) ∈ flatC giC := List.mem_of_getElem? (i := 650) (by decide +kernel)
set_option maxRecDepth 100000 in
theorem fw_639 : (Jvm.Cond.eq (Jvm.Term.string "LedgeEggs$LawText" (94 : Nat)) (Jvm.Term.string "LedgeEggsModel" (165 : Nat))) ∈ flatC giC := List.mem_of_getElem? (i := 639) (by decide +kernel)
set_option maxRecDepth 100000 in
theorem fw_659 : (Jvm.Cond.eq (Jvm.Term.string "LedgeEggs$LawText" (96 : Nat)) (Jvm.Term.string "LedgeEggsModel" (169 : Nat))) ∈ flatC giC := List.mem_of_getElem? (i := 659) (by decide +kernel)
set_option maxRecDepth 100000 in
theorem fw_667 : (Jvm.Cond.eq (Jvm.Term.string "LedgeEggs$LawText" (98 : Nat)) (Jvm.Term.string "LedgeEggsModel" (171 : Nat))) ∈ flatC giC := List.mem_of_getElem? (i := 667) (by decide +kernel)
set_option maxRecDepth 100000 in
theorem fw_675 : (Jvm.Cond.eq (Jvm.Term.string "LedgeEggs$LawText" (58 : Nat)) (Jvm.Term.string "LedgeEggsModel" (198 : Nat))) ∈ flatC giC := List.mem_of_getElem? (i := 675) (by decide +kernel)
set_option maxRecDepth 100000 in
theorem fw_682 : (Jvm.Cond.eq (Jvm.Term.string "LedgeEggs$LawText" (64 : Nat)) (Jvm.Term.string "LedgeEggsModel" (203 : Nat))) ∈ flatC giC := List.mem_of_getElem? (i := 682) (by decide +kernel)
theorem st_at0 {A : Nat → Prop} (hg : ∀ w ∈ flatC giC, w.before args s = true) (hA : ∀ a : Nat, a < s.heap.size → ¬ A a) : StrAt A args s (.string "LedgeEggs$IsleText" 25) (mStr.getD 0 []) :=
  str1 (bs := [108, 101, 100, 103, 101]) (by decide) (hg _ fw_81) (hg _ fw_82) (hg _ fw_83) (hg _ fw_84) (fun j hj => match j, hj with
    | 0, _ => hg _ fw_85
    | 1, _ => hg _ fw_86
    | 2, _ => hg _ fw_87
    | 3, _ => hg _ fw_88
    | 4, _ => hg _ fw_89
    | j + 5, hj => absurd hj (by simp)) hA
theorem st_at1 {A : Nat → Prop} (hg : ∀ w ∈ flatC giC, w.before args s = true) (hA : ∀ a : Nat, a < s.heap.size → ¬ A a) : StrAt A args s (.string "LedgeEggs$IsleText" 67) (mStr.getD 1 []) :=
  str1 (bs := [114, 111, 111, 102]) (by decide) (hg _ fw_90) (hg _ fw_91) (hg _ fw_92) (hg _ fw_93) (fun j hj => match j, hj with
    | 0, _ => hg _ fw_94
    | 1, _ => hg _ fw_95
    | 2, _ => hg _ fw_96
    | 3, _ => hg _ fw_97
    | j + 4, hj => absurd hj (by simp)) hA
theorem st_at2 {A : Nat → Prop} (hg : ∀ w ∈ flatC giC, w.before args s = true) (hA : ∀ a : Nat, a < s.heap.size → ¬ A a) : StrAt A args s (.string "LedgeEggs$IsleText" 73) (mStr.getD 2 []) :=
  str1 (bs := [101, 103, 103, 115]) (by decide) (hg _ fw_98) (hg _ fw_99) (hg _ fw_100) (hg _ fw_101) (fun j hj => match j, hj with
    | 0, _ => hg _ fw_102
    | 1, _ => hg _ fw_103
    | 2, _ => hg _ fw_104
    | 3, _ => hg _ fw_105
    | j + 4, hj => absurd hj (by simp)) hA
theorem st_at3 {A : Nat → Prop} (hg : ∀ w ∈ flatC giC, w.before args s = true) (hA : ∀ a : Nat, a < s.heap.size → ¬ A a) : StrAt A args s (.string "LedgeEggs$IsleText" 75) (mStr.getD 3 []) :=
  str1 (bs := [97, 103, 101]) (by decide) (hg _ fw_106) (hg _ fw_107) (hg _ fw_108) (hg _ fw_109) (fun j hj => match j, hj with
    | 0, _ => hg _ fw_110
    | 1, _ => hg _ fw_111
    | 2, _ => hg _ fw_112
    | j + 3, hj => absurd hj (by simp)) hA
theorem st_at4 {A : Nat → Prop} (hg : ∀ w ∈ flatC giC, w.before args s = true) (hA : ∀ a : Nat, a < s.heap.size → ¬ A a) : StrAt A args s (.string "LedgeEggs$IsleText" 77) (mStr.getD 4 []) :=
  str1 (bs := [98, 105, 114, 100, 115]) (by decide) (hg _ fw_113) (hg _ fw_114) (hg _ fw_115) (hg _ fw_116) (fun j hj => match j, hj with
    | 0, _ => hg _ fw_117
    | 1, _ => hg _ fw_118
    | 2, _ => hg _ fw_119
    | 3, _ => hg _ fw_120
    | 4, _ => hg _ fw_121
    | j + 5, hj => absurd hj (by simp)) hA
theorem st_at5 {A : Nat → Prop} (hg : ∀ w ∈ flatC giC, w.before args s = true) (hA : ∀ a : Nat, a < s.heap.size → ¬ A a) : StrAt A args s (.string "LedgeEggs$IsleText" 37) (mStr.getD 5 []) :=
  str1 (bs := [114, 111, 112, 101]) (by decide) (hg _ fw_122) (hg _ fw_123) (hg _ fw_124) (hg _ fw_125) (fun j hj => match j, hj with
    | 0, _ => hg _ fw_126
    | 1, _ => hg _ fw_127
    | 2, _ => hg _ fw_128
    | 3, _ => hg _ fw_129
    | j + 4, hj => absurd hj (by simp)) hA
theorem st_at6 {A : Nat → Prop} (hg : ∀ w ∈ flatC giC, w.before args s = true) (hA : ∀ a : Nat, a < s.heap.size → ¬ A a) : StrAt A args s (.string "LedgeEggs$IsleText" 90) (mStr.getD 6 []) :=
  str1 (bs := [98, 101, 97, 114, 115]) (by decide) (hg _ fw_130) (hg _ fw_131) (hg _ fw_132) (hg _ fw_133) (fun j hj => match j, hj with
    | 0, _ => hg _ fw_134
    | 1, _ => hg _ fw_135
    | 2, _ => hg _ fw_136
    | 3, _ => hg _ fw_137
    | 4, _ => hg _ fw_138
    | j + 5, hj => absurd hj (by simp)) hA
theorem st_at7 {A : Nat → Prop} (hg : ∀ w ∈ flatC giC, w.before args s = true) (hA : ∀ a : Nat, a < s.heap.size → ¬ A a) : StrAt A args s (.string "LedgeEggs$IsleText" 42) (mStr.getD 7 []) :=
  str1 (bs := [104, 111, 108, 100, 101, 114]) (by decide) (hg _ fw_139) (hg _ fw_140) (hg _ fw_141) (hg _ fw_142) (fun j hj => match j, hj with
    | 0, _ => hg _ fw_143
    | 1, _ => hg _ fw_144
    | 2, _ => hg _ fw_145
    | 3, _ => hg _ fw_146
    | 4, _ => hg _ fw_147
    | 5, _ => hg _ fw_148
    | j + 6, hj => absurd hj (by simp)) hA
theorem st_at8 {A : Nat → Prop} (hg : ∀ w ∈ flatC giC, w.before args s = true) (hA : ∀ a : Nat, a < s.heap.size → ¬ A a) : StrAt A args s (.string "LedgeEggs$IsleText" 47) (mStr.getD 8 []) :=
  str1 (bs := [99, 108, 105, 109, 98, 101, 114]) (by decide) (hg _ fw_149) (hg _ fw_150) (hg _ fw_151) (hg _ fw_152) (fun j hj => match j, hj with
    | 0, _ => hg _ fw_153
    | 1, _ => hg _ fw_154
    | 2, _ => hg _ fw_155
    | 3, _ => hg _ fw_156
    | 4, _ => hg _ fw_157
    | 5, _ => hg _ fw_158
    | 6, _ => hg _ fw_159
    | j + 7, hj => absurd hj (by simp)) hA
theorem st_at9 {A : Nat → Prop} (hg : ∀ w ∈ flatC giC, w.before args s = true) (hA : ∀ a : Nat, a < s.heap.size → ¬ A a) : StrAt A args s (.string "LedgeEggs$IsleText" 52) (mStr.getD 9 []) :=
  str1 (bs := [103, 97, 108, 101]) (by decide) (hg _ fw_160) (hg _ fw_161) (hg _ fw_162) (hg _ fw_163) (fun j hj => match j, hj with
    | 0, _ => hg _ fw_164
    | 1, _ => hg _ fw_165
    | 2, _ => hg _ fw_166
    | 3, _ => hg _ fw_167
    | j + 4, hj => absurd hj (by simp)) hA
theorem st_at10 {A : Nat → Prop} (hg : ∀ w ∈ flatC giC, w.before args s = true) (hA : ∀ a : Nat, a < s.heap.size → ¬ A a) : StrAt A args s (.string "LedgeEggs$IsleText" 58) (mStr.getD 10 []) :=
  str1 (bs := [115, 116, 111, 110, 101, 115]) (by decide) (hg _ fw_168) (hg _ fw_169) (hg _ fw_170) (hg _ fw_171) (fun j hj => match j, hj with
    | 0, _ => hg _ fw_172
    | 1, _ => hg _ fw_173
    | 2, _ => hg _ fw_174
    | 3, _ => hg _ fw_175
    | 4, _ => hg _ fw_176
    | 5, _ => hg _ fw_177
    | j + 6, hj => absurd hj (by simp)) hA
theorem st_at11 {A : Nat → Prop} (hg : ∀ w ∈ flatC giC, w.before args s = true) (hA : ∀ a : Nat, a < s.heap.size → ¬ A a) : StrAt A args s (.string "LedgeEggs$LawText" 49) (mStr.getD 11 []) :=
  str1 (bs := [115, 119, 105, 110, 103]) (by decide) (hg _ fw_178) (hg _ fw_179) (hg _ fw_180) (hg _ fw_181) (fun j hj => match j, hj with
    | 0, _ => hg _ fw_182
    | 1, _ => hg _ fw_183
    | 2, _ => hg _ fw_184
    | 3, _ => hg _ fw_185
    | 4, _ => hg _ fw_186
    | j + 5, hj => absurd hj (by simp)) hA
theorem st_at12 {A : Nat → Prop} (hg : ∀ w ∈ flatC giC, w.before args s = true) (hA : ∀ a : Nat, a < s.heap.size → ¬ A a) : StrAt A args s (.string "LedgeEggs$LawText" 51) (mStr.getD 12 []) :=
  str1 (bs := [119, 101, 97, 114]) (by decide) (hg _ fw_187) (hg _ fw_188) (hg _ fw_189) (hg _ fw_190) (fun j hj => match j, hj with
    | 0, _ => hg _ fw_191
    | 1, _ => hg _ fw_192
    | 2, _ => hg _ fw_193
    | 3, _ => hg _ fw_194
    | j + 4, hj => absurd hj (by simp)) hA
theorem st_at13 {A : Nat → Prop} (hg : ∀ w ∈ flatC giC, w.before args s = true) (hA : ∀ a : Nat, a < s.heap.size → ¬ A a) : StrAt A args s (.string "LedgeEggs$LawText" 53) (mStr.getD 13 []) :=
  str1 (bs := [108, 97, 121]) (by decide) (hg _ fw_195) (hg _ fw_196) (hg _ fw_197) (hg _ fw_198) (fun j hj => match j, hj with
    | 0, _ => hg _ fw_199
    | 1, _ => hg _ fw_200
    | 2, _ => hg _ fw_201
    | j + 3, hj => absurd hj (by simp)) hA
theorem st_at14 {A : Nat → Prop} (hg : ∀ w ∈ flatC giC, w.before args s = true) (hA : ∀ a : Nat, a < s.heap.size → ¬ A a) : StrAt A args s (.string "LedgeEggs$LawText" 33) (mStr.getD 14 []) :=
  str1 (bs := [105, 102]) (by decide) (hg _ fw_202) (hg _ fw_203) (hg _ fw_204) (hg _ fw_205) (fun j hj => match j, hj with
    | 0, _ => hg _ fw_206
    | 1, _ => hg _ fw_207
    | j + 2, hj => absurd hj (by simp)) hA
theorem st_at15 {A : Nat → Prop} (hg : ∀ w ∈ flatC giC, w.before args s = true) (hA : ∀ a : Nat, a < s.heap.size → ¬ A a) : StrAt A args s (.string "LedgeEggs$LawText" 66) (mStr.getD 15 []) :=
  str1 (bs := [110, 111, 116]) (by decide) (hg _ fw_208) (hg _ fw_209) (hg _ fw_210) (hg _ fw_211) (fun j hj => match j, hj with
    | 0, _ => hg _ fw_212
    | 1, _ => hg _ fw_213
    | 2, _ => hg _ fw_214
    | j + 3, hj => absurd hj (by simp)) hA
theorem st_at16 {A : Nat → Prop} (hg : ∀ w ∈ flatC giC, w.before args s = true) (hA : ∀ a : Nat, a < s.heap.size → ¬ A a) : StrAt A args s (.string "LedgeEggs$LawText" 72) (mStr.getD 16 []) :=
  str1 (bs := [102, 114, 101, 115, 104]) (by decide) (hg _ fw_215) (hg _ fw_216) (hg _ fw_217) (hg _ fw_218) (fun j hj => match j, hj with
    | 0, _ => hg _ fw_219
    | 1, _ => hg _ fw_220
    | 2, _ => hg _ fw_221
    | 3, _ => hg _ fw_222
    | 4, _ => hg _ fw_223
    | j + 5, hj => absurd hj (by simp)) hA
theorem st_at17 {A : Nat → Prop} (hg : ∀ w ∈ flatC giC, w.before args s = true) (hA : ∀ a : Nat, a < s.heap.size → ¬ A a) : StrAt A args s (.string "LedgeEggs$LawText" 84) (mStr.getD 17 []) :=
  str1 (bs := [102, 97, 116, 104, 111, 109]) (by decide) (hg _ fw_224) (hg _ fw_225) (hg _ fw_226) (hg _ fw_227) (fun j hj => match j, hj with
    | 0, _ => hg _ fw_228
    | 1, _ => hg _ fw_229
    | 2, _ => hg _ fw_230
    | 3, _ => hg _ fw_231
    | 4, _ => hg _ fw_232
    | 5, _ => hg _ fw_233
    | j + 6, hj => absurd hj (by simp)) hA
theorem st_at18 {A : Nat → Prop} (hg : ∀ w ∈ flatC giC, w.before args s = true) (hA : ∀ a : Nat, a < s.heap.size → ¬ A a) : StrAt A args s (.string "LedgeEggs$LawText" 94) (mStr.getD 18 []) :=
  str1 (bs := [107, 105, 99, 107]) (by decide) (hg _ fw_270) (hg _ fw_271) (hg _ fw_272) (hg _ fw_273) (fun j hj => match j, hj with
    | 0, _ => hg _ fw_274
    | 1, _ => hg _ fw_275
    | 2, _ => hg _ fw_276
    | 3, _ => hg _ fw_277
    | j + 4, hj => absurd hj (by simp)) hA
theorem st_at19 {A : Nat → Prop} (hg : ∀ w ∈ flatC giC, w.before args s = true) (hA : ∀ a : Nat, a < s.heap.size → ¬ A a) : StrAt A args s (.string "LedgeEggs$LawText" 96) (mStr.getD 19 []) :=
  str1 (bs := [119, 105, 110, 100]) (by decide) (hg _ fw_278) (hg _ fw_279) (hg _ fw_280) (hg _ fw_281) (fun j hj => match j, hj with
    | 0, _ => hg _ fw_282
    | 1, _ => hg _ fw_283
    | 2, _ => hg _ fw_284
    | 3, _ => hg _ fw_285
    | j + 4, hj => absurd hj (by simp)) hA
theorem st_at20 {A : Nat → Prop} (hg : ∀ w ∈ flatC giC, w.before args s = true) (hA : ∀ a : Nat, a < s.heap.size → ¬ A a) : StrAt A args s (.string "LedgeEggs$LawText" 98) (mStr.getD 20 []) :=
  str1 (bs := [100, 97, 121]) (by decide) (hg _ fw_286) (hg _ fw_287) (hg _ fw_288) (hg _ fw_289) (fun j hj => match j, hj with
    | 0, _ => hg _ fw_290
    | 1, _ => hg _ fw_291
    | 2, _ => hg _ fw_292
    | j + 3, hj => absurd hj (by simp)) hA
theorem st_at21 {A : Nat → Prop} (hg : ∀ w ∈ flatC giC, w.before args s = true) (hA : ∀ a : Nat, a < s.heap.size → ¬ A a) : StrAt A args s (.string "LedgeEggs$LawText" 58) (mStr.getD 21 []) :=
  str1 (bs := [97, 110, 100]) (by decide) (hg _ fw_293) (hg _ fw_294) (hg _ fw_295) (hg _ fw_296) (fun j hj => match j, hj with
    | 0, _ => hg _ fw_297
    | 1, _ => hg _ fw_298
    | 2, _ => hg _ fw_299
    | j + 3, hj => absurd hj (by simp)) hA
theorem st_at22 {A : Nat → Prop} (hg : ∀ w ∈ flatC giC, w.before args s = true) (hA : ∀ a : Nat, a < s.heap.size → ¬ A a) : StrAt A args s (.string "LedgeEggs$LawText" 64) (mStr.getD 22 []) :=
  str1 (bs := [111, 114]) (by decide) (hg _ fw_300) (hg _ fw_301) (hg _ fw_302) (hg _ fw_303) (fun j hj => match j, hj with
    | 0, _ => hg _ fw_304
    | 1, _ => hg _ fw_305
    | j + 2, hj => absurd hj (by simp)) hA
theorem st_at23 {A : Nat → Prop} (hg : ∀ w ∈ flatC giC, w.before args s = true) (hA : ∀ a : Nat, a < s.heap.size → ¬ A a) : StrAt A args s (.string "LedgeEggs" 110) (mStr.getD 23 []) :=
  str1 (bs := [116, 104, 101, 32, 116, 101, 120, 116, 32, 105, 115, 32, 119, 114, 111, 110, 103]) (by decide) (hg _ fw_306) (hg _ fw_307) (hg _ fw_308) (hg _ fw_309) (fun j hj => match j, hj with
    | 0, _ => hg _ fw_310
    | 1, _ => hg _ fw_311
    | 2, _ => hg _ fw_312
    | 3, _ => hg _ fw_313
    | 4, _ => hg _ fw_314
    | 5, _ => hg _ fw_315
    | 6, _ => hg _ fw_316
    | 7, _ => hg _ fw_317
    | 8, _ => hg _ fw_318
    | 9, _ => hg _ fw_319
    | 10, _ => hg _ fw_320
    | 11, _ => hg _ fw_321
    | 12, _ => hg _ fw_322
    | 13, _ => hg _ fw_323
    | 14, _ => hg _ fw_324
    | 15, _ => hg _ fw_325
    | 16, _ => hg _ fw_326
    | j + 17, hj => absurd hj (by simp)) hA
theorem st_at24 {A : Nat → Prop} (hg : ∀ w ∈ flatC giC, w.before args s = true) (hA : ∀ a : Nat, a < s.heap.size → ¬ A a) : StrAt A args s (.string "LedgeEggs" 121) (mStr.getD 24 []) :=
  str1 (bs := [116, 104, 101, 114, 101, 32, 97, 114, 101, 32, 49, 50, 32, 116, 101, 120, 116, 115]) (by decide) (hg _ fw_327) (hg _ fw_328) (hg _ fw_329) (hg _ fw_330) (fun j hj => match j, hj with
    | 0, _ => hg _ fw_331
    | 1, _ => hg _ fw_332
    | 2, _ => hg _ fw_333
    | 3, _ => hg _ fw_334
    | 4, _ => hg _ fw_335
    | 5, _ => hg _ fw_336
    | 6, _ => hg _ fw_337
    | 7, _ => hg _ fw_338
    | 8, _ => hg _ fw_339
    | 9, _ => hg _ fw_340
    | 10, _ => hg _ fw_341
    | 11, _ => hg _ fw_342
    | 12, _ => hg _ fw_343
    | 13, _ => hg _ fw_344
    | 14, _ => hg _ fw_345
    | 15, _ => hg _ fw_346
    | 16, _ => hg _ fw_347
    | 17, _ => hg _ fw_348
    | j + 18, hj => absurd hj (by simp)) hA
theorem st_at25 {A : Nat → Prop} (hg : ∀ w ∈ flatC giC, w.before args s = true) (hA : ∀ a : Nat, a < s.heap.size → ¬ A a) : StrAt A args s (.string "LedgeEggs" 319) (mStr.getD 25 []) :=
  str1 (bs := [110, 111, 32, 115, 117, 99, 104, 32, 108, 101, 100, 103, 101]) (by decide) (hg _ fw_349) (hg _ fw_350) (hg _ fw_351) (hg _ fw_352) (fun j hj => match j, hj with
    | 0, _ => hg _ fw_353
    | 1, _ => hg _ fw_354
    | 2, _ => hg _ fw_355
    | 3, _ => hg _ fw_356
    | 4, _ => hg _ fw_357
    | 5, _ => hg _ fw_358
    | 6, _ => hg _ fw_359
    | 7, _ => hg _ fw_360
    | 8, _ => hg _ fw_361
    | 9, _ => hg _ fw_362
    | 10, _ => hg _ fw_363
    | 11, _ => hg _ fw_364
    | 12, _ => hg _ fw_365
    | j + 13, hj => absurd hj (by simp)) hA
theorem st_at26 {A : Nat → Prop} (hg : ∀ w ∈ flatC giC, w.before args s = true) (hA : ∀ a : Nat, a < s.heap.size → ¬ A a) : StrAt A args s (.string "LedgeEggs" 146) (mStr.getD 26 []) :=
  str1 (bs := [110, 111, 32, 115, 117, 99, 104, 32, 119, 104, 97, 116]) (by decide) (hg _ fw_366) (hg _ fw_367) (hg _ fw_368) (hg _ fw_369) (fun j hj => match j, hj with
    | 0, _ => hg _ fw_370
    | 1, _ => hg _ fw_371
    | 2, _ => hg _ fw_372
    | 3, _ => hg _ fw_373
    | 4, _ => hg _ fw_374
    | 5, _ => hg _ fw_375
    | 6, _ => hg _ fw_376
    | 7, _ => hg _ fw_377
    | 8, _ => hg _ fw_378
    | 9, _ => hg _ fw_379
    | 10, _ => hg _ fw_380
    | 11, _ => hg _ fw_381
    | j + 12, hj => absurd hj (by simp)) hA
theorem st_at27 {A : Nat → Prop} (hg : ∀ w ∈ flatC giC, w.before args s = true) (hA : ∀ a : Nat, a < s.heap.size → ¬ A a) : StrAt A args s (.string "LedgeEggs" 322) (mStr.getD 27 []) :=
  str1 (bs := [110, 111, 32, 115, 117, 99, 104, 32, 104, 111, 108, 100, 101, 114]) (by decide) (hg _ fw_382) (hg _ fw_383) (hg _ fw_384) (hg _ fw_385) (fun j hj => match j, hj with
    | 0, _ => hg _ fw_386
    | 1, _ => hg _ fw_387
    | 2, _ => hg _ fw_388
    | 3, _ => hg _ fw_389
    | 4, _ => hg _ fw_390
    | 5, _ => hg _ fw_391
    | 6, _ => hg _ fw_392
    | 7, _ => hg _ fw_393
    | 8, _ => hg _ fw_394
    | 9, _ => hg _ fw_395
    | 10, _ => hg _ fw_396
    | 11, _ => hg _ fw_397
    | 12, _ => hg _ fw_398
    | 13, _ => hg _ fw_399
    | j + 14, hj => absurd hj (by simp)) hA
theorem st_at28 {A : Nat → Prop} (hg : ∀ w ∈ flatC giC, w.before args s = true) (hA : ∀ a : Nat, a < s.heap.size → ¬ A a) : StrAt A args s (.string "LedgeEggs" 324) (mStr.getD 28 []) :=
  str1 (bs := [110, 111, 32, 115, 117, 99, 104, 32, 99, 108, 105, 109, 98, 101, 114]) (by decide) (hg _ fw_400) (hg _ fw_401) (hg _ fw_402) (hg _ fw_403) (fun j hj => match j, hj with
    | 0, _ => hg _ fw_404
    | 1, _ => hg _ fw_405
    | 2, _ => hg _ fw_406
    | 3, _ => hg _ fw_407
    | 4, _ => hg _ fw_408
    | 5, _ => hg _ fw_409
    | 6, _ => hg _ fw_410
    | 7, _ => hg _ fw_411
    | 8, _ => hg _ fw_412
    | 9, _ => hg _ fw_413
    | 10, _ => hg _ fw_414
    | 11, _ => hg _ fw_415
    | 12, _ => hg _ fw_416
    | 13, _ => hg _ fw_417
    | 14, _ => hg _ fw_418
    | j + 15, hj => absurd hj (by simp)) hA
theorem st_at29 {A : Nat → Prop} (hg : ∀ w ∈ flatC giC, w.before args s = true) (hA : ∀ a : Nat, a < s.heap.size → ¬ A a) : StrAt A args s (.string "LedgeEggs" 326) (mStr.getD 29 []) :=
  str1 (bs := [116, 104, 101, 32, 110, 117, 109, 98, 101, 114, 32, 105, 115, 32, 110, 111, 110, 101]) (by decide) (hg _ fw_419) (hg _ fw_420) (hg _ fw_421) (hg _ fw_422) (fun j hj => match j, hj with
    | 0, _ => hg _ fw_423
    | 1, _ => hg _ fw_424
    | 2, _ => hg _ fw_425
    | 3, _ => hg _ fw_426
    | 4, _ => hg _ fw_427
    | 5, _ => hg _ fw_428
    | 6, _ => hg _ fw_429
    | 7, _ => hg _ fw_430
    | 8, _ => hg _ fw_431
    | 9, _ => hg _ fw_432
    | 10, _ => hg _ fw_433
    | 11, _ => hg _ fw_434
    | 12, _ => hg _ fw_435
    | 13, _ => hg _ fw_436
    | 14, _ => hg _ fw_437
    | 15, _ => hg _ fw_438
    | 16, _ => hg _ fw_439
    | 17, _ => hg _ fw_440
    | j + 18, hj => absurd hj (by simp)) hA
theorem st_at30 {A : Nat → Prop} (hg : ∀ w ∈ flatC giC, w.before args s = true) (hA : ∀ a : Nat, a < s.heap.size → ¬ A a) : StrAt A args s (.string "LedgeEggs" 202) (mStr.getD 30 []) :=
  str1 (bs := [111, 110, 101, 32, 99, 97, 110, 110, 111, 116, 32, 98, 101, 32, 108, 101, 116, 32, 100, 111, 119, 110]) (by decide) (hg _ fw_441) (hg _ fw_442) (hg _ fw_443) (hg _ fw_444) (fun j hj => match j, hj with
    | 0, _ => hg _ fw_445
    | 1, _ => hg _ fw_446
    | 2, _ => hg _ fw_447
    | 3, _ => hg _ fw_448
    | 4, _ => hg _ fw_449
    | 5, _ => hg _ fw_450
    | 6, _ => hg _ fw_451
    | 7, _ => hg _ fw_452
    | 8, _ => hg _ fw_453
    | 9, _ => hg _ fw_454
    | 10, _ => hg _ fw_455
    | 11, _ => hg _ fw_456
    | 12, _ => hg _ fw_457
    | 13, _ => hg _ fw_458
    | 14, _ => hg _ fw_459
    | 15, _ => hg _ fw_460
    | 16, _ => hg _ fw_461
    | 17, _ => hg _ fw_462
    | 18, _ => hg _ fw_463
    | 19, _ => hg _ fw_464
    | 20, _ => hg _ fw_465
    | 21, _ => hg _ fw_466
    | j + 22, hj => absurd hj (by simp)) hA
end MX
/-! the texts, the statics, the exceptions, as the methods want them -/
set_option maxRecDepth 100000 in
theorem fw_4 : (Jvm.Cond.eq (Jvm.Term.static "java/lang/String" "COMPACT_STRINGS" "Z") (Jvm.Term.int (1 : Int32))) ∈ flatC giC := List.mem_of_getElem? (i := 4) (by decide +kernel)
set_option maxRecDepth 100000 in
theorem fw_5 : (Jvm.Cond.isRef (Jvm.Term.static "jdk/internal/util/Preconditions" "SIOOBE_FORMATTER" "Ljava/util/function/BiFunction;")) ∈ flatC giC := List.mem_of_getElem? (i := 5) (by decide +kernel)
set_option maxRecDepth 100000 in
theorem fw_9 : (Jvm.Cond.isRef (Jvm.Term.static "java/lang/Throwable" "UNASSIGNED_STACK" "[Ljava/lang/StackTraceElement;")) ∈ flatC giC := List.mem_of_getElem? (i := 9) (by decide +kernel)
set_option maxRecDepth 100000 in
theorem fw_10 : (Jvm.Cond.isRef (Jvm.Term.static "java/lang/Throwable" "SUPPRESSED_SENTINEL" "Ljava/util/List;")) ∈ flatC giC := List.mem_of_getElem? (i := 10) (by decide +kernel)
set_option maxRecDepth 100000 in
theorem fw_21 : (Jvm.Cond.not (Jvm.Cond.castable "java/lang/UnsupportedOperationException" "java/lang/IllegalArgumentException")) ∈ flatC giC := List.mem_of_getElem? (i := 21) (by decide +kernel)
set_option maxRecDepth 100000 in
theorem fw_51 : (Jvm.Cond.not (Jvm.Cond.castable "java/util/NoSuchElementException" "java/lang/IndexOutOfBoundsException")) ∈ flatC giC := List.mem_of_getElem? (i := 51) (by decide +kernel)
set_option maxRecDepth 100000 in
theorem fw_49 : (Jvm.Cond.not (Jvm.Cond.castable "java/lang/IllegalArgumentException" "java/lang/IndexOutOfBoundsException")) ∈ flatC giC := List.mem_of_getElem? (i := 49) (by decide +kernel)
set_option maxRecDepth 100000 in
theorem fw_52 : (Jvm.Cond.not (Jvm.Cond.castable "java/lang/IllegalStateException" "java/lang/IndexOutOfBoundsException")) ∈ flatC giC := List.mem_of_getElem? (i := 52) (by decide +kernel)
set_option maxRecDepth 100000 in
theorem fw_24 : (Jvm.Cond.not (Jvm.Cond.castable "java/lang/IllegalStateException" "java/lang/IllegalArgumentException")) ∈ flatC giC := List.mem_of_getElem? (i := 24) (by decide +kernel)
section MX2
variable {args : Array Value} {s : State} {z : Nat}
theorem pairR {a b : Term} {v : Value} (hp : (Cond.eq a b).before args s = true) (ha : a.eval args s none [] s = some v) : b.eval args s none [] s = some v := by
  obtain ⟨y, h1, h2⟩ := Cond.eq_one (args := args) (first := s) (o := none) (s := s) (idx := []) hp
  cases Option.some.inj (h1.symm.trans ha)
  exact h2
theorem pairL {a b : Term} {v : Value} (hp : (Cond.eq a b).before args s = true) (hb : b.eval args s none [] s = some v) : a.eval args s none [] s = some v := by
  obtain ⟨y, h1, h2⟩ := Cond.eq_one (args := args) (first := s) (o := none) (s := s) (idx := []) hp
  cases Option.some.inj (h2.symm.trans hb)
  exact h1
set_option maxRecDepth 20000 in
theorem sr_607 : Cond.stringRef "LedgeEggs$IsleText" 25 "ledge" ∈ lw_tbl := List.mem_of_getElem? (i := 607) (by decide +kernel)
set_option maxRecDepth 20000 in
theorem sr_682 : Cond.stringRef "LedgeEggs$IsleText" 67 "roof" ∈ lw_tbl := List.mem_of_getElem? (i := 682) (by decide +kernel)
set_option maxRecDepth 20000 in
theorem sr_688 : Cond.stringRef "LedgeEggs$IsleText" 73 "eggs" ∈ lw_tbl := List.mem_of_getElem? (i := 688) (by decide +kernel)
set_option maxRecDepth 20000 in
theorem sr_689 : Cond.stringRef "LedgeEggs$IsleText" 75 "age" ∈ lw_tbl := List.mem_of_getElem? (i := 689) (by decide +kernel)
set_option maxRecDepth 20000 in
theorem sr_690 : Cond.stringRef "LedgeEggs$IsleText" 77 "birds" ∈ lw_tbl := List.mem_of_getElem? (i := 690) (by decide +kernel)
set_option maxRecDepth 20000 in
theorem sr_704 : Cond.stringRef "LedgeEggs$IsleText" 37 "rope" ∈ lw_tbl := List.mem_of_getElem? (i := 704) (by decide +kernel)
set_option maxRecDepth 20000 in
theorem sr_709 : Cond.stringRef "LedgeEggs$IsleText" 90 "bears" ∈ lw_tbl := List.mem_of_getElem? (i := 709) (by decide +kernel)
set_option maxRecDepth 20000 in
theorem sr_711 : Cond.stringRef "LedgeEggs$IsleText" 42 "holder" ∈ lw_tbl := List.mem_of_getElem? (i := 711) (by decide +kernel)
set_option maxRecDepth 20000 in
theorem sr_720 : Cond.stringRef "LedgeEggs$IsleText" 47 "climber" ∈ lw_tbl := List.mem_of_getElem? (i := 720) (by decide +kernel)
set_option maxRecDepth 20000 in
theorem sr_729 : Cond.stringRef "LedgeEggs$IsleText" 52 "gale" ∈ lw_tbl := List.mem_of_getElem? (i := 729) (by decide +kernel)
set_option maxRecDepth 20000 in
theorem sr_734 : Cond.stringRef "LedgeEggs$IsleText" 58 "stones" ∈ lw_tbl := List.mem_of_getElem? (i := 734) (by decide +kernel)
set_option maxRecDepth 20000 in
theorem sr_742 : Cond.stringRef "LedgeEggs$LawText" 49 "swing" ∈ lw_tbl := List.mem_of_getElem? (i := 742) (by decide +kernel)
set_option maxRecDepth 20000 in
theorem sr_744 : Cond.stringRef "LedgeEggs$LawText" 51 "wear" ∈ lw_tbl := List.mem_of_getElem? (i := 744) (by decide +kernel)
set_option maxRecDepth 20000 in
theorem sr_745 : Cond.stringRef "LedgeEggs$LawText" 53 "lay" ∈ lw_tbl := List.mem_of_getElem? (i := 745) (by decide +kernel)
set_option maxRecDepth 20000 in
theorem sr_748 : Cond.stringRef "LedgeEggs$LawText" 33 "if" ∈ lw_tbl := List.mem_of_getElem? (i := 748) (by decide +kernel)
set_option maxRecDepth 20000 in
theorem sr_757 : Cond.stringRef "LedgeEggs$LawText" 66 "not" ∈ lw_tbl := List.mem_of_getElem? (i := 757) (by decide +kernel)
set_option maxRecDepth 20000 in
theorem sr_766 : Cond.stringRef "LedgeEggs$LawText" 72 "fresh" ∈ lw_tbl := List.mem_of_getElem? (i := 766) (by decide +kernel)
set_option maxRecDepth 20000 in
theorem sr_778 : Cond.stringRef "LedgeEggs$LawText" 84 "fathom" ∈ lw_tbl := List.mem_of_getElem? (i := 778) (by decide +kernel)
set_option maxRecDepth 20000 in
theorem sr_779 : Cond.stringRef "LedgeEggs$LawText" 86 "roof" ∈ lw_tbl := List.mem_of_getElem? (i := 779) (by decide +kernel)
set_option maxRecDepth 20000 in
theorem sr_780 : Cond.stringRef "LedgeEggs$LawText" 88 "eggs" ∈ lw_tbl := List.mem_of_getElem? (i := 780) (by decide +kernel)
set_option maxRecDepth 20000 in
theorem sr_781 : Cond.stringRef "LedgeEggs$LawText" 90 "age" ∈ lw_tbl := List.mem_of_getElem? (i := 781) (by decide +kernel)
set_option maxRecDepth 20000 in
theorem sr_782 : Cond.stringRef "LedgeEggs$LawText" 92 "birds" ∈ lw_tbl := List.mem_of_getElem? (i := 782) (by decide +kernel)
set_option maxRecDepth 20000 in
theorem sr_783 : Cond.stringRef "LedgeEggs$LawText" 94 "kick" ∈ lw_tbl := List.mem_of_getElem? (i := 783) (by decide +kernel)
set_option maxRecDepth 20000 in
theorem sr_784 : Cond.stringRef "LedgeEggs$LawText" 96 "wind" ∈ lw_tbl := List.mem_of_getElem? (i := 784) (by decide +kernel)
set_option maxRecDepth 20000 in
theorem sr_785 : Cond.stringRef "LedgeEggs$LawText" 98 "day" ∈ lw_tbl := List.mem_of_getElem? (i := 785) (by decide +kernel)
set_option maxRecDepth 20000 in
theorem sr_786 : Cond.stringRef "LedgeEggs$LawText" 58 "and" ∈ lw_tbl := List.mem_of_getElem? (i := 786) (by decide +kernel)
set_option maxRecDepth 20000 in
theorem sr_787 : Cond.stringRef "LedgeEggs$LawText" 64 "or" ∈ lw_tbl := List.mem_of_getElem? (i := 787) (by decide +kernel)
set_option maxRecDepth 20000 in
theorem sr_837 : Cond.stringRef "LedgeEggs" 110 "the text is wrong" ∈ lw_tbl := List.mem_of_getElem? (i := 837) (by decide +kernel)
set_option maxRecDepth 20000 in
theorem sr_873 : Cond.stringRef "LedgeEggs" 121 "there are 12 texts" ∈ lw_tbl := List.mem_of_getElem? (i := 873) (by decide +kernel)
set_option maxRecDepth 20000 in
theorem sr_917 : Cond.stringRef "LedgeEggs" 319 "no such ledge" ∈ lw_tbl := List.mem_of_getElem? (i := 917) (by decide +kernel)
set_option maxRecDepth 20000 in
theorem sr_933 : Cond.stringRef "LedgeEggs" 146 "no such what" ∈ lw_tbl := List.mem_of_getElem? (i := 933) (by decide +kernel)
set_option maxRecDepth 20000 in
theorem sr_969 : Cond.stringRef "LedgeEggs" 322 "no such holder" ∈ lw_tbl := List.mem_of_getElem? (i := 969) (by decide +kernel)
set_option maxRecDepth 20000 in
theorem sr_982 : Cond.stringRef "LedgeEggs" 324 "no such climber" ∈ lw_tbl := List.mem_of_getElem? (i := 982) (by decide +kernel)
set_option maxRecDepth 20000 in
theorem sr_993 : Cond.stringRef "LedgeEggs" 326 "the number is none" ∈ lw_tbl := List.mem_of_getElem? (i := 993) (by decide +kernel)
set_option maxRecDepth 20000 in
theorem sr_1035 : Cond.stringRef "LedgeEggs" 202 "one cannot be let down" ∈ lw_tbl := List.mem_of_getElem? (i := 1035) (by decide +kernel)
set_option maxRecDepth 20000 in
theorem sr_1478 : Cond.stringRef "LedgeEggsModel" 129 "ledge" ∈ lw_tbl := List.mem_of_getElem? (i := 1478) (by decide +kernel)
set_option maxRecDepth 20000 in
theorem sr_1497 : Cond.stringRef "LedgeEggsModel" 115 "roof" ∈ lw_tbl := List.mem_of_getElem? (i := 1497) (by decide +kernel)
set_option maxRecDepth 20000 in
theorem sr_1502 : Cond.stringRef "LedgeEggsModel" 121 "eggs" ∈ lw_tbl := List.mem_of_getElem? (i := 1502) (by decide +kernel)
set_option maxRecDepth 20000 in
theorem sr_1503 : Cond.stringRef "LedgeEggsModel" 123 "age" ∈ lw_tbl := List.mem_of_getElem? (i := 1503) (by decide +kernel)
set_option maxRecDepth 20000 in
theorem sr_1504 : Cond.stringRef "LedgeEggsModel" 125 "birds" ∈ lw_tbl := List.mem_of_getElem? (i := 1504) (by decide +kernel)
set_option maxRecDepth 20000 in
theorem sr_1508 : Cond.stringRef "LedgeEggsModel" 135 "rope" ∈ lw_tbl := List.mem_of_getElem? (i := 1508) (by decide +kernel)
set_option maxRecDepth 20000 in
theorem sr_1513 : Cond.stringRef "LedgeEggsModel" 127 "bears" ∈ lw_tbl := List.mem_of_getElem? (i := 1513) (by decide +kernel)
set_option maxRecDepth 20000 in
theorem sr_1514 : Cond.stringRef "LedgeEggsModel" 140 "holder" ∈ lw_tbl := List.mem_of_getElem? (i := 1514) (by decide +kernel)
set_option maxRecDepth 20000 in
theorem sr_1523 : Cond.stringRef "LedgeEggsModel" 145 "climber" ∈ lw_tbl := List.mem_of_getElem? (i := 1523) (by decide +kernel)
set_option maxRecDepth 20000 in
theorem sr_1532 : Cond.stringRef "LedgeEggsModel" 150 "gale" ∈ lw_tbl := List.mem_of_getElem? (i := 1532) (by decide +kernel)
set_option maxRecDepth 20000 in
theorem sr_1537 : Cond.stringRef "LedgeEggsModel" 156 "stones" ∈ lw_tbl := List.mem_of_getElem? (i := 1537) (by decide +kernel)
set_option maxRecDepth 20000 in
theorem sr_1542 : Cond.stringRef "LedgeEggsModel" 205 "swing" ∈ lw_tbl := List.mem_of_getElem? (i := 1542) (by decide +kernel)
set_option maxRecDepth 20000 in
theorem sr_1543 : Cond.stringRef "LedgeEggsModel" 207 "wear" ∈ lw_tbl := List.mem_of_getElem? (i := 1543) (by decide +kernel)
set_option maxRecDepth 20000 in
theorem sr_1544 : Cond.stringRef "LedgeEggsModel" 209 "lay" ∈ lw_tbl := List.mem_of_getElem? (i := 1544) (by decide +kernel)
set_option maxRecDepth 20000 in
theorem sr_1545 : Cond.stringRef "LedgeEggsModel" 211 "if" ∈ lw_tbl := List.mem_of_getElem? (i := 1545) (by decide +kernel)
set_option maxRecDepth 20000 in
theorem sr_1566 : Cond.stringRef "LedgeEggsModel" 185 "not" ∈ lw_tbl := List.mem_of_getElem? (i := 1566) (by decide +kernel)
set_option maxRecDepth 20000 in
theorem sr_1571 : Cond.stringRef "LedgeEggsModel" 193 "fresh" ∈ lw_tbl := List.mem_of_getElem? (i := 1571) (by decide +kernel)
set_option maxRecDepth 20000 in
theorem sr_1580 : Cond.stringRef "LedgeEggsModel" 165 "kick" ∈ lw_tbl := List.mem_of_getElem? (i := 1580) (by decide +kernel)
set_option maxRecDepth 20000 in
theorem sr_1581 : Cond.stringRef "LedgeEggsModel" 167 "fathom" ∈ lw_tbl := List.mem_of_getElem? (i := 1581) (by decide +kernel)
set_option maxRecDepth 20000 in
theorem sr_1582 : Cond.stringRef "LedgeEggsModel" 169 "wind" ∈ lw_tbl := List.mem_of_getElem? (i := 1582) (by decide +kernel)
set_option maxRecDepth 20000 in
theorem sr_1583 : Cond.stringRef "LedgeEggsModel" 171 "day" ∈ lw_tbl := List.mem_of_getElem? (i := 1583) (by decide +kernel)
set_option maxRecDepth 20000 in
theorem sr_1584 : Cond.stringRef "LedgeEggsModel" 198 "and" ∈ lw_tbl := List.mem_of_getElem? (i := 1584) (by decide +kernel)
set_option maxRecDepth 20000 in
theorem sr_1585 : Cond.stringRef "LedgeEggsModel" 203 "or" ∈ lw_tbl := List.mem_of_getElem? (i := 1585) (by decide +kernel)
set_option maxRecDepth 20000 in
theorem ls_1 : Cond.laysStatic "java/lang/String" "COMPACT_STRINGS" "Z" ∈ lw_tbl := List.mem_of_getElem? (i := 628) (by decide +kernel)
set_option maxRecDepth 20000 in
theorem ls_2 : Cond.laysStatic "jdk/internal/util/Preconditions" "SIOOBE_FORMATTER" "Ljava/util/function/BiFunction;" ∈ lw_tbl := List.mem_of_getElem? (i := 644) (by decide +kernel)
set_option maxRecDepth 20000 in
theorem ls_3 : Cond.laysStatic "java/lang/Throwable" "UNASSIGNED_STACK" "[Ljava/lang/StackTraceElement;" ∈ lw_tbl := List.mem_of_getElem? (i := 821) (by decide +kernel)
set_option maxRecDepth 20000 in
theorem ls_4 : Cond.laysStatic "java/lang/Throwable" "SUPPRESSED_SENTINEL" "Ljava/util/List;" ∈ lw_tbl := List.mem_of_getElem? (i := 823) (by decide +kernel)
set_option maxRecDepth 20000 in
theorem li_1 : Cond.initialized "java/lang/String" ∈ lw_tbl := List.mem_of_getElem? (i := 118) (by decide +kernel)
set_option maxRecDepth 20000 in
theorem li_2 : Cond.initialized "jdk/internal/util/Preconditions" ∈ lw_tbl := List.mem_of_getElem? (i := 120) (by decide +kernel)
set_option maxRecDepth 20000 in
theorem li_3 : Cond.initialized "java/lang/Throwable" ∈ lw_tbl := List.mem_of_getElem? (i := 122) (by decide +kernel)
theorem exw (hts : ∀ w ∈ lw_tbl, w.before args s = true) : ∀ w ∈ lw_tbl, isEx w = true → va_Nw w s := fun w hw he => by
  match w, he, hw with
  | .castable _ _, _, hw => exact va_Nw.of rfl (hts _ hw)
  | .declares _, _, hw => exact va_Nw.of rfl (hts _ hw)
  | .methodLinkNest _ _ _ _, _, hw => exact va_Nw.of rfl (hts _ hw)
set_option maxHeartbeats 4000000 in
theorem mX_of (hts : ∀ w ∈ lw_tbl, w.before args s = true) (hg : ∀ w ∈ flatC giC, w.before args s = true) : ∃ sA : Nat → Nat, ∀ ad : Nat → Nat, (∀ i, i < 31 → ad (1000 + i) = sA i) → mX s.heap.size ad s := by
  have hA : ∀ a : Nat, a < s.heap.size → ¬ mAz s.heap.size a := fun a h => Nat.not_le.mpr h
  obtain ⟨a0, e0, o0, k0, v0, x0, y0⟩ := st_at0 (A := mAz s.heap.size) hg hA
  obtain ⟨a1, e1, o1, k1, v1, x1, y1⟩ := st_at1 (A := mAz s.heap.size) hg hA
  obtain ⟨a2, e2, o2, k2, v2, x2, y2⟩ := st_at2 (A := mAz s.heap.size) hg hA
  obtain ⟨a3, e3, o3, k3, v3, x3, y3⟩ := st_at3 (A := mAz s.heap.size) hg hA
  obtain ⟨a4, e4, o4, k4, v4, x4, y4⟩ := st_at4 (A := mAz s.heap.size) hg hA
  obtain ⟨a5, e5, o5, k5, v5, x5, y5⟩ := st_at5 (A := mAz s.heap.size) hg hA
  obtain ⟨a6, e6, o6, k6, v6, x6, y6⟩ := st_at6 (A := mAz s.heap.size) hg hA
  obtain ⟨a7, e7, o7, k7, v7, x7, y7⟩ := st_at7 (A := mAz s.heap.size) hg hA
  obtain ⟨a8, e8, o8, k8, v8, x8, y8⟩ := st_at8 (A := mAz s.heap.size) hg hA
  obtain ⟨a9, e9, o9, k9, v9, x9, y9⟩ := st_at9 (A := mAz s.heap.size) hg hA
  obtain ⟨a10, e10, o10, k10, v10, x10, y10⟩ := st_at10 (A := mAz s.heap.size) hg hA
  obtain ⟨a11, e11, o11, k11, v11, x11, y11⟩ := st_at11 (A := mAz s.heap.size) hg hA
  obtain ⟨a12, e12, o12, k12, v12, x12, y12⟩ := st_at12 (A := mAz s.heap.size) hg hA
  obtain ⟨a13, e13, o13, k13, v13, x13, y13⟩ := st_at13 (A := mAz s.heap.size) hg hA
  obtain ⟨a14, e14, o14, k14, v14, x14, y14⟩ := st_at14 (A := mAz s.heap.size) hg hA
  obtain ⟨a15, e15, o15, k15, v15, x15, y15⟩ := st_at15 (A := mAz s.heap.size) hg hA
  obtain ⟨a16, e16, o16, k16, v16, x16, y16⟩ := st_at16 (A := mAz s.heap.size) hg hA
  obtain ⟨a17, e17, o17, k17, v17, x17, y17⟩ := st_at17 (A := mAz s.heap.size) hg hA
  obtain ⟨a18, e18, o18, k18, v18, x18, y18⟩ := st_at18 (A := mAz s.heap.size) hg hA
  obtain ⟨a19, e19, o19, k19, v19, x19, y19⟩ := st_at19 (A := mAz s.heap.size) hg hA
  obtain ⟨a20, e20, o20, k20, v20, x20, y20⟩ := st_at20 (A := mAz s.heap.size) hg hA
  obtain ⟨a21, e21, o21, k21, v21, x21, y21⟩ := st_at21 (A := mAz s.heap.size) hg hA
  obtain ⟨a22, e22, o22, k22, v22, x22, y22⟩ := st_at22 (A := mAz s.heap.size) hg hA
  obtain ⟨a23, e23, o23, k23, v23, x23, y23⟩ := st_at23 (A := mAz s.heap.size) hg hA
  obtain ⟨a24, e24, o24, k24, v24, x24, y24⟩ := st_at24 (A := mAz s.heap.size) hg hA
  obtain ⟨a25, e25, o25, k25, v25, x25, y25⟩ := st_at25 (A := mAz s.heap.size) hg hA
  obtain ⟨a26, e26, o26, k26, v26, x26, y26⟩ := st_at26 (A := mAz s.heap.size) hg hA
  obtain ⟨a27, e27, o27, k27, v27, x27, y27⟩ := st_at27 (A := mAz s.heap.size) hg hA
  obtain ⟨a28, e28, o28, k28, v28, x28, y28⟩ := st_at28 (A := mAz s.heap.size) hg hA
  obtain ⟨a29, e29, o29, k29, v29, x29, y29⟩ := st_at29 (A := mAz s.heap.size) hg hA
  obtain ⟨a30, e30, o30, k30, v30, x30, y30⟩ := st_at30 (A := mAz s.heap.size) hg hA
  refine ⟨fun i => ([a0, a1, a2, a3, a4, a5, a6, a7, a8, a9, a10, a11, a12, a13, a14, a15, a16, a17, a18, a19, a20, a21, a22, a23, a24, a25, a26, a27, a28, a29, a30] : List Nat).getD i 0, fun ad had => ⟨exw hts, ?_, ?_, ⟨?_, ?_⟩, ?_, ?_⟩⟩
  · have h : ∀ i, i < 31 → ad (1000 + i) = ([a0, a1, a2, a3, a4, a5, a6, a7, a8, a9, a10, a11, a12, a13, a14, a15, a16, a17, a18, a19, a20, a21, a22, a23, a24, a25, a26, a27, a28, a29, a30] : List Nat).getD i 0 := had
    have h0 : ad 1000 = a0 := h 0 (by decide)
    have h1 : ad 1001 = a1 := h 1 (by decide)
    have h2 : ad 1002 = a2 := h 2 (by decide)
    have h3 : ad 1003 = a3 := h 3 (by decide)
    have h4 : ad 1004 = a4 := h 4 (by decide)
    have h5 : ad 1005 = a5 := h 5 (by decide)
    have h6 : ad 1006 = a6 := h 6 (by decide)
    have h7 : ad 1007 = a7 := h 7 (by decide)
    have h8 : ad 1008 = a8 := h 8 (by decide)
    have h9 : ad 1009 = a9 := h 9 (by decide)
    have h10 : ad 1010 = a10 := h 10 (by decide)
    have h11 : ad 1011 = a11 := h 11 (by decide)
    have h12 : ad 1012 = a12 := h 12 (by decide)
    have h13 : ad 1013 = a13 := h 13 (by decide)
    have h14 : ad 1014 = a14 := h 14 (by decide)
    have h15 : ad 1015 = a15 := h 15 (by decide)
    have h16 : ad 1016 = a16 := h 16 (by decide)
    have h17 : ad 1017 = a17 := h 17 (by decide)
    have h18 : ad 1018 = a18 := h 18 (by decide)
    have h19 : ad 1019 = a19 := h 19 (by decide)
    have h20 : ad 1020 = a20 := h 20 (by decide)
    have h21 : ad 1021 = a21 := h 21 (by decide)
    have h22 : ad 1022 = a22 := h 22 (by decide)
    have h23 : ad 1023 = a23 := h 23 (by decide)
    have h24 : ad 1024 = a24 := h 24 (by decide)
    have h25 : ad 1025 = a25 := h 25 (by decide)
    have h26 : ad 1026 = a26 := h 26 (by decide)
    have h27 : ad 1027 = a27 := h 27 (by decide)
    have h28 : ad 1028 = a28 := h 28 (by decide)
    have h29 : ad 1029 = a29 := h 29 (by decide)
    have h30 : ad 1030 = a30 := h 30 (by decide)
    exact List.forall_mem_cons.mpr ⟨(show vk_R "LedgeEggs$IsleText" 25 "ledge" (ad 1000) s by rw [h0]; exact vk_R.of (hts _ sr_607) e0), List.forall_mem_cons.mpr ⟨(show vk_R "LedgeEggs$IsleText" 67 "roof" (ad 1001) s by rw [h1]; exact vk_R.of (hts _ sr_682) e1), List.forall_mem_cons.mpr ⟨(show vk_R "LedgeEggs$IsleText" 73 "eggs" (ad 1002) s by rw [h2]; exact vk_R.of (hts _ sr_688) e2), List.forall_mem_cons.mpr ⟨(show vk_R "LedgeEggs$IsleText" 75 "age" (ad 1003) s by rw [h3]; exact vk_R.of (hts _ sr_689) e3), List.forall_mem_cons.mpr ⟨(show vk_R "LedgeEggs$IsleText" 77 "birds" (ad 1004) s by rw [h4]; exact vk_R.of (hts _ sr_690) e4), List.forall_mem_cons.mpr ⟨(show vk_R "LedgeEggs$IsleText" 37 "rope" (ad 1005) s by rw [h5]; exact vk_R.of (hts _ sr_704) e5), List.forall_mem_cons.mpr ⟨(show vk_R "LedgeEggs$IsleText" 90 "bears" (ad 1006) s by rw [h6]; exact vk_R.of (hts _ sr_709) e6), List.forall_mem_cons.mpr ⟨(show vk_R "LedgeEggs$IsleText" 42 "holder" (ad 1007) s by rw [h7]; exact vk_R.of (hts _ sr_711) e7), List.forall_mem_cons.mpr ⟨(show vk_R "LedgeEggs$IsleText" 47 "climber" (ad 1008) s by rw [h8]; exact vk_R.of (hts _ sr_720) e8), List.forall_mem_cons.mpr ⟨(show vk_R "LedgeEggs$IsleText" 52 "gale" (ad 1009) s by rw [h9]; exact vk_R.of (hts _ sr_729) e9), List.forall_mem_cons.mpr ⟨(show vk_R "LedgeEggs$IsleText" 58 "stones" (ad 1010) s by rw [h10]; exact vk_R.of (hts _ sr_734) e10), List.forall_mem_cons.mpr ⟨(show vk_R "LedgeEggs$LawText" 49 "swing" (ad 1011) s by rw [h11]; exact vk_R.of (hts _ sr_742) e11), List.forall_mem_cons.mpr ⟨(show vk_R "LedgeEggs$LawText" 51 "wear" (ad 1012) s by rw [h12]; exact vk_R.of (hts _ sr_744) e12), List.forall_mem_cons.mpr ⟨(show vk_R "LedgeEggs$LawText" 53 "lay" (ad 1013) s by rw [h13]; exact vk_R.of (hts _ sr_745) e13), List.forall_mem_cons.mpr ⟨(show vk_R "LedgeEggs$LawText" 33 "if" (ad 1014) s by rw [h14]; exact vk_R.of (hts _ sr_748) e14), List.forall_mem_cons.mpr ⟨(show vk_R "LedgeEggs$LawText" 66 "not" (ad 1015) s by rw [h15]; exact vk_R.of (hts _ sr_757) e15), List.forall_mem_cons.mpr ⟨(show vk_R "LedgeEggs$LawText" 72 "fresh" (ad 1016) s by rw [h16]; exact vk_R.of (hts _ sr_766) e16), List.forall_mem_cons.mpr ⟨(show vk_R "LedgeEggs$LawText" 84 "fathom" (ad 1017) s by rw [h17]; exact vk_R.of (hts _ sr_778) e17), List.forall_mem_cons.mpr ⟨(show vk_R "LedgeEggs$LawText" 86 "roof" (ad 1001) s by rw [h1]; exact vk_R.of (hts _ sr_779) (pairR (hg _ fw_242) e1)), List.forall_mem_cons.mpr ⟨(show vk_R "LedgeEggs$LawText" 88 "eggs" (ad 1002) s by rw [h2]; exact vk_R.of (hts _ sr_780) (pairR (hg _ fw_251) e2)), List.forall_mem_cons.mpr ⟨(show vk_R "LedgeEggs$LawText" 90 "age" (ad 1003) s by rw [h3]; exact vk_R.of (hts _ sr_781) (pairR (hg _ fw_259) e3)), List.forall_mem_cons.mpr ⟨(show vk_R "LedgeEggs$LawText" 92 "birds" (ad 1004) s by rw [h4]; exact vk_R.of (hts _ sr_782) (pairR (hg _ fw_269) e4)), List.forall_mem_cons.mpr ⟨(show vk_R "LedgeEggs$LawText" 94 "kick" (ad 1018) s by rw [h18]; exact vk_R.of (hts _ sr_783) e18), List.forall_mem_cons.mpr ⟨(show vk_R "LedgeEggs$LawText" 96 "wind" (ad 1019) s by rw [h19]; exact vk_R.of (hts _ sr_784) e19), List.forall_mem_cons.mpr ⟨(show vk_R "LedgeEggs$LawText" 98 "day" (ad 1020) s by rw [h20]; exact vk_R.of (hts _ sr_785) e20), List.forall_mem_cons.mpr ⟨(show vk_R "LedgeEggs$LawText" 58 "and" (ad 1021) s by rw [h21]; exact vk_R.of (hts _ sr_786) e21), List.forall_mem_cons.mpr ⟨(show vk_R "LedgeEggs$LawText" 64 "or" (ad 1022) s by rw [h22]; exact vk_R.of (hts _ sr_787) e22), List.forall_mem_cons.mpr ⟨(show vk_R "LedgeEggs" 110 "the text is wrong" (ad 1023) s by rw [h23]; exact vk_R.of (hts _ sr_837) e23), List.forall_mem_cons.mpr ⟨(show vk_R "LedgeEggs" 121 "there are 12 texts" (ad 1024) s by rw [h24]; exact vk_R.of (hts _ sr_873) e24), List.forall_mem_cons.mpr ⟨(show vk_R "LedgeEggs" 319 "no such ledge" (ad 1025) s by rw [h25]; exact vk_R.of (hts _ sr_917) e25), List.forall_mem_cons.mpr ⟨(show vk_R "LedgeEggs" 146 "no such what" (ad 1026) s by rw [h26]; exact vk_R.of (hts _ sr_933) e26), List.forall_mem_cons.mpr ⟨(show vk_R "LedgeEggs" 322 "no such holder" (ad 1027) s by rw [h27]; exact vk_R.of (hts _ sr_969) e27), List.forall_mem_cons.mpr ⟨(show vk_R "LedgeEggs" 324 "no such climber" (ad 1028) s by rw [h28]; exact vk_R.of (hts _ sr_982) e28), List.forall_mem_cons.mpr ⟨(show vk_R "LedgeEggs" 326 "the number is none" (ad 1029) s by rw [h29]; exact vk_R.of (hts _ sr_993) e29), List.forall_mem_cons.mpr ⟨(show vk_R "LedgeEggs" 202 "one cannot be let down" (ad 1030) s by rw [h30]; exact vk_R.of (hts _ sr_1035) e30), List.forall_mem_cons.mpr ⟨(show vk_R "LedgeEggsModel" 129 "ledge" (ad 1000) s by rw [h0]; exact vk_R.of (hts _ sr_1478) (pairR (hg _ fw_476) e0)), List.forall_mem_cons.mpr ⟨(show vk_R "LedgeEggsModel" 115 "roof" (ad 1001) s by rw [h1]; exact vk_R.of (hts _ sr_1497) (pairR (hg _ fw_485) e1)), List.forall_mem_cons.mpr ⟨(show vk_R "LedgeEggsModel" 121 "eggs" (ad 1002) s by rw [h2]; exact vk_R.of (hts _ sr_1502) (pairR (hg _ fw_495) e2)), List.forall_mem_cons.mpr ⟨(show vk_R "LedgeEggsModel" 123 "age" (ad 1003) s by rw [h3]; exact vk_R.of (hts _ sr_1503) (pairR (hg _ fw_504) e3)), List.forall_mem_cons.mpr ⟨(show vk_R "LedgeEggsModel" 125 "birds" (ad 1004) s by rw [h4]; exact vk_R.of (hts _ sr_1504) (pairR (hg _ fw_515) e4)), List.forall_mem_cons.mpr ⟨(show vk_R "LedgeEggsModel" 135 "rope" (ad 1005) s by rw [h5]; exact vk_R.of (hts _ sr_1508) (pairR (hg _ fw_525) e5)), List.forall_mem_cons.mpr ⟨(show vk_R "LedgeEggsModel" 127 "bears" (ad 1006) s by rw [h6]; exact vk_R.of (hts _ sr_1513) (pairR (hg _ fw_535) e6)), List.forall_mem_cons.mpr ⟨(show vk_R "LedgeEggsModel" 140 "holder" (ad 1007) s by rw [h7]; exact vk_R.of (hts _ sr_1514) (pairR (hg _ fw_546) e7)), List.forall_mem_cons.mpr ⟨(show vk_R "LedgeEggsModel" 145 "climber" (ad 1008) s by rw [h8]; exact vk_R.of (hts _ sr_1523) (pairR (hg _ fw_558) e8)), List.forall_mem_cons.mpr ⟨(show vk_R "LedgeEggsModel" 150 "gale" (ad 1009) s by rw [h9]; exact vk_R.of (hts _ sr_1532) (pairR (hg _ fw_567) e9)), List.forall_mem_cons.mpr ⟨(show vk_R "LedgeEggsModel" 156 "stones" (ad 1010) s by rw [h10]; exact vk_R.of (hts _ sr_1537) (pairR (hg _ fw_578) e10)), List.forall_mem_cons.mpr ⟨(show vk_R "LedgeEggsModel" 205 "swing" (ad 1011) s by rw [h11]; exact vk_R.of (hts _ sr_1542) (pairR (hg _ fw_588) e11)), List.forall_mem_cons.mpr ⟨(show vk_R "LedgeEggsModel" 207 "wear" (ad 1012) s by rw [h12]; exact vk_R.of (hts _ sr_1543) (pairR (hg _ fw_597) e12)), List.forall_mem_cons.mpr ⟨(show vk_R "LedgeEggsModel" 209 "lay" (ad 1013) s by rw [h13]; exact vk_R.of (hts _ sr_1544) (pairR (hg _ fw_605) e13)), List.forall_mem_cons.mpr ⟨(show vk_R "LedgeEggsModel" 211 "if" (ad 1014) s by rw [h14]; exact vk_R.of (hts _ sr_1545) (pairR (hg _ fw_612) e14)), List.forall_mem_cons.mpr ⟨(show vk_R "LedgeEggsModel" 185 "not" (ad 1015) s by rw [h15]; exact vk_R.of (hts _ sr_1566) (pairR (hg _ fw_620) e15)), List.forall_mem_cons.mpr ⟨(show vk_R "LedgeEggsModel" 193 "fresh" (ad 1016) s by rw [h16]; exact vk_R.of (hts _ sr_1571) (pairR (hg _ fw_630) e16)), List.forall_mem_cons.mpr ⟨(show vk_R "LedgeEggsModel" 165 "kick" (ad 1018) s by rw [h18]; exact vk_R.of (hts _ sr_1580) (pairR (hg _ fw_639) e18)), List.forall_mem_cons.mpr ⟨(show vk_R "LedgeEggsModel" 167 "fathom" (ad 1017) s by rw [h17]; exact vk_R.of (hts _ sr_1581) (pairR (hg _ fw_650) e17)), List.forall_mem_cons.mpr ⟨(show vk_R "LedgeEggsModel" 169 "wind" (ad 1019) s by rw [h19]; exact vk_R.of (hts _ sr_1582) (pairR (hg _ fw_659) e19)), List.forall_mem_cons.mpr ⟨(show vk_R "LedgeEggsModel" 171 "day" (ad 1020) s by rw [h20]; exact vk_R.of (hts _ sr_1583) (pairR (hg _ fw_667) e20)), List.forall_mem_cons.mpr ⟨(show vk_R "LedgeEggsModel" 198 "and" (ad 1021) s by rw [h21]; exact vk_R.of (hts _ sr_1584) (pairR (hg _ fw_675) e21)), List.forall_mem_cons.mpr ⟨(show vk_R "LedgeEggsModel" 203 "or" (ad 1022) s by rw [h22]; exact vk_R.of (hts _ sr_1585) (pairR (hg _ fw_682) e22)), fun _ h => absurd h List.not_mem_nil⟩⟩⟩⟩⟩⟩⟩⟩⟩⟩⟩⟩⟩⟩⟩⟩⟩⟩⟩⟩⟩⟩⟩⟩⟩⟩⟩⟩⟩⟩⟩⟩⟩⟩⟩⟩⟩⟩⟩⟩⟩⟩⟩⟩⟩⟩⟩⟩⟩⟩⟩⟩⟩⟩⟩⟩⟩⟩
  · intro i hi
    have hi31 : i < 31 := hi
    unfold mStO
    rw [had i hi31]
    match i, hi31 with
    | 0, _ => exact ⟨o0, k0, v0, x0, y0⟩
    | 1, _ => exact ⟨o1, k1, v1, x1, y1⟩
    | 2, _ => exact ⟨o2, k2, v2, x2, y2⟩
    | 3, _ => exact ⟨o3, k3, v3, x3, y3⟩
    | 4, _ => exact ⟨o4, k4, v4, x4, y4⟩
    | 5, _ => exact ⟨o5, k5, v5, x5, y5⟩
    | 6, _ => exact ⟨o6, k6, v6, x6, y6⟩
    | 7, _ => exact ⟨o7, k7, v7, x7, y7⟩
    | 8, _ => exact ⟨o8, k8, v8, x8, y8⟩
    | 9, _ => exact ⟨o9, k9, v9, x9, y9⟩
    | 10, _ => exact ⟨o10, k10, v10, x10, y10⟩
    | 11, _ => exact ⟨o11, k11, v11, x11, y11⟩
    | 12, _ => exact ⟨o12, k12, v12, x12, y12⟩
    | 13, _ => exact ⟨o13, k13, v13, x13, y13⟩
    | 14, _ => exact ⟨o14, k14, v14, x14, y14⟩
    | 15, _ => exact ⟨o15, k15, v15, x15, y15⟩
    | 16, _ => exact ⟨o16, k16, v16, x16, y16⟩
    | 17, _ => exact ⟨o17, k17, v17, x17, y17⟩
    | 18, _ => exact ⟨o18, k18, v18, x18, y18⟩
    | 19, _ => exact ⟨o19, k19, v19, x19, y19⟩
    | 20, _ => exact ⟨o20, k20, v20, x20, y20⟩
    | 21, _ => exact ⟨o21, k21, v21, x21, y21⟩
    | 22, _ => exact ⟨o22, k22, v22, x22, y22⟩
    | 23, _ => exact ⟨o23, k23, v23, x23, y23⟩
    | 24, _ => exact ⟨o24, k24, v24, x24, y24⟩
    | 25, _ => exact ⟨o25, k25, v25, x25, y25⟩
    | 26, _ => exact ⟨o26, k26, v26, x26, y26⟩
    | 27, _ => exact ⟨o27, k27, v27, x27, y27⟩
    | 28, _ => exact ⟨o28, k28, v28, x28, y28⟩
    | 29, _ => exact ⟨o29, k29, v29, x29, y29⟩
    | 30, _ => exact ⟨o30, k30, v30, x30, y30⟩
    | j + 31, hj => exact absurd hj (by omega)
  · exact va_Zof (hts _ ls_1) (hts _ li_1) (va_eqt (hg _ fw_4)) hA
  · exact va_Zqof (hts _ ls_2) (hts _ li_2) (hg _ fw_5) hA
  · exact vx_Zqof (hts _ ls_3) (hts _ li_3) (hg _ fw_9) hA
  · exact vx_Zqof (hts _ ls_4) (hts _ li_3) (hg _ fw_10) hA
theorem nX_of (hg : ∀ w ∈ flatC giC, w.before args s = true) : nX s := ⟨va_Nc.of (hg _ fw_21), va_Nc.of (hg _ fw_51), va_Nc.of (hg _ fw_49), va_Nc.of (hg _ fw_52), va_Nc.of (hg _ fw_24)⟩
end MX2
