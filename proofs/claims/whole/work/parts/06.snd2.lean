/-! what the table of a method must keep to -/
def mIp (w : Cond) (i : Nat) : Bool := decide (lw_tbl[i]? = some w) && goodWord w
theorem mIp_mem {w : Cond} {i : Nat} (h : mIp w i = true) : w ∈ mTs := by
  simp only [mIp, Bool.and_eq_true, decide_eq_true_eq] at h
  exact mTs_mem (List.mem_of_getElem? h.1) h.2
def fOK (own : String) (a b e : Nat) (ps : List Nat) : Bool := match vwCl[b]? with
  | some q => decide (a < q.2.2) && ((mIp (.fieldLink own e (q.2.1 a).1 (q.2.1 a).2.1 (q.2.1 a).2.2.1) (ps.getD 0 0)) || (mIp (.fieldLink own e q.1 (q.2.1 a).2.1 (q.2.1 a).2.2.1) (ps.getD 0 0) && mIp (.sameField q.1 (q.2.1 a).1 (q.2.1 a).2.1 (q.2.1 a).2.2.1) (ps.getD 1 0)))
  | none => false
theorem fOK_spec {own : String} {a b e : Nat} {ps : List Nat} (h : fOK own a b e ps = true) : ∃ (q : vw_C) (ref : String), vwCl[b]? = some q ∧ a < q.2.2 ∧ Cond.fieldLink own e ref (q.2.1 a).2.1 (q.2.1 a).2.2.1 ∈ mTs ∧
    ∀ (args : Array Value) (s : State), (∀ w ∈ mTs, w.before args s = true) → ∀ x, s.fieldFound? (q.2.1 a).1 (q.2.1 a).2.1 (q.2.1 a).2.2.1 = some x → s.fieldFound? ref (q.2.1 a).2.1 (q.2.1 a).2.2.1 = some x := by
  unfold fOK at h
  split at h
  · rename_i q hq
    simp only [Bool.and_eq_true, Bool.or_eq_true, decide_eq_true_eq] at h
    rcases h with ⟨h1, h2 | ⟨h2, h3⟩⟩
    · exact ⟨q, _, hq, h1, mIp_mem h2, fun _ _ _ _ h => h⟩
    · exact ⟨q, _, hq, h1, mIp_mem h2, fun args s hts x hx => u_same (hts _ (mIp_mem h3)) x hx⟩
  · cases h
theorem vw_in0 : vwCl.all (fun q => (u_ws q.1 q.2.1 q.2.2).all mIs) = true := by decide +kernel
theorem vw_in {b : Nat} {q : vw_C} (h : vwCl[b]? = some q) : ∀ w ∈ u_ws q.1 q.2.1 q.2.2, w ∈ mTs := fun w hw =>
  mIs_mem (List.all_eq_true.mp (List.all_eq_true.mp vw_in0 q (List.mem_of_getElem? h)) w hw)
theorem vw_ty {b : Nat} {q : vw_C} (h : vwCl[b]? = some q) : (∃ ty0 : Nat → FieldType, ∀ k, k < q.2.2 → parseFieldDescriptor (q.2.1 k).2.2.1 = some (ty0 k)) ∧ ∀ a, a < q.2.2 → ∀ b, b < q.2.2 → a ≠ b → (q.2.1 a).2.1 ≠ (q.2.1 b).2.1 := by
  match b, h with
  | 0, h => cases h; exact ⟨⟨_, tyX0_ok⟩, nmX0⟩
  | 1, h => cases h; exact ⟨⟨_, tyX1_ok⟩, nmX1⟩
  | 2, h => cases h; exact ⟨⟨_, tyX2_ok⟩, nmX2⟩
  | 3, h => cases h; exact ⟨⟨_, tyX3_ok⟩, nmX3⟩
  | 4, h => cases h; exact ⟨⟨_, tyX5_ok⟩, nmX5⟩
  | 5, h => cases h; exact ⟨⟨_, tyX6_ok⟩, nmX6⟩
  | 6, h => cases h; exact ⟨⟨_, tyX7_ok⟩, nmX7⟩
  | 7, h => cases h; exact ⟨⟨_, tyX8_ok⟩, nmX8⟩
  | 8, h => cases h; exact ⟨⟨_, tyX9_ok⟩, nmX9⟩
  | 9, h => cases h; exact ⟨⟨_, tyX10_ok⟩, nmX10⟩
  | b + 10, h => simp [vwCl] at h
def pOK (a b v : Nat) : Bool := match vwCl[b]? with
  | some q => !(q.2.1 a).2.2.2 && (match v with | 0 => decide (parseFieldDescriptor (q.2.1 a).2.2.1 = some .int) | _ => decide (parseFieldDescriptor (q.2.1 a).2.2.1 = some .boolean))
  | none => false
def okX (M : mM) (o : mOp) (ps : List Nat) : Bool := match o with
  | (code, n, a, b, e, v) => match code with
    | 0 => (match a with | 0 => n == 1 | 1 => n == 2 && decide ((Int8.ofInt v.toInt).toInt32 = v) | _ => n == 3 && decide ((Int16.ofInt v.toInt).toInt32 = v))
    | 1 => decide (a < M.2.2.1) && (match b with | 0 => n == 1 && decide (a < 4) | _ => n == 2)
    | 2 => decide (a < M.2.2.1) && (match b with | 0 => n == 1 && decide (a < 4) | _ => n == 2)
    | 3 => decide (a < M.2.2.1) && (match b with | 0 => n == 1 && decide (a < 4) | _ => n == 2)
    | 4 => decide (a < M.2.2.1) && (match b with | 0 => n == 1 && decide (a < 4) | _ => n == 2)
    | 5 => decide (a < M.2.2.1) && (match b with | 0 => n == 1 && decide (a < 4) | _ => n == 2)
    | 6 => decide (a + 1 < M.2.2.1) && (match b with | 0 => n == 1 && decide (a < 4) | _ => n == 2)
    | 7 => decide (a < M.2.2.1) && n == 3
    | 10 => n == 3
    | 11 => n == 3
    | 12 => n == 3
    | 13 => n == 3 && fOK M.1.cls a b e ps
    | 14 => n == 3 && fOK M.1.cls a b e ps && pOK a b v.toNatClampNeg
    | 27 => n == 3
    | 29 => n == 2
    | 33 => n == 3 && mIp (.initialized "java/lang/Math") (ps.getD 0 0) && (match a with
        | 0 => mIp (.methodLink M.1.cls e Lib.Math.max.name) (ps.getD 1 0) && mIp (.static Lib.Math.max.name) (ps.getD 2 0) && mIp (.code Lib.Math.max.name Lib.Math.max.code 2 (some .int)) (ps.getD 3 0)
        | 1 => mIp (.methodLink M.1.cls e Lib.Math.min.name) (ps.getD 1 0) && mIp (.static Lib.Math.min.name) (ps.getD 2 0) && mIp (.code Lib.Math.min.name Lib.Math.min.code 2 (some .int)) (ps.getD 3 0)
        | _ => mIp (.methodLink M.1.cls e Lib.Math.abs.name) (ps.getD 1 0) && mIp (.static Lib.Math.abs.name) (ps.getD 2 0) && mIp (.code Lib.Math.abs.name Lib.Math.abs.code 1 (some .int)) (ps.getD 3 0))
    | 34 => n == 3 && mIp (.initialized "java/lang/System") (ps.getD 0 0) && mIp (.methodLink M.1.cls e arraycopyName) (ps.getD 1 0) && mIp (.native arraycopyName) (ps.getD 2 0) && mIp (.static arraycopyName) (ps.getD 3 0)
    | 42 => (match b with | 0 => n == 2 | _ => n == 3) && mIp (.constant M.1.cls e v) (ps.getD 0 0)
    | 47 => n == 1 && decide (a < 2)
    | 48 => n == 3 && fOK M.1.cls a 1 e ps && fOK M.1.cls a 3 e ps
    | _ => n == 1
