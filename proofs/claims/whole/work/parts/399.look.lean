/-! the first store -/
def fcl : Nat → Int32 := upd (upd (upd (fun _ => 0) 0 30) 2 100) 10 1
def fwl : Nat → Int32 := upd (upd (upd (fun _ => 0) 7 30) 9 100) 16 1
def f3s : Nat → Int32 := fun k => if k = 3 then -1 else 0
def f6s : Nat → Int32 := fun k => if k = 6 then -1 else 0
def f14s : Nat → Int32 := fun k => if k = 14 then -1 else 0
def fzs : Nat → Int32 := fun _ => 0
def s0L : List (Nat → Int32) := [fzs, f3s, fzs, f6s, fzs, fzs, fzs, fzs, fzs, fzs, f6s, fzs, fzs, fzs, fzs, fzs, fzs, f6s, fzs, fzs, fzs, fzs, fzs, fzs, fzs, fcl, fzs, fcl, fzs, fcl, fzs, fzs, fzs, fzs, fzs, fzs, fzs, fzs, fzs, fcl, fzs, fcl, fzs, fcl, fzs, fcl, fzs, fcl, fzs, fcl, fzs, fcl, fzs, fcl, fzs, fcl, fzs, fcl, fzs, fcl, fzs, fcl, fzs] ++ [f14s, fwl, fzs, fzs, fzs, fzs, fzs, fzs, fzs, fzs, fzs, fzs, fzs]
def S0 : mS := fun o => s0L.getD o (fun _ => 0)
theorem Rg_fcl : Rg fcl := by
  refine Rg.up (Rg.up (Rg.up ⟨fun i b h => ⟨0, Nat.zero_le _, rfl⟩, fun _ _ => rfl⟩ (by omega) (fun b h => ?_)) (by omega) (fun b h => ?_)) (by omega) (fun b h => ?_)
  · cases (show some 40 = some b from h); exact ⟨30, by omega, rfl⟩
  · cases (show some 999 = some b from h); exact ⟨100, by omega, rfl⟩
  · cases (show none = some b from h)
theorem Az_fcl : Az fcl := Az_up (by omega) (Az_up (by omega) (Az_up (by omega) (fun _ _ _ => rfl)))
theorem cM_z : cM (fun _ => 0) = fun _ => 0 := by
  funext i
  unfold cM
  split <;> rfl
theorem cM_fwl : cM fwl = fcl := by
  show cM (upd (upd (upd (fun _ => 0) (pm 0) 30) (pm 2) 100) (pm 10) 1) = _
  rw [cM_up 1 (by omega), cM_up 100 (by omega), cM_up 30 (by omega), cM_z]
  rfl
theorem S0_p {i : Nat} (h : i < 12) : S0 (39 + 2 * i) = fcl := by
  match i, h with
  | 0, _ => rfl
  | 1, _ => rfl
  | 2, _ => rfl
  | 3, _ => rfl
  | 4, _ => rfl
  | 5, _ => rfl
  | 6, _ => rfl
  | 7, _ => rfl
  | 8, _ => rfl
  | 9, _ => rfl
  | 10, _ => rfl
  | 11, _ => rfl
  | i + 12, h => exact absurd h (by omega)
theorem Inv_S0 : Inv S0 := by
  refine ⟨Rg_fcl, cM_fwl, ⟨none, trivial, rfl, rfl⟩, Rg_fcl.2, Rg_fcl.2, ⟨rfl, Or.inl rfl⟩, ⟨0, 0, by omega, by omega, rfl, rfl, rfl, fun i hi => ?_, fun j hj => absurd hj (by omega)⟩, ⟨0, by omega, rfl, rfl, fun i hi => absurd hi (by omega)⟩, rfl, Az_fcl, Az_fcl, fun i hi => ?_⟩
  · rw [S0_p hi]; exact Rg_fcl.2
  · rw [S0_p hi]; exact Az_fcl
def adF (L : List Nat) (sA : Nat → Nat) : Nat → Nat := fun i => if i < 76 then L.getD i 0 else sA (i - 1000)
theorem adF_s {L : List Nat} {sA : Nat → Nat} {i : Nat} : adF L sA (1000 + i) = sA i := by
  unfold adF
  rw [if_neg (by omega), Nat.add_sub_cancel_left]
theorem rowP {D : va_G} {cl : List vw_C} {ws : va_W} {H : Heap} (hP : va_P D cl ws H) {j a N : Nat} {cA : ClassId} {f g : Nat → Option Nat} (hj : ws[j]? = some (a, .inl (cA, N, .inr (.inr (.inr (.inr f)))))) (h : ∀ k, k < N → f k = g k) : va_P D cl (ws.set j (a, .inl (cA, N, .inr (.inr (.inr (.inr g)))))) H := by
  intro i q hq
  rw [List.getElem?_set] at hq
  by_cases hi : j = i
  · subst hi
    rw [if_pos rfl, if_pos (List.getElem?_eq_some_iff.mp hj).1] at hq
    cases hq
    have h0 : H[a]? = some (vp_cell cA (N, .inr (.inr (.inr (.inr f))))) := hP j _ hj
    show H[a]? = some (vp_cell cA (N, .inr (.inr (.inr (.inr g)))))
    rw [h0, vp_cell_q, vp_cell_q]
    have e : (fun k : Fin N => va_rf (f k.val)) = fun k : Fin N => va_rf (g k.val) := funext fun k => by rw [h k.val k.isLt]
    unfold arrV
    rw [e]
  · rw [if_neg hi] at hq
    exact hP i q hq
def mF (ad : Nat → Nat) (S : mS) (i : Nat) : Nat → List (Option Nat) → List Value
  | _, [] => []
  | k, f :: r => (match f with | some j => Value.ref (ad j) | none => .int (S i k)) :: mF ad S i (k + 1) r
theorem mF_eq {ad : Nat → Nat} {S : mS} {i : Nat} : ∀ (fs : List (Option Nat)) (n : Nat), fs.mapIdx (fun k f => match f with | some j => Value.ref (ad j) | none => .int (S i (k + n))) = mF ad S i n fs := by
  intro fs
  induction fs with
  | nil => intro n; rfl
  | cons f r ih =>
    intro n
    rw [List.mapIdx_cons]
    show _ :: _ = _ :: mF ad S i (n + 1) r
    rw [← ih (n + 1), Nat.zero_add]
    congr 1
    congr 1
    funext k f
    rw [show k + 1 + n = k + (n + 1) by omega]
theorem mE_obj {ad : Nat → Nat} {cy : Nat → ClassId} {S : mS} {i ci : Nat} {fs : List (Option Nat)} : mE ad cy S i (0, ci, fs) = .inr (ci, mF ad S i 0 fs) := by
  rw [← mF_eq fs 0]
  rfl
set_option maxRecDepth 100000 in
set_option maxHeartbeats 400000 in
theorem w0_eq {ad : Nat → Nat} {cy : Nat → ClassId} {S : mS} : mW ad cy S = ([(ad 0, .inr (8, [.ref (ad 1), .ref (ad 3), .ref (ad 10), .ref (ad 17), .ref (ad 24), .ref (ad 26), .ref (ad 28), .ref (ad 30), .ref (ad 31), .ref (ad 32), .ref (ad 33), .ref (ad 36), .ref (ad 62), .int (S 0 13)])), (ad 1, .inr (7, [.ref (ad 2), .int (S 1 1), .int (S 1 2), .int (S 1 3)])), (ad 2, .inl (cy 0, 400, .inl (S 2))), (ad 3, .inr (2, [.ref (ad 4), .ref (ad 5), .ref (ad 6), .ref (ad 7), .ref (ad 8), .ref (ad 9), .int (S 3 6), .int (S 3 7)])), (ad 4, .inl (cy 0, 12, .inl (S 4))), (ad 5, .inl (cy 0, 12, .inl (S 5))), (ad 6, .inl (cy 0, 12, .inl (S 6))), (ad 7, .inl (cy 0, 400, .inl (S 7))), (ad 8, .inl (cy 0, 9, .inl (S 8))), (ad 9, .inl (cy 0, 24, .inl (S 9))), (ad 10, .inr (2, [.ref (ad 11), .ref (ad 12), .ref (ad 13), .ref (ad 14), .ref (ad 15), .ref (ad 16), .int (S 10 6), .int (S 10 7)])), (ad 11, .inl (cy 0, 12, .inl (S 11))), (ad 12, .inl (cy 0, 12, .inl (S 12))), (ad 13, .inl (cy 0, 12, .inl (S 13))), (ad 14, .inl (cy 0, 400, .inl (S 14))), (ad 15, .inl (cy 0, 9, .inl (S 15))), (ad 16, .inl (cy 0, 24, .inl (S 16))), (ad 17, .inr (2, [.ref (ad 18), .ref (ad 19), .ref (ad 20), .ref (ad 21), .ref (ad 22), .ref (ad 23), .int (S 17 6), .int (S 17 7)])), (ad 18, .inl (cy 0, 12, .inl (S 18))), (ad 19, .inl (cy 0, 12, .inl (S 19))), (ad 20, .inl (cy 0, 12, .inl (S 20))), (ad 21, .inl (cy 0, 400, .inl (S 21))), (ad 22, .inl (cy 0, 9, .inl (S 22))), (ad 23, .inl (cy 0, 24, .inl (S 23))), (ad 24, .inr (0, [.ref (ad 25)])), (ad 25, .inl (cy 0, 446, .inl (S 25))), (ad 26, .inr (0, [.ref (ad 27)])), (ad 27, .inl (cy 0, 446, .inl (S 27))), (ad 28, .inr (0, [.ref (ad 29)])), (ad 29, .inl (cy 0, 446, .inl (S 29))), (ad 30, .inr (1, [.ref (ad 1), .ref (ad 26)])), (ad 31, .inr (3, [.ref (ad 1), .ref (ad 10)])), (ad 32, .inr (6, [.ref (ad 3)])), (ad 33, .inr (5, [.ref (ad 32), .ref (ad 26), .ref (ad 34), .ref (ad 35), .int (S 33 4), .int (S 33 5)])), (ad 34, .inl (cy 0, 100, .inl (S 34))), (ad 35, .inl (cy 0, 10240, .inl (S 35))), (ad 36, .inr (4, [.ref (ad 37), .int (S 36 1), .int (S 36 2)])), (ad 37, .inl (cy 2, 12, .inr (.inr (.inr (.inr (fun k => some (ad (38 + 2 * k)))))))), (ad 38, .inr (0, [.ref (ad 39)])), (ad 39, .inl (cy 0, 446, .inl (S 39))), (ad 40, .inr (0, [.ref (ad 41)])), (ad 41, .inl (cy 0, 446, .inl (S 41))), (ad 42, .inr (0, [.ref (ad 43)])), (ad 43, .inl (cy 0, 446, .inl (S 43))), (ad 44, .inr (0, [.ref (ad 45)])), (ad 45, .inl (cy 0, 446, .inl (S 45))), (ad 46, .inr (0, [.ref (ad 47)])), (ad 47, .inl (cy 0, 446, .inl (S 47))), (ad 48, .inr (0, [.ref (ad 49)])), (ad 49, .inl (cy 0, 446, .inl (S 49))), (ad 50, .inr (0, [.ref (ad 51)])), (ad 51, .inl (cy 0, 446, .inl (S 51))), (ad 52, .inr (0, [.ref (ad 53)])), (ad 53, .inl (cy 0, 446, .inl (S 53))), (ad 54, .inr (0, [.ref (ad 55)])), (ad 55, .inl (cy 0, 446, .inl (S 55))), (ad 56, .inr (0, [.ref (ad 57)])), (ad 57, .inl (cy 0, 446, .inl (S 57))), (ad 58, .inr (0, [.ref (ad 59)])), (ad 59, .inl (cy 0, 446, .inl (S 59))), (ad 60, .inr (0, [.ref (ad 61)])), (ad 61, .inl (cy 0, 446, .inl (S 61))), (ad 62, .inl (cy 0, 64, .inl (S 62)))] ++ [(ad 63, .inr (9, [.int (S 63 0), .ref (ad 64), .ref (ad 65), .ref (ad 66), .ref (ad 67), .ref (ad 68), .int (S 63 6), .int (S 63 7), .ref (ad 69), .int (S 63 9), .int (S 63 10), .int (S 63 11), .int (S 63 12), .int (S 63 13), .int (S 63 14), .ref (ad 70), .int (S 63 16), .ref (ad 71), .int (S 63 18), .int (S 63 19), .ref (ad 72), .ref (ad 73), .ref (ad 74)])), (ad 64, .inl (cy 0, 2145, .inl (S 64))), (ad 65, .inl (cy 0, 1296, .inl (S 65))), (ad 66, .inl (cy 0, 1296, .inl (S 66))), (ad 67, .inl (cy 0, 447, .inl (S 67))), (ad 68, .inl (cy 0, 5364, .inl (S 68))), (ad 69, .inl (cy 1, 400, .inl (S 69))), (ad 70, .inl (cy 0, 5, .inl (S 70))), (ad 71, .inl (cy 0, 400, .inl (S 71))), (ad 72, .inl (cy 0, 64, .inl (S 72))), (ad 73, .inl (cy 0, 100, .inl (S 73))), (ad 74, .inl (cy 0, 11264, .inl (S 74))), (ad 75, .inl (cy 3, 1, .inr (.inl (fun k => (S 75 k).toInt64))))]) := by
  apply List.ext_getElem?
  intro i
  unfold mW mWL
  rw [List.getElem?_mapIdx]
  match i with
  | 0 => rfl
  | 1 => rfl
  | 2 => rfl
  | 3 => rfl
  | 4 => rfl
  | 5 => rfl
  | 6 => rfl
  | 7 => rfl
  | 8 => rfl
  | 9 => rfl
  | 10 => rfl
  | 11 => rfl
  | 12 => rfl
  | 13 => rfl
  | 14 => rfl
  | 15 => rfl
  | 16 => rfl
  | 17 => rfl
  | 18 => rfl
  | 19 => rfl
  | 20 => rfl
  | 21 => rfl
  | 22 => rfl
  | 23 => rfl
  | 24 => rfl
  | 25 => rfl
  | 26 => rfl
  | 27 => rfl
  | 28 => rfl
  | 29 => rfl
  | 30 => rfl
  | 31 => rfl
  | 32 => rfl
  | 33 => rfl
  | 34 => rfl
  | 35 => rfl
  | 36 => rfl
  | 37 => rfl
  | 38 => rfl
  | 39 => rfl
  | 40 => rfl
  | 41 => rfl
  | 42 => rfl
  | 43 => rfl
  | 44 => rfl
  | 45 => rfl
  | 46 => rfl
  | 47 => rfl
  | 48 => rfl
  | 49 => rfl
  | 50 => rfl
  | 51 => rfl
  | 52 => rfl
  | 53 => rfl
  | 54 => rfl
  | 55 => rfl
  | 56 => rfl
  | 57 => rfl
  | 58 => rfl
  | 59 => rfl
  | 60 => rfl
  | 61 => rfl
  | 62 => rfl
  | 63 => exact congrArg (fun e => some (ad 63, e)) mE_obj
  | 64 => rfl
  | 65 => rfl
  | 66 => rfl
  | 67 => rfl
  | 68 => rfl
  | 69 => rfl
  | 70 => rfl
  | 71 => rfl
  | 72 => rfl
  | 73 => rfl
  | 74 => rfl
  | 75 => rfl
  | i + 76 => rfl
theorem t75 : (fun k => (S0 75 k).toInt64) = fun _ => 0 := funext fun _ => (by decide : (0 : Int32).toInt64 = 0)
set_option maxRecDepth 100000 in
set_option maxHeartbeats 800000 in
theorem ad_ex {sA : Nat → Nat} {x0 x1 x2 x3 x4 x5 x6 x7 x8 x9 x10 x11 x12 x13 x14 x15 x16 x17 x18 x19 x20 x21 x22 x23 x24 x25 x26 x27 x28 x29 x30 x31 x32 x33 x34 x35 x36 x37 x38 x39 x40 x41 x42 x43 x44 x45 x46 x47 x48 x49 x50 x51 x52 x53 x54 x55 x56 x57 x58 x59 x60 x61 x62 x63 x64 x65 x66 x67 x68 x69 x70 x71 x72 x73 x74 x75 : Nat} : ∃ ad : Nat → Nat, (∀ i, ad (1000 + i) = sA i) ∧ ad 0 = x0 ∧ ad 1 = x1 ∧ ad 2 = x2 ∧ ad 3 = x3 ∧ ad 4 = x4 ∧ ad 5 = x5 ∧ ad 6 = x6 ∧ ad 7 = x7 ∧ ad 8 = x8 ∧ ad 9 = x9 ∧ ad 10 = x10 ∧ ad 11 = x11 ∧ ad 12 = x12 ∧ ad 13 = x13 ∧ ad 14 = x14 ∧ ad 15 = x15 ∧ ad 16 = x16 ∧ ad 17 = x17 ∧ ad 18 = x18 ∧ ad 19 = x19 ∧ ad 20 = x20 ∧ ad 21 = x21 ∧ ad 22 = x22 ∧ ad 23 = x23 ∧ ad 24 = x24 ∧ ad 25 = x25 ∧ ad 26 = x26 ∧ ad 27 = x27 ∧ ad 28 = x28 ∧ ad 29 = x29 ∧ ad 30 = x30 ∧ ad 31 = x31 ∧ ad 32 = x32 ∧ ad 33 = x33 ∧ ad 34 = x34 ∧ ad 35 = x35 ∧ ad 36 = x36 ∧ ad 37 = x37 ∧ ad 38 = x38 ∧ ad 39 = x39 ∧ ad 40 = x40 ∧ ad 41 = x41 ∧ ad 42 = x42 ∧ ad 43 = x43 ∧ ad 44 = x44 ∧ ad 45 = x45 ∧ ad 46 = x46 ∧ ad 47 = x47 ∧ ad 48 = x48 ∧ ad 49 = x49 ∧ ad 50 = x50 ∧ ad 51 = x51 ∧ ad 52 = x52 ∧ ad 53 = x53 ∧ ad 54 = x54 ∧ ad 55 = x55 ∧ ad 56 = x56 ∧ ad 57 = x57 ∧ ad 58 = x58 ∧ ad 59 = x59 ∧ ad 60 = x60 ∧ ad 61 = x61 ∧ ad 62 = x62 ∧ ad 63 = x63 ∧ ad 64 = x64 ∧ ad 65 = x65 ∧ ad 66 = x66 ∧ ad 67 = x67 ∧ ad 68 = x68 ∧ ad 69 = x69 ∧ ad 70 = x70 ∧ ad 71 = x71 ∧ ad 72 = x72 ∧ ad 73 = x73 ∧ ad 74 = x74 ∧ ad 75 = x75 := ⟨adF ([x0, x1, x2, x3, x4, x5, x6, x7, x8, x9, x10, x11, x12, x13, x14, x15, x16, x17, x18, x19, x20, x21, x22, x23, x24, x25, x26, x27, x28, x29, x30, x31, x32, x33, x34, x35, x36, x37, x38, x39, x40, x41, x42, x43, x44, x45, x46, x47, x48, x49, x50, x51, x52, x53, x54, x55, x56, x57, x58, x59, x60, x61, x62] ++ [x63, x64, x65, x66, x67, x68, x69, x70, x71, x72, x73, x74, x75]) sA, fun i => adF_s, rfl, rfl, rfl, rfl, rfl, rfl, rfl, rfl, rfl, rfl, rfl, rfl, rfl, rfl, rfl, rfl, rfl, rfl, rfl, rfl, rfl, rfl, rfl, rfl, rfl, rfl, rfl, rfl, rfl, rfl, rfl, rfl, rfl, rfl, rfl, rfl, rfl, rfl, rfl, rfl, rfl, rfl, rfl, rfl, rfl, rfl, rfl, rfl, rfl, rfl, rfl, rfl, rfl, rfl, rfl, rfl, rfl, rfl, rfl, rfl, rfl, rfl, rfl, rfl, rfl, rfl, rfl, rfl, rfl, rfl, rfl, rfl, rfl, rfl, rfl, rfl⟩
set_option maxRecDepth 100000 in
set_option maxHeartbeats 800000 in
theorem w0_of {D : va_G} {cy : Nat → ClassId} {z : Nat} {H : Heap} {sA : Nat → Nat} {x0 x1 x2 x3 x4 x5 x6 x7 x8 x9 x10 x11 x12 x13 x14 x15 x16 x17 x18 x19 x20 x21 x22 x23 x24 x25 x26 x27 x28 x29 x30 x31 x32 x33 x34 x35 x36 x37 x38 x39 x40 x41 x42 x43 x44 x45 x46 x47 x48 x49 x50 x51 x52 x53 x54 x55 x56 x57 x58 x59 x60 x61 x62 x63 x64 x65 x66 x67 x68 x69 x70 x71 x72 x73 x74 x75 : Nat} (hP : va_P D vwCl ([(x0, .inr (8, [.ref x1, .ref x3, .ref x10, .ref x17, .ref x24, .ref x26, .ref x28, .ref x30, .ref x31, .ref x32, .ref x33, .ref x36, .ref x62, .int 0])), (x1, .inr (7, [.ref x2, .int 0, .int 0, .int (-1)])), (x2, .inl (cy 0, 400, .inl (fun _ => 0))), (x3, .inr (2, [.ref x4, .ref x5, .ref x6, .ref x7, .ref x8, .ref x9, .int (-1), .int 0])), (x4, .inl (cy 0, 12, .inl (fun _ => 0))), (x5, .inl (cy 0, 12, .inl (fun _ => 0))), (x6, .inl (cy 0, 12, .inl (fun _ => 0))), (x7, .inl (cy 0, 400, .inl (fun _ => 0))), (x8, .inl (cy 0, 9, .inl (fun _ => 0))), (x9, .inl (cy 0, 24, .inl (fun _ => 0))), (x10, .inr (2, [.ref x11, .ref x12, .ref x13, .ref x14, .ref x15, .ref x16, .int (-1), .int 0])), (x11, .inl (cy 0, 12, .inl (fun _ => 0))), (x12, .inl (cy 0, 12, .inl (fun _ => 0))), (x13, .inl (cy 0, 12, .inl (fun _ => 0))), (x14, .inl (cy 0, 400, .inl (fun _ => 0))), (x15, .inl (cy 0, 9, .inl (fun _ => 0))), (x16, .inl (cy 0, 24, .inl (fun _ => 0))), (x17, .inr (2, [.ref x18, .ref x19, .ref x20, .ref x21, .ref x22, .ref x23, .int (-1), .int 0])), (x18, .inl (cy 0, 12, .inl (fun _ => 0))), (x19, .inl (cy 0, 12, .inl (fun _ => 0))), (x20, .inl (cy 0, 12, .inl (fun _ => 0))), (x21, .inl (cy 0, 400, .inl (fun _ => 0))), (x22, .inl (cy 0, 9, .inl (fun _ => 0))), (x23, .inl (cy 0, 24, .inl (fun _ => 0))), (x24, .inr (0, [.ref x25])), (x25, .inl (cy 0, 446, .inl (upd (upd (upd (fun _ => 0) 0 30) 2 100) 10 1))), (x26, .inr (0, [.ref x27])), (x27, .inl (cy 0, 446, .inl (upd (upd (upd (fun _ => 0) 0 30) 2 100) 10 1))), (x28, .inr (0, [.ref x29])), (x29, .inl (cy 0, 446, .inl (upd (upd (upd (fun _ => 0) 0 30) 2 100) 10 1))), (x30, .inr (1, [.ref x1, .ref x26])), (x31, .inr (3, [.ref x1, .ref x10])), (x32, .inr (6, [.ref x3])), (x33, .inr (5, [.ref x32, .ref x26, .ref x34, .ref x35, .int 0, .int 0])), (x34, .inl (cy 0, 100, .inl (fun _ => 0))), (x35, .inl (cy 0, 10240, .inl (fun _ => 0))), (x36, .inr (4, [.ref x37, .int 0, .int 0])), (x37, .inl (cy 2, 12, .inr (.inr (.inr (.inr (va_up (va_up (va_up (va_up (va_up (va_up (va_up (va_up (va_up (va_up (va_up (va_up (fun _ => none) 0 (some x38)) 1 (some x40)) 2 (some x42)) 3 (some x44)) 4 (some x46)) 5 (some x48)) 6 (some x50)) 7 (some x52)) 8 (some x54)) 9 (some x56)) 10 (some x58)) 11 (some x60))))))), (x38, .inr (0, [.ref x39])), (x39, .inl (cy 0, 446, .inl (upd (upd (upd (fun _ => 0) 0 30) 2 100) 10 1))), (x40, .inr (0, [.ref x41])), (x41, .inl (cy 0, 446, .inl (upd (upd (upd (fun _ => 0) 0 30) 2 100) 10 1))), (x42, .inr (0, [.ref x43])), (x43, .inl (cy 0, 446, .inl (upd (upd (upd (fun _ => 0) 0 30) 2 100) 10 1))), (x44, .inr (0, [.ref x45])), (x45, .inl (cy 0, 446, .inl (upd (upd (upd (fun _ => 0) 0 30) 2 100) 10 1))), (x46, .inr (0, [.ref x47])), (x47, .inl (cy 0, 446, .inl (upd (upd (upd (fun _ => 0) 0 30) 2 100) 10 1))), (x48, .inr (0, [.ref x49])), (x49, .inl (cy 0, 446, .inl (upd (upd (upd (fun _ => 0) 0 30) 2 100) 10 1))), (x50, .inr (0, [.ref x51])), (x51, .inl (cy 0, 446, .inl (upd (upd (upd (fun _ => 0) 0 30) 2 100) 10 1))), (x52, .inr (0, [.ref x53])), (x53, .inl (cy 0, 446, .inl (upd (upd (upd (fun _ => 0) 0 30) 2 100) 10 1))), (x54, .inr (0, [.ref x55])), (x55, .inl (cy 0, 446, .inl (upd (upd (upd (fun _ => 0) 0 30) 2 100) 10 1))), (x56, .inr (0, [.ref x57])), (x57, .inl (cy 0, 446, .inl (upd (upd (upd (fun _ => 0) 0 30) 2 100) 10 1))), (x58, .inr (0, [.ref x59])), (x59, .inl (cy 0, 446, .inl (upd (upd (upd (fun _ => 0) 0 30) 2 100) 10 1))), (x60, .inr (0, [.ref x61])), (x61, .inl (cy 0, 446, .inl (upd (upd (upd (fun _ => 0) 0 30) 2 100) 10 1))), (x62, .inl (cy 0, 64, .inl (fun _ => 0)))] ++ [(x63, .inr (9, [.int 0, .ref x64, .ref x65, .ref x66, .ref x67, .ref x68, .int 0, .int 0, .ref x69, .int 0, .int 0, .int 0, .int 0, .int 0, .int (-1), .ref x70, .int 0, .ref x71, .int 0, .int 0, .ref x72, .ref x73, .ref x74])), (x64, .inl (cy 0, 2145, .inl (upd (upd (upd (fun _ => 0) 7 30) 9 100) 16 1))), (x65, .inl (cy 0, 1296, .inl (fun _ => 0))), (x66, .inl (cy 0, 1296, .inl (fun _ => 0))), (x67, .inl (cy 0, 447, .inl (fun _ => 0))), (x68, .inl (cy 0, 5364, .inl (fun _ => 0))), (x69, .inl (cy 1, 400, .inl (fun _ => 0))), (x70, .inl (cy 0, 5, .inl (fun _ => 0))), (x71, .inl (cy 0, 400, .inl (fun _ => 0))), (x72, .inl (cy 0, 64, .inl (fun _ => 0))), (x73, .inl (cy 0, 100, .inl (fun _ => 0))), (x74, .inl (cy 0, 11264, .inl (fun _ => 0))), (x75, .inl (cy 3, 1, .inr (.inl (fun _ => 0))))]) H) (hD : va_D (mAz z) ([(x0, .inr (8, [.ref x1, .ref x3, .ref x10, .ref x17, .ref x24, .ref x26, .ref x28, .ref x30, .ref x31, .ref x32, .ref x33, .ref x36, .ref x62, .int 0])), (x1, .inr (7, [.ref x2, .int 0, .int 0, .int (-1)])), (x2, .inl (cy 0, 400, .inl (fun _ => 0))), (x3, .inr (2, [.ref x4, .ref x5, .ref x6, .ref x7, .ref x8, .ref x9, .int (-1), .int 0])), (x4, .inl (cy 0, 12, .inl (fun _ => 0))), (x5, .inl (cy 0, 12, .inl (fun _ => 0))), (x6, .inl (cy 0, 12, .inl (fun _ => 0))), (x7, .inl (cy 0, 400, .inl (fun _ => 0))), (x8, .inl (cy 0, 9, .inl (fun _ => 0))), (x9, .inl (cy 0, 24, .inl (fun _ => 0))), (x10, .inr (2, [.ref x11, .ref x12, .ref x13, .ref x14, .ref x15, .ref x16, .int (-1), .int 0])), (x11, .inl (cy 0, 12, .inl (fun _ => 0))), (x12, .inl (cy 0, 12, .inl (fun _ => 0))), (x13, .inl (cy 0, 12, .inl (fun _ => 0))), (x14, .inl (cy 0, 400, .inl (fun _ => 0))), (x15, .inl (cy 0, 9, .inl (fun _ => 0))), (x16, .inl (cy 0, 24, .inl (fun _ => 0))), (x17, .inr (2, [.ref x18, .ref x19, .ref x20, .ref x21, .ref x22, .ref x23, .int (-1), .int 0])), (x18, .inl (cy 0, 12, .inl (fun _ => 0))), (x19, .inl (cy 0, 12, .inl (fun _ => 0))), (x20, .inl (cy 0, 12, .inl (fun _ => 0))), (x21, .inl (cy 0, 400, .inl (fun _ => 0))), (x22, .inl (cy 0, 9, .inl (fun _ => 0))), (x23, .inl (cy 0, 24, .inl (fun _ => 0))), (x24, .inr (0, [.ref x25])), (x25, .inl (cy 0, 446, .inl (upd (upd (upd (fun _ => 0) 0 30) 2 100) 10 1))), (x26, .inr (0, [.ref x27])), (x27, .inl (cy 0, 446, .inl (upd (upd (upd (fun _ => 0) 0 30) 2 100) 10 1))), (x28, .inr (0, [.ref x29])), (x29, .inl (cy 0, 446, .inl (upd (upd (upd (fun _ => 0) 0 30) 2 100) 10 1))), (x30, .inr (1, [.ref x1, .ref x26])), (x31, .inr (3, [.ref x1, .ref x10])), (x32, .inr (6, [.ref x3])), (x33, .inr (5, [.ref x32, .ref x26, .ref x34, .ref x35, .int 0, .int 0])), (x34, .inl (cy 0, 100, .inl (fun _ => 0))), (x35, .inl (cy 0, 10240, .inl (fun _ => 0))), (x36, .inr (4, [.ref x37, .int 0, .int 0])), (x37, .inl (cy 2, 12, .inr (.inr (.inr (.inr (va_up (va_up (va_up (va_up (va_up (va_up (va_up (va_up (va_up (va_up (va_up (va_up (fun _ => none) 0 (some x38)) 1 (some x40)) 2 (some x42)) 3 (some x44)) 4 (some x46)) 5 (some x48)) 6 (some x50)) 7 (some x52)) 8 (some x54)) 9 (some x56)) 10 (some x58)) 11 (some x60))))))), (x38, .inr (0, [.ref x39])), (x39, .inl (cy 0, 446, .inl (upd (upd (upd (fun _ => 0) 0 30) 2 100) 10 1))), (x40, .inr (0, [.ref x41])), (x41, .inl (cy 0, 446, .inl (upd (upd (upd (fun _ => 0) 0 30) 2 100) 10 1))), (x42, .inr (0, [.ref x43])), (x43, .inl (cy 0, 446, .inl (upd (upd (upd (fun _ => 0) 0 30) 2 100) 10 1))), (x44, .inr (0, [.ref x45])), (x45, .inl (cy 0, 446, .inl (upd (upd (upd (fun _ => 0) 0 30) 2 100) 10 1))), (x46, .inr (0, [.ref x47])), (x47, .inl (cy 0, 446, .inl (upd (upd (upd (fun _ => 0) 0 30) 2 100) 10 1))), (x48, .inr (0, [.ref x49])), (x49, .inl (cy 0, 446, .inl (upd (upd (upd (fun _ => 0) 0 30) 2 100) 10 1))), (x50, .inr (0, [.ref x51])), (x51, .inl (cy 0, 446, .inl (upd (upd (upd (fun _ => 0) 0 30) 2 100) 10 1))), (x52, .inr (0, [.ref x53])), (x53, .inl (cy 0, 446, .inl (upd (upd (upd (fun _ => 0) 0 30) 2 100) 10 1))), (x54, .inr (0, [.ref x55])), (x55, .inl (cy 0, 446, .inl (upd (upd (upd (fun _ => 0) 0 30) 2 100) 10 1))), (x56, .inr (0, [.ref x57])), (x57, .inl (cy 0, 446, .inl (upd (upd (upd (fun _ => 0) 0 30) 2 100) 10 1))), (x58, .inr (0, [.ref x59])), (x59, .inl (cy 0, 446, .inl (upd (upd (upd (fun _ => 0) 0 30) 2 100) 10 1))), (x60, .inr (0, [.ref x61])), (x61, .inl (cy 0, 446, .inl (upd (upd (upd (fun _ => 0) 0 30) 2 100) 10 1))), (x62, .inl (cy 0, 64, .inl (fun _ => 0)))] ++ [(x63, .inr (9, [.int 0, .ref x64, .ref x65, .ref x66, .ref x67, .ref x68, .int 0, .int 0, .ref x69, .int 0, .int 0, .int 0, .int 0, .int 0, .int (-1), .ref x70, .int 0, .ref x71, .int 0, .int 0, .ref x72, .ref x73, .ref x74])), (x64, .inl (cy 0, 2145, .inl (upd (upd (upd (fun _ => 0) 7 30) 9 100) 16 1))), (x65, .inl (cy 0, 1296, .inl (fun _ => 0))), (x66, .inl (cy 0, 1296, .inl (fun _ => 0))), (x67, .inl (cy 0, 447, .inl (fun _ => 0))), (x68, .inl (cy 0, 5364, .inl (fun _ => 0))), (x69, .inl (cy 1, 400, .inl (fun _ => 0))), (x70, .inl (cy 0, 5, .inl (fun _ => 0))), (x71, .inl (cy 0, 400, .inl (fun _ => 0))), (x72, .inl (cy 0, 64, .inl (fun _ => 0))), (x73, .inl (cy 0, 100, .inl (fun _ => 0))), (x74, .inl (cy 0, 11264, .inl (fun _ => 0))), (x75, .inl (cy 3, 1, .inr (.inl (fun _ => 0))))])) : ∃ ad : Nat → Nat, (∀ i, ad (1000 + i) = sA i) ∧ (ad 0 = x0 ∧ ad 63 = x63 ∧ ad 75 = x75) ∧ va_P D vwCl (mW ad cy S0) H ∧ va_D (mAz z) (mW ad cy S0) := by
  obtain ⟨ad, hs, rfl, rfl, rfl, rfl, rfl, rfl, rfl, rfl, rfl, rfl, rfl, rfl, rfl, rfl, rfl, rfl, rfl, rfl, rfl, rfl, rfl, rfl, rfl, rfl, rfl, rfl, rfl, rfl, rfl, rfl, rfl, rfl, rfl, rfl, rfl, rfl, rfl, rfl, rfl, rfl, rfl, rfl, rfl, rfl, rfl, rfl, rfl, rfl, rfl, rfl, rfl, rfl, rfl, rfl, rfl, rfl, rfl, rfl, rfl, rfl, rfl, rfl, rfl, rfl, rfl, rfl, rfl, rfl, rfl, rfl, rfl, rfl, rfl, rfl, rfl, rfl⟩ := ad_ex (sA := sA) (x0 := x0) (x1 := x1) (x2 := x2) (x3 := x3) (x4 := x4) (x5 := x5) (x6 := x6) (x7 := x7) (x8 := x8) (x9 := x9) (x10 := x10) (x11 := x11) (x12 := x12) (x13 := x13) (x14 := x14) (x15 := x15) (x16 := x16) (x17 := x17) (x18 := x18) (x19 := x19) (x20 := x20) (x21 := x21) (x22 := x22) (x23 := x23) (x24 := x24) (x25 := x25) (x26 := x26) (x27 := x27) (x28 := x28) (x29 := x29) (x30 := x30) (x31 := x31) (x32 := x32) (x33 := x33) (x34 := x34) (x35 := x35) (x36 := x36) (x37 := x37) (x38 := x38) (x39 := x39) (x40 := x40) (x41 := x41) (x42 := x42) (x43 := x43) (x44 := x44) (x45 := x45) (x46 := x46) (x47 := x47) (x48 := x48) (x49 := x49) (x50 := x50) (x51 := x51) (x52 := x52) (x53 := x53) (x54 := x54) (x55 := x55) (x56 := x56) (x57 := x57) (x58 := x58) (x59 := x59) (x60 := x60) (x61 := x61) (x62 := x62) (x63 := x63) (x64 := x64) (x65 := x65) (x66 := x66) (x67 := x67) (x68 := x68) (x69 := x69) (x70 := x70) (x71 := x71) (x72 := x72) (x73 := x73) (x74 := x74) (x75 := x75)
  refine ⟨ad, hs, ⟨rfl, rfl, rfl⟩, ?_⟩
  have h1 := rowP (j := 37) (g := fun k => some (ad (38 + 2 * k))) hP rfl (fun k hk => match k, hk with
    | 0, _ => rfl
    | 1, _ => rfl
    | 2, _ => rfl
    | 3, _ => rfl
    | 4, _ => rfl
    | 5, _ => rfl
    | 6, _ => rfl
    | 7, _ => rfl
    | 8, _ => rfl
    | 9, _ => rfl
    | 10, _ => rfl
    | 11, _ => rfl
    | k + 12, hk => absurd hk (by omega))
  have h2 := hD.set (p := 37) (a := ad 37) (e := .inl (cy 2, 12, .inr (.inr (.inr (.inr (fun k => some (ad (38 + 2 * k)))))))) rfl
  rw [w0_eq]
  simp only [t75, (rfl : S0 0 13 = 0), (rfl : S0 1 1 = 0), (rfl : S0 1 2 = 0), (rfl : S0 1 3 = -1), (rfl : S0 2 = fun _ => 0), (rfl : S0 3 6 = -1), (rfl : S0 3 7 = 0), (rfl : S0 4 = fun _ => 0), (rfl : S0 5 = fun _ => 0), (rfl : S0 6 = fun _ => 0), (rfl : S0 7 = fun _ => 0), (rfl : S0 8 = fun _ => 0), (rfl : S0 9 = fun _ => 0), (rfl : S0 10 6 = -1), (rfl : S0 10 7 = 0), (rfl : S0 11 = fun _ => 0), (rfl : S0 12 = fun _ => 0), (rfl : S0 13 = fun _ => 0), (rfl : S0 14 = fun _ => 0), (rfl : S0 15 = fun _ => 0), (rfl : S0 16 = fun _ => 0), (rfl : S0 17 6 = -1), (rfl : S0 17 7 = 0), (rfl : S0 18 = fun _ => 0), (rfl : S0 19 = fun _ => 0), (rfl : S0 20 = fun _ => 0), (rfl : S0 21 = fun _ => 0), (rfl : S0 22 = fun _ => 0), (rfl : S0 23 = fun _ => 0), (rfl : S0 25 = upd (upd (upd (fun _ => 0) 0 30) 2 100) 10 1), (rfl : S0 27 = upd (upd (upd (fun _ => 0) 0 30) 2 100) 10 1), (rfl : S0 29 = upd (upd (upd (fun _ => 0) 0 30) 2 100) 10 1), (rfl : S0 33 4 = 0), (rfl : S0 33 5 = 0), (rfl : S0 34 = fun _ => 0), (rfl : S0 35 = fun _ => 0), (rfl : S0 36 1 = 0), (rfl : S0 36 2 = 0), (rfl : S0 39 = upd (upd (upd (fun _ => 0) 0 30) 2 100) 10 1), (rfl : S0 41 = upd (upd (upd (fun _ => 0) 0 30) 2 100) 10 1), (rfl : S0 43 = upd (upd (upd (fun _ => 0) 0 30) 2 100) 10 1), (rfl : S0 45 = upd (upd (upd (fun _ => 0) 0 30) 2 100) 10 1), (rfl : S0 47 = upd (upd (upd (fun _ => 0) 0 30) 2 100) 10 1), (rfl : S0 49 = upd (upd (upd (fun _ => 0) 0 30) 2 100) 10 1), (rfl : S0 51 = upd (upd (upd (fun _ => 0) 0 30) 2 100) 10 1), (rfl : S0 53 = upd (upd (upd (fun _ => 0) 0 30) 2 100) 10 1), (rfl : S0 55 = upd (upd (upd (fun _ => 0) 0 30) 2 100) 10 1), (rfl : S0 57 = upd (upd (upd (fun _ => 0) 0 30) 2 100) 10 1), (rfl : S0 59 = upd (upd (upd (fun _ => 0) 0 30) 2 100) 10 1), (rfl : S0 61 = upd (upd (upd (fun _ => 0) 0 30) 2 100) 10 1), (rfl : S0 62 = fun _ => 0), (rfl : S0 63 0 = 0), (rfl : S0 63 6 = 0), (rfl : S0 63 7 = 0), (rfl : S0 63 9 = 0), (rfl : S0 63 10 = 0), (rfl : S0 63 11 = 0), (rfl : S0 63 12 = 0), (rfl : S0 63 13 = 0), (rfl : S0 63 14 = -1), (rfl : S0 63 16 = 0), (rfl : S0 63 18 = 0), (rfl : S0 63 19 = 0), (rfl : S0 64 = upd (upd (upd (fun _ => 0) 7 30) 9 100) 16 1), (rfl : S0 65 = fun _ => 0), (rfl : S0 66 = fun _ => 0), (rfl : S0 67 = fun _ => 0), (rfl : S0 68 = fun _ => 0), (rfl : S0 69 = fun _ => 0), (rfl : S0 70 = fun _ => 0), (rfl : S0 71 = fun _ => 0), (rfl : S0 72 = fun _ => 0), (rfl : S0 73 = fun _ => 0), (rfl : S0 74 = fun _ => 0)]
  exact ⟨h1, h2⟩
