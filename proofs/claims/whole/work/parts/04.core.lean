/-! the abstract machine: a store of ints; objects and arrays by numbers, references among them are fixed -/
abbrev mS : Type := Nat → Nat → Int32
abbrev mOp : Type := Nat × Nat × Nat × Nat × Nat × Int32
abbrev mC : Type := Nat × List Value × List Value × mS × Nat
abbrev mR : Type := (Option Value ⊕ Nat) × mS
abbrev mO : Type := Option ((Bool × mC × Option mC) ⊕ ((Nat × List Value × mC) ⊕ mR))
abbrev mSh : Type := Nat × Nat × List (Option Nat)
/-- a method: its name, bytes, locals, return type, how many exceptions it may make, its code, the locals that are kept where ways join -/
abbrev mM : Type := MethodName × ByteArray × Nat × Option FieldType × Nat × List (Nat × mOp) × List (Nat × List Bool)
def mK : Value := .retAddr 0
def seS (S : mS) (i : Nat) (f : Nat → Int32) : mS := fun j => if j = i then f else S j
def upS (S : mS) (i k : Nat) (x : Int32) : mS := seS S i (upd (S i) k x)
def sh : List mSh := [
  (0, 8, [some 1, some 3, some 10, some 17, some 24, some 26, some 28, some 30, some 31, some 32, some 33, some 36, some 62, none]),
  (0, 7, [some 2, none, none, none]),
  (1, 400, []),
  (0, 2, [some 4, some 5, some 6, some 7, some 8, some 9, none, none]),
  (1, 12, []),
  (1, 12, []),
  (1, 12, []),
  (1, 400, []),
  (1, 9, []),
  (1, 24, []),
  (0, 2, [some 11, some 12, some 13, some 14, some 15, some 16, none, none]),
  (1, 12, []),
  (1, 12, []),
  (1, 12, []),
  (1, 400, []),
  (1, 9, []),
  (1, 24, []),
  (0, 2, [some 18, some 19, some 20, some 21, some 22, some 23, none, none]),
  (1, 12, []),
  (1, 12, []),
  (1, 12, []),
  (1, 400, []),
  (1, 9, []),
  (1, 24, []),
  (0, 0, [some 25]),
  (1, 446, []),
  (0, 0, [some 27]),
  (1, 446, []),
  (0, 0, [some 29]),
  (1, 446, []),
  (0, 1, [some 1, some 26]),
  (0, 3, [some 1, some 10]),
  (0, 6, [some 3]),
  (0, 5, [some 32, some 26, some 34, some 35, none, none]),
  (1, 100, []),
  (1, 10240, []),
  (0, 4, [some 37, none, none]),
  (3, 12, [some 38]),
  (0, 0, [some 39]),
  (1, 446, []),
  (0, 0, [some 41]),
  (1, 446, []),
  (0, 0, [some 43]),
  (1, 446, []),
  (0, 0, [some 45]),
  (1, 446, []),
  (0, 0, [some 47]),
  (1, 446, []),
  (0, 0, [some 49]),
  (1, 446, []),
  (0, 0, [some 51]),
  (1, 446, []),
  (0, 0, [some 53]),
  (1, 446, []),
  (0, 0, [some 55]),
  (1, 446, []),
  (0, 0, [some 57]),
  (1, 446, []),
  (0, 0, [some 59]),
  (1, 446, []),
  (0, 0, [some 61]),
  (1, 446, []),
  (1, 64, []),
  (0, 9, [none, some 64, some 65, some 66, some 67, some 68, none, none, some 69, none, none, none, none, none, none, some 70, none, some 71, none, none, some 72, some 73, some 74]),
  (1, 2145, []),
  (1, 1296, []),
  (1, 1296, []),
  (1, 447, []),
  (1, 5364, []),
  (2, 400, []),
  (1, 5, []),
  (1, 400, []),
  (1, 64, []),
  (1, 100, []),
  (1, 11264, []),
  (4, 1, [])]
def shO (i : Nat) : mSh := sh.getD i (9, 0, [])
/-- what is kept of the locals at a place where ways join -/
def mkM (hs : List (Nat × List Bool)) (pc : Nat) (l : List Value) : List Value := match hs.lookup pc with
  | some bs => List.zipWith (fun b v => match b with | true => v | false => mK) bs l
  | none => l
def inb (i : Int32) (n : Nat) : Bool := decide (¬ (i < 0 ∨ n ≤ i.toNatClampNeg))
def gx (g : Bool) (M : mM) (pc : Nat) (l st : List Value) (S : mS) (k : Nat) : mO := some (.inl (g, (pc, mkM M.2.2.2.2.2.2 pc l, st, S, k), none))
def nx (M : mM) (pc : Nat) (l st : List Value) (S : mS) (k : Nat) : mO := gx true M pc l st S k
def bop (a : Nat) (x y : Int32) : Int32 := match a with
  | 0 => x + y
  | 1 => x - y
  | 2 => x * y
  | 3 => x &&& y
  | 4 => x ||| y
  | 5 => x ^^^ y
  | 6 => x <<< (y &&& 31)
  | 7 => x >>> (y &&& 31)
  | _ => (x.toUInt32 >>> (y.toUInt32 &&& Int32.toUInt32 31)).toInt32
def cnd (b : Nat) (x y : Int32) : Bool := match b with
  | 0 => decide (x = y)
  | 1 => decide (¬ x = y)
  | 2 => decide (x < y)
  | 3 => decide (y ≤ x)
  | 4 => decide (y < x)
  | _ => decide (x ≤ y)
def lng (l : List Value) (a : Nat) : Bool := match a with
  | 0 => false
  | n + 1 => match l[n]? with
    | some v => v.category == 2
    | none => false
/-- the place that a switch goes to -/
def msw (x : Int32) : List (Int32 × Nat) → Nat → Nat
  | [], d => d
  | (v, q) :: r, d => if x = v then q else msw x r d
/-- the texts: strings' bytes; switches (their cases, default, the instruction's own numbers); throws (numbers of class, text, constructor; the text; the exception's class and those above it) -/
def mStr : List (List Int32) := [
  [108, 101, 100, 103, 101],
  [114, 111, 111, 102],
  [101, 103, 103, 115],
  [97, 103, 101],
  [98, 105, 114, 100, 115],
  [114, 111, 112, 101],
  [98, 101, 97, 114, 115],
  [104, 111, 108, 100, 101, 114],
  [99, 108, 105, 109, 98, 101, 114],
  [103, 97, 108, 101],
  [115, 116, 111, 110, 101, 115],
  [115, 119, 105, 110, 103],
  [119, 101, 97, 114],
  [108, 97, 121],
  [105, 102],
  [110, 111, 116],
  [102, 114, 101, 115, 104],
  [102, 97, 116, 104, 111, 109],
  [107, 105, 99, 107],
  [119, 105, 110, 100],
  [100, 97, 121],
  [97, 110, 100],
  [111, 114],
  [116, 104, 101, 32, 116, 101, 120, 116, 32, 105, 115, 32, 119, 114, 111, 110, 103],
  [116, 104, 101, 114, 101, 32, 97, 114, 101, 32, 49, 50, 32, 116, 101, 120, 116, 115],
  [110, 111, 32, 115, 117, 99, 104, 32, 108, 101, 100, 103, 101],
  [110, 111, 32, 115, 117, 99, 104, 32, 119, 104, 97, 116],
  [110, 111, 32, 115, 117, 99, 104, 32, 104, 111, 108, 100, 101, 114],
  [110, 111, 32, 115, 117, 99, 104, 32, 99, 108, 105, 109, 98, 101, 114],
  [116, 104, 101, 32, 110, 117, 109, 98, 101, 114, 32, 105, 115, 32, 110, 111, 110, 101],
  [111, 110, 101, 32, 99, 97, 110, 110, 111, 116, 32, 98, 101, 32, 108, 101, 116, 32, 100, 111, 119, 110]]
def mSwt : List (List (Int32 × Nat) × Nat) := [
  ([(2001, 32), (2002, 36), (2003, 40), (2004, 51)], 62),
  ([(0, 44), (1, 47), (2, 50), (3, 53), (4, 56), (5, 59), (6, 62)], 65),
  ([(0, 84), (1, 94), (2, 104), (3, 114), (4, 124), (5, 132), (6, 141), (7, 150), (8, 159), (9, 168), (10, 177), (11, 187), (12, 197), (13, 207), (14, 216), (15, 225), (16, 235)], 243),
  ([(0, 52), (1, 57), (2, 64), (3, 71), (4, 76), (5, 83), (6, 90), (7, 97), (8, 104)], 118),
  ([(5, 72), (6, 85), (7, 91)], 97),
  ([(4, 72), (5, 128), (6, 128), (7, 128), (8, 128), (9, 128), (10, 128), (11, 128), (12, 128), (13, 95), (14, 105), (15, 115), (16, 123)], 128)]
def ldI (M : mM) (pc : Nat) (w : Option Value) (l st : List Value) (S : mS) (k : Nat) : mO := match w with
  | some (.int x) => nx M pc l (.int x :: st) S k
  | _ => none
def ldA (M : mM) (pc : Nat) (w : Option Value) (l st : List Value) (S : mS) (k : Nat) : mO := match w with
  | some (.ref x) => nx M pc l (.ref x :: st) S k
  | _ => none
def ldL (M : mM) (pc : Nat) (w : Option Value) (l st : List Value) (S : mS) (k : Nat) : mO := match w with
  | some (.long x) => nx M pc l (.long x :: st) S k
  | _ => none
def stI (M : mM) (pc a : Nat) (l st : List Value) (S : mS) (k : Nat) : mO := match lng l a, st with
  | false, .int x :: r => nx M pc (l.set a (.int x)) r S k
  | _, _ => none
def stA (M : mM) (pc a : Nat) (l st : List Value) (S : mS) (k : Nat) : mO := match lng l a, st with
  | false, .ref x :: r => nx M pc (l.set a (.ref x)) r S k
  | _, _ => none
def stL (M : mM) (pc a : Nat) (l st : List Value) (S : mS) (k : Nat) : mO := match lng l a, st with
  | false, .long x :: r => nx M pc ((l.set a (.long x)).set (a + 1) mK) r S k
  | _, _ => none
def gf (M : mM) (pc a b : Nat) (l st : List Value) (S : mS) (k : Nat) : mO := match st with
  | .ref i :: r => match shO i with
    | (0, ci, fs) => match ci == b, fs[a]? with
      | true, some (some j) => nx M pc l (.ref j :: r) S k
      | true, some none => nx M pc l (.int (S i a) :: r) S k
      | _, _ => none
    | _ => none
  | _ => none
def pf (M : mM) (pc a b e : Nat) (l st : List Value) (S : mS) (k : Nat) : mO := match st with
  | .int x :: .ref i :: r => match shO i with
    | (0, ci, fs) => match ci == b, fs[a]?, e with
      | true, some none, 0 => nx M pc l r (upS S i a x) k
      | true, some none, 1 => gx (decide (x = 1)) M pc l r (upS S i a x) k
      | _, _, _ => none
    | _ => none
  | _ => none
def alI (M : mM) (pc : Nat) (l st : List Value) (S : mS) (k : Nat) : mO := match st with
  | .int i :: .ref a :: r => match shO a with
    | (1, n, _) => gx (inb i n) M pc l (.int (S a i.toNatClampNeg) :: r) S k
    | _ => none
  | _ => none
def alB (M : mM) (pc : Nat) (l st : List Value) (S : mS) (k : Nat) : mO := match st with
  | .int i :: .ref a :: r => match shO a with
    | (2, n, _) => gx (inb i n) M pc l (.int (S a i.toNatClampNeg) :: r) S k
    | _ => none
  | _ => none
def alA (M : mM) (pc : Nat) (l st : List Value) (S : mS) (k : Nat) : mO := match st with
  | .int i :: .ref a :: r => match shO a with
    | (3, n, [some b]) => gx (inb i n) M pc l (.ref (b + 2 * i.toNatClampNeg) :: r) S k
    | _ => none
  | _ => none
def asI (M : mM) (pc : Nat) (l st : List Value) (S : mS) (k : Nat) : mO := match st with
  | .int x :: .int i :: .ref a :: r => match shO a with
    | (1, n, _) => gx (inb i n) M pc l r (upS S a i.toNatClampNeg x) k
    | _ => none
  | _ => none
def asB (M : mM) (pc : Nat) (l st : List Value) (S : mS) (k : Nat) : mO := match st with
  | .int x :: .int i :: .ref a :: r => match shO a with
    | (2, n, _) => gx (inb i n) M pc l r (upS S a i.toNatClampNeg x.toInt8.toInt32) k
    | _ => none
  | _ => none
def len (M : mM) (pc : Nat) (l st : List Value) (S : mS) (k : Nat) : mO := match st with
  | .ref a :: r => match shO a with
    | (1, n, _) => nx M pc l (.int (Int32.ofNat n) :: r) S k
    | _ => none
  | _ => none
def sm (st : List Value) : Bool := decide ((st.map fun v => v.category).sum ≤ 8)
def cpy (M : mM) (pc : Nat) (l st : List Value) (S : mS) (k : Nat) : mO := match st with
  | .int n :: .int dp :: .ref a :: .int sp :: .ref a0 :: r => match sm r, shO a, shO a0 with
    | true, (1, n1, _), (1, n0, _) => gx (decide (¬ sp < 0 ∧ ¬ dp < 0 ∧ ¬ n < 0 ∧ sp.toNatClampNeg + n.toNatClampNeg ≤ n0 ∧ dp.toNatClampNeg + n.toNatClampNeg ≤ n1)) M pc l r
        (seS S a (va_cpy (S a0) (S a) sp.toNatClampNeg dp.toNatClampNeg n.toNatClampNeg)) k
    | _, _, _ => none
  | _ => none
def mth (M : mM) (pc a : Nat) (l st : List Value) (S : mS) (k : Nat) : mO := match sm st, a, st with
  | true, 0, .int y :: .int x :: r => nx M pc l (.int (if x < y then y else x) :: r) S k
  | true, 1, .int y :: .int x :: r => nx M pc l (.int (if y < x then y else x) :: r) S k
  | true, 2, .int x :: r => nx M pc l (.int (if 0 ≤ x then x else 0 - x) :: r) S k
  | _, _, _ => none
def cal (M : mM) (pc j n b mc : Nat) (l st : List Value) (S : mS) (k : Nat) : mO :=
  match (match b with
    | 0 => true
    | ci + 1 => match (st.take n).reverse with
      | .ref i :: _ => match shO i with
        | (0, c, _) => c == ci
        | _ => false
      | _ => false), sm (st.drop n), Nat.ble n st.length, Nat.ble (k + mc) M.2.2.2.2.1 with
  | true, true, true, true => some (.inr (.inl (j, (st.take n).reverse, (pc, mkM M.2.2.2.2.2.2 pc l, st.drop n, S, k + mc))))
  | _, _, _, _ => none
/-- one instruction: a function for each -/
def hh0 (M : mM) (n a b e : Nat) (v : Int32) (pc : Nat) (l st : List Value) (S : mS) (k : Nat) : mO := nx M (pc + n) l (.int v :: st) S k
def hh1 (M : mM) (n a b e : Nat) (v : Int32) (pc : Nat) (l st : List Value) (S : mS) (k : Nat) : mO := ldI M (pc + n) l[a]? l st S k
def hh2 (M : mM) (n a b e : Nat) (v : Int32) (pc : Nat) (l st : List Value) (S : mS) (k : Nat) : mO := ldA M (pc + n) l[a]? l st S k
def hh3 (M : mM) (n a b e : Nat) (v : Int32) (pc : Nat) (l st : List Value) (S : mS) (k : Nat) : mO := ldL M (pc + n) l[a]? l st S k
def hh4 (M : mM) (n a b e : Nat) (v : Int32) (pc : Nat) (l st : List Value) (S : mS) (k : Nat) : mO := stI M (pc + n) a l st S k
def hh5 (M : mM) (n a b e : Nat) (v : Int32) (pc : Nat) (l st : List Value) (S : mS) (k : Nat) : mO := stA M (pc + n) a l st S k
def hh6 (M : mM) (n a b e : Nat) (v : Int32) (pc : Nat) (l st : List Value) (S : mS) (k : Nat) : mO := stL M (pc + n) a l st S k
def hh7 (M : mM) (n a b e : Nat) (v : Int32) (pc : Nat) (l st : List Value) (S : mS) (k : Nat) : mO := match lng l a, l[a]? with
  | false, some (.int x) => nx M (pc + n) (l.set a (.int (x + v))) st S k
  | _, _ => none
def hh8 (M : mM) (n a b e : Nat) (v : Int32) (pc : Nat) (l st : List Value) (S : mS) (k : Nat) : mO := match st with
  | .int y :: .int x :: r => nx M (pc + n) l (.int (bop a x y) :: r) S k
  | _ => none
def hh9 (M : mM) (n a b e : Nat) (v : Int32) (pc : Nat) (l st : List Value) (S : mS) (k : Nat) : mO := match a, st with
  | 0, .int y :: .int x :: r => gx (decide (¬ y = 0)) M (pc + n) l (.int (x / y) :: r) S k
  | 1, .int y :: .int x :: r => gx (decide (¬ y = 0)) M (pc + n) l (.int (x - x / y * y) :: r) S k
  | _, _ => none
def hh10 (M : mM) (n a b e : Nat) (v : Int32) (pc : Nat) (l st : List Value) (S : mS) (k : Nat) : mO := match st with
  | .int x :: r => some (.inl (cnd b x 0, (a, mkM M.2.2.2.2.2.2 a l, r, S, k), some (pc + n, mkM M.2.2.2.2.2.2 (pc + n) l, r, S, k)))
  | _ => none
def hh11 (M : mM) (n a b e : Nat) (v : Int32) (pc : Nat) (l st : List Value) (S : mS) (k : Nat) : mO := match st with
  | .int y :: .int x :: r => some (.inl (cnd b x y, (a, mkM M.2.2.2.2.2.2 a l, r, S, k), some (pc + n, mkM M.2.2.2.2.2.2 (pc + n) l, r, S, k)))
  | _ => none
def hh12 (M : mM) (n a b e : Nat) (v : Int32) (pc : Nat) (l st : List Value) (S : mS) (k : Nat) : mO := nx M a l st S k
def hh13 (M : mM) (n a b e : Nat) (v : Int32) (pc : Nat) (l st : List Value) (S : mS) (k : Nat) : mO := gf M (pc + n) a b l st S k
def hh14 (M : mM) (n a b e : Nat) (v : Int32) (pc : Nat) (l st : List Value) (S : mS) (k : Nat) : mO := pf M (pc + n) a b (v.toNatClampNeg) l st S k
def hh15 (M : mM) (n a b e : Nat) (v : Int32) (pc : Nat) (l st : List Value) (S : mS) (k : Nat) : mO := alI M (pc + n) l st S k
def hh16 (M : mM) (n a b e : Nat) (v : Int32) (pc : Nat) (l st : List Value) (S : mS) (k : Nat) : mO := asI M (pc + n) l st S k
def hh17 (M : mM) (n a b e : Nat) (v : Int32) (pc : Nat) (l st : List Value) (S : mS) (k : Nat) : mO := alB M (pc + n) l st S k
def hh18 (M : mM) (n a b e : Nat) (v : Int32) (pc : Nat) (l st : List Value) (S : mS) (k : Nat) : mO := asB M (pc + n) l st S k
def hh19 (M : mM) (n a b e : Nat) (v : Int32) (pc : Nat) (l st : List Value) (S : mS) (k : Nat) : mO := len M (pc + n) l st S k
def hh20 (M : mM) (n a b e : Nat) (v : Int32) (pc : Nat) (l st : List Value) (S : mS) (k : Nat) : mO := match st with
  | .int x :: r => nx M (pc + n) l (.int x :: .int x :: r) S k
  | .ref x :: r => nx M (pc + n) l (.ref x :: .ref x :: r) S k
  | _ => none
def hh21 (M : mM) (n a b e : Nat) (v : Int32) (pc : Nat) (l st : List Value) (S : mS) (k : Nat) : mO := match st with
  | .int x :: .ref y :: r => nx M (pc + n) l (.int x :: .ref y :: .int x :: .ref y :: r) S k
  | _ => none
def hh22 (M : mM) (n a b e : Nat) (v : Int32) (pc : Nat) (l st : List Value) (S : mS) (k : Nat) : mO := match st with
  | .int _ :: r => nx M (pc + n) l r S k
  | .ref _ :: r => nx M (pc + n) l r S k
  | _ => none
def hh23 (M : mM) (n a b e : Nat) (v : Int32) (pc : Nat) (l st : List Value) (S : mS) (k : Nat) : mO := match a, st with
  | 0, [.int x] => some (.inr (.inr (.inl (some (.int x)), S)))
  | 1, [.int x] => some (.inr (.inr (.inl (some (.int (x &&& 1))), S)))
  | _, _ => none
def hh24 (M : mM) (n a b e : Nat) (v : Int32) (pc : Nat) (l st : List Value) (S : mS) (k : Nat) : mO := match st with
  | [] => some (.inr (.inr (.inl none, S)))
  | _ => none
def hh25 (M : mM) (n a b e : Nat) (v : Int32) (pc : Nat) (l st : List Value) (S : mS) (k : Nat) : mO := match st with
  | [.ref x] => some (.inr (.inr (.inl (some (.ref x)), S)))
  | [.null] => some (.inr (.inr (.inl (some .null), S)))
  | _ => none
def hh26 (M : mM) (n a b e : Nat) (v : Int32) (pc : Nat) (l st : List Value) (S : mS) (k : Nat) : mO := nx M (pc + n) l (.null :: st) S k
def hh27 (M : mM) (n a b e : Nat) (v : Int32) (pc : Nat) (l st : List Value) (S : mS) (k : Nat) : mO := match b, st with
  | 0, .ref _ :: r => nx M (pc + n) l r S k
  | 0, .null :: r => nx M a l r S k
  | 1, .ref _ :: r => nx M a l r S k
  | 1, .null :: r => nx M (pc + n) l r S k
  | _, _ => none
def hh28 (M : mM) (n a b e : Nat) (v : Int32) (pc : Nat) (l st : List Value) (S : mS) (k : Nat) : mO := alA M (pc + n) l st S k
def hh29 (M : mM) (n a b e : Nat) (v : Int32) (pc : Nat) (l st : List Value) (S : mS) (k : Nat) : mO := nx M (pc + n) l (.ref (1000 + a) :: st) S k
def hh30 (M : mM) (n a b e : Nat) (v : Int32) (pc : Nat) (l st : List Value) (S : mS) (k : Nat) : mO := cal M (pc + n) a b (v.toNatClampNeg / 64) (v.toNatClampNeg % 64) l st S k
def hh31 (M : mM) (n a b e : Nat) (v : Int32) (pc : Nat) (l st : List Value) (S : mS) (k : Nat) : mO := cal M (pc + n) a b 0 (v.toNatClampNeg % 64) l st S k
def hh32 (M : mM) (n a b e : Nat) (v : Int32) (pc : Nat) (l st : List Value) (S : mS) (k : Nat) : mO := cal M (pc + n) a b 0 (v.toNatClampNeg % 64) l st S k
def hh33 (M : mM) (n a b e : Nat) (v : Int32) (pc : Nat) (l st : List Value) (S : mS) (k : Nat) : mO := mth M (pc + n) a l st S k
def hh34 (M : mM) (n a b e : Nat) (v : Int32) (pc : Nat) (l st : List Value) (S : mS) (k : Nat) : mO := cpy M (pc + n) l st S k
def hh35 (M : mM) (n a b e : Nat) (v : Int32) (pc : Nat) (l st : List Value) (S : mS) (k : Nat) : mO := match Nat.ble (k + 1) M.2.2.2.2.1, sm st with
  | true, true => some (.inr (.inr (.inr a, S)))
  | _, _ => none
def hh36 (M : mM) (n a b e : Nat) (v : Int32) (pc : Nat) (l st : List Value) (S : mS) (k : Nat) : mO := match st with
  | .int x :: r => nx M (pc + n) l (.int x.toInt8.toInt32 :: r) S k
  | _ => none
def hh37 (M : mM) (n a b e : Nat) (v : Int32) (pc : Nat) (l st : List Value) (S : mS) (k : Nat) : mO := match st with
  | .int x :: r => nx M (pc + n) l (.long x.toInt64 :: r) S k
  | _ => none
def hh38 (M : mM) (n a b e : Nat) (v : Int32) (pc : Nat) (l st : List Value) (S : mS) (k : Nat) : mO := match a, st with
  | 0, .long y :: .long x :: r => nx M (pc + n) l (.long (x + y) :: r) S k
  | 1, .long y :: .long x :: r => nx M (pc + n) l (.long (x - y) :: r) S k
  | _, _ => none
def hh39 (M : mM) (n a b e : Nat) (v : Int32) (pc : Nat) (l st : List Value) (S : mS) (k : Nat) : mO := match st with
  | .long x :: r => nx M (pc + n) l (.long (-x) :: r) S k
  | _ => none
def hh40 (M : mM) (n a b e : Nat) (v : Int32) (pc : Nat) (l st : List Value) (S : mS) (k : Nat) : mO := match st with
  | .long y :: .long x :: r => nx M (pc + n) l (.int (lg_cmp x y) :: r) S k
  | _ => none
def hh41 (M : mM) (n a b e : Nat) (v : Int32) (pc : Nat) (l st : List Value) (S : mS) (k : Nat) : mO := match st with
  | .int x :: r => match mSwt[a]? with
    | some (cs, d) => nx M (msw x cs d) l r S k
    | none => none
  | _ => none
def hh42 (M : mM) (n a b e : Nat) (v : Int32) (pc : Nat) (l st : List Value) (S : mS) (k : Nat) : mO := nx M (pc + n) l (.int v :: st) S k
def hh43 (M : mM) (n a b e : Nat) (v : Int32) (pc : Nat) (l st : List Value) (S : mS) (k : Nat) : mO := match st with
  | .ref i :: r => match mStr[i - 1000]?, sm st with
    | some bs, true => gx (decide (1000 ≤ i)) M (pc + n) l (.int (Int32.ofNat bs.length) :: r) S k
    | _, _ => none
  | _ => none
def hh44 (M : mM) (n a b e : Nat) (v : Int32) (pc : Nat) (l st : List Value) (S : mS) (k : Nat) : mO := match st with
  | .int x :: .ref i :: r => match mStr[i - 1000]?, sm st with
    | some bs, true => gx (decide (1000 ≤ i) && inb x bs.length) M (pc + n) l (.int (bs.getD x.toNatClampNeg 0) :: r) S k
    | _, _ => none
  | _ => none
def hh45 (M : mM) (n a b e : Nat) (v : Int32) (pc : Nat) (l st : List Value) (S : mS) (k : Nat) : mO := cal M (pc + n) a b (v.toNatClampNeg / 64) (v.toNatClampNeg % 64) l st S k
def hh46 (M : mM) (n a b e : Nat) (v : Int32) (pc : Nat) (l st : List Value) (S : mS) (k : Nat) : mO := match st with
  | .ref i :: _ => match i == 30 with
    | true => cal M (pc + n) a 1 2 (v.toNatClampNeg % 64) l st S k
    | false => cal M (pc + n) b 1 4 (v.toNatClampNeg % 64) l st S k
  | _ => none
def hh47 (M : mM) (n a b e : Nat) (v : Int32) (pc : Nat) (l st : List Value) (S : mS) (k : Nat) : mO := nx M (pc + n) l (.long (Int64.ofNat a) :: st) S k
def hh48 (M : mM) (n a b e : Nat) (v : Int32) (pc : Nat) (l st : List Value) (S : mS) (k : Nat) : mO := match st with
  | .ref i :: _ => match i == 30 with
    | true => gf M (pc + n) a 1 l st S k
    | false => gf M (pc + n) a 3 l st S k
  | _ => none
def mx1 (M : mM) (o : mOp) (pc : Nat) (l st : List Value) (S : mS) (k : Nat) : mO := match o with
  | (code, n, a, b, e, v) => match code with
    | 0 => hh0 M n a b e v pc l st S k
    | 1 => hh1 M n a b e v pc l st S k
    | 2 => hh2 M n a b e v pc l st S k
    | 3 => hh3 M n a b e v pc l st S k
    | 4 => hh4 M n a b e v pc l st S k
    | 5 => hh5 M n a b e v pc l st S k
    | 6 => hh6 M n a b e v pc l st S k
    | 7 => hh7 M n a b e v pc l st S k
    | 8 => hh8 M n a b e v pc l st S k
    | 9 => hh9 M n a b e v pc l st S k
    | 10 => hh10 M n a b e v pc l st S k
    | 11 => hh11 M n a b e v pc l st S k
    | 12 => hh12 M n a b e v pc l st S k
    | 13 => hh13 M n a b e v pc l st S k
    | 14 => hh14 M n a b e v pc l st S k
    | 15 => hh15 M n a b e v pc l st S k
    | 16 => hh16 M n a b e v pc l st S k
    | 17 => hh17 M n a b e v pc l st S k
    | 18 => hh18 M n a b e v pc l st S k
    | 19 => hh19 M n a b e v pc l st S k
    | 20 => hh20 M n a b e v pc l st S k
    | 21 => hh21 M n a b e v pc l st S k
    | 22 => hh22 M n a b e v pc l st S k
    | 23 => hh23 M n a b e v pc l st S k
    | 24 => hh24 M n a b e v pc l st S k
    | 25 => hh25 M n a b e v pc l st S k
    | 26 => hh26 M n a b e v pc l st S k
    | 27 => hh27 M n a b e v pc l st S k
    | 28 => hh28 M n a b e v pc l st S k
    | 29 => hh29 M n a b e v pc l st S k
    | 30 => hh30 M n a b e v pc l st S k
    | 31 => hh31 M n a b e v pc l st S k
    | 32 => hh32 M n a b e v pc l st S k
    | 33 => hh33 M n a b e v pc l st S k
    | 34 => hh34 M n a b e v pc l st S k
    | 35 => hh35 M n a b e v pc l st S k
    | 36 => hh36 M n a b e v pc l st S k
    | 37 => hh37 M n a b e v pc l st S k
    | 38 => hh38 M n a b e v pc l st S k
    | 39 => hh39 M n a b e v pc l st S k
    | 40 => hh40 M n a b e v pc l st S k
    | 41 => hh41 M n a b e v pc l st S k
    | 42 => hh42 M n a b e v pc l st S k
    | 43 => hh43 M n a b e v pc l st S k
    | 44 => hh44 M n a b e v pc l st S k
    | 45 => hh45 M n a b e v pc l st S k
    | 46 => hh46 M n a b e v pc l st S k
    | 47 => hh47 M n a b e v pc l st S k
    | 48 => hh48 M n a b e v pc l st S k
    | _ => none
def mx (M : mM) (c : mC) : mO := match c with
  | (pc, l, st, S, k) => match M.2.2.2.2.2.1.lookup pc with
    | some o => mx1 M o pc l st S k
    | none => none
/-- a method's first locals -/
def mIn (n : Nat) (as : List Value) : List Value := as ++ List.replicate (n - as.length) mK
def mPu (v : Option Value) (c : mC) (S : mS) : mC := match c with
  | (pc, l, st, _, k) => (pc, l, v.toList ++ st, S, k)

def run (tab : Nat → Option mM) : Nat → Nat → mM → mC → Option mR
  | 0, _, _, _ => none
  | n + 1, d, M, c => match Nat.ble c.2.2.2.2 M.2.2.2.2.1, mx M c with
    | true, some (.inl (true, c1, _)) => run tab n d M c1
    | true, some (.inl (false, _, some c2)) => run tab n d M c2
    | true, some (.inr (.inl (j, as, ct))) => match d, tab j with
      | d' + 1, some M' => match Nat.ble as.length M'.2.2.1, as.all (fun v => v.category == 1), run tab n d' M' (0, mkM M'.2.2.2.2.2.2 0 (mIn M'.2.2.1 as), [], ct.2.2.2.1, 0) with
        | true, true, some (.inl v, S') => run tab n (d' + 1) M (mPu v ct S')
        | true, true, some (.inr x, S') => match M'.2.2.2.2.1 with
          | 0 => none
          | _ + 1 => some (.inr x, S')
        | _, _, _ => none
      | _, _ => none
    | true, some (.inr (.inr r)) => some r
    | _, _ => none
/-- the instruction of an entry of the table -/
def mIx (k : Nat) : Fin 4 := Fin.ofNat 4 k
def insOf (pc : Nat) (o : mOp) : Instr := match o with
  | (code, _, a, b, e, v) => match code with
    | 0 => (match a with | 0 => .iconst v.toInt | 1 => .bipush v.toInt | _ => .sipush v.toInt)
    | 1 => (match b with | 0 => .iload_n (mIx a) | _ => .iload a)
    | 2 => (match b with | 0 => .aload_n (mIx a) | _ => .aload a)
    | 3 => (match b with | 0 => .lload_n (mIx a) | _ => .lload a)
    | 4 => (match b with | 0 => .istore_n (mIx a) | _ => .istore a)
    | 5 => (match b with | 0 => .astore_n (mIx a) | _ => .astore a)
    | 6 => (match b with | 0 => .lstore_n (mIx a) | _ => .lstore a)
    | 7 => .iinc a v.toInt
    | 8 => (match a with | 0 => .iadd | 1 => .isub | 2 => .imul | 3 => .iand | 4 => .ior | 5 => .ixor | 6 => .ishl | 7 => .ishr | _ => .iushr)
    | 9 => (match a with | 0 => .idiv | _ => .irem)
    | 10 => .ifCond (match b with | 0 => .eq | 1 => .ne | 2 => .lt | 3 => .ge | 4 => .gt | _ => .le) ((a : Int) - (pc : Int))
    | 11 => .if_icmp (match b with | 0 => .eq | 1 => .ne | 2 => .lt | 3 => .ge | 4 => .gt | _ => .le) ((a : Int) - (pc : Int))
    | 12 => .goto ((a : Int) - (pc : Int))
    | 13 => .getfield e
    | 14 => .putfield e
    | 15 => .iaload
    | 16 => .iastore
    | 17 => .baload
    | 18 => .bastore
    | 19 => .arraylength
    | 20 => .dup
    | 21 => .dup2
    | 22 => .pop
    | 23 => .ireturn
    | 24 => .return_
    | 25 => .areturn
    | 26 => .aconst_null
    | 27 => (match b with | 0 => .ifnull ((a : Int) - (pc : Int)) | _ => .ifnonnull ((a : Int) - (pc : Int)))
    | 28 => .aaload
    | 29 => .ldc e
    | 30 => .invokevirtual e
    | 31 => .invokestatic e
    | 32 => .invokestatic e
    | 33 => .invokestatic e
    | 34 => .invokestatic e
    | 35 => .new e
    | 36 => .i2b
    | 37 => .i2l
    | 38 => (match a with | 0 => .ladd | _ => .lsub)
    | 39 => .lneg
    | 40 => .lcmp
    | 42 => (match b with | 0 => .ldc e | _ => .ldc_w e)
    | 43 => .invokevirtual e
    | 44 => .invokevirtual e
    | 45 => .invokevirtual e
    | 46 => .invokevirtual e
    | 47 => .lconst (Fin.ofNat 2 a)
    | 48 => .getfield e
    | _ => .nop
