/-! THE SMALL MACHINE: one instruction a step, pure; its references are numbers from the law's own start on -/
/-- a cell: an object (number of its class, its fields), or an array (number of its type, its length, what it holds) -/
abbrev mC : Type := (Nat × (Nat → Value)) ⊕ (Nat × Nat × ((Nat → Int32) ⊕ ((Nat → Int64) ⊕ (Nat → Option Nat))))
/-- the heap: its cells, how many there are, how many slots they have -/
abbrev mH : Type := (Nat → Option mC) × Nat × Nat
abbrev mL : Type := List (Option Value)
abbrev mO (ci : Nat) (F : Nat → Value) : mC := .inl (ci, F)
abbrev mI (t n : Nat) (f : Nat → Int32) : mC := .inr (t, n, .inl f)
abbrev mJ (t n : Nat) (f : Nat → Int64) : mC := .inr (t, n, .inr (.inl f))
abbrev mQ (t n : Nat) (f : Nat → Option Nat) : mC := .inr (t, n, .inr (.inr f))
def mset (H : mH) (a : Nat) (c : mC) : mH := (va_up H.1 a (some c), H.2)
def mnew (H : mH) (c : mC) (n : Nat) : mH := (va_up H.1 H.2.1 (some c), H.2.1 + 1, H.2.2 + n)
/-- what a step comes to: the next place, a return, a call (of which method, with what, what is left on the stack) -/
abbrev mR : Type := (Nat × mL × List Value × mH) ⊕ (Option Value ⊕ (Nat × List Value × List Value))
abbrev nx (pc : Nat) (L : mL) (st : List Value) (H : mH) : Option mR := some (.inl (pc, L, st, H))
def mcat (st : List Value) : Nat := (st.map fun v => v.category).sum
def mjmp (pc : Nat) (off : Int) : Option Nat := if 0 ≤ (pc : Int) + off then some ((pc : Int) + off).toNat else none
def mgo (pc : Nat) (off : Int) (L : mL) (st : List Value) (H : mH) : Option mR := match mjmp pc off with
  | some t => nx t L st H
  | none => none
def mpop : Nat → List Value → Option (List Value × List Value)
  | 0, st => some ([], st)
  | n + 1, v :: st => match mpop n st with
    | some (as, r) => some (as ++ [v], r)
    | none => none
  | _ + 1, [] => none
/-- a local of two slots just ahead dies when its second half is written -/
def mkill (L : mL) : Nat → mL
  | 0 => L
  | i + 1 => match L[i]? with
    | some (some (.long _)) => L.set i none
    | some (some (.double _)) => L.set i none
    | _ => L
def mst1 (L : mL) (i : Nat) (v : Value) : mL := (mkill L i).set i (some v)
def mst2 (L : mL) (i : Nat) (v : Value) : mL := ((mkill L i).set i (some v)).set (i + 1) none
def mldi (L : mL) (i pc : Nat) (st : List Value) (H : mH) : Option mR := match L[i]? with
  | some (some (.int x)) => nx pc L (.int x :: st) H
  | _ => none
def mldl (L : mL) (i pc : Nat) (st : List Value) (H : mH) : Option mR := match L[i]? with
  | some (some (.long x)) => nx pc L (.long x :: st) H
  | _ => none
def mlda (L : mL) (i pc : Nat) (st : List Value) (H : mH) : Option mR := match L[i]? with
  | some (some (.ref x)) => nx pc L (.ref x :: st) H
  | some (some .null) => nx pc L (.null :: st) H
  | some (some (.retAddr x)) => nx pc L (.retAddr x :: st) H
  | _ => none
def msti (L : mL) (i pc : Nat) (st : List Value) (H : mH) : Option mR := match st with
  | .int x :: r => if i < L.length then nx pc (mst1 L i (.int x)) r H else none
  | _ => none
def mstl (L : mL) (i pc : Nat) (st : List Value) (H : mH) : Option mR := match st with
  | .long x :: r => if i + 1 < L.length then nx pc (mst2 L i (.long x)) r H else none
  | _ => none
def msta (L : mL) (i pc : Nat) (st : List Value) (H : mH) : Option mR := match st with
  | .ref x :: r => if i < L.length then nx pc (mst1 L i (.ref x)) r H else none
  | .null :: r => if i < L.length then nx pc (mst1 L i .null) r H else none
  | .retAddr x :: r => if i < L.length then nx pc (mst1 L i (.retAddr x)) r H else none
  | _ => none
def mii (pc : Nat) (L : mL) (st : List Value) (H : mH) (f : Int32 → Int32 → Int32) : Option mR := match st with
  | .int y :: .int x :: r => nx (pc + 1) L (.int (f x y) :: r) H
  | _ => none
def mll (pc : Nat) (L : mL) (st : List Value) (H : mH) (f : Int64 → Int64 → Int64) : Option mR := match st with
  | .long y :: .long x :: r => nx (pc + 1) L (.long (f x y) :: r) H
  | _ => none
/-- a compare: of ints; the place it goes to -/
def mbr (b : Bool) (pc : Nat) (off : Int) (L : mL) (st : List Value) (H : mH) : Option mR := match mjmp pc off with
  | some t => nx (if b then t else pc + 3) L st H
  | none => none
def mcmp (c : ClassFile.Cond) (x y : Int32) : Bool := match c with
  | .eq => decide (x = y)
  | .ne => decide (¬ x = y)
  | .lt => decide (x < y)
  | .ge => decide (y ≤ x)
  | .gt => decide (y < x)
  | .le => decide (x ≤ y)
/-- the value fits a field's type -/
def mfit (ty : FieldType) (v : Value) : Bool := match ty, v with
  | .int, .int _ => true
  | .boolean, .int x => x == 0 || x == 1
  | .long, .long _ => true
  | .object _, .ref _ => true
  | .object _, .null => true
  | .array _, .ref _ => true
  | _, _ => false
def mdef (ty : FieldType) : Value := defaultValue ty
def mgetf (M pc idx : Nat) (L : mL) (st : List Value) (H : mH) : Option mR := match st with
  | .ref a :: r => match H.1 a with
    | some (.inl q) => match mFld (mown M) idx with
      | some (ci, k) => if q.1 = ci then nx (pc + 3) L (q.2 k :: r) H else none
      | none => none
    | _ => none
  | _ => none
def mputf (M pc idx : Nat) (L : mL) (st : List Value) (H : mH) : Option mR := match st with
  | v :: .ref a :: r => match H.1 a with
    | some (.inl q) => match mFld (mown M) idx with
      | some (ci, k) => if q.1 = ci ∧ mfit (mTy ci k) v = true ∧ mputok M ci k = true then nx (pc + 3) L r (mset H a (mO ci (va_up q.2 k v))) else none
      | none => none
    | _ => none
  | _ => none
def mald (pc t : Nat) (L : mL) (st : List Value) (H : mH) : Option mR := match st with
  | .int i :: .ref a :: r => match H.1 a with
    | some (.inr (t', n, .inl f)) => if t' = t then (if i < 0 ∨ n ≤ i.toNatClampNeg then none else nx (pc + 1) L (.int (f i.toNatClampNeg) :: r) H) else none
    | _ => none
  | _ => none
def mialdx (xs : Nat → Int32) (sl M pc : Nat) (L : mL) (st : List Value) (H : mH) : Option mR := match st with
  | .int i :: .retAddr 99 :: r => if ¬ M = 0 ∨ i < 0 ∨ sl ≤ i.toNatClampNeg then none else nx (pc + 1) L (.int (xs i.toNatClampNeg) :: r) H
  | _ => mald pc 0 L st H
def mbald (pc : Nat) (L : mL) (st : List Value) (H : mH) : Option mR := match st with
  | .int i :: .ref a :: r => match H.1 a with
    | some (.inr (t', n, .inl f)) => if t' = 1 ∨ t' = 2 then (if i < 0 ∨ n ≤ i.toNatClampNeg then none else nx (pc + 1) L (.int (f i.toNatClampNeg) :: r) H) else none
    | _ => none
  | _ => none
def mlald (pc : Nat) (L : mL) (st : List Value) (H : mH) : Option mR := match st with
  | .int i :: .ref a :: r => match H.1 a with
    | some (.inr (t', n, .inr (.inl f))) => if t' = 3 then (if i < 0 ∨ n ≤ i.toNatClampNeg then none else nx (pc + 1) L (.long (f i.toNatClampNeg) :: r) H) else none
    | _ => none
  | _ => none
def maald (pc : Nat) (L : mL) (st : List Value) (H : mH) : Option mR := match st with
  | .int i :: .ref a :: r => match H.1 a with
    | some (.inr (t', n, .inr (.inr f))) => if 4 ≤ t' ∧ t' < 8 then (if i < 0 ∨ n ≤ i.toNatClampNeg then none else nx (pc + 1) L (va_rf (f i.toNatClampNeg) :: r) H) else none
    | _ => none
  | _ => none
def miast (pc : Nat) (L : mL) (st : List Value) (H : mH) : Option mR := match st with
  | .int x :: .int i :: .ref a :: r => match H.1 a with
    | some (.inr (t', n, .inl f)) => if t' = 0 then (if i < 0 ∨ n ≤ i.toNatClampNeg then none else nx (pc + 1) L r (mset H a (mI 0 n (va_up f i.toNatClampNeg x)))) else none
    | _ => none
  | _ => none
def mbast (pc : Nat) (L : mL) (st : List Value) (H : mH) : Option mR := match st with
  | .int x :: .int i :: .ref a :: r => match H.1 a with
    | some (.inr (t', n, .inl f)) => if t' = 1 then (if i < 0 ∨ n ≤ i.toNatClampNeg then none else nx (pc + 1) L r (mset H a (mI 1 n (va_up f i.toNatClampNeg (vp_nar .byte x)))))
      else if t' = 2 then (if i < 0 ∨ n ≤ i.toNatClampNeg then none else nx (pc + 1) L r (mset H a (mI 2 n (va_up f i.toNatClampNeg (vp_nar .boolean x))))) else none
    | _ => none
  | _ => none
def mlast (pc : Nat) (L : mL) (st : List Value) (H : mH) : Option mR := match st with
  | .long x :: .int i :: .ref a :: r => match H.1 a with
    | some (.inr (t', n, .inr (.inl f))) => if t' = 3 then (if i < 0 ∨ n ≤ i.toNatClampNeg then none else nx (pc + 1) L r (mset H a (mJ 3 n (va_up f i.toNatClampNeg x)))) else none
    | _ => none
  | _ => none
def maast (pc : Nat) (L : mL) (st : List Value) (H : mH) : Option mR := match st with
  | .ref v :: .int i :: .ref a :: r => match H.1 a with
    | some (.inr (t', n, .inr (.inr f))) => match H.1 v with
      | some (.inl q) => if mEl t' = some q.1 then (if i < 0 ∨ n ≤ i.toNatClampNeg then none else nx (pc + 1) L r (mset H a (mQ t' n (va_up f i.toNatClampNeg (some v))))) else none
      | _ => none
    | _ => none
  | _ => none
def malen (sl M pc : Nat) (L : mL) (st : List Value) (H : mH) : Option mR := match st with
  | .ref a :: r => match H.1 a with
    | some (.inr q) => if q.1 < 8 then nx (pc + 1) L (.int (Int32.ofNat q.2.1) :: r) H else none
    | _ => none
  | .retAddr 99 :: r => if M = 0 then nx (pc + 1) L (.int (Int32.ofNat sl) :: r) H else none
  | _ => none
def mnewa (ty : ArrayType) (pc : Nat) (L : mL) (st : List Value) (H : mH) : Option mR := match st with
  | .int n :: r => if n < 0 ∨ 100000 < n.toNatClampNeg then none else match ty with
    | .int => nx (pc + 2) L (.ref H.2.1 :: r) (mnew H (mI 0 n.toNatClampNeg (fun _ => 0)) n.toNatClampNeg)
    | .byte => nx (pc + 2) L (.ref H.2.1 :: r) (mnew H (mI 1 n.toNatClampNeg (fun _ => 0)) n.toNatClampNeg)
    | .boolean => nx (pc + 2) L (.ref H.2.1 :: r) (mnew H (mI 2 n.toNatClampNeg (fun _ => 0)) n.toNatClampNeg)
    | .long => nx (pc + 2) L (.ref H.2.1 :: r) (mnew H (mJ 3 n.toNatClampNeg (fun _ => 0)) n.toNatClampNeg)
    | _ => none
  | _ => none
def manew (M pc idx : Nat) (L : mL) (st : List Value) (H : mH) : Option mR := match st with
  | .int n :: r => if n < 0 ∨ 100000 < n.toNatClampNeg then none else match mNewc (mown M) idx with
    | some ci => match mArr ci with
      | some t => nx (pc + 3) L (.ref H.2.1 :: r) (mnew H (mQ t n.toNatClampNeg (fun _ => none)) n.toNatClampNeg)
      | none => none
    | none => none
  | _ => none
/-- System.arraycopy of ints or bytes -/
def mcopy (d pc : Nat) (L : mL) (st : List Value) (H : mH) : Option mR := match st with
  | .int n :: .int dp :: .ref b :: .int sp :: .ref a :: r => match H.1 a, H.1 b with
    | some (.inr (t, n0, .inl f)), some (.inr (t', n1, .inl g)) =>
      if d = 0 ∨ ¬ (t < 2 ∧ t' = t) ∨ 8 < mcat r ∨ sp < 0 ∨ dp < 0 ∨ n < 0 ∨ n0 < sp.toNatClampNeg + n.toNatClampNeg ∨ n1 < dp.toNatClampNeg + n.toNatClampNeg then none
      else if t = 0 ∨ (∀ i, i < n.toNatClampNeg → fits .byte (.int (f (sp.toNatClampNeg + i))) = true) then nx (pc + 3) L r (mset H b (mI t n1 (va_cpy f g sp.toNatClampNeg dp.toNatClampNeg n.toNatClampNeg))) else none
    | _, _ => none
  | _ => none
/-- Math.max, min, abs -/
def mmath (k d pc : Nat) (L : mL) (st : List Value) (H : mH) : Option mR := match k, st with
  | 4, .int y :: .int x :: r => if d = 0 ∨ 8 < mcat r then none else nx (pc + 3) L (.int (if x < y then y else x) :: r) H
  | 5, .int y :: .int x :: r => if d = 0 ∨ 8 < mcat r then none else nx (pc + 3) L (.int (if y < x then y else x) :: r) H
  | 6, .int x :: r => if d = 0 ∨ 8 < mcat r then none else nx (pc + 3) L (.int (if 0 ≤ x then x else 0 - x) :: r) H
  | _, _ => none
/-- the locals at a method's start -/
def mlay : List Value → mL
  | [] => []
  | .long x :: r => some (.long x) :: none :: mlay r
  | .double x :: r => some (.double x) :: none :: mlay r
  | v :: r => some v :: mlay r
/-! String constants: their bytes, their places in Reader's pool -/
def sLen : List Nat := [119, 1, 1, 2, 2, 4, 4, 2, 2, 2, 1, 4, 0]
def sBy : List (List Int32) := [[114, 121, 101, 32, 98, 117, 110, 32, 99, 114, 117, 115, 116, 32, 116, 111, 97, 115, 116, 32, 119, 97, 102, 101, 114, 32, 115, 97, 121, 32, 98, 97, 107, 101, 32, 101, 97, 116, 32, 98, 117, 116, 116, 101, 114, 32, 116, 97, 108, 107, 32, 110, 105, 103, 104, 116, 32, 116, 111, 112, 105, 99, 115, 32, 108, 105, 102, 101, 32, 104, 111, 117, 115, 101, 32, 118, 105, 115, 105, 116, 32, 109, 105, 110, 100, 32, 115, 97, 105, 100, 32, 108, 111, 97, 102, 32, 108, 105, 101, 115, 32, 99, 114, 117, 109, 98, 32, 102, 111, 114, 32, 97, 103, 97, 105, 110, 115, 116, 32], [99], [110], [110, 122], [104, 97], [104, 116, 119, 118], [111, 116, 119, 118], [107, 111], [104, 108], [104, 111], [122], [98, 116, 119, 118], []]
def slen (j : Nat) : Nat := sLen.getD j 0
def sch (j i : Nat) : Int32 := (sBy.getD j []).getD i 0
def mStL : List (Nat × Nat) := [(255, 0), (146, 1), (148, 2), (150, 3), (152, 4), (154, 5), (156, 6), (158, 7), (160, 8), (162, 9), (164, 10), (166, 11), (168, 12)]
def mSt (o idx : Nat) : Option Nat := if o = 8 then mStL.lookup idx else none
def mSv (o idx : Nat) : Option Nat := if o = 8 then (if idx = 117 then some 0 else if idx = 122 then some 1 else none) else none
def mldcs (M idx pc : Nat) (L : mL) (st : List Value) (H : mH) : Option mR := match mCi (mown M) idx with
  | some v => nx pc L (.int v :: st) H
  | none => match mSt (mown M) idx with
    | some j => nx pc L (.retAddr j :: st) H
    | none => none
/-- length(), charAt() of a constant -/
def mstr (want d M pc idx : Nat) (L : mL) (st : List Value) (H : mH) : Option mR := match mSv (mown M) idx, st with
  | some 0, .retAddr j :: r => if ¬ want = 0 ∨ d < 4 ∨ 8 < mcat r ∨ 13 ≤ j then none else nx (pc + 3) L (.int (Int32.ofNat (slen j)) :: r) H
  | some 1, .int i :: .retAddr j :: r => if ¬ want = 0 ∨ d < 4 ∨ 8 < mcat r ∨ 13 ≤ j ∨ i < 0 ∨ slen j ≤ i.toNatClampNeg then none else nx (pc + 3) L (.int (sch j i.toNatClampNeg) :: r) H
  | _, _ => none
/-- a call: kind (0 of an object, 1 static, 2 a constructor, 3 arraycopy, 4 to 6 Math's), the method, how many arguments beside the object -/
def minv (want d M pc idx : Nat) (L : mL) (st : List Value) (H : mH) : Option mR := match mInv (mown M) idx with
  | some (k, M', n) => if ¬ k = want ∧ ¬ (3 ≤ k ∧ want = 1) then none else match k with
    | 0 => match mpop (n + 1) st with
      | some (.ref a :: as, r) => match H.1 a with
        | some (.inl q) => if mcls M' = some q.1 ∧ mcat r ≤ 8 ∧ (mlay (.ref a :: as)).length ≤ mmax M' then some (.inr (.inr (M', .ref a :: as, r))) else none
        | _ => none
      | _ => none
    | 1 => match mpop n st with
      | some (as, r) => if mcat r ≤ 8 ∧ (mlay as).length ≤ mmax M' then some (.inr (.inr (M', as, r))) else none
      | none => none
    | 2 => match mpop (n + 1) st with
      | some (.ref a :: as, r) => if mcat r ≤ 8 ∧ (mlay (.ref a :: as)).length ≤ mmax M' then some (.inr (.inr (M', .ref a :: as, r))) else none
      | _ => none
    | 3 => mcopy d pc L st H
    | k => mmath k d pc L st H
  | none => mstr want d M pc idx L st H
def mretv (M : Nat) (st : List Value) : Option mR := match st with
  | [.int v] => match mret M with
    | some .int => some (.inr (.inl (some (.int v))))
    | some .boolean => if v = 0 ∨ v = 1 then some (.inr (.inl (some (.int v)))) else none
    | _ => none
  | _ => none
def mreta (M : Nat) (st : List Value) : Option mR := match mret M with
  | some (.object _) => match st with
    | [.ref a] => some (.inr (.inl (some (.ref a))))
    | [.null] => some (.inr (.inl (some .null)))
    | [.retAddr a] => some (.inr (.inl (some (.retAddr a))))
    | _ => none
  | _ => none
def mswo (x : Int32) (dflt lo hi : Int) (offs : Array Int) : Option Int := if x.toInt < lo ∨ hi < x.toInt then some dflt else offs[(x.toInt - lo).toNat]?
def mincr (L : mL) (k : Nat) (n : Int) (pc : Nat) (st : List Value) (H : mH) : Option mR := match L[k]? with
  | some (some (.int x)) => if k < L.length then nx (pc + 3) (mst1 L k (.int (x + Int32.ofInt n))) st H else none
  | _ => none
def mldc (M idx pc : Nat) (L : mL) (st : List Value) (H : mH) : Option mR := match mCi (mown M) idx with
  | some v => nx pc L (.int v :: st) H
  | none => none
def mldc2 (M idx pc : Nat) (L : mL) (st : List Value) (H : mH) : Option mR := match mCl (mown M) idx with
  | some v => nx pc L (.long v :: st) H
  | none => none
def mdivi (pc : Nat) (L : mL) (st : List Value) (H : mH) (f : Int32 → Int32 → Int32) : Option mR := match st with
  | .int y :: .int x :: r => if y = 0 then none else nx (pc + 1) L (.int (f x y) :: r) H
  | _ => none
def mdivl (pc : Nat) (L : mL) (st : List Value) (H : mH) (f : Int64 → Int64 → Int64) : Option mR := match st with
  | .long y :: .long x :: r => if y = 0 then none else nx (pc + 1) L (.long (f x y) :: r) H
  | _ => none
def mun (pc : Nat) (L : mL) (st : List Value) (H : mH) (f : Int32 → Value) : Option mR := match st with
  | .int x :: r => nx (pc + 1) L (f x :: r) H
  | _ => none
def mlcmp (pc : Nat) (L : mL) (st : List Value) (H : mH) : Option mR := match st with
  | .long y :: .long x :: r => nx (pc + 1) L (.int (lg_cmp x y) :: r) H
  | _ => none
def mdup (pc : Nat) (L : mL) (st : List Value) (H : mH) : Option mR := match st with
  | v :: r => if v.category = 1 then nx (pc + 1) L (v :: v :: r) H else none
  | _ => none
def mpop1 (pc : Nat) (L : mL) (st : List Value) (H : mH) : Option mR := match st with
  | v :: r => if v.category = 1 then nx (pc + 1) L r H else none
  | _ => none
def mdup2 (pc : Nat) (L : mL) (st : List Value) (H : mH) : Option mR := match st with
  | v :: w :: r => if v.category = 1 ∧ w.category = 1 then nx (pc + 1) L (v :: w :: v :: w :: r) H else none
  | _ => none
def micmp (c : ClassFile.Cond) (off : Int) (pc : Nat) (L : mL) (st : List Value) (H : mH) : Option mR := match st with
  | .int y :: .int x :: r => mbr (mcmp c x y) pc off L r H
  | _ => none
def mif0 (c : ClassFile.Cond) (off : Int) (pc : Nat) (L : mL) (st : List Value) (H : mH) : Option mR := match st with
  | .int x :: r => mbr (mcmp c x 0) pc off L r H
  | _ => none
def mifn (off : Int) (pc : Nat) (L : mL) (st : List Value) (H : mH) : Option mR := match st with
  | .ref _ :: r => nx (pc + 3) L r H
  | .null :: r => mgo pc off L r H
  | _ => none
def mifnn (off : Int) (pc : Nat) (L : mL) (st : List Value) (H : mH) : Option mR := match st with
  | .ref _ :: r => mgo pc off L r H
  | .null :: r => nx (pc + 3) L r H
  | _ => none
def mtsw (dflt lo hi : Int) (offs : Array Int) (pc : Nat) (L : mL) (st : List Value) (H : mH) : Option mR := match st with
  | .int x :: r => match mswo x dflt lo hi offs with
    | some off => mgo pc off L r H
    | none => none
  | _ => none
def mlsw (dflt : Int) (ps : Array (Int × Int)) (pc : Nat) (L : mL) (st : List Value) (H : mH) : Option mR := match st with
  | .int x :: r => if (ps.toList.zip (ps.toList.drop 1)).all (fun (a, next) => a.1 < next.1) = true then mgo pc (Op.lookupswitch.offset ps.toList dflt x.toInt) L r H else none
  | _ => none
def mnewo (M idx pc : Nat) (L : mL) (st : List Value) (H : mH) : Option mR := match mNewc (mown M) idx with
  | some ci => nx (pc + 3) L (.ref H.2.1 :: st) (mnew H (mO ci (fun k => mdef (mTy ci k))) (mfC ci).2.2)
  | none => none
def mretl (M : Nat) (st : List Value) : Option mR := match st with
  | [.long v] => match mret M with
    | some .long => some (.inr (.inl (some (.long v))))
    | _ => none
  | _ => none
def mretn (M : Nat) (st : List Value) : Option mR := match st with
  | [] => match mret M with
    | none => some (.inr (.inl none))
    | _ => none
  | _ => none
def mstep (xs : Nat → Int32) (sl d M : Nat) (i : Instr) (pc : Nat) (L : mL) (st : List Value) (H : mH) : Option mR := match i with
  | .iload_n k => mldi L k (pc + 1) st H
  | .iload k => mldi L k (pc + 2) st H
  | .lload_n k => mldl L k (pc + 1) st H
  | .lload k => mldl L k (pc + 2) st H
  | .aload_n k => mlda L k (pc + 1) st H
  | .aload k => mlda L k (pc + 2) st H
  | .istore_n k => msti L k (pc + 1) st H
  | .istore k => msti L k (pc + 2) st H
  | .lstore_n k => mstl L k (pc + 1) st H
  | .lstore k => mstl L k (pc + 2) st H
  | .astore_n k => msta L k (pc + 1) st H
  | .astore k => msta L k (pc + 2) st H
  | .iinc k n => mincr L k n pc st H
  | .iconst n => nx (pc + 1) L (.int (Int32.ofInt n) :: st) H
  | .bipush n => nx (pc + 2) L (.int (Int8.ofInt n).toInt32 :: st) H
  | .sipush n => nx (pc + 3) L (.int (Int16.ofInt n).toInt32 :: st) H
  | .lconst n => nx (pc + 1) L (.long (Int64.ofNat n) :: st) H
  | .ldc idx => mldcs M idx (pc + 2) L st H
  | .ldc_w idx => mldc M idx (pc + 3) L st H
  | .ldc2_w idx => mldc2 M idx (pc + 3) L st H
  | .aconst_null => nx (pc + 1) L (.null :: st) H
  | .iadd => mii pc L st H (fun x y => x + y)
  | .isub => mii pc L st H (fun x y => x - y)
  | .imul => mii pc L st H (fun x y => x * y)
  | .iand => mii pc L st H (fun x y => x &&& y)
  | .ior => mii pc L st H (fun x y => x ||| y)
  | .ixor => mii pc L st H (fun x y => x ^^^ y)
  | .ishl => mii pc L st H (fun x y => x <<< (y &&& 31))
  | .ishr => mii pc L st H (fun x y => x >>> (y &&& 31))
  | .iushr => mii pc L st H (fun x y => (x.toUInt32 >>> (y.toUInt32 &&& Int32.toUInt32 31)).toInt32)
  | .idiv => mdivi pc L st H (fun x y => x / y)
  | .irem => mdivi pc L st H (fun x y => x - x / y * y)
  | .ineg => mun pc L st H (fun x => .int (-x))
  | .ladd => mll pc L st H (fun x y => x + y)
  | .lsub => mll pc L st H (fun x y => x - y)
  | .lmul => mll pc L st H (fun x y => x * y)
  | .ldiv => mdivl pc L st H (fun x y => x / y)
  | .lrem => mdivl pc L st H (fun x y => x - x / y * y)
  | .lcmp => mlcmp pc L st H
  | .i2l => mun pc L st H (fun x => .long x.toInt64)
  | .i2b => mun pc L st H (fun x => .int x.toInt8.toInt32)
  | .dup => mdup pc L st H
  | .pop => mpop1 pc L st H
  | .dup2 => mdup2 pc L st H
  | .if_icmp c off => micmp c off pc L st H
  | .ifCond c off => mif0 c off pc L st H
  | .ifnull off => mifn off pc L st H
  | .ifnonnull off => mifnn off pc L st H
  | .goto off => mgo pc off L st H
  | .tableswitch dflt lo hi offs => mtsw dflt lo hi offs pc L st H
  | .lookupswitch dflt ps => mlsw dflt ps pc L st H
  | .getfield idx => mgetf M pc idx L st H
  | .putfield idx => mputf M pc idx L st H
  | .iaload => mialdx xs sl M pc L st H
  | .baload => mbald pc L st H
  | .laload => mlald pc L st H
  | .aaload => maald pc L st H
  | .iastore => miast pc L st H
  | .bastore => mbast pc L st H
  | .lastore => mlast pc L st H
  | .aastore => maast pc L st H
  | .arraylength => malen sl M pc L st H
  | .new idx => mnewo M idx pc L st H
  | .newarray ty => mnewa ty pc L st H
  | .anewarray idx => manew M pc idx L st H
  | .invokevirtual idx => minv 0 d M pc idx L st H
  | .invokestatic idx => minv 1 d M pc idx L st H
  | .invokespecial idx => minv 2 d M pc idx L st H
  | .ireturn => mretv M st
  | .lreturn => mretl M st
  | .areturn => mreta M st
  | .return_ => mretn M st
  | _ => none
def mpad (n : Nat) (L : mL) : mL := L ++ List.replicate (n - L.length) none
def ment (M : Nat) (as : List Value) : mL := mpad (mmax M) (mlay as)
/-- the machine: fuel n, calls of depth d at most -/
def go (xs : Nat → Int32) (sl : Nat) : Nat → Nat → Nat → Nat → mL → List Value → mH → Option (Option Value × mH)
  | 0, _, _, _, _, _, _ => none
  | n + 1, d, M, pc, L, st, H => match mop M pc with
    | none => none
    | some i => match mstep xs sl d M i pc L st H with
      | none => none
      | some (.inl (pc', L', st', H')) => go xs sl n d M pc' L' st' H'
      | some (.inr (.inl v)) => some (v, H)
      | some (.inr (.inr (M', as, r))) => match d with
        | 0 => none
        | d' + 1 => match go xs sl n d' M' 0 (ment M' as) [] H with
          | none => none
          | some (v, H') => go xs sl n (d' + 1) M (pc + 3) L (v.toList ++ r) H'
