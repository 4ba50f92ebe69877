/-! CONSTRUCTORS -/
section INIT
variable {xs : Nat → Int32} {sl d : Nat} {H H' : mH}
theorem ob_init (a : Nat) : Runs xs sl d 292 0 [some (.ref a)] [] H (none, H) := by
  simp only [r292_0]
theorem mset_at {a : Nat} {c : mC} : (mset H a c).1 a = some c := if_pos rfl
theorem mset_ne {a j : Nat} {c : mC} (h : j ≠ a) : (mset H a c).1 j = H.1 j := if_neg h
theorem mnew_at {c : mC} {n : Nat} : (mnew H c n).1 H.2.1 = some c := if_pos rfl
theorem mnew_ne {j n : Nat} {c : mC} (h : j ≠ H.2.1) : (mnew H c n).1 j = H.1 j := if_neg h
/-- an array is made at p and put into a field of the object at a -/
def madeIn (H : mH) (a ci k : Nat) (F : Nat → Value) (c : mC) (n : Nat) : mH := mset (mnew H c n) a (mO ci (va_up F k (.ref H.2.1)))
theorem madeIn_put {a ci k n : Nat} {F : Nat → Value} {c : mC} (h : H.1 a = some (mO ci F)) (hp : a ≠ H.2.1) : hOw (mnew H c n) a ci k (.ref H.2.1) = some (madeIn H a ci k F c n) := by
  rw [hOw_of (F := F) (by rw [mnew_ne hp]; exact h)]
  rfl
theorem madeIn_obj {a ci k n : Nat} {F : Nat → Value} {c : mC} : (madeIn H a ci k F c n).1 a = some (mO ci (va_up F k (.ref H.2.1))) := mset_at
theorem madeIn_new {a ci k n : Nat} {F : Nat → Value} {c : mC} (hp : a ≠ H.2.1) : (madeIn H a ci k F c n).1 H.2.1 = some c := by
  rw [madeIn, mset_ne (Ne.symm hp), mnew_at]
theorem madeIn_ne {a ci k n j : Nat} {F : Nat → Value} {c : mC} (h1 : j ≠ a) (h2 : j ≠ H.2.1) : (madeIn H a ci k F c n).1 j = H.1 j := by
  rw [madeIn, mset_ne h1, mnew_ne h2]
theorem madeIn_n {a ci k n : Nat} {F : Nat → Value} {c : mC} : (madeIn H a ci k F c n).2 = (H.2.1 + 1, H.2.2 + n) := rfl
/-- days at a -/
def daysF (n : Int32) (a k : Nat) : Value := if k < 1 then .int n else .ref (a + 1)
def isDays (H : mH) (a : Nat) (n : Int32) (f : Nat → Int32) : Prop := isObj H a 0 2 (daysF n a) ∧ H.1 (a + 1) = some (mI 0 160 f)
theorem dy_init {a : Nat} (h : H.1 a = some (mO 0 (fun k => mdef (mTy 0 k)))) (hp : H.2.1 = a + 1) : ∃ H1, Runs xs sl (d + 1) 46 0 [some (.ref a)] [] H (none, H1) ∧ isDays H1 a 0 (fun _ => 0) ∧ H1.2 = (a + 2, H.2.2 + 160) ∧ ∀ j, j < a → H1.1 j = H.1 j := by
  have hne : a ≠ H.2.1 := by omega
  have hs : ¬ ((160 : Int32) < 0 ∨ 100000 < ((160 : Int32)).toNatClampNeg) := by decide
  have n1 : ((160 : Int32)).toNatClampNeg = 160 := by decide
  have w1 := madeIn_put (k := 1) (c := mI 0 160 (fun _ => 0)) (n := 160) h hne
  refine ⟨madeIn H a 0 1 (fun k => mdef (mTy 0 k)) (mI 0 160 (fun _ => 0)) 160, ?_, ⟨⟨_, madeIn_obj, fun k hk => ?_⟩, ?_⟩, ?_, fun j hj => madeIn_ne (by omega) (by omega)⟩
  · simp only [r46_0]
    rw [r46_1]
    refine (ob_init a).on ?_
    simp only [Option.toList, List.singleton_append, List.append_nil, List.cons_append, List.nil_append, r46_4, r46_5, r46_8 hs, n1, r46_10, r46_13, w1, Option.some.injEq, exists_eq_left']
  · have : k = 0 ∨ k = 1 := by omega
    rcases this with rfl | rfl
    · rfl
    · rw [hp]; rfl
  · rw [← hp, madeIn_new hne]
  · rw [madeIn_n, hp]
/-- a plate at a -/
def plateF (S : Nat → Int32) (a k : Nat) : Value := if k < 3 then .int (S k) else .ref (a + 1)
def isPlate (H : mH) (a : Nat) (S f : Nat → Int32) : Prop := isObj H a 4 4 (plateF S a) ∧ H.1 (a + 1) = some (mI 0 36 f)
theorem pl_init {a : Nat} (h : H.1 a = some (mO 4 (fun k => mdef (mTy 4 k)))) (hp : H.2.1 = a + 1) : ∃ H1, Runs xs sl (d + 1) 81 0 [some (.ref a)] [] H (none, H1) ∧ isPlate H1 a (fun k => if k = 0 then 3 else 0) (fun _ => 0) ∧ H1.2 = (a + 2, H.2.2 + 36) ∧ ∀ j, j < a → H1.1 j = H.1 j := by
  have hs : ¬ ((36 : Int32) < 0 ∨ 100000 < ((36 : Int32)).toNatClampNeg) := by decide
  have n1 : ((36 : Int32)).toNatClampNeg = 36 := by decide
  have w0 := hOw_of (k := 0) (v := .int 3) h
  generalize hF : (fun k => mdef (mTy 4 k)) = F at h w0
  generalize hH : mset H a (mO 4 (va_up F 0 (.int 3))) = Ha at w0
  have ha : Ha.1 a = some (mO 4 (va_up F 0 (.int 3))) := by rw [← hH]; exact mset_at
  have h2 : Ha.2 = H.2 := by rw [← hH]; rfl
  have hne : a ≠ Ha.2.1 := by rw [h2]; omega
  have w1 := madeIn_put (k := 3) (c := mI 0 36 (fun _ => 0)) (n := 36) ha hne
  refine ⟨madeIn Ha a 4 3 (va_up F 0 (.int 3)) (mI 0 36 (fun _ => 0)) 36, ?_, ⟨⟨_, madeIn_obj, fun k hk => ?_⟩, ?_⟩, ?_, fun j hj => ?_⟩
  · simp only [r81_0]
    rw [r81_1]
    refine (ob_init a).on ?_
    simp only [Option.toList, List.singleton_append, List.append_nil, List.cons_append, List.nil_append, r81_4, r81_5, r81_6, r81_9, r81_10, w0, Option.some.injEq, exists_eq_left', r81_12 hs, n1, r81_14, r81_17, w1]
  · have : k = 0 ∨ k = 1 ∨ k = 2 ∨ k = 3 := by omega
    rcases this with rfl | rfl | rfl | rfl
    · rfl
    · rw [← hF]; rfl
    · rw [← hF]; rfl
    · rw [h2, hp]; rfl
  · rw [show a + 1 = Ha.2.1 by rw [h2, hp], madeIn_new hne]
  · rw [madeIn_n, h2, hp]
  · rw [madeIn_ne (by omega) (by rw [h2]; omega), ← hH, mset_ne (by omega)]
end INIT
