/-! CONSTRUCTORS, printed by wip/whole/ctor.py -/
section CTORS
variable {xs : Nat → Int32} {sl d : Nat} {H H' : mH}
def P_tw_init (a k : Nat) : Value := match k with
  | 0 => .int 3
  | 1 => .int 3
  | 2 => .int 0
  | 3 => .int 0
  | 4 => .int 0
  | 5 => .ref (a + 1)
  | 6 => .ref (a + 2)
  | 7 => .ref (a + 3)
  | 8 => .ref (a + 4)
  | 9 => .ref (a + 5)
  | 10 => .ref (a + 6)
  | _ => .ref (a + 7)
theorem tw_init {a : Nat} (h : H.1 a = some (mO 8 (fun k => mdef (mTy 8 k)))) (hp : H.2.1 = a + 1) : ∃ H1, Runs xs sl (d + 1) 148 0 [some (.ref a)] [] H (none, H1) ∧ isObj H1 a 8 12 (P_tw_init a) ∧ H1.1 (a + 1) = some (mI 0 8 (fun _ => 0)) ∧ H1.1 (a + 2) = some (mI 0 8 (fun _ => 0)) ∧ H1.1 (a + 3) = some (mI 0 8 (fun _ => 0)) ∧ H1.1 (a + 4) = some (mI 0 48 (fun _ => 0)) ∧ H1.1 (a + 5) = some (mI 0 36 (fun _ => 0)) ∧ H1.1 (a + 6) = some (mI 0 8 (fun _ => 0)) ∧ H1.1 (a + 7) = some (mI 0 8 (fun _ => 0)) ∧ H1.2 = (a + 8, H.2.2 + 124) ∧ ∀ j, j < a → H1.1 j = H.1 j := by
  obtain ⟨F0, hF0⟩ : ∃ X : Nat → Value, X = (fun k => mdef (mTy 8 k)) := ⟨_, rfl⟩
  obtain ⟨H0, hH0⟩ : ∃ X, X = H := ⟨_, rfl⟩
  have g0 : H0.1 a = some (mO 8 F0) := by rw [hH0, hF0]; exact h
  have p0 : H0.2 = (a + 1, H.2.2) := by rw [hH0, ← hp]
  have hs8 : ¬ ((8 : Int32) < 0 ∨ 100000 < ((8 : Int32)).toNatClampNeg) := by decide
  have nn8 : ((8 : Int32)).toNatClampNeg = 8 := by decide
  have hs36 : ¬ ((36 : Int32) < 0 ∨ 100000 < ((36 : Int32)).toNatClampNeg) := by decide
  have nn36 : ((36 : Int32)).toNatClampNeg = 36 := by decide
  have hs48 : ¬ ((48 : Int32) < 0 ∨ 100000 < ((48 : Int32)).toNatClampNeg) := by decide
  have nn48 : ((48 : Int32)).toNatClampNeg = 48 := by decide
  have w0 := hOw_of (k := 0) (v := .int 3) g0
  obtain ⟨H1, e1⟩ : ∃ X, X = mset H0 a (mO 8 (va_up (F0) 0 (.int 3))) := ⟨_, rfl⟩
  rw [← e1] at w0
  have g1 : H1.1 a = some (mO 8 (va_up (F0) 0 (.int 3))) := by rw [e1]; exact mset_at
  have p1 : H1.2 = (a + 1, H.2.2) := by rw [e1]; exact p0
  have f0 : ∀ x, x ≠ a → H1.1 x = H0.1 x := fun x hx => by rw [e1]; exact mset_ne hx
  have w1 := hOw_of (k := 1) (v := .int 3) g1
  obtain ⟨H2, e2⟩ : ∃ X, X = mset H1 a (mO 8 (va_up (va_up (F0) 0 (.int 3)) 1 (.int 3))) := ⟨_, rfl⟩
  rw [← e2] at w1
  have g2 : H2.1 a = some (mO 8 (va_up (va_up (F0) 0 (.int 3)) 1 (.int 3))) := by rw [e2]; exact mset_at
  have p2 : H2.2 = (a + 1, H.2.2) := by rw [e2]; exact p1
  have f1 : ∀ x, x ≠ a → H2.1 x = H1.1 x := fun x hx => by rw [e2]; exact mset_ne hx
  have ne2 : a ≠ H2.2.1 := by rw [p2]; show a ≠ a + 1; omega
  have q2 : H2.2.1 = a + 1 := by rw [p2]
  have w2 := madeIn_put (k := 5) (c := mI 0 8 (fun _ => 0)) (n := 8) g2 ne2
  obtain ⟨H3, e3⟩ : ∃ X, X = madeIn H2 a 8 5 (va_up (va_up (F0) 0 (.int 3)) 1 (.int 3)) (mI 0 8 (fun _ => 0)) 8 := ⟨_, rfl⟩
  rw [← e3] at w2
  have g3 : H3.1 a = some (mO 8 (va_up (va_up (va_up (F0) 0 (.int 3)) 1 (.int 3)) 5 (.ref (a + 1)))) := by rw [e3, madeIn_obj, q2]
  have b2 : H3.1 (a + 1) = some (mI 0 8 (fun _ => 0)) := by rw [e3, ← q2, madeIn_new ne2]
  have p3 : H3.2 = (a + 2, H.2.2 + 8) := by rw [e3, madeIn_n, p2]
  have f2 : ∀ x, x ≠ a → x ≠ a + 1 → H3.1 x = H2.1 x := fun x hx hy => by rw [e3]; exact madeIn_ne hx (by rw [q2]; exact hy)
  have ne3 : a ≠ H3.2.1 := by rw [p3]; show a ≠ a + 2; omega
  have q3 : H3.2.1 = a + 2 := by rw [p3]
  have w3 := madeIn_put (k := 6) (c := mI 0 8 (fun _ => 0)) (n := 8) g3 ne3
  obtain ⟨H4, e4⟩ : ∃ X, X = madeIn H3 a 8 6 (va_up (va_up (va_up (F0) 0 (.int 3)) 1 (.int 3)) 5 (.ref (a + 1))) (mI 0 8 (fun _ => 0)) 8 := ⟨_, rfl⟩
  rw [← e4] at w3
  have g4 : H4.1 a = some (mO 8 (va_up (va_up (va_up (va_up (F0) 0 (.int 3)) 1 (.int 3)) 5 (.ref (a + 1))) 6 (.ref (a + 2)))) := by rw [e4, madeIn_obj, q3]
  have b3 : H4.1 (a + 2) = some (mI 0 8 (fun _ => 0)) := by rw [e4, ← q3, madeIn_new ne3]
  have p4 : H4.2 = (a + 3, H.2.2 + 16) := by rw [e4, madeIn_n, p3]
  have f3 : ∀ x, x ≠ a → x ≠ a + 2 → H4.1 x = H3.1 x := fun x hx hy => by rw [e4]; exact madeIn_ne hx (by rw [q3]; exact hy)
  have ne4 : a ≠ H4.2.1 := by rw [p4]; show a ≠ a + 3; omega
  have q4 : H4.2.1 = a + 3 := by rw [p4]
  have w4 := madeIn_put (k := 7) (c := mI 0 8 (fun _ => 0)) (n := 8) g4 ne4
  obtain ⟨H5, e5⟩ : ∃ X, X = madeIn H4 a 8 7 (va_up (va_up (va_up (va_up (F0) 0 (.int 3)) 1 (.int 3)) 5 (.ref (a + 1))) 6 (.ref (a + 2))) (mI 0 8 (fun _ => 0)) 8 := ⟨_, rfl⟩
  rw [← e5] at w4
  have g5 : H5.1 a = some (mO 8 (va_up (va_up (va_up (va_up (va_up (F0) 0 (.int 3)) 1 (.int 3)) 5 (.ref (a + 1))) 6 (.ref (a + 2))) 7 (.ref (a + 3)))) := by rw [e5, madeIn_obj, q4]
  have b4 : H5.1 (a + 3) = some (mI 0 8 (fun _ => 0)) := by rw [e5, ← q4, madeIn_new ne4]
  have p5 : H5.2 = (a + 4, H.2.2 + 24) := by rw [e5, madeIn_n, p4]
  have f4 : ∀ x, x ≠ a → x ≠ a + 3 → H5.1 x = H4.1 x := fun x hx hy => by rw [e5]; exact madeIn_ne hx (by rw [q4]; exact hy)
  have ne5 : a ≠ H5.2.1 := by rw [p5]; show a ≠ a + 4; omega
  have q5 : H5.2.1 = a + 4 := by rw [p5]
  have w5 := madeIn_put (k := 8) (c := mI 0 48 (fun _ => 0)) (n := 48) g5 ne5
  obtain ⟨H6, e6⟩ : ∃ X, X = madeIn H5 a 8 8 (va_up (va_up (va_up (va_up (va_up (F0) 0 (.int 3)) 1 (.int 3)) 5 (.ref (a + 1))) 6 (.ref (a + 2))) 7 (.ref (a + 3))) (mI 0 48 (fun _ => 0)) 48 := ⟨_, rfl⟩
  rw [← e6] at w5
  have g6 : H6.1 a = some (mO 8 (va_up (va_up (va_up (va_up (va_up (va_up (F0) 0 (.int 3)) 1 (.int 3)) 5 (.ref (a + 1))) 6 (.ref (a + 2))) 7 (.ref (a + 3))) 8 (.ref (a + 4)))) := by rw [e6, madeIn_obj, q5]
  have b5 : H6.1 (a + 4) = some (mI 0 48 (fun _ => 0)) := by rw [e6, ← q5, madeIn_new ne5]
  have p6 : H6.2 = (a + 5, H.2.2 + 72) := by rw [e6, madeIn_n, p5]
  have f5 : ∀ x, x ≠ a → x ≠ a + 4 → H6.1 x = H5.1 x := fun x hx hy => by rw [e6]; exact madeIn_ne hx (by rw [q5]; exact hy)
  have ne6 : a ≠ H6.2.1 := by rw [p6]; show a ≠ a + 5; omega
  have q6 : H6.2.1 = a + 5 := by rw [p6]
  have w6 := madeIn_put (k := 9) (c := mI 0 36 (fun _ => 0)) (n := 36) g6 ne6
  obtain ⟨H7, e7⟩ : ∃ X, X = madeIn H6 a 8 9 (va_up (va_up (va_up (va_up (va_up (va_up (F0) 0 (.int 3)) 1 (.int 3)) 5 (.ref (a + 1))) 6 (.ref (a + 2))) 7 (.ref (a + 3))) 8 (.ref (a + 4))) (mI 0 36 (fun _ => 0)) 36 := ⟨_, rfl⟩
  rw [← e7] at w6
  have g7 : H7.1 a = some (mO 8 (va_up (va_up (va_up (va_up (va_up (va_up (va_up (F0) 0 (.int 3)) 1 (.int 3)) 5 (.ref (a + 1))) 6 (.ref (a + 2))) 7 (.ref (a + 3))) 8 (.ref (a + 4))) 9 (.ref (a + 5)))) := by rw [e7, madeIn_obj, q6]
  have b6 : H7.1 (a + 5) = some (mI 0 36 (fun _ => 0)) := by rw [e7, ← q6, madeIn_new ne6]
  have p7 : H7.2 = (a + 6, H.2.2 + 108) := by rw [e7, madeIn_n, p6]
  have f6 : ∀ x, x ≠ a → x ≠ a + 5 → H7.1 x = H6.1 x := fun x hx hy => by rw [e7]; exact madeIn_ne hx (by rw [q6]; exact hy)
  have ne7 : a ≠ H7.2.1 := by rw [p7]; show a ≠ a + 6; omega
  have q7 : H7.2.1 = a + 6 := by rw [p7]
  have w7 := madeIn_put (k := 10) (c := mI 0 8 (fun _ => 0)) (n := 8) g7 ne7
  obtain ⟨H8, e8⟩ : ∃ X, X = madeIn H7 a 8 10 (va_up (va_up (va_up (va_up (va_up (va_up (va_up (F0) 0 (.int 3)) 1 (.int 3)) 5 (.ref (a + 1))) 6 (.ref (a + 2))) 7 (.ref (a + 3))) 8 (.ref (a + 4))) 9 (.ref (a + 5))) (mI 0 8 (fun _ => 0)) 8 := ⟨_, rfl⟩
  rw [← e8] at w7
  have g8 : H8.1 a = some (mO 8 (va_up (va_up (va_up (va_up (va_up (va_up (va_up (va_up (F0) 0 (.int 3)) 1 (.int 3)) 5 (.ref (a + 1))) 6 (.ref (a + 2))) 7 (.ref (a + 3))) 8 (.ref (a + 4))) 9 (.ref (a + 5))) 10 (.ref (a + 6)))) := by rw [e8, madeIn_obj, q7]
  have b7 : H8.1 (a + 6) = some (mI 0 8 (fun _ => 0)) := by rw [e8, ← q7, madeIn_new ne7]
  have p8 : H8.2 = (a + 7, H.2.2 + 116) := by rw [e8, madeIn_n, p7]
  have f7 : ∀ x, x ≠ a → x ≠ a + 6 → H8.1 x = H7.1 x := fun x hx hy => by rw [e8]; exact madeIn_ne hx (by rw [q7]; exact hy)
  have ne8 : a ≠ H8.2.1 := by rw [p8]; show a ≠ a + 7; omega
  have q8 : H8.2.1 = a + 7 := by rw [p8]
  have w8 := madeIn_put (k := 11) (c := mI 0 8 (fun _ => 0)) (n := 8) g8 ne8
  obtain ⟨H9, e9⟩ : ∃ X, X = madeIn H8 a 8 11 (va_up (va_up (va_up (va_up (va_up (va_up (va_up (va_up (F0) 0 (.int 3)) 1 (.int 3)) 5 (.ref (a + 1))) 6 (.ref (a + 2))) 7 (.ref (a + 3))) 8 (.ref (a + 4))) 9 (.ref (a + 5))) 10 (.ref (a + 6))) (mI 0 8 (fun _ => 0)) 8 := ⟨_, rfl⟩
  rw [← e9] at w8
  have g9 : H9.1 a = some (mO 8 (va_up (va_up (va_up (va_up (va_up (va_up (va_up (va_up (va_up (F0) 0 (.int 3)) 1 (.int 3)) 5 (.ref (a + 1))) 6 (.ref (a + 2))) 7 (.ref (a + 3))) 8 (.ref (a + 4))) 9 (.ref (a + 5))) 10 (.ref (a + 6))) 11 (.ref (a + 7)))) := by rw [e9, madeIn_obj, q8]
  have b8 : H9.1 (a + 7) = some (mI 0 8 (fun _ => 0)) := by rw [e9, ← q8, madeIn_new ne8]
  have p9 : H9.2 = (a + 8, H.2.2 + 124) := by rw [e9, madeIn_n, p8]
  have f8 : ∀ x, x ≠ a → x ≠ a + 7 → H9.1 x = H8.1 x := fun x hx hy => by rw [e9]; exact madeIn_ne hx (by rw [q8]; exact hy)
  refine ⟨H9, ?_, ⟨_, g9, fun k hk => ?_⟩, ?_, ?_, ?_, ?_, ?_, ?_, ?_, p9, fun j hj => ?_⟩
  · simp only [r148_0]
    rw [r148_1]
    refine (ob_init a).on ?_
    rw [← hH0]
    simp only [Option.toList, List.singleton_append, List.append_nil, List.cons_append, List.nil_append, r148_4, r148_5, r148_6, r148_9, r148_10, r148_11, r148_14, r148_15, r148_17 hs8, r148_19, r148_22, r148_23, r148_25 hs8, r148_27, r148_30, r148_31, r148_33 hs8, r148_35, r148_38, r148_39, r148_41 hs48, r148_43, r148_46, r148_47, r148_49 hs36, r148_51, r148_54, r148_55, r148_57 hs8, r148_59, r148_62, r148_63, r148_65 hs8, r148_67, r148_70, nn8, nn36, nn48, w0, w1, w2, w3, w4, w5, w6, w7, w8, Option.some.injEq, exists_eq_left']
  · have hk2 : k = 0 ∨ k = 1 ∨ k = 2 ∨ k = 3 ∨ k = 4 ∨ k = 5 ∨ k = 6 ∨ k = 7 ∨ k = 8 ∨ k = 9 ∨ k = 10 ∨ k = 11 := by omega
    rw [hF0]
    rcases hk2 with rfl | rfl | rfl | rfl | rfl | rfl | rfl | rfl | rfl | rfl | rfl | rfl <;> rfl
  · rw [f8 _ (by omega) (by omega), f7 _ (by omega) (by omega), f6 _ (by omega) (by omega), f5 _ (by omega) (by omega), f4 _ (by omega) (by omega), f3 _ (by omega) (by omega), b2]
  · rw [f8 _ (by omega) (by omega), f7 _ (by omega) (by omega), f6 _ (by omega) (by omega), f5 _ (by omega) (by omega), f4 _ (by omega) (by omega), b3]
  · rw [f8 _ (by omega) (by omega), f7 _ (by omega) (by omega), f6 _ (by omega) (by omega), f5 _ (by omega) (by omega), b4]
  · rw [f8 _ (by omega) (by omega), f7 _ (by omega) (by omega), f6 _ (by omega) (by omega), b5]
  · rw [f8 _ (by omega) (by omega), f7 _ (by omega) (by omega), b6]
  · rw [f8 _ (by omega) (by omega), b7]
  · rw [b8]
  · rw [f8 _ (by omega) (by omega), f7 _ (by omega) (by omega), f6 _ (by omega) (by omega), f5 _ (by omega) (by omega), f4 _ (by omega) (by omega), f3 _ (by omega) (by omega), f2 _ (by omega) (by omega), f1 _ (by omega), f0 _ (by omega), hH0]
def P_mk_init (a k : Nat) : Value := match k with
  | 0 => .ref (a + 1)
  | _ => .ref (a + 2)
theorem mk_init {a : Nat} (h : H.1 a = some (mO 2 (fun k => mdef (mTy 2 k)))) (hp : H.2.1 = a + 1) : ∃ H1, Runs xs sl (d + 1) 61 0 [some (.ref a)] [] H (none, H1) ∧ isObj H1 a 2 2 (P_mk_init a) ∧ H1.1 (a + 1) = some (mI 0 49 (fun _ => 0)) ∧ H1.1 (a + 2) = some (mI 0 7 (fun _ => 0)) ∧ H1.2 = (a + 3, H.2.2 + 56) ∧ ∀ j, j < a → H1.1 j = H.1 j := by
  obtain ⟨F0, hF0⟩ : ∃ X : Nat → Value, X = (fun k => mdef (mTy 2 k)) := ⟨_, rfl⟩
  obtain ⟨H0, hH0⟩ : ∃ X, X = H := ⟨_, rfl⟩
  have g0 : H0.1 a = some (mO 2 F0) := by rw [hH0, hF0]; exact h
  have p0 : H0.2 = (a + 1, H.2.2) := by rw [hH0, ← hp]
  have hs7 : ¬ ((7 : Int32) < 0 ∨ 100000 < ((7 : Int32)).toNatClampNeg) := by decide
  have nn7 : ((7 : Int32)).toNatClampNeg = 7 := by decide
  have hs49 : ¬ ((49 : Int32) < 0 ∨ 100000 < ((49 : Int32)).toNatClampNeg) := by decide
  have nn49 : ((49 : Int32)).toNatClampNeg = 49 := by decide
  have ne0 : a ≠ H0.2.1 := by rw [p0]; show a ≠ a + 1; omega
  have q0 : H0.2.1 = a + 1 := by rw [p0]
  have w0 := madeIn_put (k := 0) (c := mI 0 49 (fun _ => 0)) (n := 49) g0 ne0
  obtain ⟨H1, e1⟩ : ∃ X, X = madeIn H0 a 2 0 (F0) (mI 0 49 (fun _ => 0)) 49 := ⟨_, rfl⟩
  rw [← e1] at w0
  have g1 : H1.1 a = some (mO 2 (va_up (F0) 0 (.ref (a + 1)))) := by rw [e1, madeIn_obj, q0]
  have b0 : H1.1 (a + 1) = some (mI 0 49 (fun _ => 0)) := by rw [e1, ← q0, madeIn_new ne0]
  have p1 : H1.2 = (a + 2, H.2.2 + 49) := by rw [e1, madeIn_n, p0]
  have f0 : ∀ x, x ≠ a → x ≠ a + 1 → H1.1 x = H0.1 x := fun x hx hy => by rw [e1]; exact madeIn_ne hx (by rw [q0]; exact hy)
  have ne1 : a ≠ H1.2.1 := by rw [p1]; show a ≠ a + 2; omega
  have q1 : H1.2.1 = a + 2 := by rw [p1]
  have w1 := madeIn_put (k := 1) (c := mI 0 7 (fun _ => 0)) (n := 7) g1 ne1
  obtain ⟨H2, e2⟩ : ∃ X, X = madeIn H1 a 2 1 (va_up (F0) 0 (.ref (a + 1))) (mI 0 7 (fun _ => 0)) 7 := ⟨_, rfl⟩
  rw [← e2] at w1
  have g2 : H2.1 a = some (mO 2 (va_up (va_up (F0) 0 (.ref (a + 1))) 1 (.ref (a + 2)))) := by rw [e2, madeIn_obj, q1]
  have b1 : H2.1 (a + 2) = some (mI 0 7 (fun _ => 0)) := by rw [e2, ← q1, madeIn_new ne1]
  have p2 : H2.2 = (a + 3, H.2.2 + 56) := by rw [e2, madeIn_n, p1]
  have f1 : ∀ x, x ≠ a → x ≠ a + 2 → H2.1 x = H1.1 x := fun x hx hy => by rw [e2]; exact madeIn_ne hx (by rw [q1]; exact hy)
  refine ⟨H2, ?_, ⟨_, g2, fun k hk => ?_⟩, ?_, ?_, p2, fun j hj => ?_⟩
  · simp only [r61_0]
    rw [r61_1]
    refine (ob_init a).on ?_
    rw [← hH0]
    simp only [Option.toList, List.singleton_append, List.append_nil, List.cons_append, List.nil_append, r61_4, r61_5, r61_7 hs49, r61_9, r61_12, r61_13, r61_15 hs7, r61_17, r61_20, nn7, nn49, w0, w1, Option.some.injEq, exists_eq_left']
  · have hk2 : k = 0 ∨ k = 1 := by omega
    rw [hF0]
    rcases hk2 with rfl | rfl <;> rfl
  · rw [f1 _ (by omega) (by omega), b0]
  · rw [b1]
  · rw [f1 _ (by omega) (by omega), f0 _ (by omega) (by omega), hH0]
end CTORS
