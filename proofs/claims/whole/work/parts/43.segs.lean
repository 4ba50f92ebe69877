/-! STRETCHES of constructors, printed by wip/whole/seg.py -/
section SEGS
variable {xs : Nat → Int32} {sl d : Nat} {H H' : mH}
theorem sg_ref1 {a p : Nat} {F0 : Nat → Value} (h : H.1 a = some (mO 10 F0)) (hp : H.2.1 = p) (hap : a < p) : ∃ H1, (∀ r, Runs xs sl d 169 68 [some (.ref a)] [] H1 r → Runs xs sl d 169 4 [some (.ref a)] [] H r) ∧ H1.1 a = some (mO 10 (va_up (va_up (va_up (va_up (va_up (va_up (va_up (va_up (F0) 0 (.ref (p + 0))) 1 (.ref (p + 1))) 11 (.ref (p + 2))) 15 (.ref (p + 3))) 16 (.ref (p + 4))) 17 (.ref (p + 5))) 18 (.ref (p + 6))) 19 (.ref (p + 7)))) ∧ H1.1 (p + 0) = some (mI 0 5072 (fun _ => 0)) ∧ H1.1 (p + 1) = some (mI 2 3 (fun _ => 0)) ∧ H1.1 (p + 2) = some (mI 0 161 (fun _ => 0)) ∧ H1.1 (p + 3) = some (mI 0 24 (fun _ => 0)) ∧ H1.1 (p + 4) = some (mI 0 24 (fun _ => 0)) ∧ H1.1 (p + 5) = some (mI 0 4 (fun _ => 0)) ∧ H1.1 (p + 6) = some (mI 0 96 (fun _ => 0)) ∧ H1.1 (p + 7) = some (mI 0 16 (fun _ => 0)) ∧ H1.2 = (p + 8, H.2.2 + 5400) ∧ ∀ j, j ≠ a → j < p → H1.1 j = H.1 j := by
  obtain ⟨H0, hH0⟩ : ∃ X, X = H := ⟨_, rfl⟩
  have g0 : H0.1 a = some (mO 10 F0) := by rw [hH0]; exact h
  have p0 : H0.2 = (p, H.2.2) := by rw [hH0, ← hp]
  have hs3 : ¬ ((3 : Int32) < 0 ∨ 100000 < ((3 : Int32)).toNatClampNeg) := by decide
  have nn3 : ((3 : Int32)).toNatClampNeg = 3 := by decide
  have hs4 : ¬ ((4 : Int32) < 0 ∨ 100000 < ((4 : Int32)).toNatClampNeg) := by decide
  have nn4 : ((4 : Int32)).toNatClampNeg = 4 := by decide
  have hs16 : ¬ ((16 : Int32) < 0 ∨ 100000 < ((16 : Int32)).toNatClampNeg) := by decide
  have nn16 : ((16 : Int32)).toNatClampNeg = 16 := by decide
  have hs24 : ¬ ((24 : Int32) < 0 ∨ 100000 < ((24 : Int32)).toNatClampNeg) := by decide
  have nn24 : ((24 : Int32)).toNatClampNeg = 24 := by decide
  have hs96 : ¬ ((96 : Int32) < 0 ∨ 100000 < ((96 : Int32)).toNatClampNeg) := by decide
  have nn96 : ((96 : Int32)).toNatClampNeg = 96 := by decide
  have hs161 : ¬ ((161 : Int32) < 0 ∨ 100000 < ((161 : Int32)).toNatClampNeg) := by decide
  have nn161 : ((161 : Int32)).toNatClampNeg = 161 := by decide
  have hs5072 : ¬ ((5072 : Int32) < 0 ∨ 100000 < ((5072 : Int32)).toNatClampNeg) := by decide
  have nn5072 : ((5072 : Int32)).toNatClampNeg = 5072 := by decide
  have q0 : H0.2.1 = p + 0 := by rw [p0]; rfl
  have ne0 : a ≠ H0.2.1 := by rw [q0]; omega
  have w0 := madeIn_put (k := 0) (c := mI 0 5072 (fun _ => 0)) (n := 5072) g0 ne0
  obtain ⟨H1, e1⟩ : ∃ X, X = madeIn H0 a 10 0 (F0) (mI 0 5072 (fun _ => 0)) 5072 := ⟨_, rfl⟩
  rw [← e1] at w0
  have g1 : H1.1 a = some (mO 10 (va_up (F0) 0 (.ref (p + 0)))) := by rw [e1, madeIn_obj, q0]
  have b0 : H1.1 (p + 0) = some (mI 0 5072 (fun _ => 0)) := by rw [e1, ← q0, madeIn_new ne0]
  have p1 : H1.2 = (p + 1, H.2.2 + 5072) := by rw [e1, madeIn_n, p0]
  have f0 : ∀ x, x ≠ a → x ≠ p + 0 → H1.1 x = H0.1 x := fun x hx hy => by rw [e1]; exact madeIn_ne hx (by rw [q0]; exact hy)
  have q1 : H1.2.1 = p + 1 := by rw [p1]
  have ne1 : a ≠ H1.2.1 := by rw [q1]; omega
  have w1 := madeIn_put (k := 1) (c := mI 2 3 (fun _ => 0)) (n := 3) g1 ne1
  obtain ⟨H2, e2⟩ : ∃ X, X = madeIn H1 a 10 1 (va_up (F0) 0 (.ref (p + 0))) (mI 2 3 (fun _ => 0)) 3 := ⟨_, rfl⟩
  rw [← e2] at w1
  have g2 : H2.1 a = some (mO 10 (va_up (va_up (F0) 0 (.ref (p + 0))) 1 (.ref (p + 1)))) := by rw [e2, madeIn_obj, q1]
  have b1 : H2.1 (p + 1) = some (mI 2 3 (fun _ => 0)) := by rw [e2, ← q1, madeIn_new ne1]
  have p2 : H2.2 = (p + 2, H.2.2 + 5075) := by rw [e2, madeIn_n, p1]
  have f1 : ∀ x, x ≠ a → x ≠ p + 1 → H2.1 x = H1.1 x := fun x hx hy => by rw [e2]; exact madeIn_ne hx (by rw [q1]; exact hy)
  have q2 : H2.2.1 = p + 2 := by rw [p2]
  have ne2 : a ≠ H2.2.1 := by rw [q2]; omega
  have w2 := madeIn_put (k := 11) (c := mI 0 161 (fun _ => 0)) (n := 161) g2 ne2
  obtain ⟨H3, e3⟩ : ∃ X, X = madeIn H2 a 10 11 (va_up (va_up (F0) 0 (.ref (p + 0))) 1 (.ref (p + 1))) (mI 0 161 (fun _ => 0)) 161 := ⟨_, rfl⟩
  rw [← e3] at w2
  have g3 : H3.1 a = some (mO 10 (va_up (va_up (va_up (F0) 0 (.ref (p + 0))) 1 (.ref (p + 1))) 11 (.ref (p + 2)))) := by rw [e3, madeIn_obj, q2]
  have b2 : H3.1 (p + 2) = some (mI 0 161 (fun _ => 0)) := by rw [e3, ← q2, madeIn_new ne2]
  have p3 : H3.2 = (p + 3, H.2.2 + 5236) := by rw [e3, madeIn_n, p2]
  have f2 : ∀ x, x ≠ a → x ≠ p + 2 → H3.1 x = H2.1 x := fun x hx hy => by rw [e3]; exact madeIn_ne hx (by rw [q2]; exact hy)
  have q3 : H3.2.1 = p + 3 := by rw [p3]
  have ne3 : a ≠ H3.2.1 := by rw [q3]; omega
  have w3 := madeIn_put (k := 15) (c := mI 0 24 (fun _ => 0)) (n := 24) g3 ne3
  obtain ⟨H4, e4⟩ : ∃ X, X = madeIn H3 a 10 15 (va_up (va_up (va_up (F0) 0 (.ref (p + 0))) 1 (.ref (p + 1))) 11 (.ref (p + 2))) (mI 0 24 (fun _ => 0)) 24 := ⟨_, rfl⟩
  rw [← e4] at w3
  have g4 : H4.1 a = some (mO 10 (va_up (va_up (va_up (va_up (F0) 0 (.ref (p + 0))) 1 (.ref (p + 1))) 11 (.ref (p + 2))) 15 (.ref (p + 3)))) := by rw [e4, madeIn_obj, q3]
  have b3 : H4.1 (p + 3) = some (mI 0 24 (fun _ => 0)) := by rw [e4, ← q3, madeIn_new ne3]
  have p4 : H4.2 = (p + 4, H.2.2 + 5260) := by rw [e4, madeIn_n, p3]
  have f3 : ∀ x, x ≠ a → x ≠ p + 3 → H4.1 x = H3.1 x := fun x hx hy => by rw [e4]; exact madeIn_ne hx (by rw [q3]; exact hy)
  have q4 : H4.2.1 = p + 4 := by rw [p4]
  have ne4 : a ≠ H4.2.1 := by rw [q4]; omega
  have w4 := madeIn_put (k := 16) (c := mI 0 24 (fun _ => 0)) (n := 24) g4 ne4
  obtain ⟨H5, e5⟩ : ∃ X, X = madeIn H4 a 10 16 (va_up (va_up (va_up (va_up (F0) 0 (.ref (p + 0))) 1 (.ref (p + 1))) 11 (.ref (p + 2))) 15 (.ref (p + 3))) (mI 0 24 (fun _ => 0)) 24 := ⟨_, rfl⟩
  rw [← e5] at w4
  have g5 : H5.1 a = some (mO 10 (va_up (va_up (va_up (va_up (va_up (F0) 0 (.ref (p + 0))) 1 (.ref (p + 1))) 11 (.ref (p + 2))) 15 (.ref (p + 3))) 16 (.ref (p + 4)))) := by rw [e5, madeIn_obj, q4]
  have b4 : H5.1 (p + 4) = some (mI 0 24 (fun _ => 0)) := by rw [e5, ← q4, madeIn_new ne4]
  have p5 : H5.2 = (p + 5, H.2.2 + 5284) := by rw [e5, madeIn_n, p4]
  have f4 : ∀ x, x ≠ a → x ≠ p + 4 → H5.1 x = H4.1 x := fun x hx hy => by rw [e5]; exact madeIn_ne hx (by rw [q4]; exact hy)
  have q5 : H5.2.1 = p + 5 := by rw [p5]
  have ne5 : a ≠ H5.2.1 := by rw [q5]; omega
  have w5 := madeIn_put (k := 17) (c := mI 0 4 (fun _ => 0)) (n := 4) g5 ne5
  obtain ⟨H6, e6⟩ : ∃ X, X = madeIn H5 a 10 17 (va_up (va_up (va_up (va_up (va_up (F0) 0 (.ref (p + 0))) 1 (.ref (p + 1))) 11 (.ref (p + 2))) 15 (.ref (p + 3))) 16 (.ref (p + 4))) (mI 0 4 (fun _ => 0)) 4 := ⟨_, rfl⟩
  rw [← e6] at w5
  have g6 : H6.1 a = some (mO 10 (va_up (va_up (va_up (va_up (va_up (va_up (F0) 0 (.ref (p + 0))) 1 (.ref (p + 1))) 11 (.ref (p + 2))) 15 (.ref (p + 3))) 16 (.ref (p + 4))) 17 (.ref (p + 5)))) := by rw [e6, madeIn_obj, q5]
  have b5 : H6.1 (p + 5) = some (mI 0 4 (fun _ => 0)) := by rw [e6, ← q5, madeIn_new ne5]
  have p6 : H6.2 = (p + 6, H.2.2 + 5288) := by rw [e6, madeIn_n, p5]
  have f5 : ∀ x, x ≠ a → x ≠ p + 5 → H6.1 x = H5.1 x := fun x hx hy => by rw [e6]; exact madeIn_ne hx (by rw [q5]; exact hy)
  have q6 : H6.2.1 = p + 6 := by rw [p6]
  have ne6 : a ≠ H6.2.1 := by rw [q6]; omega
  have w6 := madeIn_put (k := 18) (c := mI 0 96 (fun _ => 0)) (n := 96) g6 ne6
  obtain ⟨H7, e7⟩ : ∃ X, X = madeIn H6 a 10 18 (va_up (va_up (va_up (va_up (va_up (va_up (F0) 0 (.ref (p + 0))) 1 (.ref (p + 1))) 11 (.ref (p + 2))) 15 (.ref (p + 3))) 16 (.ref (p + 4))) 17 (.ref (p + 5))) (mI 0 96 (fun _ => 0)) 96 := ⟨_, rfl⟩
  rw [← e7] at w6
  have g7 : H7.1 a = some (mO 10 (va_up (va_up (va_up (va_up (va_up (va_up (va_up (F0) 0 (.ref (p + 0))) 1 (.ref (p + 1))) 11 (.ref (p + 2))) 15 (.ref (p + 3))) 16 (.ref (p + 4))) 17 (.ref (p + 5))) 18 (.ref (p + 6)))) := by rw [e7, madeIn_obj, q6]
  have b6 : H7.1 (p + 6) = some (mI 0 96 (fun _ => 0)) := by rw [e7, ← q6, madeIn_new ne6]
  have p7 : H7.2 = (p + 7, H.2.2 + 5384) := by rw [e7, madeIn_n, p6]
  have f6 : ∀ x, x ≠ a → x ≠ p + 6 → H7.1 x = H6.1 x := fun x hx hy => by rw [e7]; exact madeIn_ne hx (by rw [q6]; exact hy)
  have q7 : H7.2.1 = p + 7 := by rw [p7]
  have ne7 : a ≠ H7.2.1 := by rw [q7]; omega
  have w7 := madeIn_put (k := 19) (c := mI 0 16 (fun _ => 0)) (n := 16) g7 ne7
  obtain ⟨H8, e8⟩ : ∃ X, X = madeIn H7 a 10 19 (va_up (va_up (va_up (va_up (va_up (va_up (va_up (F0) 0 (.ref (p + 0))) 1 (.ref (p + 1))) 11 (.ref (p + 2))) 15 (.ref (p + 3))) 16 (.ref (p + 4))) 17 (.ref (p + 5))) 18 (.ref (p + 6))) (mI 0 16 (fun _ => 0)) 16 := ⟨_, rfl⟩
  rw [← e8] at w7
  have g8 : H8.1 a = some (mO 10 (va_up (va_up (va_up (va_up (va_up (va_up (va_up (va_up (F0) 0 (.ref (p + 0))) 1 (.ref (p + 1))) 11 (.ref (p + 2))) 15 (.ref (p + 3))) 16 (.ref (p + 4))) 17 (.ref (p + 5))) 18 (.ref (p + 6))) 19 (.ref (p + 7)))) := by rw [e8, madeIn_obj, q7]
  have b7 : H8.1 (p + 7) = some (mI 0 16 (fun _ => 0)) := by rw [e8, ← q7, madeIn_new ne7]
  have p8 : H8.2 = (p + 8, H.2.2 + 5400) := by rw [e8, madeIn_n, p7]
  have f7 : ∀ x, x ≠ a → x ≠ p + 7 → H8.1 x = H7.1 x := fun x hx hy => by rw [e8]; exact madeIn_ne hx (by rw [q7]; exact hy)
  refine ⟨H8, fun r hr => ?_, g8, ?_, ?_, ?_, ?_, ?_, ?_, ?_, ?_, p8, fun j hj1 hj2 => ?_⟩
  · rw [← hH0]
    simp only [r169_4, r169_5, r169_8 hs5072, r169_10, r169_13, r169_14, r169_15 hs3, r169_17, r169_20, r169_21, r169_24 hs161, r169_26, r169_29, r169_30, r169_32 hs24, r169_34, r169_37, r169_38, r169_40 hs24, r169_42, r169_45, r169_46, r169_47 hs4, r169_49, r169_52, r169_53, r169_55 hs96, r169_57, r169_60, r169_61, r169_63 hs16, r169_65, nn3, nn4, nn16, nn24, nn96, nn161, nn5072, w0, w1, w2, w3, w4, w5, w6, w7, Option.some.injEq, exists_eq_left']
    exact hr
  · rw [f7 _ (by omega) (by omega), f6 _ (by omega) (by omega), f5 _ (by omega) (by omega), f4 _ (by omega) (by omega), f3 _ (by omega) (by omega), f2 _ (by omega) (by omega), f1 _ (by omega) (by omega), b0]
  · rw [f7 _ (by omega) (by omega), f6 _ (by omega) (by omega), f5 _ (by omega) (by omega), f4 _ (by omega) (by omega), f3 _ (by omega) (by omega), f2 _ (by omega) (by omega), b1]
  · rw [f7 _ (by omega) (by omega), f6 _ (by omega) (by omega), f5 _ (by omega) (by omega), f4 _ (by omega) (by omega), f3 _ (by omega) (by omega), b2]
  · rw [f7 _ (by omega) (by omega), f6 _ (by omega) (by omega), f5 _ (by omega) (by omega), f4 _ (by omega) (by omega), b3]
  · rw [f7 _ (by omega) (by omega), f6 _ (by omega) (by omega), f5 _ (by omega) (by omega), b4]
  · rw [f7 _ (by omega) (by omega), f6 _ (by omega) (by omega), b5]
  · rw [f7 _ (by omega) (by omega), b6]
  · rw [b7]
  · rw [f7 _ hj1 (by omega), f6 _ hj1 (by omega), f5 _ hj1 (by omega), f4 _ hj1 (by omega), f3 _ hj1 (by omega), f2 _ hj1 (by omega), f1 _ hj1 (by omega), f0 _ hj1 (by omega), hH0]
theorem sg_ref2 {a p : Nat} {F0 : Nat → Value} (h : H.1 a = some (mO 10 F0)) (hp : H.2.1 = p) (hap : a < p) : ∃ H1, (∀ r, Runs xs sl d 169 127 [some (.ref a)] [] H1 r → Runs xs sl d 169 68 [some (.ref a)] [] H r) ∧ H1.1 a = some (mO 10 (va_up (va_up (va_up (va_up (va_up (va_up (va_up (F0) 20 (.ref (p + 0))) 21 (.ref (p + 1))) 22 (.ref (p + 2))) 27 (.ref (p + 3))) 28 (.ref (p + 4))) 29 (.ref (p + 5))) 30 (.ref (p + 6)))) ∧ H1.1 (p + 0) = some (mI 0 16 (fun _ => 0)) ∧ H1.1 (p + 1) = some (mI 2 16 (fun _ => 0)) ∧ H1.1 (p + 2) = some (mI 0 48 (fun _ => 0)) ∧ H1.1 (p + 3) = some (mI 0 256 (fun _ => 0)) ∧ H1.1 (p + 4) = some (mI 0 256 (fun _ => 0)) ∧ H1.1 (p + 5) = some (mI 0 256 (fun _ => 0)) ∧ H1.1 (p + 6) = some (mI 0 8 (fun _ => 0)) ∧ H1.2 = (p + 7, H.2.2 + 856) ∧ ∀ j, j ≠ a → j < p → H1.1 j = H.1 j := by
  obtain ⟨H0, hH0⟩ : ∃ X, X = H := ⟨_, rfl⟩
  have g0 : H0.1 a = some (mO 10 F0) := by rw [hH0]; exact h
  have p0 : H0.2 = (p, H.2.2) := by rw [hH0, ← hp]
  have hs8 : ¬ ((8 : Int32) < 0 ∨ 100000 < ((8 : Int32)).toNatClampNeg) := by decide
  have nn8 : ((8 : Int32)).toNatClampNeg = 8 := by decide
  have hs16 : ¬ ((16 : Int32) < 0 ∨ 100000 < ((16 : Int32)).toNatClampNeg) := by decide
  have nn16 : ((16 : Int32)).toNatClampNeg = 16 := by decide
  have hs48 : ¬ ((48 : Int32) < 0 ∨ 100000 < ((48 : Int32)).toNatClampNeg) := by decide
  have nn48 : ((48 : Int32)).toNatClampNeg = 48 := by decide
  have hs256 : ¬ ((256 : Int32) < 0 ∨ 100000 < ((256 : Int32)).toNatClampNeg) := by decide
  have nn256 : ((256 : Int32)).toNatClampNeg = 256 := by decide
  have q0 : H0.2.1 = p + 0 := by rw [p0]; rfl
  have ne0 : a ≠ H0.2.1 := by rw [q0]; omega
  have w0 := madeIn_put (k := 20) (c := mI 0 16 (fun _ => 0)) (n := 16) g0 ne0
  obtain ⟨H1, e1⟩ : ∃ X, X = madeIn H0 a 10 20 (F0) (mI 0 16 (fun _ => 0)) 16 := ⟨_, rfl⟩
  rw [← e1] at w0
  have g1 : H1.1 a = some (mO 10 (va_up (F0) 20 (.ref (p + 0)))) := by rw [e1, madeIn_obj, q0]
  have b0 : H1.1 (p + 0) = some (mI 0 16 (fun _ => 0)) := by rw [e1, ← q0, madeIn_new ne0]
  have p1 : H1.2 = (p + 1, H.2.2 + 16) := by rw [e1, madeIn_n, p0]
  have f0 : ∀ x, x ≠ a → x ≠ p + 0 → H1.1 x = H0.1 x := fun x hx hy => by rw [e1]; exact madeIn_ne hx (by rw [q0]; exact hy)
  have q1 : H1.2.1 = p + 1 := by rw [p1]
  have ne1 : a ≠ H1.2.1 := by rw [q1]; omega
  have w1 := madeIn_put (k := 21) (c := mI 2 16 (fun _ => 0)) (n := 16) g1 ne1
  obtain ⟨H2, e2⟩ : ∃ X, X = madeIn H1 a 10 21 (va_up (F0) 20 (.ref (p + 0))) (mI 2 16 (fun _ => 0)) 16 := ⟨_, rfl⟩
  rw [← e2] at w1
  have g2 : H2.1 a = some (mO 10 (va_up (va_up (F0) 20 (.ref (p + 0))) 21 (.ref (p + 1)))) := by rw [e2, madeIn_obj, q1]
  have b1 : H2.1 (p + 1) = some (mI 2 16 (fun _ => 0)) := by rw [e2, ← q1, madeIn_new ne1]
  have p2 : H2.2 = (p + 2, H.2.2 + 32) := by rw [e2, madeIn_n, p1]
  have f1 : ∀ x, x ≠ a → x ≠ p + 1 → H2.1 x = H1.1 x := fun x hx hy => by rw [e2]; exact madeIn_ne hx (by rw [q1]; exact hy)
  have q2 : H2.2.1 = p + 2 := by rw [p2]
  have ne2 : a ≠ H2.2.1 := by rw [q2]; omega
  have w2 := madeIn_put (k := 22) (c := mI 0 48 (fun _ => 0)) (n := 48) g2 ne2
  obtain ⟨H3, e3⟩ : ∃ X, X = madeIn H2 a 10 22 (va_up (va_up (F0) 20 (.ref (p + 0))) 21 (.ref (p + 1))) (mI 0 48 (fun _ => 0)) 48 := ⟨_, rfl⟩
  rw [← e3] at w2
  have g3 : H3.1 a = some (mO 10 (va_up (va_up (va_up (F0) 20 (.ref (p + 0))) 21 (.ref (p + 1))) 22 (.ref (p + 2)))) := by rw [e3, madeIn_obj, q2]
  have b2 : H3.1 (p + 2) = some (mI 0 48 (fun _ => 0)) := by rw [e3, ← q2, madeIn_new ne2]
  have p3 : H3.2 = (p + 3, H.2.2 + 80) := by rw [e3, madeIn_n, p2]
  have f2 : ∀ x, x ≠ a → x ≠ p + 2 → H3.1 x = H2.1 x := fun x hx hy => by rw [e3]; exact madeIn_ne hx (by rw [q2]; exact hy)
  have q3 : H3.2.1 = p + 3 := by rw [p3]
  have ne3 : a ≠ H3.2.1 := by rw [q3]; omega
  have w3 := madeIn_put (k := 27) (c := mI 0 256 (fun _ => 0)) (n := 256) g3 ne3
  obtain ⟨H4, e4⟩ : ∃ X, X = madeIn H3 a 10 27 (va_up (va_up (va_up (F0) 20 (.ref (p + 0))) 21 (.ref (p + 1))) 22 (.ref (p + 2))) (mI 0 256 (fun _ => 0)) 256 := ⟨_, rfl⟩
  rw [← e4] at w3
  have g4 : H4.1 a = some (mO 10 (va_up (va_up (va_up (va_up (F0) 20 (.ref (p + 0))) 21 (.ref (p + 1))) 22 (.ref (p + 2))) 27 (.ref (p + 3)))) := by rw [e4, madeIn_obj, q3]
  have b3 : H4.1 (p + 3) = some (mI 0 256 (fun _ => 0)) := by rw [e4, ← q3, madeIn_new ne3]
  have p4 : H4.2 = (p + 4, H.2.2 + 336) := by rw [e4, madeIn_n, p3]
  have f3 : ∀ x, x ≠ a → x ≠ p + 3 → H4.1 x = H3.1 x := fun x hx hy => by rw [e4]; exact madeIn_ne hx (by rw [q3]; exact hy)
  have q4 : H4.2.1 = p + 4 := by rw [p4]
  have ne4 : a ≠ H4.2.1 := by rw [q4]; omega
  have w4 := madeIn_put (k := 28) (c := mI 0 256 (fun _ => 0)) (n := 256) g4 ne4
  obtain ⟨H5, e5⟩ : ∃ X, X = madeIn H4 a 10 28 (va_up (va_up (va_up (va_up (F0) 20 (.ref (p + 0))) 21 (.ref (p + 1))) 22 (.ref (p + 2))) 27 (.ref (p + 3))) (mI 0 256 (fun _ => 0)) 256 := ⟨_, rfl⟩
  rw [← e5] at w4
  have g5 : H5.1 a = some (mO 10 (va_up (va_up (va_up (va_up (va_up (F0) 20 (.ref (p + 0))) 21 (.ref (p + 1))) 22 (.ref (p + 2))) 27 (.ref (p + 3))) 28 (.ref (p + 4)))) := by rw [e5, madeIn_obj, q4]
  have b4 : H5.1 (p + 4) = some (mI 0 256 (fun _ => 0)) := by rw [e5, ← q4, madeIn_new ne4]
  have p5 : H5.2 = (p + 5, H.2.2 + 592) := by rw [e5, madeIn_n, p4]
  have f4 : ∀ x, x ≠ a → x ≠ p + 4 → H5.1 x = H4.1 x := fun x hx hy => by rw [e5]; exact madeIn_ne hx (by rw [q4]; exact hy)
  have q5 : H5.2.1 = p + 5 := by rw [p5]
  have ne5 : a ≠ H5.2.1 := by rw [q5]; omega
  have w5 := madeIn_put (k := 29) (c := mI 0 256 (fun _ => 0)) (n := 256) g5 ne5
  obtain ⟨H6, e6⟩ : ∃ X, X = madeIn H5 a 10 29 (va_up (va_up (va_up (va_up (va_up (F0) 20 (.ref (p + 0))) 21 (.ref (p + 1))) 22 (.ref (p + 2))) 27 (.ref (p + 3))) 28 (.ref (p + 4))) (mI 0 256 (fun _ => 0)) 256 := ⟨_, rfl⟩
  rw [← e6] at w5
  have g6 : H6.1 a = some (mO 10 (va_up (va_up (va_up (va_up (va_up (va_up (F0) 20 (.ref (p + 0))) 21 (.ref (p + 1))) 22 (.ref (p + 2))) 27 (.ref (p + 3))) 28 (.ref (p + 4))) 29 (.ref (p + 5)))) := by rw [e6, madeIn_obj, q5]
  have b5 : H6.1 (p + 5) = some (mI 0 256 (fun _ => 0)) := by rw [e6, ← q5, madeIn_new ne5]
  have p6 : H6.2 = (p + 6, H.2.2 + 848) := by rw [e6, madeIn_n, p5]
  have f5 : ∀ x, x ≠ a → x ≠ p + 5 → H6.1 x = H5.1 x := fun x hx hy => by rw [e6]; exact madeIn_ne hx (by rw [q5]; exact hy)
  have q6 : H6.2.1 = p + 6 := by rw [p6]
  have ne6 : a ≠ H6.2.1 := by rw [q6]; omega
  have w6 := madeIn_put (k := 30) (c := mI 0 8 (fun _ => 0)) (n := 8) g6 ne6
  obtain ⟨H7, e7⟩ : ∃ X, X = madeIn H6 a 10 30 (va_up (va_up (va_up (va_up (va_up (va_up (F0) 20 (.ref (p + 0))) 21 (.ref (p + 1))) 22 (.ref (p + 2))) 27 (.ref (p + 3))) 28 (.ref (p + 4))) 29 (.ref (p + 5))) (mI 0 8 (fun _ => 0)) 8 := ⟨_, rfl⟩
  rw [← e7] at w6
  have g7 : H7.1 a = some (mO 10 (va_up (va_up (va_up (va_up (va_up (va_up (va_up (F0) 20 (.ref (p + 0))) 21 (.ref (p + 1))) 22 (.ref (p + 2))) 27 (.ref (p + 3))) 28 (.ref (p + 4))) 29 (.ref (p + 5))) 30 (.ref (p + 6)))) := by rw [e7, madeIn_obj, q6]
  have b6 : H7.1 (p + 6) = some (mI 0 8 (fun _ => 0)) := by rw [e7, ← q6, madeIn_new ne6]
  have p7 : H7.2 = (p + 7, H.2.2 + 856) := by rw [e7, madeIn_n, p6]
  have f6 : ∀ x, x ≠ a → x ≠ p + 6 → H7.1 x = H6.1 x := fun x hx hy => by rw [e7]; exact madeIn_ne hx (by rw [q6]; exact hy)
  refine ⟨H7, fun r hr => ?_, g7, ?_, ?_, ?_, ?_, ?_, ?_, ?_, p7, fun j hj1 hj2 => ?_⟩
  · rw [← hH0]
    simp only [r169_68, r169_69, r169_71 hs16, r169_73, r169_76, r169_77, r169_79 hs16, r169_81, r169_84, r169_85, r169_87 hs48, r169_89, r169_92, r169_93, r169_96 hs256, r169_98, r169_101, r169_102, r169_105 hs256, r169_107, r169_110, r169_111, r169_114 hs256, r169_116, r169_119, r169_120, r169_122 hs8, r169_124, nn8, nn16, nn48, nn256, w0, w1, w2, w3, w4, w5, w6, Option.some.injEq, exists_eq_left']
    exact hr
  · rw [f6 _ (by omega) (by omega), f5 _ (by omega) (by omega), f4 _ (by omega) (by omega), f3 _ (by omega) (by omega), f2 _ (by omega) (by omega), f1 _ (by omega) (by omega), b0]
  · rw [f6 _ (by omega) (by omega), f5 _ (by omega) (by omega), f4 _ (by omega) (by omega), f3 _ (by omega) (by omega), f2 _ (by omega) (by omega), b1]
  · rw [f6 _ (by omega) (by omega), f5 _ (by omega) (by omega), f4 _ (by omega) (by omega), f3 _ (by omega) (by omega), b2]
  · rw [f6 _ (by omega) (by omega), f5 _ (by omega) (by omega), f4 _ (by omega) (by omega), b3]
  · rw [f6 _ (by omega) (by omega), f5 _ (by omega) (by omega), b4]
  · rw [f6 _ (by omega) (by omega), b5]
  · rw [b6]
  · rw [f6 _ hj1 (by omega), f5 _ hj1 (by omega), f4 _ hj1 (by omega), f3 _ hj1 (by omega), f2 _ hj1 (by omega), f1 _ hj1 (by omega), f0 _ hj1 (by omega), hH0]
theorem sg_ref3 {a p : Nat} {F0 : Nat → Value} (h : H.1 a = some (mO 10 F0)) (hp : H.2.1 = p) (hap : a < p) : ∃ H1, (∀ r, Runs xs sl d 169 177 [some (.ref a)] [] H1 r → Runs xs sl d 169 127 [some (.ref a)] [] H r) ∧ H1.1 a = some (mO 10 (va_up (va_up (va_up (va_up (va_up (va_up (F0) 31 (.ref (p + 0))) 32 (.ref (p + 1))) 33 (.ref (p + 2))) 38 (.ref (p + 3))) 39 (.ref (p + 4))) 40 (.ref (p + 5)))) ∧ H1.1 (p + 0) = some (mI 0 8 (fun _ => 0)) ∧ H1.1 (p + 1) = some (mI 0 6561 (fun _ => 0)) ∧ H1.1 (p + 2) = some (mI 0 6561 (fun _ => 0)) ∧ H1.1 (p + 3) = some (mJ 3 13 (fun _ => 0)) ∧ H1.1 (p + 4) = some (mJ 3 13 (fun _ => 0)) ∧ H1.1 (p + 5) = some (mJ 3 7 (fun _ => 0)) ∧ H1.2 = (p + 6, H.2.2 + 13163) ∧ ∀ j, j ≠ a → j < p → H1.1 j = H.1 j := by
  obtain ⟨H0, hH0⟩ : ∃ X, X = H := ⟨_, rfl⟩
  have g0 : H0.1 a = some (mO 10 F0) := by rw [hH0]; exact h
  have p0 : H0.2 = (p, H.2.2) := by rw [hH0, ← hp]
  have hs7 : ¬ ((7 : Int32) < 0 ∨ 100000 < ((7 : Int32)).toNatClampNeg) := by decide
  have nn7 : ((7 : Int32)).toNatClampNeg = 7 := by decide
  have hs8 : ¬ ((8 : Int32) < 0 ∨ 100000 < ((8 : Int32)).toNatClampNeg) := by decide
  have nn8 : ((8 : Int32)).toNatClampNeg = 8 := by decide
  have hs13 : ¬ ((13 : Int32) < 0 ∨ 100000 < ((13 : Int32)).toNatClampNeg) := by decide
  have nn13 : ((13 : Int32)).toNatClampNeg = 13 := by decide
  have hs6561 : ¬ ((6561 : Int32) < 0 ∨ 100000 < ((6561 : Int32)).toNatClampNeg) := by decide
  have nn6561 : ((6561 : Int32)).toNatClampNeg = 6561 := by decide
  have q0 : H0.2.1 = p + 0 := by rw [p0]; rfl
  have ne0 : a ≠ H0.2.1 := by rw [q0]; omega
  have w0 := madeIn_put (k := 31) (c := mI 0 8 (fun _ => 0)) (n := 8) g0 ne0
  obtain ⟨H1, e1⟩ : ∃ X, X = madeIn H0 a 10 31 (F0) (mI 0 8 (fun _ => 0)) 8 := ⟨_, rfl⟩
  rw [← e1] at w0
  have g1 : H1.1 a = some (mO 10 (va_up (F0) 31 (.ref (p + 0)))) := by rw [e1, madeIn_obj, q0]
  have b0 : H1.1 (p + 0) = some (mI 0 8 (fun _ => 0)) := by rw [e1, ← q0, madeIn_new ne0]
  have p1 : H1.2 = (p + 1, H.2.2 + 8) := by rw [e1, madeIn_n, p0]
  have f0 : ∀ x, x ≠ a → x ≠ p + 0 → H1.1 x = H0.1 x := fun x hx hy => by rw [e1]; exact madeIn_ne hx (by rw [q0]; exact hy)
  have q1 : H1.2.1 = p + 1 := by rw [p1]
  have ne1 : a ≠ H1.2.1 := by rw [q1]; omega
  have w1 := madeIn_put (k := 32) (c := mI 0 6561 (fun _ => 0)) (n := 6561) g1 ne1
  obtain ⟨H2, e2⟩ : ∃ X, X = madeIn H1 a 10 32 (va_up (F0) 31 (.ref (p + 0))) (mI 0 6561 (fun _ => 0)) 6561 := ⟨_, rfl⟩
  rw [← e2] at w1
  have g2 : H2.1 a = some (mO 10 (va_up (va_up (F0) 31 (.ref (p + 0))) 32 (.ref (p + 1)))) := by rw [e2, madeIn_obj, q1]
  have b1 : H2.1 (p + 1) = some (mI 0 6561 (fun _ => 0)) := by rw [e2, ← q1, madeIn_new ne1]
  have p2 : H2.2 = (p + 2, H.2.2 + 6569) := by rw [e2, madeIn_n, p1]
  have f1 : ∀ x, x ≠ a → x ≠ p + 1 → H2.1 x = H1.1 x := fun x hx hy => by rw [e2]; exact madeIn_ne hx (by rw [q1]; exact hy)
  have q2 : H2.2.1 = p + 2 := by rw [p2]
  have ne2 : a ≠ H2.2.1 := by rw [q2]; omega
  have w2 := madeIn_put (k := 33) (c := mI 0 6561 (fun _ => 0)) (n := 6561) g2 ne2
  obtain ⟨H3, e3⟩ : ∃ X, X = madeIn H2 a 10 33 (va_up (va_up (F0) 31 (.ref (p + 0))) 32 (.ref (p + 1))) (mI 0 6561 (fun _ => 0)) 6561 := ⟨_, rfl⟩
  rw [← e3] at w2
  have g3 : H3.1 a = some (mO 10 (va_up (va_up (va_up (F0) 31 (.ref (p + 0))) 32 (.ref (p + 1))) 33 (.ref (p + 2)))) := by rw [e3, madeIn_obj, q2]
  have b2 : H3.1 (p + 2) = some (mI 0 6561 (fun _ => 0)) := by rw [e3, ← q2, madeIn_new ne2]
  have p3 : H3.2 = (p + 3, H.2.2 + 13130) := by rw [e3, madeIn_n, p2]
  have f2 : ∀ x, x ≠ a → x ≠ p + 2 → H3.1 x = H2.1 x := fun x hx hy => by rw [e3]; exact madeIn_ne hx (by rw [q2]; exact hy)
  have q3 : H3.2.1 = p + 3 := by rw [p3]
  have ne3 : a ≠ H3.2.1 := by rw [q3]; omega
  have w3 := madeIn_put (k := 38) (c := mJ 3 13 (fun _ => 0)) (n := 13) g3 ne3
  obtain ⟨H4, e4⟩ : ∃ X, X = madeIn H3 a 10 38 (va_up (va_up (va_up (F0) 31 (.ref (p + 0))) 32 (.ref (p + 1))) 33 (.ref (p + 2))) (mJ 3 13 (fun _ => 0)) 13 := ⟨_, rfl⟩
  rw [← e4] at w3
  have g4 : H4.1 a = some (mO 10 (va_up (va_up (va_up (va_up (F0) 31 (.ref (p + 0))) 32 (.ref (p + 1))) 33 (.ref (p + 2))) 38 (.ref (p + 3)))) := by rw [e4, madeIn_obj, q3]
  have b3 : H4.1 (p + 3) = some (mJ 3 13 (fun _ => 0)) := by rw [e4, ← q3, madeIn_new ne3]
  have p4 : H4.2 = (p + 4, H.2.2 + 13143) := by rw [e4, madeIn_n, p3]
  have f3 : ∀ x, x ≠ a → x ≠ p + 3 → H4.1 x = H3.1 x := fun x hx hy => by rw [e4]; exact madeIn_ne hx (by rw [q3]; exact hy)
  have q4 : H4.2.1 = p + 4 := by rw [p4]
  have ne4 : a ≠ H4.2.1 := by rw [q4]; omega
  have w4 := madeIn_put (k := 39) (c := mJ 3 13 (fun _ => 0)) (n := 13) g4 ne4
  obtain ⟨H5, e5⟩ : ∃ X, X = madeIn H4 a 10 39 (va_up (va_up (va_up (va_up (F0) 31 (.ref (p + 0))) 32 (.ref (p + 1))) 33 (.ref (p + 2))) 38 (.ref (p + 3))) (mJ 3 13 (fun _ => 0)) 13 := ⟨_, rfl⟩
  rw [← e5] at w4
  have g5 : H5.1 a = some (mO 10 (va_up (va_up (va_up (va_up (va_up (F0) 31 (.ref (p + 0))) 32 (.ref (p + 1))) 33 (.ref (p + 2))) 38 (.ref (p + 3))) 39 (.ref (p + 4)))) := by rw [e5, madeIn_obj, q4]
  have b4 : H5.1 (p + 4) = some (mJ 3 13 (fun _ => 0)) := by rw [e5, ← q4, madeIn_new ne4]
  have p5 : H5.2 = (p + 5, H.2.2 + 13156) := by rw [e5, madeIn_n, p4]
  have f4 : ∀ x, x ≠ a → x ≠ p + 4 → H5.1 x = H4.1 x := fun x hx hy => by rw [e5]; exact madeIn_ne hx (by rw [q4]; exact hy)
  have q5 : H5.2.1 = p + 5 := by rw [p5]
  have ne5 : a ≠ H5.2.1 := by rw [q5]; omega
  have w5 := madeIn_put (k := 40) (c := mJ 3 7 (fun _ => 0)) (n := 7) g5 ne5
  obtain ⟨H6, e6⟩ : ∃ X, X = madeIn H5 a 10 40 (va_up (va_up (va_up (va_up (va_up (F0) 31 (.ref (p + 0))) 32 (.ref (p + 1))) 33 (.ref (p + 2))) 38 (.ref (p + 3))) 39 (.ref (p + 4))) (mJ 3 7 (fun _ => 0)) 7 := ⟨_, rfl⟩
  rw [← e6] at w5
  have g6 : H6.1 a = some (mO 10 (va_up (va_up (va_up (va_up (va_up (va_up (F0) 31 (.ref (p + 0))) 32 (.ref (p + 1))) 33 (.ref (p + 2))) 38 (.ref (p + 3))) 39 (.ref (p + 4))) 40 (.ref (p + 5)))) := by rw [e6, madeIn_obj, q5]
  have b5 : H6.1 (p + 5) = some (mJ 3 7 (fun _ => 0)) := by rw [e6, ← q5, madeIn_new ne5]
  have p6 : H6.2 = (p + 6, H.2.2 + 13163) := by rw [e6, madeIn_n, p5]
  have f5 : ∀ x, x ≠ a → x ≠ p + 5 → H6.1 x = H5.1 x := fun x hx hy => by rw [e6]; exact madeIn_ne hx (by rw [q5]; exact hy)
  refine ⟨H6, fun r hr => ?_, g6, ?_, ?_, ?_, ?_, ?_, ?_, p6, fun j hj1 hj2 => ?_⟩
  · rw [← hH0]
    simp only [r169_127, r169_128, r169_130 hs8, r169_132, r169_135, r169_136, r169_139 hs6561, r169_141, r169_144, r169_145, r169_148 hs6561, r169_150, r169_153, r169_154, r169_156 hs13, r169_158, r169_161, r169_162, r169_164 hs13, r169_166, r169_169, r169_170, r169_172 hs7, r169_174, nn7, nn8, nn13, nn6561, w0, w1, w2, w3, w4, w5, Option.some.injEq, exists_eq_left']
    exact hr
  · rw [f5 _ (by omega) (by omega), f4 _ (by omega) (by omega), f3 _ (by omega) (by omega), f2 _ (by omega) (by omega), f1 _ (by omega) (by omega), b0]
  · rw [f5 _ (by omega) (by omega), f4 _ (by omega) (by omega), f3 _ (by omega) (by omega), f2 _ (by omega) (by omega), b1]
  · rw [f5 _ (by omega) (by omega), f4 _ (by omega) (by omega), f3 _ (by omega) (by omega), b2]
  · rw [f5 _ (by omega) (by omega), f4 _ (by omega) (by omega), b3]
  · rw [f5 _ (by omega) (by omega), b4]
  · rw [b5]
  · rw [f5 _ hj1 (by omega), f4 _ hj1 (by omega), f3 _ hj1 (by omega), f2 _ hj1 (by omega), f1 _ hj1 (by omega), f0 _ hj1 (by omega), hH0]
theorem sg_scene {a p : Nat} {F0 : Nat → Value} (h : H.1 a = some (mO 6 F0)) (hp : H.2.1 = p) (hap : a < p) : ∃ H1, (∀ r, Runs xs sl d 115 86 [some (.ref a)] [] H1 r → Runs xs sl d 115 15 [some (.ref a)] [] H r) ∧ H1.1 a = some (mO 6 (va_up (va_up (va_up (va_up (va_up (va_up (va_up (va_up (va_up (F0) 2 (.ref (p + 0))) 3 (.ref (p + 1))) 5 (.ref (p + 2))) 6 (.ref (p + 3))) 7 (.ref (p + 4))) 8 (.ref (p + 5))) 9 (.ref (p + 6))) 10 (.ref (p + 7))) 11 (.ref (p + 8)))) ∧ H1.1 (p + 0) = some (mI 0 48 (fun _ => 0)) ∧ H1.1 (p + 1) = some (mI 0 96 (fun _ => 0)) ∧ H1.1 (p + 2) = some (mI 0 16 (fun _ => 0)) ∧ H1.1 (p + 3) = some (mI 0 16 (fun _ => 0)) ∧ H1.1 (p + 4) = some (mI 2 16 (fun _ => 0)) ∧ H1.1 (p + 5) = some (mI 0 24 (fun _ => 0)) ∧ H1.1 (p + 6) = some (mI 0 24 (fun _ => 0)) ∧ H1.1 (p + 7) = some (mI 0 4 (fun _ => 0)) ∧ H1.1 (p + 8) = some (mI 0 16 (fun _ => 0)) ∧ H1.2 = (p + 9, H.2.2 + 260) ∧ ∀ j, j ≠ a → j < p → H1.1 j = H.1 j := by
  obtain ⟨H0, hH0⟩ : ∃ X, X = H := ⟨_, rfl⟩
  have g0 : H0.1 a = some (mO 6 F0) := by rw [hH0]; exact h
  have p0 : H0.2 = (p, H.2.2) := by rw [hH0, ← hp]
  have hs4 : ¬ ((4 : Int32) < 0 ∨ 100000 < ((4 : Int32)).toNatClampNeg) := by decide
  have nn4 : ((4 : Int32)).toNatClampNeg = 4 := by decide
  have hs16 : ¬ ((16 : Int32) < 0 ∨ 100000 < ((16 : Int32)).toNatClampNeg) := by decide
  have nn16 : ((16 : Int32)).toNatClampNeg = 16 := by decide
  have hs24 : ¬ ((24 : Int32) < 0 ∨ 100000 < ((24 : Int32)).toNatClampNeg) := by decide
  have nn24 : ((24 : Int32)).toNatClampNeg = 24 := by decide
  have hs48 : ¬ ((48 : Int32) < 0 ∨ 100000 < ((48 : Int32)).toNatClampNeg) := by decide
  have nn48 : ((48 : Int32)).toNatClampNeg = 48 := by decide
  have hs96 : ¬ ((96 : Int32) < 0 ∨ 100000 < ((96 : Int32)).toNatClampNeg) := by decide
  have nn96 : ((96 : Int32)).toNatClampNeg = 96 := by decide
  have q0 : H0.2.1 = p + 0 := by rw [p0]; rfl
  have ne0 : a ≠ H0.2.1 := by rw [q0]; omega
  have w0 := madeIn_put (k := 2) (c := mI 0 48 (fun _ => 0)) (n := 48) g0 ne0
  obtain ⟨H1, e1⟩ : ∃ X, X = madeIn H0 a 6 2 (F0) (mI 0 48 (fun _ => 0)) 48 := ⟨_, rfl⟩
  rw [← e1] at w0
  have g1 : H1.1 a = some (mO 6 (va_up (F0) 2 (.ref (p + 0)))) := by rw [e1, madeIn_obj, q0]
  have b0 : H1.1 (p + 0) = some (mI 0 48 (fun _ => 0)) := by rw [e1, ← q0, madeIn_new ne0]
  have p1 : H1.2 = (p + 1, H.2.2 + 48) := by rw [e1, madeIn_n, p0]
  have f0 : ∀ x, x ≠ a → x ≠ p + 0 → H1.1 x = H0.1 x := fun x hx hy => by rw [e1]; exact madeIn_ne hx (by rw [q0]; exact hy)
  have q1 : H1.2.1 = p + 1 := by rw [p1]
  have ne1 : a ≠ H1.2.1 := by rw [q1]; omega
  have w1 := madeIn_put (k := 3) (c := mI 0 96 (fun _ => 0)) (n := 96) g1 ne1
  obtain ⟨H2, e2⟩ : ∃ X, X = madeIn H1 a 6 3 (va_up (F0) 2 (.ref (p + 0))) (mI 0 96 (fun _ => 0)) 96 := ⟨_, rfl⟩
  rw [← e2] at w1
  have g2 : H2.1 a = some (mO 6 (va_up (va_up (F0) 2 (.ref (p + 0))) 3 (.ref (p + 1)))) := by rw [e2, madeIn_obj, q1]
  have b1 : H2.1 (p + 1) = some (mI 0 96 (fun _ => 0)) := by rw [e2, ← q1, madeIn_new ne1]
  have p2 : H2.2 = (p + 2, H.2.2 + 144) := by rw [e2, madeIn_n, p1]
  have f1 : ∀ x, x ≠ a → x ≠ p + 1 → H2.1 x = H1.1 x := fun x hx hy => by rw [e2]; exact madeIn_ne hx (by rw [q1]; exact hy)
  have q2 : H2.2.1 = p + 2 := by rw [p2]
  have ne2 : a ≠ H2.2.1 := by rw [q2]; omega
  have w2 := madeIn_put (k := 5) (c := mI 0 16 (fun _ => 0)) (n := 16) g2 ne2
  obtain ⟨H3, e3⟩ : ∃ X, X = madeIn H2 a 6 5 (va_up (va_up (F0) 2 (.ref (p + 0))) 3 (.ref (p + 1))) (mI 0 16 (fun _ => 0)) 16 := ⟨_, rfl⟩
  rw [← e3] at w2
  have g3 : H3.1 a = some (mO 6 (va_up (va_up (va_up (F0) 2 (.ref (p + 0))) 3 (.ref (p + 1))) 5 (.ref (p + 2)))) := by rw [e3, madeIn_obj, q2]
  have b2 : H3.1 (p + 2) = some (mI 0 16 (fun _ => 0)) := by rw [e3, ← q2, madeIn_new ne2]
  have p3 : H3.2 = (p + 3, H.2.2 + 160) := by rw [e3, madeIn_n, p2]
  have f2 : ∀ x, x ≠ a → x ≠ p + 2 → H3.1 x = H2.1 x := fun x hx hy => by rw [e3]; exact madeIn_ne hx (by rw [q2]; exact hy)
  have q3 : H3.2.1 = p + 3 := by rw [p3]
  have ne3 : a ≠ H3.2.1 := by rw [q3]; omega
  have w3 := madeIn_put (k := 6) (c := mI 0 16 (fun _ => 0)) (n := 16) g3 ne3
  obtain ⟨H4, e4⟩ : ∃ X, X = madeIn H3 a 6 6 (va_up (va_up (va_up (F0) 2 (.ref (p + 0))) 3 (.ref (p + 1))) 5 (.ref (p + 2))) (mI 0 16 (fun _ => 0)) 16 := ⟨_, rfl⟩
  rw [← e4] at w3
  have g4 : H4.1 a = some (mO 6 (va_up (va_up (va_up (va_up (F0) 2 (.ref (p + 0))) 3 (.ref (p + 1))) 5 (.ref (p + 2))) 6 (.ref (p + 3)))) := by rw [e4, madeIn_obj, q3]
  have b3 : H4.1 (p + 3) = some (mI 0 16 (fun _ => 0)) := by rw [e4, ← q3, madeIn_new ne3]
  have p4 : H4.2 = (p + 4, H.2.2 + 176) := by rw [e4, madeIn_n, p3]
  have f3 : ∀ x, x ≠ a → x ≠ p + 3 → H4.1 x = H3.1 x := fun x hx hy => by rw [e4]; exact madeIn_ne hx (by rw [q3]; exact hy)
  have q4 : H4.2.1 = p + 4 := by rw [p4]
  have ne4 : a ≠ H4.2.1 := by rw [q4]; omega
  have w4 := madeIn_put (k := 7) (c := mI 2 16 (fun _ => 0)) (n := 16) g4 ne4
  obtain ⟨H5, e5⟩ : ∃ X, X = madeIn H4 a 6 7 (va_up (va_up (va_up (va_up (F0) 2 (.ref (p + 0))) 3 (.ref (p + 1))) 5 (.ref (p + 2))) 6 (.ref (p + 3))) (mI 2 16 (fun _ => 0)) 16 := ⟨_, rfl⟩
  rw [← e5] at w4
  have g5 : H5.1 a = some (mO 6 (va_up (va_up (va_up (va_up (va_up (F0) 2 (.ref (p + 0))) 3 (.ref (p + 1))) 5 (.ref (p + 2))) 6 (.ref (p + 3))) 7 (.ref (p + 4)))) := by rw [e5, madeIn_obj, q4]
  have b4 : H5.1 (p + 4) = some (mI 2 16 (fun _ => 0)) := by rw [e5, ← q4, madeIn_new ne4]
  have p5 : H5.2 = (p + 5, H.2.2 + 192) := by rw [e5, madeIn_n, p4]
  have f4 : ∀ x, x ≠ a → x ≠ p + 4 → H5.1 x = H4.1 x := fun x hx hy => by rw [e5]; exact madeIn_ne hx (by rw [q4]; exact hy)
  have q5 : H5.2.1 = p + 5 := by rw [p5]
  have ne5 : a ≠ H5.2.1 := by rw [q5]; omega
  have w5 := madeIn_put (k := 8) (c := mI 0 24 (fun _ => 0)) (n := 24) g5 ne5
  obtain ⟨H6, e6⟩ : ∃ X, X = madeIn H5 a 6 8 (va_up (va_up (va_up (va_up (va_up (F0) 2 (.ref (p + 0))) 3 (.ref (p + 1))) 5 (.ref (p + 2))) 6 (.ref (p + 3))) 7 (.ref (p + 4))) (mI 0 24 (fun _ => 0)) 24 := ⟨_, rfl⟩
  rw [← e6] at w5
  have g6 : H6.1 a = some (mO 6 (va_up (va_up (va_up (va_up (va_up (va_up (F0) 2 (.ref (p + 0))) 3 (.ref (p + 1))) 5 (.ref (p + 2))) 6 (.ref (p + 3))) 7 (.ref (p + 4))) 8 (.ref (p + 5)))) := by rw [e6, madeIn_obj, q5]
  have b5 : H6.1 (p + 5) = some (mI 0 24 (fun _ => 0)) := by rw [e6, ← q5, madeIn_new ne5]
  have p6 : H6.2 = (p + 6, H.2.2 + 216) := by rw [e6, madeIn_n, p5]
  have f5 : ∀ x, x ≠ a → x ≠ p + 5 → H6.1 x = H5.1 x := fun x hx hy => by rw [e6]; exact madeIn_ne hx (by rw [q5]; exact hy)
  have q6 : H6.2.1 = p + 6 := by rw [p6]
  have ne6 : a ≠ H6.2.1 := by rw [q6]; omega
  have w6 := madeIn_put (k := 9) (c := mI 0 24 (fun _ => 0)) (n := 24) g6 ne6
  obtain ⟨H7, e7⟩ : ∃ X, X = madeIn H6 a 6 9 (va_up (va_up (va_up (va_up (va_up (va_up (F0) 2 (.ref (p + 0))) 3 (.ref (p + 1))) 5 (.ref (p + 2))) 6 (.ref (p + 3))) 7 (.ref (p + 4))) 8 (.ref (p + 5))) (mI 0 24 (fun _ => 0)) 24 := ⟨_, rfl⟩
  rw [← e7] at w6
  have g7 : H7.1 a = some (mO 6 (va_up (va_up (va_up (va_up (va_up (va_up (va_up (F0) 2 (.ref (p + 0))) 3 (.ref (p + 1))) 5 (.ref (p + 2))) 6 (.ref (p + 3))) 7 (.ref (p + 4))) 8 (.ref (p + 5))) 9 (.ref (p + 6)))) := by rw [e7, madeIn_obj, q6]
  have b6 : H7.1 (p + 6) = some (mI 0 24 (fun _ => 0)) := by rw [e7, ← q6, madeIn_new ne6]
  have p7 : H7.2 = (p + 7, H.2.2 + 240) := by rw [e7, madeIn_n, p6]
  have f6 : ∀ x, x ≠ a → x ≠ p + 6 → H7.1 x = H6.1 x := fun x hx hy => by rw [e7]; exact madeIn_ne hx (by rw [q6]; exact hy)
  have q7 : H7.2.1 = p + 7 := by rw [p7]
  have ne7 : a ≠ H7.2.1 := by rw [q7]; omega
  have w7 := madeIn_put (k := 10) (c := mI 0 4 (fun _ => 0)) (n := 4) g7 ne7
  obtain ⟨H8, e8⟩ : ∃ X, X = madeIn H7 a 6 10 (va_up (va_up (va_up (va_up (va_up (va_up (va_up (F0) 2 (.ref (p + 0))) 3 (.ref (p + 1))) 5 (.ref (p + 2))) 6 (.ref (p + 3))) 7 (.ref (p + 4))) 8 (.ref (p + 5))) 9 (.ref (p + 6))) (mI 0 4 (fun _ => 0)) 4 := ⟨_, rfl⟩
  rw [← e8] at w7
  have g8 : H8.1 a = some (mO 6 (va_up (va_up (va_up (va_up (va_up (va_up (va_up (va_up (F0) 2 (.ref (p + 0))) 3 (.ref (p + 1))) 5 (.ref (p + 2))) 6 (.ref (p + 3))) 7 (.ref (p + 4))) 8 (.ref (p + 5))) 9 (.ref (p + 6))) 10 (.ref (p + 7)))) := by rw [e8, madeIn_obj, q7]
  have b7 : H8.1 (p + 7) = some (mI 0 4 (fun _ => 0)) := by rw [e8, ← q7, madeIn_new ne7]
  have p8 : H8.2 = (p + 8, H.2.2 + 244) := by rw [e8, madeIn_n, p7]
  have f7 : ∀ x, x ≠ a → x ≠ p + 7 → H8.1 x = H7.1 x := fun x hx hy => by rw [e8]; exact madeIn_ne hx (by rw [q7]; exact hy)
  have q8 : H8.2.1 = p + 8 := by rw [p8]
  have ne8 : a ≠ H8.2.1 := by rw [q8]; omega
  have w8 := madeIn_put (k := 11) (c := mI 0 16 (fun _ => 0)) (n := 16) g8 ne8
  obtain ⟨H9, e9⟩ : ∃ X, X = madeIn H8 a 6 11 (va_up (va_up (va_up (va_up (va_up (va_up (va_up (va_up (F0) 2 (.ref (p + 0))) 3 (.ref (p + 1))) 5 (.ref (p + 2))) 6 (.ref (p + 3))) 7 (.ref (p + 4))) 8 (.ref (p + 5))) 9 (.ref (p + 6))) 10 (.ref (p + 7))) (mI 0 16 (fun _ => 0)) 16 := ⟨_, rfl⟩
  rw [← e9] at w8
  have g9 : H9.1 a = some (mO 6 (va_up (va_up (va_up (va_up (va_up (va_up (va_up (va_up (va_up (F0) 2 (.ref (p + 0))) 3 (.ref (p + 1))) 5 (.ref (p + 2))) 6 (.ref (p + 3))) 7 (.ref (p + 4))) 8 (.ref (p + 5))) 9 (.ref (p + 6))) 10 (.ref (p + 7))) 11 (.ref (p + 8)))) := by rw [e9, madeIn_obj, q8]
  have b8 : H9.1 (p + 8) = some (mI 0 16 (fun _ => 0)) := by rw [e9, ← q8, madeIn_new ne8]
  have p9 : H9.2 = (p + 9, H.2.2 + 260) := by rw [e9, madeIn_n, p8]
  have f8 : ∀ x, x ≠ a → x ≠ p + 8 → H9.1 x = H8.1 x := fun x hx hy => by rw [e9]; exact madeIn_ne hx (by rw [q8]; exact hy)
  refine ⟨H9, fun r hr => ?_, g9, ?_, ?_, ?_, ?_, ?_, ?_, ?_, ?_, ?_, p9, fun j hj1 hj2 => ?_⟩
  · rw [← hH0]
    simp only [r115_15, r115_16, r115_18 hs48, r115_20, r115_23, r115_24, r115_26 hs96, r115_28, r115_31, r115_32, r115_34 hs16, r115_36, r115_39, r115_40, r115_42 hs16, r115_44, r115_47, r115_48, r115_50 hs16, r115_52, r115_55, r115_56, r115_58 hs24, r115_60, r115_63, r115_64, r115_66 hs24, r115_68, r115_71, r115_72, r115_73 hs4, r115_75, r115_78, r115_79, r115_81 hs16, r115_83, nn4, nn16, nn24, nn48, nn96, w0, w1, w2, w3, w4, w5, w6, w7, w8, Option.some.injEq, exists_eq_left']
    exact hr
  · rw [f8 _ (by omega) (by omega), f7 _ (by omega) (by omega), f6 _ (by omega) (by omega), f5 _ (by omega) (by omega), f4 _ (by omega) (by omega), f3 _ (by omega) (by omega), f2 _ (by omega) (by omega), f1 _ (by omega) (by omega), b0]
  · rw [f8 _ (by omega) (by omega), f7 _ (by omega) (by omega), f6 _ (by omega) (by omega), f5 _ (by omega) (by omega), f4 _ (by omega) (by omega), f3 _ (by omega) (by omega), f2 _ (by omega) (by omega), b1]
  · rw [f8 _ (by omega) (by omega), f7 _ (by omega) (by omega), f6 _ (by omega) (by omega), f5 _ (by omega) (by omega), f4 _ (by omega) (by omega), f3 _ (by omega) (by omega), b2]
  · rw [f8 _ (by omega) (by omega), f7 _ (by omega) (by omega), f6 _ (by omega) (by omega), f5 _ (by omega) (by omega), f4 _ (by omega) (by omega), b3]
  · rw [f8 _ (by omega) (by omega), f7 _ (by omega) (by omega), f6 _ (by omega) (by omega), f5 _ (by omega) (by omega), b4]
  · rw [f8 _ (by omega) (by omega), f7 _ (by omega) (by omega), f6 _ (by omega) (by omega), b5]
  · rw [f8 _ (by omega) (by omega), f7 _ (by omega) (by omega), b6]
  · rw [f8 _ (by omega) (by omega), b7]
  · rw [b8]
  · rw [f8 _ hj1 (by omega), f7 _ hj1 (by omega), f6 _ hj1 (by omega), f5 _ hj1 (by omega), f4 _ hj1 (by omega), f3 _ hj1 (by omega), f2 _ hj1 (by omega), f1 _ hj1 (by omega), f0 _ hj1 (by omega), hH0]
theorem sg_reader {a p : Nat} {F0 : Nat → Value} (h : H.1 a = some (mO 5 F0)) (hp : H.2.1 = p) (hap : a < p) : ∃ H1, (∀ r, Runs xs sl d 85 51 [some (.ref a)] [] H1 r → Runs xs sl d 85 37 [some (.ref a)] [] H r) ∧ H1.1 a = some (mO 5 (va_up (va_up (F0) 5 (.ref (p + 0))) 6 (.ref (p + 1)))) ∧ H1.1 (p + 0) = some (mI 0 4 (fun _ => 0)) ∧ H1.1 (p + 1) = some (mI 1 0 (fun _ => 0)) ∧ H1.2 = (p + 2, H.2.2 + 4) ∧ ∀ j, j ≠ a → j < p → H1.1 j = H.1 j := by
  obtain ⟨H0, hH0⟩ : ∃ X, X = H := ⟨_, rfl⟩
  have g0 : H0.1 a = some (mO 5 F0) := by rw [hH0]; exact h
  have p0 : H0.2 = (p, H.2.2) := by rw [hH0, ← hp]
  have hs0 : ¬ ((0 : Int32) < 0 ∨ 100000 < ((0 : Int32)).toNatClampNeg) := by decide
  have nn0 : ((0 : Int32)).toNatClampNeg = 0 := by decide
  have hs4 : ¬ ((4 : Int32) < 0 ∨ 100000 < ((4 : Int32)).toNatClampNeg) := by decide
  have nn4 : ((4 : Int32)).toNatClampNeg = 4 := by decide
  have q0 : H0.2.1 = p + 0 := by rw [p0]; rfl
  have ne0 : a ≠ H0.2.1 := by rw [q0]; omega
  have w0 := madeIn_put (k := 5) (c := mI 0 4 (fun _ => 0)) (n := 4) g0 ne0
  obtain ⟨H1, e1⟩ : ∃ X, X = madeIn H0 a 5 5 (F0) (mI 0 4 (fun _ => 0)) 4 := ⟨_, rfl⟩
  rw [← e1] at w0
  have g1 : H1.1 a = some (mO 5 (va_up (F0) 5 (.ref (p + 0)))) := by rw [e1, madeIn_obj, q0]
  have b0 : H1.1 (p + 0) = some (mI 0 4 (fun _ => 0)) := by rw [e1, ← q0, madeIn_new ne0]
  have p1 : H1.2 = (p + 1, H.2.2 + 4) := by rw [e1, madeIn_n, p0]
  have f0 : ∀ x, x ≠ a → x ≠ p + 0 → H1.1 x = H0.1 x := fun x hx hy => by rw [e1]; exact madeIn_ne hx (by rw [q0]; exact hy)
  have q1 : H1.2.1 = p + 1 := by rw [p1]
  have ne1 : a ≠ H1.2.1 := by rw [q1]; omega
  have w1 := madeIn_put (k := 6) (c := mI 1 0 (fun _ => 0)) (n := 0) g1 ne1
  obtain ⟨H2, e2⟩ : ∃ X, X = madeIn H1 a 5 6 (va_up (F0) 5 (.ref (p + 0))) (mI 1 0 (fun _ => 0)) 0 := ⟨_, rfl⟩
  rw [← e2] at w1
  have g2 : H2.1 a = some (mO 5 (va_up (va_up (F0) 5 (.ref (p + 0))) 6 (.ref (p + 1)))) := by rw [e2, madeIn_obj, q1]
  have b1 : H2.1 (p + 1) = some (mI 1 0 (fun _ => 0)) := by rw [e2, ← q1, madeIn_new ne1]
  have p2 : H2.2 = (p + 2, H.2.2 + 4) := by rw [e2, madeIn_n, p1]
  have f1 : ∀ x, x ≠ a → x ≠ p + 1 → H2.1 x = H1.1 x := fun x hx hy => by rw [e2]; exact madeIn_ne hx (by rw [q1]; exact hy)
  refine ⟨H2, fun r hr => ?_, g2, ?_, ?_, p2, fun j hj1 hj2 => ?_⟩
  · rw [← hH0]
    simp only [r85_37, r85_38, r85_39 hs4, r85_41, r85_44, r85_45, r85_46 hs0, r85_48, nn0, nn4, w0, w1, Option.some.injEq, exists_eq_left']
    exact hr
  · rw [f1 _ (by omega) (by omega), b0]
  · rw [b1]
  · rw [f1 _ hj1 (by omega), f0 _ hj1 (by omega), hH0]
theorem sg_meals {a p : Nat} {F0 : Nat → Value} {l1 : Option Value} (h : H.1 a = some (mO 3 F0)) (hp : H.2.1 = p) (hap : a < p) : ∃ H1, (∀ r, Runs xs sl d 66 39 [some (.ref a), l1] [] H1 r → Runs xs sl d 66 4 [some (.ref a), l1] [] H r) ∧ H1.1 a = some (mO 3 (va_up (va_up (va_up (va_up (F0) 4 (.ref (p + 0))) 5 (.ref (p + 1))) 6 (.ref (p + 2))) 7 (.ref (p + 3)))) ∧ H1.1 (p + 0) = some (mI 0 1536 (fun _ => 0)) ∧ H1.1 (p + 1) = some (mI 0 256 (fun _ => 0)) ∧ H1.1 (p + 2) = some (mI 0 54 (fun _ => 0)) ∧ H1.1 (p + 3) = some (mI 0 2048 (fun _ => 0)) ∧ H1.2 = (p + 4, H.2.2 + 3894) ∧ ∀ j, j ≠ a → j < p → H1.1 j = H.1 j := by
  obtain ⟨H0, hH0⟩ : ∃ X, X = H := ⟨_, rfl⟩
  have g0 : H0.1 a = some (mO 3 F0) := by rw [hH0]; exact h
  have p0 : H0.2 = (p, H.2.2) := by rw [hH0, ← hp]
  have hs54 : ¬ ((54 : Int32) < 0 ∨ 100000 < ((54 : Int32)).toNatClampNeg) := by decide
  have nn54 : ((54 : Int32)).toNatClampNeg = 54 := by decide
  have hs256 : ¬ ((256 : Int32) < 0 ∨ 100000 < ((256 : Int32)).toNatClampNeg) := by decide
  have nn256 : ((256 : Int32)).toNatClampNeg = 256 := by decide
  have hs1536 : ¬ ((1536 : Int32) < 0 ∨ 100000 < ((1536 : Int32)).toNatClampNeg) := by decide
  have nn1536 : ((1536 : Int32)).toNatClampNeg = 1536 := by decide
  have hs2048 : ¬ ((2048 : Int32) < 0 ∨ 100000 < ((2048 : Int32)).toNatClampNeg) := by decide
  have nn2048 : ((2048 : Int32)).toNatClampNeg = 2048 := by decide
  have q0 : H0.2.1 = p + 0 := by rw [p0]; rfl
  have ne0 : a ≠ H0.2.1 := by rw [q0]; omega
  have w0 := madeIn_put (k := 4) (c := mI 0 1536 (fun _ => 0)) (n := 1536) g0 ne0
  obtain ⟨H1, e1⟩ : ∃ X, X = madeIn H0 a 3 4 (F0) (mI 0 1536 (fun _ => 0)) 1536 := ⟨_, rfl⟩
  rw [← e1] at w0
  have g1 : H1.1 a = some (mO 3 (va_up (F0) 4 (.ref (p + 0)))) := by rw [e1, madeIn_obj, q0]
  have b0 : H1.1 (p + 0) = some (mI 0 1536 (fun _ => 0)) := by rw [e1, ← q0, madeIn_new ne0]
  have p1 : H1.2 = (p + 1, H.2.2 + 1536) := by rw [e1, madeIn_n, p0]
  have f0 : ∀ x, x ≠ a → x ≠ p + 0 → H1.1 x = H0.1 x := fun x hx hy => by rw [e1]; exact madeIn_ne hx (by rw [q0]; exact hy)
  have q1 : H1.2.1 = p + 1 := by rw [p1]
  have ne1 : a ≠ H1.2.1 := by rw [q1]; omega
  have w1 := madeIn_put (k := 5) (c := mI 0 256 (fun _ => 0)) (n := 256) g1 ne1
  obtain ⟨H2, e2⟩ : ∃ X, X = madeIn H1 a 3 5 (va_up (F0) 4 (.ref (p + 0))) (mI 0 256 (fun _ => 0)) 256 := ⟨_, rfl⟩
  rw [← e2] at w1
  have g2 : H2.1 a = some (mO 3 (va_up (va_up (F0) 4 (.ref (p + 0))) 5 (.ref (p + 1)))) := by rw [e2, madeIn_obj, q1]
  have b1 : H2.1 (p + 1) = some (mI 0 256 (fun _ => 0)) := by rw [e2, ← q1, madeIn_new ne1]
  have p2 : H2.2 = (p + 2, H.2.2 + 1792) := by rw [e2, madeIn_n, p1]
  have f1 : ∀ x, x ≠ a → x ≠ p + 1 → H2.1 x = H1.1 x := fun x hx hy => by rw [e2]; exact madeIn_ne hx (by rw [q1]; exact hy)
  have q2 : H2.2.1 = p + 2 := by rw [p2]
  have ne2 : a ≠ H2.2.1 := by rw [q2]; omega
  have w2 := madeIn_put (k := 6) (c := mI 0 54 (fun _ => 0)) (n := 54) g2 ne2
  obtain ⟨H3, e3⟩ : ∃ X, X = madeIn H2 a 3 6 (va_up (va_up (F0) 4 (.ref (p + 0))) 5 (.ref (p + 1))) (mI 0 54 (fun _ => 0)) 54 := ⟨_, rfl⟩
  rw [← e3] at w2
  have g3 : H3.1 a = some (mO 3 (va_up (va_up (va_up (F0) 4 (.ref (p + 0))) 5 (.ref (p + 1))) 6 (.ref (p + 2)))) := by rw [e3, madeIn_obj, q2]
  have b2 : H3.1 (p + 2) = some (mI 0 54 (fun _ => 0)) := by rw [e3, ← q2, madeIn_new ne2]
  have p3 : H3.2 = (p + 3, H.2.2 + 1846) := by rw [e3, madeIn_n, p2]
  have f2 : ∀ x, x ≠ a → x ≠ p + 2 → H3.1 x = H2.1 x := fun x hx hy => by rw [e3]; exact madeIn_ne hx (by rw [q2]; exact hy)
  have q3 : H3.2.1 = p + 3 := by rw [p3]
  have ne3 : a ≠ H3.2.1 := by rw [q3]; omega
  have w3 := madeIn_put (k := 7) (c := mI 0 2048 (fun _ => 0)) (n := 2048) g3 ne3
  obtain ⟨H4, e4⟩ : ∃ X, X = madeIn H3 a 3 7 (va_up (va_up (va_up (F0) 4 (.ref (p + 0))) 5 (.ref (p + 1))) 6 (.ref (p + 2))) (mI 0 2048 (fun _ => 0)) 2048 := ⟨_, rfl⟩
  rw [← e4] at w3
  have g4 : H4.1 a = some (mO 3 (va_up (va_up (va_up (va_up (F0) 4 (.ref (p + 0))) 5 (.ref (p + 1))) 6 (.ref (p + 2))) 7 (.ref (p + 3)))) := by rw [e4, madeIn_obj, q3]
  have b3 : H4.1 (p + 3) = some (mI 0 2048 (fun _ => 0)) := by rw [e4, ← q3, madeIn_new ne3]
  have p4 : H4.2 = (p + 4, H.2.2 + 3894) := by rw [e4, madeIn_n, p3]
  have f3 : ∀ x, x ≠ a → x ≠ p + 3 → H4.1 x = H3.1 x := fun x hx hy => by rw [e4]; exact madeIn_ne hx (by rw [q3]; exact hy)
  refine ⟨H4, fun r hr => ?_, g4, ?_, ?_, ?_, ?_, p4, fun j hj1 hj2 => ?_⟩
  · rw [← hH0]
    simp only [r66_4, r66_5, r66_8 hs1536, r66_10, r66_13, r66_14, r66_17 hs256, r66_19, r66_22, r66_23, r66_25 hs54, r66_27, r66_30, r66_31, r66_34 hs2048, r66_36, nn54, nn256, nn1536, nn2048, w0, w1, w2, w3, Option.some.injEq, exists_eq_left']
    exact hr
  · rw [f3 _ (by omega) (by omega), f2 _ (by omega) (by omega), f1 _ (by omega) (by omega), b0]
  · rw [f3 _ (by omega) (by omega), f2 _ (by omega) (by omega), b1]
  · rw [f3 _ (by omega) (by omega), b2]
  · rw [b3]
  · rw [f3 _ hj1 (by omega), f2 _ hj1 (by omega), f1 _ hj1 (by omega), f0 _ hj1 (by omega), hH0]
theorem sg_guess {a p : Nat} {F0 : Nat → Value} (h : H.1 a = some (mO 1 F0)) (hp : H.2.1 = p) (hap : a < p) : ∃ H1, (∀ r, Runs xs sl d 49 55 [some (.ref a)] [] H1 r → Runs xs sl d 49 15 [some (.ref a)] [] H r) ∧ H1.1 a = some (mO 1 (va_up (va_up (va_up (va_up (va_up (F0) 1 (.ref (p + 0))) 2 (.ref (p + 1))) 3 (.ref (p + 2))) 4 (.ref (p + 3))) 5 (.ref (p + 4)))) ∧ H1.1 (p + 0) = some (mI 0 42 (fun _ => 0)) ∧ H1.1 (p + 1) = some (mI 0 42 (fun _ => 0)) ∧ H1.1 (p + 2) = some (mI 0 13 (fun _ => 0)) ∧ H1.1 (p + 3) = some (mI 0 13 (fun _ => 0)) ∧ H1.1 (p + 4) = some (mI 0 7 (fun _ => 0)) ∧ H1.2 = (p + 5, H.2.2 + 117) ∧ ∀ j, j ≠ a → j < p → H1.1 j = H.1 j := by
  obtain ⟨H0, hH0⟩ : ∃ X, X = H := ⟨_, rfl⟩
  have g0 : H0.1 a = some (mO 1 F0) := by rw [hH0]; exact h
  have p0 : H0.2 = (p, H.2.2) := by rw [hH0, ← hp]
  have hs7 : ¬ ((7 : Int32) < 0 ∨ 100000 < ((7 : Int32)).toNatClampNeg) := by decide
  have nn7 : ((7 : Int32)).toNatClampNeg = 7 := by decide
  have hs13 : ¬ ((13 : Int32) < 0 ∨ 100000 < ((13 : Int32)).toNatClampNeg) := by decide
  have nn13 : ((13 : Int32)).toNatClampNeg = 13 := by decide
  have hs42 : ¬ ((42 : Int32) < 0 ∨ 100000 < ((42 : Int32)).toNatClampNeg) := by decide
  have nn42 : ((42 : Int32)).toNatClampNeg = 42 := by decide
  have q0 : H0.2.1 = p + 0 := by rw [p0]; rfl
  have ne0 : a ≠ H0.2.1 := by rw [q0]; omega
  have w0 := madeIn_put (k := 1) (c := mI 0 42 (fun _ => 0)) (n := 42) g0 ne0
  obtain ⟨H1, e1⟩ : ∃ X, X = madeIn H0 a 1 1 (F0) (mI 0 42 (fun _ => 0)) 42 := ⟨_, rfl⟩
  rw [← e1] at w0
  have g1 : H1.1 a = some (mO 1 (va_up (F0) 1 (.ref (p + 0)))) := by rw [e1, madeIn_obj, q0]
  have b0 : H1.1 (p + 0) = some (mI 0 42 (fun _ => 0)) := by rw [e1, ← q0, madeIn_new ne0]
  have p1 : H1.2 = (p + 1, H.2.2 + 42) := by rw [e1, madeIn_n, p0]
  have f0 : ∀ x, x ≠ a → x ≠ p + 0 → H1.1 x = H0.1 x := fun x hx hy => by rw [e1]; exact madeIn_ne hx (by rw [q0]; exact hy)
  have q1 : H1.2.1 = p + 1 := by rw [p1]
  have ne1 : a ≠ H1.2.1 := by rw [q1]; omega
  have w1 := madeIn_put (k := 2) (c := mI 0 42 (fun _ => 0)) (n := 42) g1 ne1
  obtain ⟨H2, e2⟩ : ∃ X, X = madeIn H1 a 1 2 (va_up (F0) 1 (.ref (p + 0))) (mI 0 42 (fun _ => 0)) 42 := ⟨_, rfl⟩
  rw [← e2] at w1
  have g2 : H2.1 a = some (mO 1 (va_up (va_up (F0) 1 (.ref (p + 0))) 2 (.ref (p + 1)))) := by rw [e2, madeIn_obj, q1]
  have b1 : H2.1 (p + 1) = some (mI 0 42 (fun _ => 0)) := by rw [e2, ← q1, madeIn_new ne1]
  have p2 : H2.2 = (p + 2, H.2.2 + 84) := by rw [e2, madeIn_n, p1]
  have f1 : ∀ x, x ≠ a → x ≠ p + 1 → H2.1 x = H1.1 x := fun x hx hy => by rw [e2]; exact madeIn_ne hx (by rw [q1]; exact hy)
  have q2 : H2.2.1 = p + 2 := by rw [p2]
  have ne2 : a ≠ H2.2.1 := by rw [q2]; omega
  have w2 := madeIn_put (k := 3) (c := mI 0 13 (fun _ => 0)) (n := 13) g2 ne2
  obtain ⟨H3, e3⟩ : ∃ X, X = madeIn H2 a 1 3 (va_up (va_up (F0) 1 (.ref (p + 0))) 2 (.ref (p + 1))) (mI 0 13 (fun _ => 0)) 13 := ⟨_, rfl⟩
  rw [← e3] at w2
  have g3 : H3.1 a = some (mO 1 (va_up (va_up (va_up (F0) 1 (.ref (p + 0))) 2 (.ref (p + 1))) 3 (.ref (p + 2)))) := by rw [e3, madeIn_obj, q2]
  have b2 : H3.1 (p + 2) = some (mI 0 13 (fun _ => 0)) := by rw [e3, ← q2, madeIn_new ne2]
  have p3 : H3.2 = (p + 3, H.2.2 + 97) := by rw [e3, madeIn_n, p2]
  have f2 : ∀ x, x ≠ a → x ≠ p + 2 → H3.1 x = H2.1 x := fun x hx hy => by rw [e3]; exact madeIn_ne hx (by rw [q2]; exact hy)
  have q3 : H3.2.1 = p + 3 := by rw [p3]
  have ne3 : a ≠ H3.2.1 := by rw [q3]; omega
  have w3 := madeIn_put (k := 4) (c := mI 0 13 (fun _ => 0)) (n := 13) g3 ne3
  obtain ⟨H4, e4⟩ : ∃ X, X = madeIn H3 a 1 4 (va_up (va_up (va_up (F0) 1 (.ref (p + 0))) 2 (.ref (p + 1))) 3 (.ref (p + 2))) (mI 0 13 (fun _ => 0)) 13 := ⟨_, rfl⟩
  rw [← e4] at w3
  have g4 : H4.1 a = some (mO 1 (va_up (va_up (va_up (va_up (F0) 1 (.ref (p + 0))) 2 (.ref (p + 1))) 3 (.ref (p + 2))) 4 (.ref (p + 3)))) := by rw [e4, madeIn_obj, q3]
  have b3 : H4.1 (p + 3) = some (mI 0 13 (fun _ => 0)) := by rw [e4, ← q3, madeIn_new ne3]
  have p4 : H4.2 = (p + 4, H.2.2 + 110) := by rw [e4, madeIn_n, p3]
  have f3 : ∀ x, x ≠ a → x ≠ p + 3 → H4.1 x = H3.1 x := fun x hx hy => by rw [e4]; exact madeIn_ne hx (by rw [q3]; exact hy)
  have q4 : H4.2.1 = p + 4 := by rw [p4]
  have ne4 : a ≠ H4.2.1 := by rw [q4]; omega
  have w4 := madeIn_put (k := 5) (c := mI 0 7 (fun _ => 0)) (n := 7) g4 ne4
  obtain ⟨H5, e5⟩ : ∃ X, X = madeIn H4 a 1 5 (va_up (va_up (va_up (va_up (F0) 1 (.ref (p + 0))) 2 (.ref (p + 1))) 3 (.ref (p + 2))) 4 (.ref (p + 3))) (mI 0 7 (fun _ => 0)) 7 := ⟨_, rfl⟩
  rw [← e5] at w4
  have g5 : H5.1 a = some (mO 1 (va_up (va_up (va_up (va_up (va_up (F0) 1 (.ref (p + 0))) 2 (.ref (p + 1))) 3 (.ref (p + 2))) 4 (.ref (p + 3))) 5 (.ref (p + 4)))) := by rw [e5, madeIn_obj, q4]
  have b4 : H5.1 (p + 4) = some (mI 0 7 (fun _ => 0)) := by rw [e5, ← q4, madeIn_new ne4]
  have p5 : H5.2 = (p + 5, H.2.2 + 117) := by rw [e5, madeIn_n, p4]
  have f4 : ∀ x, x ≠ a → x ≠ p + 4 → H5.1 x = H4.1 x := fun x hx hy => by rw [e5]; exact madeIn_ne hx (by rw [q4]; exact hy)
  refine ⟨H5, fun r hr => ?_, g5, ?_, ?_, ?_, ?_, ?_, p5, fun j hj1 hj2 => ?_⟩
  · rw [← hH0]
    simp only [r49_15, r49_16, r49_18 hs42, r49_20, r49_23, r49_24, r49_26 hs42, r49_28, r49_31, r49_32, r49_34 hs13, r49_36, r49_39, r49_40, r49_42 hs13, r49_44, r49_47, r49_48, r49_50 hs7, r49_52, nn7, nn13, nn42, w0, w1, w2, w3, w4, Option.some.injEq, exists_eq_left']
    exact hr
  · rw [f4 _ (by omega) (by omega), f3 _ (by omega) (by omega), f2 _ (by omega) (by omega), f1 _ (by omega) (by omega), b0]
  · rw [f4 _ (by omega) (by omega), f3 _ (by omega) (by omega), f2 _ (by omega) (by omega), b1]
  · rw [f4 _ (by omega) (by omega), f3 _ (by omega) (by omega), b2]
  · rw [f4 _ (by omega) (by omega), b3]
  · rw [b4]
  · rw [f4 _ hj1 (by omega), f3 _ hj1 (by omega), f2 _ hj1 (by omega), f1 _ hj1 (by omega), f0 _ hj1 (by omega), hH0]
theorem sg_told {a p : Nat} {F0 : Nat → Value} {l1 : Option Value} (h : H.1 a = some (mO 7 F0)) (hp : H.2.1 = p) (hap : a < p) : ∃ H1, (∀ r, Runs xs sl d 145 49 [some (.ref a), l1] [] H1 r → Runs xs sl d 145 4 [some (.ref a), l1] [] H r) ∧ H1.1 a = some (mO 7 (va_up (va_up (va_up (va_up (va_up (va_up (F0) 0 (.ref (p + 0))) 1 (.ref (p + 1))) 2 (.ref (p + 2))) 3 (.ref (p + 3))) 4 (.ref (p + 4))) 7 (.int (-1)))) ∧ H1.1 (p + 0) = some (mQ 4 2 (fun _ => none)) ∧ H1.1 (p + 1) = some (mQ 5 2 (fun _ => none)) ∧ H1.1 (p + 2) = some (mQ 6 2 (fun _ => none)) ∧ H1.1 (p + 3) = some (mI 0 3 (fun _ => 0)) ∧ H1.1 (p + 4) = some (mI 1 600 (fun _ => 0)) ∧ H1.2 = (p + 5, H.2.2 + 609) ∧ ∀ j, j ≠ a → j < p → H1.1 j = H.1 j := by
  obtain ⟨H0, hH0⟩ : ∃ X, X = H := ⟨_, rfl⟩
  have g0 : H0.1 a = some (mO 7 F0) := by rw [hH0]; exact h
  have p0 : H0.2 = (p, H.2.2) := by rw [hH0, ← hp]
  have hs2 : ¬ ((2 : Int32) < 0 ∨ 100000 < ((2 : Int32)).toNatClampNeg) := by decide
  have nn2 : ((2 : Int32)).toNatClampNeg = 2 := by decide
  have hs3 : ¬ ((3 : Int32) < 0 ∨ 100000 < ((3 : Int32)).toNatClampNeg) := by decide
  have nn3 : ((3 : Int32)).toNatClampNeg = 3 := by decide
  have hs600 : ¬ ((600 : Int32) < 0 ∨ 100000 < ((600 : Int32)).toNatClampNeg) := by decide
  have nn600 : ((600 : Int32)).toNatClampNeg = 600 := by decide
  have q0 : H0.2.1 = p + 0 := by rw [p0]; rfl
  have ne0 : a ≠ H0.2.1 := by rw [q0]; omega
  have w0 := madeIn_put (k := 0) (c := mQ 4 2 (fun _ => none)) (n := 2) g0 ne0
  obtain ⟨H1, e1⟩ : ∃ X, X = madeIn H0 a 7 0 (F0) (mQ 4 2 (fun _ => none)) 2 := ⟨_, rfl⟩
  rw [← e1] at w0
  have g1 : H1.1 a = some (mO 7 (va_up (F0) 0 (.ref (p + 0)))) := by rw [e1, madeIn_obj, q0]
  have b0 : H1.1 (p + 0) = some (mQ 4 2 (fun _ => none)) := by rw [e1, ← q0, madeIn_new ne0]
  have p1 : H1.2 = (p + 1, H.2.2 + 2) := by rw [e1, madeIn_n, p0]
  have f0 : ∀ x, x ≠ a → x ≠ p + 0 → H1.1 x = H0.1 x := fun x hx hy => by rw [e1]; exact madeIn_ne hx (by rw [q0]; exact hy)
  have q1 : H1.2.1 = p + 1 := by rw [p1]
  have ne1 : a ≠ H1.2.1 := by rw [q1]; omega
  have w1 := madeIn_put (k := 1) (c := mQ 5 2 (fun _ => none)) (n := 2) g1 ne1
  obtain ⟨H2, e2⟩ : ∃ X, X = madeIn H1 a 7 1 (va_up (F0) 0 (.ref (p + 0))) (mQ 5 2 (fun _ => none)) 2 := ⟨_, rfl⟩
  rw [← e2] at w1
  have g2 : H2.1 a = some (mO 7 (va_up (va_up (F0) 0 (.ref (p + 0))) 1 (.ref (p + 1)))) := by rw [e2, madeIn_obj, q1]
  have b1 : H2.1 (p + 1) = some (mQ 5 2 (fun _ => none)) := by rw [e2, ← q1, madeIn_new ne1]
  have p2 : H2.2 = (p + 2, H.2.2 + 4) := by rw [e2, madeIn_n, p1]
  have f1 : ∀ x, x ≠ a → x ≠ p + 1 → H2.1 x = H1.1 x := fun x hx hy => by rw [e2]; exact madeIn_ne hx (by rw [q1]; exact hy)
  have q2 : H2.2.1 = p + 2 := by rw [p2]
  have ne2 : a ≠ H2.2.1 := by rw [q2]; omega
  have w2 := madeIn_put (k := 2) (c := mQ 6 2 (fun _ => none)) (n := 2) g2 ne2
  obtain ⟨H3, e3⟩ : ∃ X, X = madeIn H2 a 7 2 (va_up (va_up (F0) 0 (.ref (p + 0))) 1 (.ref (p + 1))) (mQ 6 2 (fun _ => none)) 2 := ⟨_, rfl⟩
  rw [← e3] at w2
  have g3 : H3.1 a = some (mO 7 (va_up (va_up (va_up (F0) 0 (.ref (p + 0))) 1 (.ref (p + 1))) 2 (.ref (p + 2)))) := by rw [e3, madeIn_obj, q2]
  have b2 : H3.1 (p + 2) = some (mQ 6 2 (fun _ => none)) := by rw [e3, ← q2, madeIn_new ne2]
  have p3 : H3.2 = (p + 3, H.2.2 + 6) := by rw [e3, madeIn_n, p2]
  have f2 : ∀ x, x ≠ a → x ≠ p + 2 → H3.1 x = H2.1 x := fun x hx hy => by rw [e3]; exact madeIn_ne hx (by rw [q2]; exact hy)
  have q3 : H3.2.1 = p + 3 := by rw [p3]
  have ne3 : a ≠ H3.2.1 := by rw [q3]; omega
  have w3 := madeIn_put (k := 3) (c := mI 0 3 (fun _ => 0)) (n := 3) g3 ne3
  obtain ⟨H4, e4⟩ : ∃ X, X = madeIn H3 a 7 3 (va_up (va_up (va_up (F0) 0 (.ref (p + 0))) 1 (.ref (p + 1))) 2 (.ref (p + 2))) (mI 0 3 (fun _ => 0)) 3 := ⟨_, rfl⟩
  rw [← e4] at w3
  have g4 : H4.1 a = some (mO 7 (va_up (va_up (va_up (va_up (F0) 0 (.ref (p + 0))) 1 (.ref (p + 1))) 2 (.ref (p + 2))) 3 (.ref (p + 3)))) := by rw [e4, madeIn_obj, q3]
  have b3 : H4.1 (p + 3) = some (mI 0 3 (fun _ => 0)) := by rw [e4, ← q3, madeIn_new ne3]
  have p4 : H4.2 = (p + 4, H.2.2 + 9) := by rw [e4, madeIn_n, p3]
  have f3 : ∀ x, x ≠ a → x ≠ p + 3 → H4.1 x = H3.1 x := fun x hx hy => by rw [e4]; exact madeIn_ne hx (by rw [q3]; exact hy)
  have q4 : H4.2.1 = p + 4 := by rw [p4]
  have ne4 : a ≠ H4.2.1 := by rw [q4]; omega
  have w4 := madeIn_put (k := 4) (c := mI 1 600 (fun _ => 0)) (n := 600) g4 ne4
  obtain ⟨H5, e5⟩ : ∃ X, X = madeIn H4 a 7 4 (va_up (va_up (va_up (va_up (F0) 0 (.ref (p + 0))) 1 (.ref (p + 1))) 2 (.ref (p + 2))) 3 (.ref (p + 3))) (mI 1 600 (fun _ => 0)) 600 := ⟨_, rfl⟩
  rw [← e5] at w4
  have g5 : H5.1 a = some (mO 7 (va_up (va_up (va_up (va_up (va_up (F0) 0 (.ref (p + 0))) 1 (.ref (p + 1))) 2 (.ref (p + 2))) 3 (.ref (p + 3))) 4 (.ref (p + 4)))) := by rw [e5, madeIn_obj, q4]
  have b4 : H5.1 (p + 4) = some (mI 1 600 (fun _ => 0)) := by rw [e5, ← q4, madeIn_new ne4]
  have p5 : H5.2 = (p + 5, H.2.2 + 609) := by rw [e5, madeIn_n, p4]
  have f4 : ∀ x, x ≠ a → x ≠ p + 4 → H5.1 x = H4.1 x := fun x hx hy => by rw [e5]; exact madeIn_ne hx (by rw [q4]; exact hy)
  have w5 := hOw_of (k := 7) (v := .int (-1)) g5
  obtain ⟨H6, e6⟩ : ∃ X, X = mset H5 a (mO 7 (va_up (va_up (va_up (va_up (va_up (va_up (F0) 0 (.ref (p + 0))) 1 (.ref (p + 1))) 2 (.ref (p + 2))) 3 (.ref (p + 3))) 4 (.ref (p + 4))) 7 (.int (-1)))) := ⟨_, rfl⟩
  rw [← e6] at w5
  have g6 : H6.1 a = some (mO 7 (va_up (va_up (va_up (va_up (va_up (va_up (F0) 0 (.ref (p + 0))) 1 (.ref (p + 1))) 2 (.ref (p + 2))) 3 (.ref (p + 3))) 4 (.ref (p + 4))) 7 (.int (-1)))) := by rw [e6]; exact mset_at
  have p6 : H6.2 = (p + 5, H.2.2 + 609) := by rw [e6]; exact p5
  have f5 : ∀ x, x ≠ a → H6.1 x = H5.1 x := fun x hx => by rw [e6]; exact mset_ne hx
  refine ⟨H6, fun r hr => ?_, g6, ?_, ?_, ?_, ?_, ?_, p6, fun j hj1 hj2 => ?_⟩
  · rw [← hH0]
    simp only [r145_4, r145_5, r145_6 hs2, r145_9, r145_12, r145_13, r145_14 hs2, r145_17, r145_20, r145_21, r145_22 hs2, r145_25, r145_28, r145_29, r145_30 hs3, r145_32, r145_35, r145_36, r145_39 hs600, r145_41, r145_44, r145_45, r145_46, nn2, nn3, nn600, w0, w1, w2, w3, w4, w5, Option.some.injEq, exists_eq_left']
    exact hr
  · rw [f5 _ (by omega), f4 _ (by omega) (by omega), f3 _ (by omega) (by omega), f2 _ (by omega) (by omega), f1 _ (by omega) (by omega), b0]
  · rw [f5 _ (by omega), f4 _ (by omega) (by omega), f3 _ (by omega) (by omega), f2 _ (by omega) (by omega), b1]
  · rw [f5 _ (by omega), f4 _ (by omega) (by omega), f3 _ (by omega) (by omega), b2]
  · rw [f5 _ (by omega), f4 _ (by omega) (by omega), b3]
  · rw [f5 _ (by omega), b4]
  · rw [f5 _ hj1, f4 _ hj1 (by omega), f3 _ hj1 (by omega), f2 _ hj1 (by omega), f1 _ hj1 (by omega), f0 _ hj1 (by omega), hH0]
end SEGS
