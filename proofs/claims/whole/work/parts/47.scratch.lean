/-! THE CLASS'S TOOLS: reader, scene, meals, market, guess: their shapes, new ones -/
section SCRATCH
variable {xs : Nat → Int32} {sl d : Nat} {H H' : mH}
def arrOf (H : mH) (a t n : Nat) : Prop := ∃ f, H.1 a = some (mI t n f)
theorem arrOf.kept {a t n : Nat} (h : arrOf H a t n) (hk : H'.1 a = H.1 a) : arrOf H' a t n := by
  obtain ⟨f, h⟩ := h
  exact ⟨f, by rw [hk]; exact h⟩
def readerF (I : Nat → Int32) (a x k : Nat) : Value := match k with
  | 0 => .ref (a + 1)
  | 1 => .ref (a + 9)
  | 2 => .ref (a + 11)
  | 5 => .ref (a + 13)
  | 6 => .ref x
  | k => .int (I k)
def isReader (H : mH) (a x : Nat) (I : Nat → Int32) : Prop := isObj H a 5 15 (readerF I a x) ∧ (∃ S A, isTown H (a + 1) S A) ∧ (∃ n f, isDays H (a + 9) n f) ∧ (∃ S f, isPlate H (a + 11) S f) ∧ arrOf H (a + 13) 0 4
theorem new_reader {a : Nat} (hp : H.2.1 = a) : ∃ H2, Runs xs sl (d + 1 + 1) 85 0 [some (.ref a)] [] (mnew H (mO 5 (fun k => mdef (mTy 5 k))) 15) (none, H2) ∧ isReader H2 a (a + 14) Z1 ∧ H2.2 = (a + 15, H.2.2 + 357) ∧ ∀ j, j < a → H2.1 j = H.1 j := by
  obtain ⟨G, eG⟩ : ∃ X, X = mnew H (mO 5 (fun k => mdef (mTy 5 k))) 15 := ⟨_, rfl⟩
  have g0 : G.1 a = some (mO 5 (fun k => mdef (mTy 5 k))) := by rw [eG, ← hp]; exact mnew_at
  have gp : G.2.1 = a + 1 := by rw [eG, ← hp]; rfl
  have gs : G.2.2 = H.2.2 + 15 := by rw [eG]; rfl
  obtain ⟨H1, rT, iT, zT, kT⟩ := new_town (xs := xs) (sl := sl) (d := d) (H := G) gp
  have o1 := (kT a (by omega)).trans g0
  have w1 := hOw_of (k := 0) (v := .ref (a + 1)) o1
  obtain ⟨H2, e2⟩ : ∃ X, X = mset H1 a (mO 5 (va_up (fun k => mdef (mTy 5 k)) 0 (.ref (a + 1)))) := ⟨_, rfl⟩
  rw [← e2] at w1
  have o2 : H2.1 a = some (mO 5 (va_up (fun k => mdef (mTy 5 k)) 0 (.ref (a + 1)))) := by rw [e2]; exact mset_at
  have k2 : ∀ j, j ≠ a → H2.1 j = H1.1 j := fun j hj => by rw [e2]; exact mset_ne hj
  have z2 : H2.2 = (a + 9, H.2.2 + 151) := by rw [e2]; show H1.2 = _; rw [zT, gs]
  have p2 : H2.2.1 = a + 9 := by rw [z2]
  obtain ⟨H3, rD, iD, zD, kD⟩ := new_days (xs := xs) (sl := sl) (d := d) (H := H2) p2
  have o3 := (kD a (by omega)).trans o2
  have w3 := hOw_of (k := 1) (v := .ref (a + 9)) o3
  obtain ⟨H4, e4⟩ : ∃ X, X = mset H3 a (mO 5 (va_up (va_up (fun k => mdef (mTy 5 k)) 0 (.ref (a + 1))) 1 (.ref (a + 9)))) := ⟨_, rfl⟩
  rw [← e4] at w3
  have o4 : H4.1 a = some (mO 5 (va_up (va_up (fun k => mdef (mTy 5 k)) 0 (.ref (a + 1))) 1 (.ref (a + 9)))) := by rw [e4]; exact mset_at
  have k4 : ∀ j, j ≠ a → H4.1 j = H3.1 j := fun j hj => by rw [e4]; exact mset_ne hj
  have z4 : H4.2 = (a + 11, H.2.2 + 313) := by rw [e4]; show H3.2 = _; rw [zD, z2]
  have p4 : H4.2.1 = a + 11 := by rw [z4]
  obtain ⟨H5, rP, iP, zP, kP⟩ := new_plate (xs := xs) (sl := sl) (d := d) (H := H4) p4
  have o5 := (kP a (by omega)).trans o4
  have w5 := hOw_of (k := 2) (v := .ref (a + 11)) o5
  obtain ⟨H6, e6⟩ : ∃ X, X = mset H5 a (mO 5 (va_up (va_up (va_up (fun k => mdef (mTy 5 k)) 0 (.ref (a + 1))) 1 (.ref (a + 9))) 2 (.ref (a + 11)))) := ⟨_, rfl⟩
  rw [← e6] at w5
  have o6 : H6.1 a = some (mO 5 (va_up (va_up (va_up (fun k => mdef (mTy 5 k)) 0 (.ref (a + 1))) 1 (.ref (a + 9))) 2 (.ref (a + 11)))) := by rw [e6]; exact mset_at
  have k6 : ∀ j, j ≠ a → H6.1 j = H5.1 j := fun j hj => by rw [e6]; exact mset_ne hj
  have z6 : H6.2 = (a + 13, H.2.2 + 353) := by rw [e6]; show H5.2 = _; rw [zP, z4]
  have p6 : H6.2.1 = a + 13 := by rw [z6]
  obtain ⟨H7, hr7, o7, b0, b1, z7, k7⟩ := sg_reader (xs := xs) (sl := sl) (d := d + 1 + 1) (H := H6) (a := a) (p := a + 13) o6 p6 (by omega)
  have z7b : H7.2 = (a + 15, H.2.2 + 357) := by rw [z7, z6]
  have up : ∀ k, k ≠ a → k < a + 9 → H7.1 k = H1.1 k := fun k g1 g2 => by rw [k7 k g1 (by omega), k6 k g1, kP k (by omega), k4 k g1, kD k (by omega), k2 k g1]
  refine ⟨H7, ?_, ⟨⟨_, o7, fun k hk => ?_⟩, ⟨_, _, iT.kept (fun k _ _ => up k (by omega) (by omega))⟩, ⟨_, _, iD.kept (fun k _ _ => by rw [k7 k (by omega) (by omega), k6 k (by omega), kP k (by omega), k4 k (by omega)])⟩, ⟨_, _, iP.kept (fun k _ _ => by rw [k7 k (by omega) (by omega), k6 k (by omega)])⟩, ⟨_, b0⟩⟩, z7b, fun j hj => ?_⟩
  · rw [← eG]
    simp only [r85_0]
    rw [r85_1]
    refine (ob_init a).on ?_
    simp only [Option.toList, List.singleton_append, List.append_nil, List.cons_append, List.nil_append, r85_4, r85_5, r85_8]
    rw [gp, r85_9]
    refine rT.on ?_
    simp only [Option.toList, List.singleton_append, List.append_nil, List.cons_append, List.nil_append, r85_12, r85_15, r85_16, r85_19, w1, Option.some.injEq, exists_eq_left']
    rw [p2, r85_20]
    refine rD.on ?_
    simp only [Option.toList, List.singleton_append, List.append_nil, List.cons_append, List.nil_append, r85_23, r85_26, r85_27, r85_30, w3, Option.some.injEq, exists_eq_left']
    rw [p4, r85_31]
    refine rP.on ?_
    simp only [Option.toList, List.singleton_append, List.append_nil, List.cons_append, List.nil_append, r85_34, w5, Option.some.injEq, exists_eq_left']
    refine hr7 _ ?_
    simp only [r85_51]
  · have hk2 : k = 0 ∨ k = 1 ∨ k = 2 ∨ k = 3 ∨ k = 4 ∨ k = 5 ∨ k = 6 ∨ k = 7 ∨ k = 8 ∨ k = 9 ∨ k = 10 ∨ k = 11 ∨ k = 12 ∨ k = 13 ∨ k = 14 := by omega
    rcases hk2 with rfl | rfl | rfl | rfl | rfl | rfl | rfl | rfl | rfl | rfl | rfl | rfl | rfl | rfl | rfl <;> rfl
  · rw [up j (by omega) (by omega), kT j (by omega), eG, mnew_ne (by omega)]
end SCRATCH
