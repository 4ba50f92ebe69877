/-! THE CLASS'S TOOLS: scene, meals, market, guess -/
section SCRATCH2
variable {xs : Nat → Int32} {sl d : Nat} {H H' : mH}
def sceneF (I : Nat → Int32) (a x k : Nat) : Value := match k with
  | 0 => .ref x
  | 1 => .int (I 1)
  | 2 => .ref (a + 9)
  | 3 => .ref (a + 10)
  | 4 => .int (I 4)
  | k => .ref (a + 6 + k)
def isScene (H : mH) (a x : Nat) (I : Nat → Int32) : Prop := isObj H a 6 12 (sceneF I a x) ∧ arrOf H (a + 9) 0 48 ∧ arrOf H (a + 10) 0 96 ∧ arrOf H (a + 11) 0 16 ∧ arrOf H (a + 12) 0 16 ∧ arrOf H (a + 13) 2 16 ∧ arrOf H (a + 14) 0 24 ∧ arrOf H (a + 15) 0 24 ∧ arrOf H (a + 16) 0 4 ∧ arrOf H (a + 17) 0 16 ∧ ∃ S A, isTown H (a + 1) S A
theorem new_scene {a : Nat} (hp : H.2.1 = a) : ∃ H2, Runs xs sl (d + 1 + 1) 115 0 [some (.ref a)] [] (mnew H (mO 6 (fun k => mdef (mTy 6 k))) 12) (none, H2) ∧ isScene H2 a (a + 1) Z1 ∧ H2.2 = (a + 18, H.2.2 + 408) ∧ ∀ j, j < a → H2.1 j = H.1 j := by
  obtain ⟨G, eG⟩ : ∃ X, X = mnew H (mO 6 (fun k => mdef (mTy 6 k))) 12 := ⟨_, rfl⟩
  have g0 : G.1 a = some (mO 6 (fun k => mdef (mTy 6 k))) := by rw [eG, ← hp]; exact mnew_at
  have gp : G.2.1 = a + 1 := by rw [eG, ← hp]; rfl
  have gs : G.2.2 = H.2.2 + 12 := by rw [eG]; rfl
  obtain ⟨H1, rT, iT, zT, kT⟩ := new_town (xs := xs) (sl := sl) (d := d) (H := G) gp
  have o1 := (kT a (by omega)).trans g0
  have w1 := hOw_of (k := 0) (v := .ref (a + 1)) o1
  obtain ⟨H2, e2⟩ : ∃ X, X = mset H1 a (mO 6 (va_up (fun k => mdef (mTy 6 k)) 0 (.ref (a + 1)))) := ⟨_, rfl⟩
  rw [← e2] at w1
  have o2 : H2.1 a = some (mO 6 (va_up (fun k => mdef (mTy 6 k)) 0 (.ref (a + 1)))) := by rw [e2]; exact mset_at
  have k2 : ∀ j, j ≠ a → H2.1 j = H1.1 j := fun j hj => by rw [e2]; exact mset_ne hj
  have z2 : H2.2 = (a + 9, H.2.2 + 148) := by rw [e2]; show H1.2 = _; rw [zT, gs]
  have p2 : H2.2.1 = a + 9 := by rw [z2]
  obtain ⟨H7, hr7, o7, b0, b1, b2, b3, b4, b5, b6, b7, b8, z7, k7⟩ := sg_scene (xs := xs) (sl := sl) (d := d + 1 + 1) (H := H2) (a := a) (p := a + 9) o2 p2 (by omega)
  refine ⟨H7, ?_, ⟨⟨_, o7, fun k hk => ?_⟩, ⟨_, b0⟩, ⟨_, b1⟩, ⟨_, b2⟩, ⟨_, b3⟩, ⟨_, b4⟩, ⟨_, b5⟩, ⟨_, b6⟩, ⟨_, b7⟩, ⟨_, b8⟩, _, _, iT.kept (fun k _ _ => by rw [k7 k (by omega) (by omega), k2 k (by omega)])⟩, by rw [z7, z2], fun j hj => ?_⟩
  · rw [← eG]
    simp only [r115_0]
    rw [r115_1]
    refine (ob_init a).on ?_
    simp only [Option.toList, List.singleton_append, List.append_nil, List.cons_append, List.nil_append, r115_4, r115_5, r115_8]
    rw [gp, r115_9]
    refine rT.on ?_
    simp only [Option.toList, List.singleton_append, List.append_nil, List.cons_append, List.nil_append, r115_12, w1, Option.some.injEq, exists_eq_left']
    refine hr7 _ ?_
    simp only [r115_86]
  · have hk2 : k = 0 ∨ k = 1 ∨ k = 2 ∨ k = 3 ∨ k = 4 ∨ k = 5 ∨ k = 6 ∨ k = 7 ∨ k = 8 ∨ k = 9 ∨ k = 10 ∨ k = 11 := by omega
    rcases hk2 with rfl | rfl | rfl | rfl | rfl | rfl | rfl | rfl | rfl | rfl | rfl | rfl <;> rfl
  · rw [k7 j (by omega) (by omega), k2 j (by omega), kT j (by omega), eG, mnew_ne (by omega)]
def mealsF (I : Nat → Int32) (a x k : Nat) : Value := match k with
  | 3 => .ref x
  | 4 => .ref (a + 1)
  | 5 => .ref (a + 2)
  | 6 => .ref (a + 3)
  | 7 => .ref (a + 4)
  | k => .int (I k)
def isMeals (H : mH) (a x : Nat) (I : Nat → Int32) : Prop := isObj H a 3 13 (mealsF I a x) ∧ arrOf H (a + 1) 0 1536 ∧ arrOf H (a + 2) 0 256 ∧ arrOf H (a + 3) 0 54 ∧ arrOf H (a + 4) 0 2048
theorem new_meals {a x : Nat} (hp : H.2.1 = a) : ∃ H2, Runs xs sl (d + 1) 66 0 [some (.ref a), some (.ref x)] [] (mnew H (mO 3 (fun k => mdef (mTy 3 k))) 13) (none, H2) ∧ isMeals H2 a x Z1 ∧ H2.2 = (a + 5, H.2.2 + 3907) ∧ ∀ j, j < a → H2.1 j = H.1 j := by
  obtain ⟨G, eG⟩ : ∃ X, X = mnew H (mO 3 (fun k => mdef (mTy 3 k))) 13 := ⟨_, rfl⟩
  have g0 : G.1 a = some (mO 3 (fun k => mdef (mTy 3 k))) := by rw [eG, ← hp]; exact mnew_at
  have gp : G.2.1 = a + 1 := by rw [eG, ← hp]; rfl
  have gs : G.2.2 = H.2.2 + 13 := by rw [eG]; rfl
  obtain ⟨H7, hr7, o7, b0, b1, b2, b3, z7, k7⟩ := sg_meals (xs := xs) (sl := sl) (d := d + 1) (H := G) (a := a) (p := a + 1) (l1 := some (.ref x)) g0 gp (by omega)
  have w8 := hOw_of (k := 3) (v := .ref x) o7
  obtain ⟨H8, e8⟩ : ∃ X, X = mset H7 a (mO 3 (va_up (va_up (va_up (va_up (va_up (fun k => mdef (mTy 3 k)) 4 (.ref (a + 1 + 0))) 5 (.ref (a + 1 + 1))) 6 (.ref (a + 1 + 2))) 7 (.ref (a + 1 + 3))) 3 (.ref x))) := ⟨_, rfl⟩
  rw [← e8] at w8
  have k8 : ∀ j, j ≠ a → H8.1 j = H7.1 j := fun j hj => by rw [e8]; exact mset_ne hj
  refine ⟨H8, ?_, ⟨⟨_, by rw [e8]; exact mset_at, fun k hk => ?_⟩, ⟨_, (k8 _ (by omega)).trans b0⟩, ⟨_, (k8 _ (by omega)).trans b1⟩, ⟨_, (k8 _ (by omega)).trans b2⟩, ⟨_, (k8 _ (by omega)).trans b3⟩⟩, by rw [e8]; show H7.2 = _; rw [z7, gs], fun j hj => ?_⟩
  · rw [← eG]
    simp only [r66_0]
    rw [r66_1]
    refine (ob_init a).on ?_
    simp only [Option.toList, List.singleton_append, List.append_nil, List.cons_append, List.nil_append]
    refine hr7 _ ?_
    simp only [r66_39, r66_40, r66_40n, r66_41, r66_44, w8, Option.some.injEq, exists_eq_left']
  · have hk2 : k = 0 ∨ k = 1 ∨ k = 2 ∨ k = 3 ∨ k = 4 ∨ k = 5 ∨ k = 6 ∨ k = 7 ∨ k = 8 ∨ k = 9 ∨ k = 10 ∨ k = 11 ∨ k = 12 := by omega
    rcases hk2 with rfl | rfl | rfl | rfl | rfl | rfl | rfl | rfl | rfl | rfl | rfl | rfl | rfl <;> rfl
  · rw [k8 j (by omega), k7 j (by omega) (by omega), eG, mnew_ne (by omega)]
def isMarket (H : mH) (a : Nat) : Prop := isObj H a 2 2 (fun k => .ref (a + 1 + k)) ∧ arrOf H (a + 1) 0 49 ∧ arrOf H (a + 2) 0 7
theorem new_market {a : Nat} (hp : H.2.1 = a) : ∃ H2, Runs xs sl (d + 1) 61 0 [some (.ref a)] [] (mnew H (mO 2 (fun k => mdef (mTy 2 k))) 2) (none, H2) ∧ isMarket H2 a ∧ H2.2 = (a + 3, H.2.2 + 58) ∧ ∀ j, j < a → H2.1 j = H.1 j := by
  obtain ⟨H2, hr, ho, b1, b2, hz, hf⟩ := mk_init (xs := xs) (sl := sl) (d := d) (H := mnew H (mO 2 (fun k => mdef (mTy 2 k))) 2) (a := a) (by rw [← hp]; exact mnew_at) (by show H.2.1 + 1 = a + 1; rw [hp])
  refine ⟨H2, hr, ⟨?_, ⟨_, b1⟩, ⟨_, b2⟩⟩, ?_, fun j hj => by rw [hf j hj, mnew_ne (by omega)]⟩
  · obtain ⟨F, h1, h2⟩ := ho
    refine ⟨F, h1, fun k hk => (h2 k hk).trans ?_⟩
    have hk2 : k = 0 ∨ k = 1 := by omega
    rcases hk2 with rfl | rfl <;> rfl
  · rw [hz]
    show (a + 3, H.2.2 + 2 + 56) = _
    rw [Nat.add_assoc]
def guessF (a x y z k : Nat) : Value := match k with
  | 0 => .ref x
  | 1 => .ref (a + 3)
  | 2 => .ref (a + 4)
  | 3 => .ref y
  | 4 => .ref z
  | _ => .ref (a + 7)
def isGuess (H : mH) (a x y z : Nat) : Prop := isObj H a 1 6 (guessF a x y z) ∧ arrOf H (a + 3) 0 42 ∧ arrOf H (a + 4) 0 42 ∧ arrOf H (a + 5) 0 13 ∧ arrOf H (a + 6) 0 13 ∧ arrOf H (a + 7) 0 7 ∧ ∃ S f, isPlate H (a + 1) S f
theorem new_guess {a : Nat} (hp : H.2.1 = a) : ∃ H2, Runs xs sl (d + 1 + 1) 49 0 [some (.ref a)] [] (mnew H (mO 1 (fun k => mdef (mTy 1 k))) 6) (none, H2) ∧ isGuess H2 a (a + 1) (a + 5) (a + 6) ∧ H2.2 = (a + 8, H.2.2 + 163) ∧ ∀ j, j < a → H2.1 j = H.1 j := by
  obtain ⟨G, eG⟩ : ∃ X, X = mnew H (mO 1 (fun k => mdef (mTy 1 k))) 6 := ⟨_, rfl⟩
  have g0 : G.1 a = some (mO 1 (fun k => mdef (mTy 1 k))) := by rw [eG, ← hp]; exact mnew_at
  have gp : G.2.1 = a + 1 := by rw [eG, ← hp]; rfl
  have gs : G.2.2 = H.2.2 + 6 := by rw [eG]; rfl
  obtain ⟨H1, rT, iT, zT, kT⟩ := new_plate (xs := xs) (sl := sl) (d := d) (H := G) gp
  have o1 := (kT a (by omega)).trans g0
  have w1 := hOw_of (k := 0) (v := .ref (a + 1)) o1
  obtain ⟨H2, e2⟩ : ∃ X, X = mset H1 a (mO 1 (va_up (fun k => mdef (mTy 1 k)) 0 (.ref (a + 1)))) := ⟨_, rfl⟩
  rw [← e2] at w1
  have o2 : H2.1 a = some (mO 1 (va_up (fun k => mdef (mTy 1 k)) 0 (.ref (a + 1)))) := by rw [e2]; exact mset_at
  have k2 : ∀ j, j ≠ a → H2.1 j = H1.1 j := fun j hj => by rw [e2]; exact mset_ne hj
  have z2 : H2.2 = (a + 3, H.2.2 + 46) := by rw [e2]; show H1.2 = _; rw [zT, gs]
  have p2 : H2.2.1 = a + 3 := by rw [z2]
  obtain ⟨H7, hr7, o7, b0, b1, b2, b3, b4, z7, k7⟩ := sg_guess (xs := xs) (sl := sl) (d := d + 1 + 1) (H := H2) (a := a) (p := a + 3) o2 p2 (by omega)
  refine ⟨H7, ?_, ⟨⟨_, o7, fun k hk => ?_⟩, ⟨_, b0⟩, ⟨_, b1⟩, ⟨_, b2⟩, ⟨_, b3⟩, ⟨_, b4⟩, _, _, iT.kept (fun k _ _ => by rw [k7 k (by omega) (by omega), k2 k (by omega)])⟩, by rw [z7, z2], fun j hj => ?_⟩
  · rw [← eG]
    simp only [r49_0]
    rw [r49_1]
    refine (ob_init a).on ?_
    simp only [Option.toList, List.singleton_append, List.append_nil, List.cons_append, List.nil_append, r49_4, r49_5, r49_8]
    rw [gp, r49_9]
    refine rT.on ?_
    simp only [Option.toList, List.singleton_append, List.append_nil, List.cons_append, List.nil_append, r49_12, w1, Option.some.injEq, exists_eq_left']
    refine hr7 _ ?_
    simp only [r49_55]
  · have hk2 : k = 0 ∨ k = 1 ∨ k = 2 ∨ k = 3 ∨ k = 4 ∨ k = 5 := by omega
    rcases hk2 with rfl | rfl | rfl | rfl | rfl | rfl <;> rfl
  · rw [k7 j (by omega) (by omega), k2 j (by omega), kT j (by omega), eG, mnew_ne (by omega)]
end SCRATCH2
