/-! THE REFERENCE in the heap; a new one -/
section REFI
variable {xs : Nat → Int32} {sl d : Nat} {H H' : mH}
def modelF (I : Nat → Int32) (a k : Nat) : Value := match k with
  | 0 => .ref (a + 1)
  | 1 => .ref (a + 2)
  | 11 => .ref (a + 3)
  | 15 => .ref (a + 4)
  | 16 => .ref (a + 5)
  | 17 => .ref (a + 6)
  | 18 => .ref (a + 7)
  | 19 => .ref (a + 8)
  | 20 => .ref (a + 9)
  | 21 => .ref (a + 10)
  | 22 => .ref (a + 11)
  | 27 => .ref (a + 12)
  | 28 => .ref (a + 13)
  | 29 => .ref (a + 14)
  | 30 => .ref (a + 15)
  | 31 => .ref (a + 16)
  | 32 => .ref (a + 17)
  | 33 => .ref (a + 18)
  | 38 => .ref (a + 19)
  | 39 => .ref (a + 20)
  | 40 => .ref (a + 21)
  | k => .int (I k)
def lngOf (H : mH) (a n : Nat) : Prop := ∃ f, H.1 a = some (mJ 3 n f)
theorem lngOf.kept {a n : Nat} (h : lngOf H a n) (hk : H'.1 a = H.1 a) : lngOf H' a n := by
  obtain ⟨f, h⟩ := h
  exact ⟨f, by rw [hk]; exact h⟩
/-- the reference: its numbers I, its great row A, which images there are E, its stamps P, tools of the right shapes -/
def isModel (H : mH) (a : Nat) (I A E P : Nat → Int32) : Prop := isObj H a 10 42 (modelF I a) ∧ H.1 (a + 1) = some (mI 0 5072 A) ∧ H.1 (a + 2) = some (mI 2 3 E) ∧ H.1 (a + 18) = some (mI 0 6561 P) ∧ arrOf H (a + 3) 0 161 ∧ arrOf H (a + 4) 0 24 ∧ arrOf H (a + 5) 0 24 ∧ arrOf H (a + 6) 0 4 ∧ arrOf H (a + 7) 0 96 ∧ arrOf H (a + 8) 0 16 ∧ arrOf H (a + 9) 0 16 ∧ arrOf H (a + 10) 2 16 ∧ arrOf H (a + 11) 0 48 ∧ arrOf H (a + 12) 0 256 ∧ arrOf H (a + 13) 0 256 ∧ arrOf H (a + 14) 0 256 ∧ arrOf H (a + 15) 0 8 ∧ arrOf H (a + 16) 0 8 ∧ arrOf H (a + 17) 0 6561 ∧ lngOf H (a + 19) 13 ∧ lngOf H (a + 20) 13 ∧ lngOf H (a + 21) 7
theorem new_model {a : Nat} (hp : H.2.1 = a) : ∃ H2, Runs xs sl (d + 1) 169 0 [some (.ref a)] [] (mnew H (mO 10 (fun k => mdef (mTy 10 k))) 42) (none, H2) ∧ isModel H2 a Z1 (va_up Z1 6 (-1)) Z1 Z1 ∧ H2.2 = (a + 22, H.2.2 + 19461) ∧ ∀ j, j < a → H2.1 j = H.1 j := by
  obtain ⟨G, eG⟩ : ∃ X, X = mnew H (mO 10 (fun k => mdef (mTy 10 k))) 42 := ⟨_, rfl⟩
  have g0 : G.1 a = some (mO 10 (fun k => mdef (mTy 10 k))) := by rw [eG, ← hp]; exact mnew_at
  have gp : G.2.1 = a + 1 := by rw [eG, ← hp]; rfl
  have gs : G.2.2 = H.2.2 + 42 := by rw [eG]; rfl
  obtain ⟨H1, r1, o1, b0, b1, b2, b3, b4, b5, b6, b7, z1, k1⟩ := sg_ref1 (xs := xs) (sl := sl) (d := d + 1) (H := G) (a := a) (p := a + 1) g0 gp (by omega)
  have p1 : H1.2.1 = a + 9 := by rw [z1]
  obtain ⟨H2, r2, o2, c0, c1, c2, c3, c4, c5, c6, z2, k2⟩ := sg_ref2 (xs := xs) (sl := sl) (d := d + 1) (H := H1) (a := a) (p := a + 9) o1 p1 (by omega)
  have p2 : H2.2.1 = a + 16 := by rw [z2]
  obtain ⟨H3, r3, o3, e0, e1, e2, e3, e4, e5, z3, k3⟩ := sg_ref3 (xs := xs) (sl := sl) (d := d + 1) (H := H2) (a := a) (p := a + 16) o2 p2 (by omega)
  have q1 : ∀ j, j ≠ a → j < a + 9 → H3.1 j = H1.1 j := fun j h1 h2 => by rw [k3 j h1 (by omega), k2 j h1 h2]
  have q2 : ∀ j, j ≠ a → j < a + 16 → H3.1 j = H2.1 j := fun j h1 h2 => k3 j h1 h2
  have all3 : H3.1 (a + 1) = some (mI 0 5072 (fun _ => 0)) := (q1 _ (by omega) (by omega)).trans b0
  have w4 := hAw_of (H := H3) (a := a + 1) (t := 0) (n := 5072) (i := 6) (x := -1) all3 (by decide) (by decide)
  obtain ⟨H4, e44⟩ : ∃ X, X = mset H3 (a + 1) (mI 0 5072 (va_up (fun _ => 0) 6 (-1))) := ⟨_, rfl⟩
  rw [← e44] at w4
  have k4 : ∀ j, j ≠ a + 1 → H4.1 j = H3.1 j := fun j hj => by rw [e44]; exact mset_ne hj
  have z4 : H4.2 = (a + 22, H.2.2 + 19461) := by
    have e : H4.2 = H3.2 := by rw [e44]; rfl
    have s1 : H1.2.2 = G.2.2 + 5400 := by rw [z1]
    have s2 : H2.2.2 = H1.2.2 + 856 := by rw [z2]
    have s3 : H3.2.2 = H2.2.2 + 13163 := by rw [z3]
    have s4 : H3.2.1 = a + 16 + 6 := by rw [z3]
    rw [e]
    exact Prod.ext (by show H3.2.1 = a + 22; omega) (by show H3.2.2 = H.2.2 + 19461; omega)
  have u1 : ∀ j, j ≠ a → j ≠ a + 1 → j < a + 9 → H4.1 j = H1.1 j := fun j h1 h2 h3 => by rw [k4 j h2, q1 j h1 h3]
  have u2 : ∀ j, j ≠ a → j ≠ a + 1 → j < a + 16 → H4.1 j = H2.1 j := fun j h1 h2 h3 => by rw [k4 j h2, q2 j h1 h3]
  refine ⟨H4, ?_, ⟨⟨_, (k4 a (by omega)).trans o3, fun k hk => ?_⟩, by rw [e44]; exact mset_at, (u1 _ (by omega) (by omega) (by omega)).trans b1, (k4 _ (by omega)).trans e2, ⟨_, (u1 _ (by omega) (by omega) (by omega)).trans b2⟩, ⟨_, (u1 _ (by omega) (by omega) (by omega)).trans b3⟩, ⟨_, (u1 _ (by omega) (by omega) (by omega)).trans b4⟩, ⟨_, (u1 _ (by omega) (by omega) (by omega)).trans b5⟩, ⟨_, (u1 _ (by omega) (by omega) (by omega)).trans b6⟩, ⟨_, (u1 _ (by omega) (by omega) (by omega)).trans b7⟩, ⟨_, (u2 _ (by omega) (by omega) (by omega)).trans c0⟩, ⟨_, (u2 _ (by omega) (by omega) (by omega)).trans c1⟩, ⟨_, (u2 _ (by omega) (by omega) (by omega)).trans c2⟩, ⟨_, (u2 _ (by omega) (by omega) (by omega)).trans c3⟩, ⟨_, (u2 _ (by omega) (by omega) (by omega)).trans c4⟩, ⟨_, (u2 _ (by omega) (by omega) (by omega)).trans c5⟩, ⟨_, (u2 _ (by omega) (by omega) (by omega)).trans c6⟩, ⟨_, (k4 _ (by omega)).trans e0⟩, ⟨_, (k4 _ (by omega)).trans e1⟩, ⟨_, (k4 _ (by omega)).trans e3⟩, ⟨_, (k4 _ (by omega)).trans e4⟩, ⟨_, (k4 _ (by omega)).trans e5⟩⟩, z4, fun j hj => ?_⟩
  · have g6 : hO H3 a 10 0 = some (.ref (a + 1)) := by
      rw [hO_of o3]
      rfl
    rw [← eG]
    simp only [r169_0]
    rw [r169_1]
    refine (ob_init a).on ?_
    simp only [Option.toList, List.singleton_append, List.append_nil, List.cons_append, List.nil_append]
    refine r1 _ (r2 _ (r3 _ ?_))
    simp only [r169_177, r169_178, r169_181, r169_183, g6, Option.some.injEq, exists_eq_left']
    rw [show (6 : Int32) = nI 6 from rfl]
    simp only [r169_184, r169_185, w4, Option.some.injEq, exists_eq_left']
  · have hk2 : k = 0 ∨ k = 1 ∨ k = 2 ∨ k = 3 ∨ k = 4 ∨ k = 5 ∨ k = 6 ∨ k = 7 ∨ k = 8 ∨ k = 9 ∨ k = 10 ∨ k = 11 ∨ k = 12 ∨ k = 13 ∨ k = 14 ∨ k = 15 ∨ k = 16 ∨ k = 17 ∨ k = 18 ∨ k = 19 ∨ k = 20 ∨ k = 21 ∨ k = 22 ∨ k = 23 ∨ k = 24 ∨ k = 25 ∨ k = 26 ∨ k = 27 ∨ k = 28 ∨ k = 29 ∨ k = 30 ∨ k = 31 ∨ k = 32 ∨ k = 33 ∨ k = 34 ∨ k = 35 ∨ k = 36 ∨ k = 37 ∨ k = 38 ∨ k = 39 ∨ k = 40 ∨ k = 41 := by omega
    rcases hk2 with rfl | rfl | rfl | rfl | rfl | rfl | rfl | rfl | rfl | rfl | rfl | rfl | rfl | rfl | rfl | rfl | rfl | rfl | rfl | rfl | rfl | rfl | rfl | rfl | rfl | rfl | rfl | rfl | rfl | rfl | rfl | rfl | rfl | rfl | rfl | rfl | rfl | rfl | rfl | rfl | rfl | rfl <;> rfl
  · rw [u1 j (by omega) (by omega) (by omega), k1 j (by omega) (by omega), eG, mnew_ne (by omega)]
end REFI
