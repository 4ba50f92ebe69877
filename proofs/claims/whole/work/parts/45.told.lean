/-! TOLD: its constructor -/
section TOLD
variable {xs : Nat → Int32} {sl d : Nat} {H H' : mH}
theorem td_body {t p s i : Nat} {fT fD fP : Nat → Option Nat} {F : Nat → Value} (hi : i < 2) (htp : t + 6 ≤ p) (hz : H.2 = (p, s)) (ho : H.1 t = some (mO 7 F)) (f0 : F 0 = .ref (t + 1)) (f1 : F 1 = .ref (t + 2)) (f2 : F 2 = .ref (t + 3)) (h1 : H.1 (t + 1) = some (mQ 4 2 fT)) (h2 : H.1 (t + 2) = some (mQ 5 2 fD)) (h3 : H.1 (t + 3) = some (mQ 6 2 fP)) :
    ∃ H7, (∀ r, Runs xs sl (d + 1 + 1) 145 51 [some (.ref t), some (.int (nI (i + 1)))] [] H7 r → Runs xs sl (d + 1 + 1) 145 51 [some (.ref t), some (.int (nI i))] [] H r) ∧ H7.1 (t + 1) = some (mQ 4 2 (va_up fT i (some p))) ∧ H7.1 (t + 2) = some (mQ 5 2 (va_up fD i (some (p + 8)))) ∧ H7.1 (t + 3) = some (mQ 6 2 (va_up fP i (some (p + 10)))) ∧ isTown H7 p S0 Z2 ∧ isDays H7 (p + 8) 0 Z1 ∧ isPlate H7 (p + 10) P0 Z1 ∧ H7.2 = (p + 12, s + 338) ∧ ∀ j, j < p → j ≠ t + 1 → j ≠ t + 2 → j ≠ t + 3 → H7.1 j = H.1 j := by
  have hp : H.2.1 = p := by rw [hz]
  have hs : H.2.2 = s := by rw [hz]
  -- the town
  obtain ⟨H2, rT, iT, zT, kT⟩ := new_town (xs := xs) (sl := sl) (d := d) (H := H) hp
  obtain ⟨FT, oT, -⟩ := iT.1
  have wT := hQw_of (H := H2) (a := t + 1) (t := 4) (n := 2) (i := i) (v := p) (f := fT) (by rw [kT _ (by omega)]; exact h1) oT rfl hi (by decide)
  obtain ⟨H3, e3⟩ : ∃ X, X = mset H2 (t + 1) (mQ 4 2 (va_up fT i (some p))) := ⟨_, rfl⟩
  rw [← e3] at wT
  have k3 : ∀ j, j ≠ t + 1 → H3.1 j = H2.1 j := fun j hj => by rw [e3]; exact mset_ne hj
  have z3 : H3.2 = (p + 8, s + 136) := by rw [e3]; show H2.2 = _; rw [zT, hs]
  have p3 : H3.2.1 = p + 8 := by rw [z3]
  -- the days
  obtain ⟨H4, rD, iD, zD, kD⟩ := new_days (xs := xs) (sl := sl) (d := d) (H := H3) p3
  obtain ⟨FD, oD, -⟩ := iD.1
  have wD := hQw_of (H := H4) (a := t + 2) (t := 5) (n := 2) (i := i) (v := p + 8) (f := fD) (by rw [kD _ (by omega), k3 _ (by omega), kT _ (by omega)]; exact h2) oD rfl hi (by decide)
  obtain ⟨H5, e5⟩ : ∃ X, X = mset H4 (t + 2) (mQ 5 2 (va_up fD i (some (p + 8)))) := ⟨_, rfl⟩
  rw [← e5] at wD
  have k5 : ∀ j, j ≠ t + 2 → H5.1 j = H4.1 j := fun j hj => by rw [e5]; exact mset_ne hj
  have z5 : H5.2 = (p + 10, s + 298) := by
    rw [e5]
    show H4.2 = _
    rw [zD, z3]
  have p5 : H5.2.1 = p + 10 := by rw [z5]
  -- the plate
  obtain ⟨H6, rP, iP, zP, kP⟩ := new_plate (xs := xs) (sl := sl) (d := d) (H := H5) p5
  obtain ⟨FP, oP, -⟩ := iP.1
  have wP := hQw_of (H := H6) (a := t + 3) (t := 6) (n := 2) (i := i) (v := p + 10) (f := fP) (by rw [kP _ (by omega), k5 _ (by omega), kD _ (by omega), k3 _ (by omega), kT _ (by omega)]; exact h3) oP rfl hi (by decide)
  obtain ⟨H7, e7⟩ : ∃ X, X = mset H6 (t + 3) (mQ 6 2 (va_up fP i (some (p + 10)))) := ⟨_, rfl⟩
  rw [← e7] at wP
  have k7 : ∀ j, j ≠ t + 3 → H7.1 j = H6.1 j := fun j hj => by rw [e7]; exact mset_ne hj
  have all : ∀ j, j < p → j ≠ t + 1 → j ≠ t + 2 → j ≠ t + 3 → H7.1 j = H.1 j := fun j g0 g1 g2 g3 => by rw [k7 j g3, kP j (by omega), k5 j g2, kD j (by omega), k3 j g1, kT j g0]
  refine ⟨H7, fun r hr => ?_, ?_, ?_, ?_, ?_, ?_, ?_, ?_, all⟩
  · have c : ¬ (2 : Int32) ≤ nI i := nI_ge (b := 2) hi (by decide)
    have g0 : hO H t 7 0 = some (.ref (t + 1)) := by rw [hO_of ho, f0]
    have g1 : hO H3 t 7 1 = some (.ref (t + 2)) := by rw [hO_of (F := F) (by rw [k3 _ (by omega), kT _ (by omega)]; exact ho), f1]
    have g2 : hO H5 t 7 2 = some (.ref (t + 3)) := by rw [hO_of (F := F) (by rw [k5 _ (by omega), kD _ (by omega), k3 _ (by omega), kT _ (by omega)]; exact ho), f2]
    rw [r145_51]
    simp only [r145_52, r145_53, r145_56, r145_57, r145_60, r145_61, r145_64, if_neg c, g0, Option.some.injEq, exists_eq_left']
    rw [hp, r145_65]
    refine rT.on ?_
    simp only [Option.toList, List.singleton_append, List.append_nil, List.cons_append, List.nil_append, r145_68, r145_69, r145_70, r145_73, r145_74, r145_77, wT, g1, Option.some.injEq, exists_eq_left']
    rw [p3, r145_78]
    refine rD.on ?_
    simp only [Option.toList, List.singleton_append, List.append_nil, List.cons_append, List.nil_append, r145_81, r145_82, r145_83, r145_86, r145_87, r145_90, wD, g2, Option.some.injEq, exists_eq_left']
    rw [p5, r145_91]
    refine rP.on ?_
    simp only [Option.toList, List.singleton_append, List.append_nil, List.cons_append, List.nil_append, r145_94, r145_95, r145_95_1, r145_98, wP, Option.some.injEq, exists_eq_left', nI_1]
    exact hr
  · rw [k7 _ (by omega), kP _ (by omega), k5 _ (by omega), kD _ (by omega), e3]; exact mset_at
  · rw [k7 _ (by omega), kP _ (by omega), e5]; exact mset_at
  · rw [e7]; exact mset_at
  · exact iT.kept (fun k a1 a2 => by rw [k7 k (by omega), kP k (by omega), k5 k (by omega), kD k (by omega), k3 k (by omega)])
  · exact iD.kept (fun k a1 a2 => by rw [k7 k (by omega), kP k (by omega), k5 k (by omega)])
  · exact iP.kept (fun k a1 a2 => by rw [k7 k (by omega)])
  · rw [e7]
    show H6.2 = _
    rw [zP, z5]
end TOLD
