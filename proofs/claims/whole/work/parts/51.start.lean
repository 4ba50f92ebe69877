/-! THE LAW'S START: both objects made -/
section START
variable {xs : Nat → Int32} {sl : Nat}
abbrev Hnil : mH := (fun _ => none, 0, 0)
theorem law_start : ∃ H2 : mH, (∀ r, Runs xs sl 1000 0 18 [some (.retAddr 99), some (.ref 0), some (.ref 81), some (.int 0)] [] H2 r → Runs xs sl 1000 0 0 [some (.retAddr 99), none, none, none] [] Hnil r) ∧ isBread H2 0 τ0 (fun _ => none) ∧ isModel H2 81 Z1 (va_up Z1 6 (-1)) Z1 Z1 ∧ H2.2 = (103, 25658) := by
  obtain ⟨H1, r1, i1, z1, k1⟩ := new_bread (xs := xs) (sl := sl) (d := 996) (H := Hnil) (a := 0) rfl
  have p1 : H1.2.1 = 81 := by rw [z1]
  obtain ⟨H2, r2, i2, z2, k2⟩ := new_model (xs := xs) (sl := sl) (d := 998) (H := H1) (a := 81) p1
  refine ⟨H2, fun r hr => ?_, ?_, i2, by rw [z2, z1]⟩
  · simp only [r0_0, r0_3]
    rw [r0_4]
    refine Runs.on r1 ?_
    simp only [Option.toList, List.singleton_append, List.append_nil, List.cons_append, List.nil_append, r0_7, r0_7n, r0_8, r0_11]
    rw [p1, r0_12]
    refine Runs.on r2 ?_
    simp only [Option.toList, List.singleton_append, List.append_nil, List.cons_append, List.nil_append, r0_15, r0_15_1, r0_15n, r0_15n_1, r0_16, r0_17, r0_17_1]
    exact hr
  · obtain ⟨⟨s, h0⟩, h1, ⟨f, h2, h3⟩, ⟨I4, h4⟩, ⟨I5, h5⟩, ⟨I6, h6⟩, h7, h8⟩ := i1
    exact ⟨⟨s, h0.kept (k2 _ (by omega))⟩, h1.kept (fun k _ _ => k2 k (by omega)), ⟨f, (k2 _ (by omega)).trans h2, h3⟩, ⟨I4, h4.kept (fun k _ _ => k2 k (by omega))⟩, ⟨I5, h5.kept (fun k _ _ => k2 k (by omega))⟩, ⟨I6, h6.kept (fun k _ _ => k2 k (by omega))⟩, h7.kept (fun k _ _ => k2 k (by omega)), h8.kept (fun k _ _ => k2 k (by omega))⟩
end START
