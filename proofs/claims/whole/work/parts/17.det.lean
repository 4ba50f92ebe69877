/-! RUNS: a run has one end -/
section RDET
variable {xs : Nat → Int32} {sl d M pc : Nat} {L : mL} {st : List Value} {H : mH} {r r0 : Option Value × mH}
theorem Runs.det (h1 : Runs xs sl d M pc L st H r) (h2 : Runs xs sl d M pc L st H r0) : r = r0 := by
  obtain ⟨n1, h1⟩ := h1
  obtain ⟨n2, h2⟩ := h2
  have e1 := go_le (Nat.le_max_left n1 n2) h1
  have e2 := go_le (Nat.le_max_right n1 n2) h2
  exact Option.some.inj (e1.symm.trans e2)
theorem Runs.iff (h : Runs xs sl d M pc L st H r0) : Runs xs sl d M pc L st H r ↔ r = r0 := ⟨fun q => q.det h, fun q => q ▸ h⟩
/-- behind a call of which the end is known -/
theorem Runs.on {v0 : Option Value} {H0 : mH} {P : Option Value → mH → Prop} (h : Runs xs sl d M pc L st H (v0, H0)) (k : P v0 H0) : ∃ v H1, Runs xs sl d M pc L st H (v, H1) ∧ P v H1 := ⟨v0, H0, h, k⟩
end RDET
