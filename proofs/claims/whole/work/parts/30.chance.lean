/-! CHANCE: what its methods answer -/
section CHANCE
variable {xs : Nat → Int32} {sl d : Nat} {H : mH}
theorem ch_canBe (n a : Int32) : Runs xs sl d 40 0 [some (.int n), some (.int a)] [] H (some (.int (if 1 ≤ n ∧ n ≤ 12 ∧ 0 ≤ a ∧ a ≤ 10 then 1 else 0)), H) := by
  simp only [r40_0, r40_1, r40_2, r40_5, r40_6, r40_8, r40_11, r40_12, r40_15, r40_16, r40_18, r40_21, r40_22, r40_25, r40_26 (Or.inr rfl)]
  sorry
end CHANCE
