/-! a set without a part of it, as the reference takes it -/
set_option maxRecDepth 20000 in
theorem not_sub0 : ∀ a, a < 256 → ∀ p, p < 256 → p &&& a = p → nI a &&& (nI p ^^^ (-1)) = nI (a - p) := by decide +kernel
