/-! THE PURE HEART -/
section HEART
theorem law_runs (sl : Nat) (xs : Nat → Int32) (h : sl ≤ 3072) : lawRuns xs sl := by
  obtain ⟨J, s, g, hr, hL⟩ := law_LI (xs := xs) (sl := sl)
  obtain ⟨H', r, b1, b2⟩ := law_loop (xs := xs) h (sl / 6) 0 J s g (by omega) (by omega) hL
  obtain ⟨n, e⟩ := hr _ r
  exact ⟨n, H', e, b1, b2⟩
end HEART
