/-! FEAST: the orders follow each other (by computation: some 80 s) -/
section OR3
noncomputable def chB (m : Nat) : Bool := cond (Nat.ble (bcN m) 6) (and (hdB m (ordL 6 m)) (chnL (bcN m) (ordL 6 m))) true
theorem chain_0 : ∀ i, i < 16 → chB (0 + i) = true := by decide +kernel
theorem chain_1 : ∀ i, i < 16 → chB (16 + i) = true := by decide +kernel
theorem chain_2 : ∀ i, i < 16 → chB (32 + i) = true := by decide +kernel
theorem chain_3 : ∀ i, i < 16 → chB (48 + i) = true := by decide +kernel
theorem chain_4 : ∀ i, i < 16 → chB (64 + i) = true := by decide +kernel
theorem chain_5 : ∀ i, i < 16 → chB (80 + i) = true := by decide +kernel
theorem chain_6 : ∀ i, i < 16 → chB (96 + i) = true := by decide +kernel
theorem chain_7 : ∀ i, i < 16 → chB (112 + i) = true := by decide +kernel
theorem chain_8 : ∀ i, i < 16 → chB (128 + i) = true := by decide +kernel
theorem chain_9 : ∀ i, i < 16 → chB (144 + i) = true := by decide +kernel
theorem chain_10 : ∀ i, i < 16 → chB (160 + i) = true := by decide +kernel
theorem chain_11 : ∀ i, i < 16 → chB (176 + i) = true := by decide +kernel
theorem chain_12 : ∀ i, i < 16 → chB (192 + i) = true := by decide +kernel
theorem chain_13 : ∀ i, i < 16 → chB (208 + i) = true := by decide +kernel
theorem chain_14 : ∀ i, i < 16 → chB (224 + i) = true := by decide +kernel
theorem chain_15 : ∀ i, i < 16 → chB (240 + i) = true := by decide +kernel
theorem chain_all {m : Nat} (h : m < 256) : chB m = true := by
  have hk : m / 16 < 16 := by omega
  have e : m = 16 * (m / 16) + m % 16 := by omega
  have hi : m % 16 < 16 := by omega
  rw [e]
  generalize m % 16 = i at *
  generalize m / 16 = k at *
  have hk2 : k = 0 ∨ k = 1 ∨ k = 2 ∨ k = 3 ∨ k = 4 ∨ k = 5 ∨ k = 6 ∨ k = 7 ∨ k = 8 ∨ k = 9 ∨ k = 10 ∨ k = 11 ∨ k = 12 ∨ k = 13 ∨ k = 14 ∨ k = 15 := by omega
  rcases hk2 with rfl | rfl | rfl | rfl | rfl | rfl | rfl | rfl | rfl | rfl | rfl | rfl | rfl | rfl | rfl | rfl
  · exact chain_0 i hi
  · exact chain_1 i hi
  · exact chain_2 i hi
  · exact chain_3 i hi
  · exact chain_4 i hi
  · exact chain_5 i hi
  · exact chain_6 i hi
  · exact chain_7 i hi
  · exact chain_8 i hi
  · exact chain_9 i hi
  · exact chain_10 i hi
  · exact chain_11 i hi
  · exact chain_12 i hi
  · exact chain_13 i hi
  · exact chain_14 i hi
  · exact chain_15 i hi
end OR3
