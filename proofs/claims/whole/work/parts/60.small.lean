/-! SMALL METHODS: count, fault, on both sides -/
section SMALL
variable {xs : Nat → Int32} {sl d : Nat} {H : mH} {a : Nat} {τ : Told} {im : Nat → Option Nat} {I A E P : Nat → Int32}
theorem isBread.told (h : isBread H a τ im) : hO H a 9 0 = some (.ref (a + 1)) := by
  obtain ⟨⟨s, h0⟩, -⟩ := h
  exact h0.get 0 (by decide)
theorem isTold.get (h : isTold H a τ) (k : Nat) (hk : k < 8) : hO H a 7 k = some (toldF (tN τ) a k) := h.1.get k hk
theorem isModel.all (h : isModel H a I A E P) : hO H a 10 0 = some (.ref (a + 1)) := h.1.get 0 (by decide)
theorem isModel.at (h : isModel H a I A E P) (i : Nat) (hi : i < 5072) : hA H (a + 1) 0 (nI i) = some (A i) := hA_of h.2.1 hi (by decide)
def fCount (c : Nat → Int32) (s : Int32) : Int32 := if s < 0 then -2 else if 3 ≤ s then -2 else c s.toNatClampNeg
theorem br_count (h : isBread H a τ im) (s : Int32) : Runs xs sl d 37 0 [some (.ref a), some (.int s)] [] H (some (.int (fCount (tC τ) s)), H) := by
  have o := h.told
  have o3 : hO H (a + 1) 7 3 = some (.ref (a + 1 + 4)) := h.2.1.get 3 (by decide)
  unfold fCount
  by_cases c1 : s < 0
  · simp only [r37_0, r37_1, r37_4, r37_5, r37_6, r37_9, r37_10, r37_13, r37_16, r37_17, r37_18, r37_21, r37_23, if_pos c1]
  by_cases c2 : 3 ≤ s
  · simp only [r37_0, r37_1, r37_4, r37_5, r37_6, r37_9, r37_10, r37_13, r37_16, r37_17, r37_18, r37_21, r37_23, if_neg c1, if_pos c2]
  have c2' : ¬ nI 2 < s := fun q => c2 (by
    rw [Int32.lt_iff_toInt_lt, nI_toInt (by decide)] at q
    rw [Int32.le_iff_toInt_le, show (3 : Int32) = nI 3 from rfl, nI_toInt (by decide)]
    omega)
  obtain ⟨k, -, hk, rfl⟩ := nI_in2 (lo := 0) (hi := 2) (by decide) (by decide) c1 c2'
  have o4 := hA_of (i := k) h.2.1.2.2.2.2.1 (by omega) (by decide)
  rw [nI_clamp (by omega)]
  simp only [r37_0, r37_1, r37_4, r37_5, r37_6, r37_9, r37_10, r37_13, r37_16, r37_17, r37_18, r37_21, r37_23, if_neg c1, if_neg c2, o, o3, o4, Option.some.injEq, exists_eq_left']
theorem rf_count (h : isModel H a I A E P) (s : Int32) : Runs xs sl (d + 1) 283 0 [some (.ref a), some (.int s)] [] H (some (.int (fCount A s)), H) := by
  have o := h.all
  have z1 : ¬ (1 : Int32) = 0 := by decide
  have i0 : ∀ v lo hi : Int32, (v < lo ∨ hi < v) → f_isIn v lo hi = 0 := fun v lo hi h => by
    unfold f_isIn
    by_cases h1 : v < lo
    · rw [if_pos h1]
    · rw [if_neg h1, if_pos (h.resolve_left h1)]
  have e3 : ∀ s : Int32, 3 ≤ s ↔ 2 < s := fun s => by
    rw [Int32.le_iff_toInt_le, Int32.lt_iff_toInt_lt, show (3 : Int32) = nI 3 from rfl, show (2 : Int32) = nI 2 from rfl, nI_toInt (by decide), nI_toInt (by decide)]
    omega
  unfold fCount
  simp only [r283_0, r283_1, r283_2]
  rw [r283_3]
  refine (rf_isIn _ _ _).on ?_
  by_cases c1 : s < 0
  · simp only [Option.toList, List.singleton_append, List.append_nil, List.cons_append, List.nil_append, i0 _ _ _ (Or.inl c1), r283_6, r283_9, r283_10, r283_13, r283_14, r283_15, r283_18, r283_20, if_pos, if_pos c1]
  by_cases c2 : 3 ≤ s
  · simp only [Option.toList, List.singleton_append, List.append_nil, List.cons_append, List.nil_append, i0 _ _ _ (Or.inr ((e3 s).mp c2)), r283_6, r283_9, r283_10, r283_13, r283_14, r283_15, r283_18, r283_20, if_pos, if_neg c1, if_pos c2]
  have c2' : ¬ 2 < s := fun q => c2 ((e3 s).mpr q)
  have i1 : f_isIn s 0 2 = 1 := by rw [f_isIn, if_neg c1, if_neg c2']
  obtain ⟨k, -, hk, rfl⟩ := nI_in2 (lo := 0) (hi := 2) (by decide) (by decide) c1 c2'
  have o4 := h.at k (by omega)
  rw [nI_clamp (by omega)]
  simp only [Option.toList, List.singleton_append, List.append_nil, List.cons_append, List.nil_append, i1, r283_6, r283_9, r283_10, r283_13, r283_14, r283_15, r283_18, r283_20, if_neg z1, if_neg c1, if_neg c2, o, o4, Option.some.injEq, exists_eq_left']
def fFault (f p w : Int32) : Int32 := if w = 0 then f else if w = 1 then p else -1
theorem br_fault (h : isBread H a τ im) (w : Int32) : Runs xs sl d 6 0 [some (.ref a), some (.int w)] [] H (some (.int (fFault (tN τ 1) (tN τ 2) w)), H) := by
  have o := h.told
  have o6 : hO H (a + 1) 7 6 = some (.int (tN τ 1)) := h.2.1.get 6 (by decide)
  have o7 : hO H (a + 1) 7 7 = some (.int (tN τ 2)) := h.2.1.get 7 (by decide)
  unfold fFault
  by_cases c1 : w = 0
  · simp only [r6_0, r6_1, r6_4, r6_5, r6_8, r6_11, r6_12, r6_13, r6_14, r6_17, r6_18, r6_21, r6_24, r6_27, r6_28, c1, not_true_eq_false, if_false, if_pos, o, o6, Option.some.injEq, exists_eq_left']
  by_cases c2 : w = 1
  · have z : ¬ ¬ w = 1 := fun q => q c2
    simp only [r6_0, r6_1, r6_4, r6_5, r6_8, r6_11, r6_12, r6_13, r6_14, r6_17, r6_18, r6_21, r6_24, r6_27, r6_28, if_pos c1, if_neg c1, if_neg z, if_pos c2, o, o7, Option.some.injEq, exists_eq_left']
  simp only [r6_0, r6_1, r6_4, r6_5, r6_8, r6_11, r6_12, r6_13, r6_14, r6_17, r6_18, r6_21, r6_24, r6_27, r6_28, if_pos c1, if_neg c1, if_pos c2, if_neg c2]
theorem rf_fault (h : isModel H a I A E P) (w : Int32) : Runs xs sl d 202 0 [some (.ref a), some (.int w)] [] H (some (.int (fFault (A 5) (A 6) w)), H) := by
  have o := h.all
  have o5 : hA H (a + 1) 0 5 = some (A 5) := h.at 5 (by decide)
  have o6 : hA H (a + 1) 0 6 = some (A 6) := h.at 6 (by decide)
  unfold fFault
  by_cases c1 : w = 0
  · simp only [r202_0, r202_1, r202_4, r202_5, r202_8, r202_9, r202_10, r202_13, r202_14, r202_15, r202_18, r202_19, r202_22, r202_24, r202_25, r202_28, r202_29, c1, not_true_eq_false, if_false, if_pos, o, o5, Option.some.injEq, exists_eq_left']
  by_cases c2 : w = 1
  · have z : ¬ ¬ w = 1 := fun q => q c2
    simp only [r202_0, r202_1, r202_4, r202_5, r202_8, r202_9, r202_10, r202_13, r202_14, r202_15, r202_18, r202_19, r202_22, r202_24, r202_25, r202_28, r202_29, if_pos c1, if_neg c1, if_neg z, if_pos c2, o, o6, Option.some.injEq, exists_eq_left']
  simp only [r202_0, r202_1, r202_4, r202_5, r202_8, r202_9, r202_10, r202_13, r202_14, r202_15, r202_18, r202_19, r202_22, r202_24, r202_25, r202_28, r202_29, if_pos c1, if_neg c1, if_pos c2, if_neg c2]
end SMALL
