/-! FEAST: the reference goes on to the next order -/
section OR5
variable {xs : Nat → Int32} {sl d : Nat} {J : hJk} {s x y : hS} {g : hG}
theorem pvF_s (f : Nat → Nat) (i : Nat) : pvF f (i + 1) = cond (Nat.blt (f (i + 1)) (f i)) (pvF f i) (i + 1) := rfl
theorem lgF_s (f : Nat → Nat) (x j : Nat) : lgF f x (j + 1) = cond (Nat.blt (f (j + 1)) x) (lgF f x j) (j + 1) := rfl
theorem blt_t {a b : Nat} (h : a < b) : Nat.blt a b = true := Nat.ble_eq.mpr h
theorem blt_f {a b : Nat} (h : ¬ a < b) : Nat.blt a b = false := by
  cases e : Nat.blt a b with
  | true => exact absurd (Nat.ble_eq.mp e) h
  | false => rfl
theorem rf_pivot {n : Nat} {f : Nat → Nat} (hn : n ≤ 8) (hf : ∀ i, i < n → s 96 i = nI (f i) ∧ f i < 8) : ∀ k, k < n → ∀ z, Runs xs sl (d) 240 31 [some (.ref (81)), some (.int ( nI n)), some (.int ( nI (pvF f k) + -1)), none, none, none] [] (hp J (s) g) z → Runs xs sl (d) 240 4 [some (.ref (81)), some (.int ( nI n)), some (.int ( nI k + -1)), none, none, none] [] (hp J (s) g) z := by
  intro k
  induction k with
  | zero =>
    intro _ z hz
    have e : pvF f 0 = 0 := rfl
    rw [e] at hz
    have z1 : nI 0 + -1 < 0 := by decide
    have z1' := eq_true z1
    rw [r240_4]
    generalize nI 0 + -1 = w at *
    simp (disch := first | omega | assumption | exact Or.inl rfl | exact Or.inr rfl | exact bI_or _ | exact zC81 | exact zC47 | exact zC65 | exact zC0 | exact zC1 | exact zC32 | exact zC70 | exact zC73 | exact ztc (by assumption) | exact zdc (by assumption) | exact zpc (by assumption) | decide) only [Option.some.injEq, exists_eq_left', ex2, Option.toList, List.singleton_append, List.append_nil, List.cons_append, List.nil_append, nI_add, nI_addL, nI_Ladd, pk_mul, nI_mulL, nI_Lmul, nI_subL, pk_sub, nI_divL, sub_dm, nI_leE, nI_ltE, nI_eqE, nI_Lle, nI_leL, nI_Llt, nI_ltL, nI_eqL, va_up_self, va_up_ne, up_up, up_comm, nI_clamp, bI_eq0, not_true_eq_false, not_false_eq_true, Nat.reduceEqDiff, Nat.reduceLeDiff, Nat.reduceAdd, Nat.reduceMul, Nat.one_ne_zero, Nat.zero_ne_one, decide_eq_false_iff_not, decide_eq_true_eq, Bool.false_eq_true, decide_true, decide_false, bI_true, bI_false, one_ne, Nat.le_refl, Nat.lt_irrefl, cleT, cleF, cltT, cltF, ceqT, ceqF, ↓reduceIte, r240_5, z1']
    exact hz
  | succ j ih =>
    intro hj z hz
    obtain ⟨h1, h2⟩ := hf j (by omega)
    obtain ⟨h3, h4⟩ := hf (j + 1) hj
    rw [pvF_s] at hz
    rw [nI_dec, r240_4]
    by_cases c : f (j + 1) < f j
    · rw [blt_t c, cond_true] at hz
      have c' : ¬ f j ≤ f (j + 1) := by omega
      simp (disch := first | omega | assumption | exact Or.inl rfl | exact Or.inr rfl | exact bI_or _ | exact zC81 | exact zC47 | exact zC65 | exact zC0 | exact zC1 | exact zC32 | exact zC70 | exact zC73 | exact ztc (by assumption) | exact zdc (by assumption) | exact zpc (by assumption) | decide) only [Option.some.injEq, exists_eq_left', ex2, Option.toList, List.singleton_append, List.append_nil, List.cons_append, List.nil_append, nI_add, nI_addL, nI_Ladd, pk_mul, nI_mulL, nI_Lmul, nI_subL, pk_sub, nI_divL, sub_dm, nI_leE, nI_ltE, nI_eqE, nI_Lle, nI_leL, nI_Llt, nI_ltL, nI_eqL, va_up_self, va_up_ne, up_up, up_comm, nI_clamp, bI_eq0, not_true_eq_false, not_false_eq_true, Nat.reduceEqDiff, Nat.reduceLeDiff, Nat.reduceAdd, Nat.reduceMul, Nat.one_ne_zero, Nat.zero_ne_one, decide_eq_false_iff_not, decide_eq_true_eq, Bool.false_eq_true, decide_true, decide_false, bI_true, bI_false, one_ne, Nat.le_refl, Nat.lt_irrefl, cleT, cleF, cltT, cltF, ceqT, ceqF, ↓reduceIte, r240_5, r240_8, r240_9, r240_12, r240_13, r240_14, r240_15, r240_18, r240_19, r240_20, r240_21, r240_22, r240_25, r240_28, zO81_30, zA96, h1, h3, c']
      exact ih (by omega) z hz
    · rw [blt_f c, cond_false, nI_dec] at hz
      have c' : f j ≤ f (j + 1) := by omega
      simp (disch := first | omega | assumption | exact Or.inl rfl | exact Or.inr rfl | exact bI_or _ | exact zC81 | exact zC47 | exact zC65 | exact zC0 | exact zC1 | exact zC32 | exact zC70 | exact zC73 | exact ztc (by assumption) | exact zdc (by assumption) | exact zpc (by assumption) | decide) only [Option.some.injEq, exists_eq_left', ex2, Option.toList, List.singleton_append, List.append_nil, List.cons_append, List.nil_append, nI_add, nI_addL, nI_Ladd, pk_mul, nI_mulL, nI_Lmul, nI_subL, pk_sub, nI_divL, sub_dm, nI_leE, nI_ltE, nI_eqE, nI_Lle, nI_leL, nI_Llt, nI_ltL, nI_eqL, va_up_self, va_up_ne, up_up, up_comm, nI_clamp, bI_eq0, not_true_eq_false, not_false_eq_true, Nat.reduceEqDiff, Nat.reduceLeDiff, Nat.reduceAdd, Nat.reduceMul, Nat.one_ne_zero, Nat.zero_ne_one, decide_eq_false_iff_not, decide_eq_true_eq, Bool.false_eq_true, decide_true, decide_false, bI_true, bI_false, one_ne, Nat.le_refl, Nat.lt_irrefl, cleT, cleF, cltT, cltF, ceqT, ceqF, ↓reduceIte, r240_5, r240_8, r240_9, r240_12, r240_13, r240_14, r240_15, r240_18, r240_19, r240_20, r240_21, r240_22, zO81_30, zA96, h1, h3, c']
      exact hz
theorem rf_least {n i : Nat} {f : Nat → Nat} (hn : n ≤ 8) (hi : i < n) (hf : ∀ i, i < n → s 96 i = nI (f i) ∧ f i < 8) : ∀ k, k < n → i ≤ k → ∀ z, Runs xs sl (d) 240 62 [some (.ref (81)), some (.int ( nI n)), some (.int ( nI i)), some (.int ( nI (lgF f (f i) k))), none, none] [] (hp J (s) g) z → Runs xs sl (d) 240 41 [some (.ref (81)), some (.int ( nI n)), some (.int ( nI i)), some (.int ( nI k)), none, none] [] (hp J (s) g) z := by
  obtain ⟨h1, h2⟩ := hf i hi
  intro k
  induction k with
  | zero =>
    intro hk hik z hz
    have e0 : i = 0 := by omega
    subst e0
    have e : lgF f (f 0) 0 = 0 := rfl
    rw [e] at hz
    rw [r240_41]
    simp (disch := first | omega | assumption | exact Or.inl rfl | exact Or.inr rfl | exact bI_or _ | exact zC81 | exact zC47 | exact zC65 | exact zC0 | exact zC1 | exact zC32 | exact zC70 | exact zC73 | exact ztc (by assumption) | exact zdc (by assumption) | exact zpc (by assumption) | decide) only [Option.some.injEq, exists_eq_left', ex2, Option.toList, List.singleton_append, List.append_nil, List.cons_append, List.nil_append, nI_add, nI_addL, nI_Ladd, pk_mul, nI_mulL, nI_Lmul, nI_subL, pk_sub, nI_divL, sub_dm, nI_leE, nI_ltE, nI_eqE, nI_Lle, nI_leL, nI_Llt, nI_ltL, nI_eqL, va_up_self, va_up_ne, up_up, up_comm, nI_clamp, bI_eq0, not_true_eq_false, not_false_eq_true, Nat.reduceEqDiff, Nat.reduceLeDiff, Nat.reduceAdd, Nat.reduceMul, Nat.one_ne_zero, Nat.zero_ne_one, decide_eq_false_iff_not, decide_eq_true_eq, Bool.false_eq_true, decide_true, decide_false, bI_true, bI_false, one_ne, Nat.le_refl, Nat.lt_irrefl, cleT, cleF, cltT, cltF, ceqT, ceqF, ↓reduceIte, r240_42, r240_45, r240_46, r240_47, r240_48, r240_51, r240_52, r240_53, zO81_30, zA96, h1]
    exact hz
  | succ j ih =>
    intro hk hik z hz
    obtain ⟨h3, h4⟩ := hf (j + 1) hk
    rw [lgF_s] at hz
    rw [r240_41]
    by_cases c : f (j + 1) < f i
    · rw [blt_t c, cond_true] at hz
      have c' : ¬ f i ≤ f (j + 1) := by omega
      have ne : i ≠ j + 1 := fun e => by
        rw [← e] at c
        omega
      simp (disch := first | omega | assumption | exact Or.inl rfl | exact Or.inr rfl | exact bI_or _ | exact zC81 | exact zC47 | exact zC65 | exact zC0 | exact zC1 | exact zC32 | exact zC70 | exact zC73 | exact ztc (by assumption) | exact zdc (by assumption) | exact zpc (by assumption) | decide) only [Option.some.injEq, exists_eq_left', ex2, Option.toList, List.singleton_append, List.append_nil, List.cons_append, List.nil_append, nI_add, nI_addL, nI_Ladd, pk_mul, nI_mulL, nI_Lmul, nI_subL, pk_sub, nI_divL, sub_dm, nI_leE, nI_ltE, nI_eqE, nI_Lle, nI_leL, nI_Llt, nI_ltL, nI_eqL, va_up_self, va_up_ne, up_up, up_comm, nI_clamp, bI_eq0, not_true_eq_false, not_false_eq_true, Nat.reduceEqDiff, Nat.reduceLeDiff, Nat.reduceAdd, Nat.reduceMul, Nat.one_ne_zero, Nat.zero_ne_one, decide_eq_false_iff_not, decide_eq_true_eq, Bool.false_eq_true, decide_true, decide_false, bI_true, bI_false, one_ne, Nat.le_refl, Nat.lt_irrefl, cleT, cleF, cltT, cltF, ceqT, ceqF, ↓reduceIte, r240_42, r240_45, r240_46, r240_47, r240_48, r240_51, r240_52, r240_53, r240_56, r240_59, zO81_30, zA96, h1, h3, c', nI_dec]
      exact ih (by omega) (by omega) z hz
    · rw [blt_f c, cond_false] at hz
      have c' : f i ≤ f (j + 1) := by omega
      simp (disch := first | omega | assumption | exact Or.inl rfl | exact Or.inr rfl | exact bI_or _ | exact zC81 | exact zC47 | exact zC65 | exact zC0 | exact zC1 | exact zC32 | exact zC70 | exact zC73 | exact ztc (by assumption) | exact zdc (by assumption) | exact zpc (by assumption) | decide) only [Option.some.injEq, exists_eq_left', ex2, Option.toList, List.singleton_append, List.append_nil, List.cons_append, List.nil_append, nI_add, nI_addL, nI_Ladd, pk_mul, nI_mulL, nI_Lmul, nI_subL, pk_sub, nI_divL, sub_dm, nI_leE, nI_ltE, nI_eqE, nI_Lle, nI_leL, nI_Llt, nI_ltL, nI_eqL, va_up_self, va_up_ne, up_up, up_comm, nI_clamp, bI_eq0, not_true_eq_false, not_false_eq_true, Nat.reduceEqDiff, Nat.reduceLeDiff, Nat.reduceAdd, Nat.reduceMul, Nat.one_ne_zero, Nat.zero_ne_one, decide_eq_false_iff_not, decide_eq_true_eq, Bool.false_eq_true, decide_true, decide_false, bI_true, bI_false, one_ne, Nat.le_refl, Nat.lt_irrefl, cleT, cleF, cltT, cltF, ceqT, ceqF, ↓reduceIte, r240_42, r240_45, r240_46, r240_47, r240_48, r240_51, r240_52, r240_53, zO81_30, zA96, h1, h3, c']
      exact hz
end OR5
