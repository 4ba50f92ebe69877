/-! THE TWO SCENES SIDE BY SIDE: x the heap of the class, y that of the reference -/
section SSA
variable {x y : hS}
theorem up_eq {α : Type} {f f' : Nat → α} {n k : Nat} {v v' : α} (h : ∀ i, i < n → f i = f' i) (hv : v = v') : ∀ i, i < n → va_up f k v i = va_up f' k v' i := by
  intro i hi
  by_cases e : i = k
  · subst e
    rw [va_up_self, va_up_self, hv]
  · rw [va_up_ne _ _ e, va_up_ne _ _ e, h i hi]
theorem cpy_eq {α : Type} {v v' f f' : Nat → α} {n b m : Nat} (h : ∀ i, i < n → f i = f' i) (hv : ∀ j, j < m → v j = v' j) : ∀ i, i < n → va_cpy v f 0 b m i = va_cpy v' f' 0 b m i := by
  intro i hi
  by_cases c : b ≤ i ∧ i < b + m
  · rw [pk_cpy_in c.1 c.2, pk_cpy_in c.1 c.2]
    exact hv _ (by omega)
  · rw [pk_cpy_out (by omega), pk_cpy_out (by omega), h i hi]
/-- the scenes hold the same, with n topics and L loaves -/
def SR (n L : Nat) (x y : hS) : Prop := x 47 4 = y 81 24 ∧ (∀ i, i < 48 → x 56 i = y 92 i) ∧ (∀ l t, l < L → t < n → x 57 (6 * l + t) = y 88 (6 * l + t)) ∧ (∀ l, l < L → x 58 l = y 89 l) ∧ (∀ l, l < L → x 59 l = y 90 l) ∧ (∀ l, l < L → x 60 l = y 91 l) ∧ (∀ i, i < 24 → x 61 i = y 85 i) ∧ (∀ i, i < 24 → x 62 i = y 86 i) ∧ (∀ o, o < 4 → x 63 o = y 87 o)
theorem SR_says {n L o t : Nat} {v : Int32} (h : SR n L x y) (ho : o < 4) (ht : t < 6) : SR n L (saysG 61 62 63 x o t v) (saysG 85 86 87 y o t v) := by
  obtain ⟨h1, h2, h3, h4, h5, h6, h7, h8, h9⟩ := h
  have a1 : ∀ c, c ≠ 61 → c ≠ 62 → c ≠ 63 → saysG 61 62 63 x o t v c = x c := fun c q1 q2 q3 => saysG_fr q1 q2 q3
  have a2 : ∀ c, c ≠ 85 → c ≠ 86 → c ≠ 87 → saysG 85 86 87 y o t v c = y c := fun c q1 q2 q3 => saysG_fr q1 q2 q3
  have b1 : saysG 61 62 63 x o t v 61 = va_up (x 61) (6 * o + t) v := by simp (disch := first | omega | assumption | exact Or.inl rfl | exact Or.inr rfl | exact bI_or _ | exact zC81 | exact zC47 | exact zC65 | exact zC0 | exact zC1 | exact zC32 | exact zC70 | exact zC73 | exact ztc (by assumption) | exact zdc (by assumption) | exact zpc (by assumption) | decide) only [Option.some.injEq, exists_eq_left', ex2, Option.toList, List.singleton_append, List.append_nil, List.cons_append, List.nil_append, nI_add, nI_addL, nI_Ladd, pk_mul, nI_mulL, nI_Lmul, nI_subL, pk_sub, nI_divL, sub_dm, nI_leE, nI_ltE, nI_eqE, nI_Lle, nI_leL, nI_Llt, nI_ltL, nI_eqL, va_up_self, va_up_ne, up_up, up_comm, nI_clamp, bI_eq0, not_true_eq_false, not_false_eq_true, Nat.reduceEqDiff, Nat.reduceLeDiff, Nat.reduceAdd, Nat.reduceMul, Nat.one_ne_zero, Nat.zero_ne_one, decide_eq_false_iff_not, decide_eq_true_eq, Bool.false_eq_true, decide_true, decide_false, bI_true, bI_false, one_ne, Nat.le_refl, Nat.lt_irrefl, cleT, cleF, cltT, cltF, ceqT, ceqF, ↓reduceIte, saysG]
  have b2 : saysG 61 62 63 x o t v 62 = va_up (x 62) (6 * o + t) (x 61 (6 * o + t)) := by simp (disch := first | omega | assumption | exact Or.inl rfl | exact Or.inr rfl | exact bI_or _ | exact zC81 | exact zC47 | exact zC65 | exact zC0 | exact zC1 | exact zC32 | exact zC70 | exact zC73 | exact ztc (by assumption) | exact zdc (by assumption) | exact zpc (by assumption) | decide) only [Option.some.injEq, exists_eq_left', ex2, Option.toList, List.singleton_append, List.append_nil, List.cons_append, List.nil_append, nI_add, nI_addL, nI_Ladd, pk_mul, nI_mulL, nI_Lmul, nI_subL, pk_sub, nI_divL, sub_dm, nI_leE, nI_ltE, nI_eqE, nI_Lle, nI_leL, nI_Llt, nI_ltL, nI_eqL, va_up_self, va_up_ne, up_up, up_comm, nI_clamp, bI_eq0, not_true_eq_false, not_false_eq_true, Nat.reduceEqDiff, Nat.reduceLeDiff, Nat.reduceAdd, Nat.reduceMul, Nat.one_ne_zero, Nat.zero_ne_one, decide_eq_false_iff_not, decide_eq_true_eq, Bool.false_eq_true, decide_true, decide_false, bI_true, bI_false, one_ne, Nat.le_refl, Nat.lt_irrefl, cleT, cleF, cltT, cltF, ceqT, ceqF, ↓reduceIte, saysG]
  have b3 : saysG 61 62 63 x o t v 63 = va_up (x 63) o (nI t) := by simp (disch := first | omega | assumption | exact Or.inl rfl | exact Or.inr rfl | exact bI_or _ | exact zC81 | exact zC47 | exact zC65 | exact zC0 | exact zC1 | exact zC32 | exact zC70 | exact zC73 | exact ztc (by assumption) | exact zdc (by assumption) | exact zpc (by assumption) | decide) only [Option.some.injEq, exists_eq_left', ex2, Option.toList, List.singleton_append, List.append_nil, List.cons_append, List.nil_append, nI_add, nI_addL, nI_Ladd, pk_mul, nI_mulL, nI_Lmul, nI_subL, pk_sub, nI_divL, sub_dm, nI_leE, nI_ltE, nI_eqE, nI_Lle, nI_leL, nI_Llt, nI_ltL, nI_eqL, va_up_self, va_up_ne, up_up, up_comm, nI_clamp, bI_eq0, not_true_eq_false, not_false_eq_true, Nat.reduceEqDiff, Nat.reduceLeDiff, Nat.reduceAdd, Nat.reduceMul, Nat.one_ne_zero, Nat.zero_ne_one, decide_eq_false_iff_not, decide_eq_true_eq, Bool.false_eq_true, decide_true, decide_false, bI_true, bI_false, one_ne, Nat.le_refl, Nat.lt_irrefl, cleT, cleF, cltT, cltF, ceqT, ceqF, ↓reduceIte, saysG]
  have d1 : saysG 85 86 87 y o t v 85 = va_up (y 85) (6 * o + t) v := by simp (disch := first | omega | assumption | exact Or.inl rfl | exact Or.inr rfl | exact bI_or _ | exact zC81 | exact zC47 | exact zC65 | exact zC0 | exact zC1 | exact zC32 | exact zC70 | exact zC73 | exact ztc (by assumption) | exact zdc (by assumption) | exact zpc (by assumption) | decide) only [Option.some.injEq, exists_eq_left', ex2, Option.toList, List.singleton_append, List.append_nil, List.cons_append, List.nil_append, nI_add, nI_addL, nI_Ladd, pk_mul, nI_mulL, nI_Lmul, nI_subL, pk_sub, nI_divL, sub_dm, nI_leE, nI_ltE, nI_eqE, nI_Lle, nI_leL, nI_Llt, nI_ltL, nI_eqL, va_up_self, va_up_ne, up_up, up_comm, nI_clamp, bI_eq0, not_true_eq_false, not_false_eq_true, Nat.reduceEqDiff, Nat.reduceLeDiff, Nat.reduceAdd, Nat.reduceMul, Nat.one_ne_zero, Nat.zero_ne_one, decide_eq_false_iff_not, decide_eq_true_eq, Bool.false_eq_true, decide_true, decide_false, bI_true, bI_false, one_ne, Nat.le_refl, Nat.lt_irrefl, cleT, cleF, cltT, cltF, ceqT, ceqF, ↓reduceIte, saysG]
  have d2 : saysG 85 86 87 y o t v 86 = va_up (y 86) (6 * o + t) (y 85 (6 * o + t)) := by simp (disch := first | omega | assumption | exact Or.inl rfl | exact Or.inr rfl | exact bI_or _ | exact zC81 | exact zC47 | exact zC65 | exact zC0 | exact zC1 | exact zC32 | exact zC70 | exact zC73 | exact ztc (by assumption) | exact zdc (by assumption) | exact zpc (by assumption) | decide) only [Option.some.injEq, exists_eq_left', ex2, Option.toList, List.singleton_append, List.append_nil, List.cons_append, List.nil_append, nI_add, nI_addL, nI_Ladd, pk_mul, nI_mulL, nI_Lmul, nI_subL, pk_sub, nI_divL, sub_dm, nI_leE, nI_ltE, nI_eqE, nI_Lle, nI_leL, nI_Llt, nI_ltL, nI_eqL, va_up_self, va_up_ne, up_up, up_comm, nI_clamp, bI_eq0, not_true_eq_false, not_false_eq_true, Nat.reduceEqDiff, Nat.reduceLeDiff, Nat.reduceAdd, Nat.reduceMul, Nat.one_ne_zero, Nat.zero_ne_one, decide_eq_false_iff_not, decide_eq_true_eq, Bool.false_eq_true, decide_true, decide_false, bI_true, bI_false, one_ne, Nat.le_refl, Nat.lt_irrefl, cleT, cleF, cltT, cltF, ceqT, ceqF, ↓reduceIte, saysG]
  have d3 : saysG 85 86 87 y o t v 87 = va_up (y 87) o (nI t) := by simp (disch := first | omega | assumption | exact Or.inl rfl | exact Or.inr rfl | exact bI_or _ | exact zC81 | exact zC47 | exact zC65 | exact zC0 | exact zC1 | exact zC32 | exact zC70 | exact zC73 | exact ztc (by assumption) | exact zdc (by assumption) | exact zpc (by assumption) | decide) only [Option.some.injEq, exists_eq_left', ex2, Option.toList, List.singleton_append, List.append_nil, List.cons_append, List.nil_append, nI_add, nI_addL, nI_Ladd, pk_mul, nI_mulL, nI_Lmul, nI_subL, pk_sub, nI_divL, sub_dm, nI_leE, nI_ltE, nI_eqE, nI_Lle, nI_leL, nI_Llt, nI_ltL, nI_eqL, va_up_self, va_up_ne, up_up, up_comm, nI_clamp, bI_eq0, not_true_eq_false, not_false_eq_true, Nat.reduceEqDiff, Nat.reduceLeDiff, Nat.reduceAdd, Nat.reduceMul, Nat.one_ne_zero, Nat.zero_ne_one, decide_eq_false_iff_not, decide_eq_true_eq, Bool.false_eq_true, decide_true, decide_false, bI_true, bI_false, one_ne, Nat.le_refl, Nat.lt_irrefl, cleT, cleF, cltT, cltF, ceqT, ceqF, ↓reduceIte, saysG]
  refine ⟨?_, ?_, ?_, ?_, ?_, ?_, ?_, ?_, ?_⟩
  · rw [a1 _ (by decide) (by decide) (by decide), a2 _ (by decide) (by decide) (by decide)]
    exact h1
  · rw [a1 _ (by decide) (by decide) (by decide), a2 _ (by decide) (by decide) (by decide)]
    exact h2
  · rw [a1 _ (by decide) (by decide) (by decide), a2 _ (by decide) (by decide) (by decide)]
    exact h3
  · rw [a1 _ (by decide) (by decide) (by decide), a2 _ (by decide) (by decide) (by decide)]
    exact h4
  · rw [a1 _ (by decide) (by decide) (by decide), a2 _ (by decide) (by decide) (by decide)]
    exact h5
  · rw [a1 _ (by decide) (by decide) (by decide), a2 _ (by decide) (by decide) (by decide)]
    exact h6
  · rw [b1, d1]
    exact up_eq h7 rfl
  · rw [b2, d2]
    exact up_eq h8 (h7 _ (by omega))
  · rw [b3, d3]
    exact up_eq h9 rfl
theorem SR_loaf {n L k o : Nat} {age : Int32} (h : SR n L x y) (hn : n ≤ 6) (ho : o < 4) : SR n (L + 1) (cLoaf x n L k o age) (rLoaf y L k o age) := by
  obtain ⟨h1, h2, h3, h4, h5, h6, h7, h8, h9⟩ := h
  have a1 : ∀ c, c ≠ 47 → ¬ (57 ≤ c ∧ c ≤ 60) → cLoaf x n L k o age c = x c := fun c q1 q2 => cLoaf_fr q1 q2
  have a2 : ∀ c, c ≠ 81 → ¬ (88 ≤ c ∧ c ≤ 91) → rLoaf y L k o age c = y c := fun c q1 q2 => rLoaf_fr q1 q2
  have b0 : cLoaf x n L k o age 47 4 = x 47 4 := by rw [cLoaf_47, va_up_ne _ _ (by decide)]
  have d0 : rLoaf y L k o age 81 24 = y 81 24 := by rw [rLoaf_81, va_up_ne _ _ (by decide)]
  have b1 : cLoaf x n L k o age 57 = va_cpy (fun t => bvF k (x 61 (6 * o + t)) (x 62 (6 * o + t)) (decide (nI t = x 63 o))) (x 57) 0 (6 * L) n := by simp (disch := first | omega | assumption | exact Or.inl rfl | exact Or.inr rfl | exact bI_or _ | exact zC81 | exact zC47 | exact zC65 | exact zC0 | exact zC1 | exact zC32 | exact zC70 | exact zC73 | exact ztc (by assumption) | exact zdc (by assumption) | exact zpc (by assumption) | decide) only [Option.some.injEq, exists_eq_left', ex2, Option.toList, List.singleton_append, List.append_nil, List.cons_append, List.nil_append, nI_add, nI_addL, nI_Ladd, pk_mul, nI_mulL, nI_Lmul, nI_subL, pk_sub, nI_divL, sub_dm, nI_leE, nI_ltE, nI_eqE, nI_Lle, nI_leL, nI_Llt, nI_ltL, nI_eqL, va_up_self, va_up_ne, up_up, up_comm, nI_clamp, bI_eq0, not_true_eq_false, not_false_eq_true, Nat.reduceEqDiff, Nat.reduceLeDiff, Nat.reduceAdd, Nat.reduceMul, Nat.one_ne_zero, Nat.zero_ne_one, decide_eq_false_iff_not, decide_eq_true_eq, Bool.false_eq_true, decide_true, decide_false, bI_true, bI_false, one_ne, Nat.le_refl, Nat.lt_irrefl, cleT, cleF, cltT, cltF, ceqT, ceqF, ↓reduceIte, cLoaf, bakeG]
  have b2 : cLoaf x n L k o age 58 = va_up (x 58) L (nI k) := by simp (disch := first | omega | assumption | exact Or.inl rfl | exact Or.inr rfl | exact bI_or _ | exact zC81 | exact zC47 | exact zC65 | exact zC0 | exact zC1 | exact zC32 | exact zC70 | exact zC73 | exact ztc (by assumption) | exact zdc (by assumption) | exact zpc (by assumption) | decide) only [Option.some.injEq, exists_eq_left', ex2, Option.toList, List.singleton_append, List.append_nil, List.cons_append, List.nil_append, nI_add, nI_addL, nI_Ladd, pk_mul, nI_mulL, nI_Lmul, nI_subL, pk_sub, nI_divL, sub_dm, nI_leE, nI_ltE, nI_eqE, nI_Lle, nI_leL, nI_Llt, nI_ltL, nI_eqL, va_up_self, va_up_ne, up_up, up_comm, nI_clamp, bI_eq0, not_true_eq_false, not_false_eq_true, Nat.reduceEqDiff, Nat.reduceLeDiff, Nat.reduceAdd, Nat.reduceMul, Nat.one_ne_zero, Nat.zero_ne_one, decide_eq_false_iff_not, decide_eq_true_eq, Bool.false_eq_true, decide_true, decide_false, bI_true, bI_false, one_ne, Nat.le_refl, Nat.lt_irrefl, cleT, cleF, cltT, cltF, ceqT, ceqF, ↓reduceIte, cLoaf, bakeG]
  have b3 : cLoaf x n L k o age 59 = va_up (x 59) L age := by simp (disch := first | omega | assumption | exact Or.inl rfl | exact Or.inr rfl | exact bI_or _ | exact zC81 | exact zC47 | exact zC65 | exact zC0 | exact zC1 | exact zC32 | exact zC70 | exact zC73 | exact ztc (by assumption) | exact zdc (by assumption) | exact zpc (by assumption) | decide) only [Option.some.injEq, exists_eq_left', ex2, Option.toList, List.singleton_append, List.append_nil, List.cons_append, List.nil_append, nI_add, nI_addL, nI_Ladd, pk_mul, nI_mulL, nI_Lmul, nI_subL, pk_sub, nI_divL, sub_dm, nI_leE, nI_ltE, nI_eqE, nI_Lle, nI_leL, nI_Llt, nI_ltL, nI_eqL, va_up_self, va_up_ne, up_up, up_comm, nI_clamp, bI_eq0, not_true_eq_false, not_false_eq_true, Nat.reduceEqDiff, Nat.reduceLeDiff, Nat.reduceAdd, Nat.reduceMul, Nat.one_ne_zero, Nat.zero_ne_one, decide_eq_false_iff_not, decide_eq_true_eq, Bool.false_eq_true, decide_true, decide_false, bI_true, bI_false, one_ne, Nat.le_refl, Nat.lt_irrefl, cleT, cleF, cltT, cltF, ceqT, ceqF, ↓reduceIte, cLoaf, bakeG]
  have b4 : cLoaf x n L k o age 60 = va_up (x 60) L 0 := by simp (disch := first | omega | assumption | exact Or.inl rfl | exact Or.inr rfl | exact bI_or _ | exact zC81 | exact zC47 | exact zC65 | exact zC0 | exact zC1 | exact zC32 | exact zC70 | exact zC73 | exact ztc (by assumption) | exact zdc (by assumption) | exact zpc (by assumption) | decide) only [Option.some.injEq, exists_eq_left', ex2, Option.toList, List.singleton_append, List.append_nil, List.cons_append, List.nil_append, nI_add, nI_addL, nI_Ladd, pk_mul, nI_mulL, nI_Lmul, nI_subL, pk_sub, nI_divL, sub_dm, nI_leE, nI_ltE, nI_eqE, nI_Lle, nI_leL, nI_Llt, nI_ltL, nI_eqL, va_up_self, va_up_ne, up_up, up_comm, nI_clamp, bI_eq0, not_true_eq_false, not_false_eq_true, Nat.reduceEqDiff, Nat.reduceLeDiff, Nat.reduceAdd, Nat.reduceMul, Nat.one_ne_zero, Nat.zero_ne_one, decide_eq_false_iff_not, decide_eq_true_eq, Bool.false_eq_true, decide_true, decide_false, bI_true, bI_false, one_ne, Nat.le_refl, Nat.lt_irrefl, cleT, cleF, cltT, cltF, ceqT, ceqF, ↓reduceIte, cLoaf, bakeG]
  have d1 : rLoaf y L k o age 88 = va_cpy (fun t => bvF k (y 85 (6 * o + t)) (y 86 (6 * o + t)) (decide (nI t = y 87 o))) (y 88) 0 (6 * L) 6 := by simp (disch := first | omega | assumption | exact Or.inl rfl | exact Or.inr rfl | exact bI_or _ | exact zC81 | exact zC47 | exact zC65 | exact zC0 | exact zC1 | exact zC32 | exact zC70 | exact zC73 | exact ztc (by assumption) | exact zdc (by assumption) | exact zpc (by assumption) | decide) only [Option.some.injEq, exists_eq_left', ex2, Option.toList, List.singleton_append, List.append_nil, List.cons_append, List.nil_append, nI_add, nI_addL, nI_Ladd, pk_mul, nI_mulL, nI_Lmul, nI_subL, pk_sub, nI_divL, sub_dm, nI_leE, nI_ltE, nI_eqE, nI_Lle, nI_leL, nI_Llt, nI_ltL, nI_eqL, va_up_self, va_up_ne, up_up, up_comm, nI_clamp, bI_eq0, not_true_eq_false, not_false_eq_true, Nat.reduceEqDiff, Nat.reduceLeDiff, Nat.reduceAdd, Nat.reduceMul, Nat.one_ne_zero, Nat.zero_ne_one, decide_eq_false_iff_not, decide_eq_true_eq, Bool.false_eq_true, decide_true, decide_false, bI_true, bI_false, one_ne, Nat.le_refl, Nat.lt_irrefl, cleT, cleF, cltT, cltF, ceqT, ceqF, ↓reduceIte, rLoaf, bakeG]
  have d2 : rLoaf y L k o age 89 = va_up (y 89) L (nI k) := by simp (disch := first | omega | assumption | exact Or.inl rfl | exact Or.inr rfl | exact bI_or _ | exact zC81 | exact zC47 | exact zC65 | exact zC0 | exact zC1 | exact zC32 | exact zC70 | exact zC73 | exact ztc (by assumption) | exact zdc (by assumption) | exact zpc (by assumption) | decide) only [Option.some.injEq, exists_eq_left', ex2, Option.toList, List.singleton_append, List.append_nil, List.cons_append, List.nil_append, nI_add, nI_addL, nI_Ladd, pk_mul, nI_mulL, nI_Lmul, nI_subL, pk_sub, nI_divL, sub_dm, nI_leE, nI_ltE, nI_eqE, nI_Lle, nI_leL, nI_Llt, nI_ltL, nI_eqL, va_up_self, va_up_ne, up_up, up_comm, nI_clamp, bI_eq0, not_true_eq_false, not_false_eq_true, Nat.reduceEqDiff, Nat.reduceLeDiff, Nat.reduceAdd, Nat.reduceMul, Nat.one_ne_zero, Nat.zero_ne_one, decide_eq_false_iff_not, decide_eq_true_eq, Bool.false_eq_true, decide_true, decide_false, bI_true, bI_false, one_ne, Nat.le_refl, Nat.lt_irrefl, cleT, cleF, cltT, cltF, ceqT, ceqF, ↓reduceIte, rLoaf, bakeG]
  have d3 : rLoaf y L k o age 90 = va_up (y 90) L age := by simp (disch := first | omega | assumption | exact Or.inl rfl | exact Or.inr rfl | exact bI_or _ | exact zC81 | exact zC47 | exact zC65 | exact zC0 | exact zC1 | exact zC32 | exact zC70 | exact zC73 | exact ztc (by assumption) | exact zdc (by assumption) | exact zpc (by assumption) | decide) only [Option.some.injEq, exists_eq_left', ex2, Option.toList, List.singleton_append, List.append_nil, List.cons_append, List.nil_append, nI_add, nI_addL, nI_Ladd, pk_mul, nI_mulL, nI_Lmul, nI_subL, pk_sub, nI_divL, sub_dm, nI_leE, nI_ltE, nI_eqE, nI_Lle, nI_leL, nI_Llt, nI_ltL, nI_eqL, va_up_self, va_up_ne, up_up, up_comm, nI_clamp, bI_eq0, not_true_eq_false, not_false_eq_true, Nat.reduceEqDiff, Nat.reduceLeDiff, Nat.reduceAdd, Nat.reduceMul, Nat.one_ne_zero, Nat.zero_ne_one, decide_eq_false_iff_not, decide_eq_true_eq, Bool.false_eq_true, decide_true, decide_false, bI_true, bI_false, one_ne, Nat.le_refl, Nat.lt_irrefl, cleT, cleF, cltT, cltF, ceqT, ceqF, ↓reduceIte, rLoaf, bakeG]
  have d4 : rLoaf y L k o age 91 = va_up (y 91) L 0 := by simp (disch := first | omega | assumption | exact Or.inl rfl | exact Or.inr rfl | exact bI_or _ | exact zC81 | exact zC47 | exact zC65 | exact zC0 | exact zC1 | exact zC32 | exact zC70 | exact zC73 | exact ztc (by assumption) | exact zdc (by assumption) | exact zpc (by assumption) | decide) only [Option.some.injEq, exists_eq_left', ex2, Option.toList, List.singleton_append, List.append_nil, List.cons_append, List.nil_append, nI_add, nI_addL, nI_Ladd, pk_mul, nI_mulL, nI_Lmul, nI_subL, pk_sub, nI_divL, sub_dm, nI_leE, nI_ltE, nI_eqE, nI_Lle, nI_leL, nI_Llt, nI_ltL, nI_eqL, va_up_self, va_up_ne, up_up, up_comm, nI_clamp, bI_eq0, not_true_eq_false, not_false_eq_true, Nat.reduceEqDiff, Nat.reduceLeDiff, Nat.reduceAdd, Nat.reduceMul, Nat.one_ne_zero, Nat.zero_ne_one, decide_eq_false_iff_not, decide_eq_true_eq, Bool.false_eq_true, decide_true, decide_false, bI_true, bI_false, one_ne, Nat.le_refl, Nat.lt_irrefl, cleT, cleF, cltT, cltF, ceqT, ceqF, ↓reduceIte, rLoaf, bakeG]
  have e : ∀ (f f' : Nat → Int32) (v : Int32), (∀ l, l < L → f l = f' l) → ∀ l, l < L + 1 → va_up f L v l = va_up f' L v l := by
    intro f f' v q l hl
    by_cases c : l = L
    · subst c
      rw [va_up_self, va_up_self]
    · rw [va_up_ne _ _ c, va_up_ne _ _ c, q l (by omega)]
  refine ⟨?_, ?_, ?_, ?_, ?_, ?_, ?_, ?_, ?_⟩
  · rw [b0, d0]
    exact h1
  · rw [a1 _ (by decide) (by decide), a2 _ (by decide) (by decide)]
    exact h2
  · intro l t hl ht
    rw [b1, d1]
    by_cases c : l = L
    · subst c
      rw [pk_cpy_in (by omega) (by omega), pk_cpy_in (by omega) (by omega)]
      have q : 0 + (6 * l + t - 6 * l) = t := by omega
      rw [q, h7 _ (by omega), h8 _ (by omega), h9 _ ho]
    · rw [pk_cpy_out (by omega), pk_cpy_out (by omega)]
      exact h3 l t (by omega) ht
  · rw [b2, d2]
    exact e _ _ _ h4
  · rw [b3, d3]
    exact e _ _ _ h5
  · rw [b4, d4]
    exact e _ _ _ h6
  · rw [a1 _ (by decide) (by decide), a2 _ (by decide) (by decide)]
    exact h7
  · rw [a1 _ (by decide) (by decide), a2 _ (by decide) (by decide)]
    exact h8
  · rw [a1 _ (by decide) (by decide), a2 _ (by decide) (by decide)]
    exact h9
theorem SR_eat {n L u l : Nat} {m : Int32} (h : SR n L x y) (hn : n ≤ 6) (hu : u < 8) (hl : l < L) : SR n L (eatG 56 57 60 x n u l m) (eatG 92 88 91 y n u l m) := by
  obtain ⟨h1, h2, h3, h4, h5, h6, h7, h8, h9⟩ := h
  have a1 : ∀ c, c ≠ 56 → c ≠ 60 → eatG 56 57 60 x n u l m c = x c := fun c q1 q2 => eatG_fr q1 q2
  have a2 : ∀ c, c ≠ 92 → c ≠ 91 → eatG 92 88 91 y n u l m c = y c := fun c q1 q2 => eatG_fr q1 q2
  have b1 : eatG 56 57 60 x n u l m 56 = va_cpy (fun t => nmF m (x 56 (6 * u + t)) (x 57 (6 * l + t))) (x 56) 0 (6 * u) n := by simp (disch := first | omega | assumption | exact Or.inl rfl | exact Or.inr rfl | exact bI_or _ | exact zC81 | exact zC47 | exact zC65 | exact zC0 | exact zC1 | exact zC32 | exact zC70 | exact zC73 | exact ztc (by assumption) | exact zdc (by assumption) | exact zpc (by assumption) | decide) only [Option.some.injEq, exists_eq_left', ex2, Option.toList, List.singleton_append, List.append_nil, List.cons_append, List.nil_append, nI_add, nI_addL, nI_Ladd, pk_mul, nI_mulL, nI_Lmul, nI_subL, pk_sub, nI_divL, sub_dm, nI_leE, nI_ltE, nI_eqE, nI_Lle, nI_leL, nI_Llt, nI_ltL, nI_eqL, va_up_self, va_up_ne, up_up, up_comm, nI_clamp, bI_eq0, not_true_eq_false, not_false_eq_true, Nat.reduceEqDiff, Nat.reduceLeDiff, Nat.reduceAdd, Nat.reduceMul, Nat.one_ne_zero, Nat.zero_ne_one, decide_eq_false_iff_not, decide_eq_true_eq, Bool.false_eq_true, decide_true, decide_false, bI_true, bI_false, one_ne, Nat.le_refl, Nat.lt_irrefl, cleT, cleF, cltT, cltF, ceqT, ceqF, ↓reduceIte, eatG]
  have b2 : eatG 56 57 60 x n u l m 60 = va_up (x 60) l 1 := by simp (disch := first | omega | assumption | exact Or.inl rfl | exact Or.inr rfl | exact bI_or _ | exact zC81 | exact zC47 | exact zC65 | exact zC0 | exact zC1 | exact zC32 | exact zC70 | exact zC73 | exact ztc (by assumption) | exact zdc (by assumption) | exact zpc (by assumption) | decide) only [Option.some.injEq, exists_eq_left', ex2, Option.toList, List.singleton_append, List.append_nil, List.cons_append, List.nil_append, nI_add, nI_addL, nI_Ladd, pk_mul, nI_mulL, nI_Lmul, nI_subL, pk_sub, nI_divL, sub_dm, nI_leE, nI_ltE, nI_eqE, nI_Lle, nI_leL, nI_Llt, nI_ltL, nI_eqL, va_up_self, va_up_ne, up_up, up_comm, nI_clamp, bI_eq0, not_true_eq_false, not_false_eq_true, Nat.reduceEqDiff, Nat.reduceLeDiff, Nat.reduceAdd, Nat.reduceMul, Nat.one_ne_zero, Nat.zero_ne_one, decide_eq_false_iff_not, decide_eq_true_eq, Bool.false_eq_true, decide_true, decide_false, bI_true, bI_false, one_ne, Nat.le_refl, Nat.lt_irrefl, cleT, cleF, cltT, cltF, ceqT, ceqF, ↓reduceIte, eatG]
  have d1 : eatG 92 88 91 y n u l m 92 = va_cpy (fun t => nmF m (y 92 (6 * u + t)) (y 88 (6 * l + t))) (y 92) 0 (6 * u) n := by simp (disch := first | omega | assumption | exact Or.inl rfl | exact Or.inr rfl | exact bI_or _ | exact zC81 | exact zC47 | exact zC65 | exact zC0 | exact zC1 | exact zC32 | exact zC70 | exact zC73 | exact ztc (by assumption) | exact zdc (by assumption) | exact zpc (by assumption) | decide) only [Option.some.injEq, exists_eq_left', ex2, Option.toList, List.singleton_append, List.append_nil, List.cons_append, List.nil_append, nI_add, nI_addL, nI_Ladd, pk_mul, nI_mulL, nI_Lmul, nI_subL, pk_sub, nI_divL, sub_dm, nI_leE, nI_ltE, nI_eqE, nI_Lle, nI_leL, nI_Llt, nI_ltL, nI_eqL, va_up_self, va_up_ne, up_up, up_comm, nI_clamp, bI_eq0, not_true_eq_false, not_false_eq_true, Nat.reduceEqDiff, Nat.reduceLeDiff, Nat.reduceAdd, Nat.reduceMul, Nat.one_ne_zero, Nat.zero_ne_one, decide_eq_false_iff_not, decide_eq_true_eq, Bool.false_eq_true, decide_true, decide_false, bI_true, bI_false, one_ne, Nat.le_refl, Nat.lt_irrefl, cleT, cleF, cltT, cltF, ceqT, ceqF, ↓reduceIte, eatG]
  have d2 : eatG 92 88 91 y n u l m 91 = va_up (y 91) l 1 := by simp (disch := first | omega | assumption | exact Or.inl rfl | exact Or.inr rfl | exact bI_or _ | exact zC81 | exact zC47 | exact zC65 | exact zC0 | exact zC1 | exact zC32 | exact zC70 | exact zC73 | exact ztc (by assumption) | exact zdc (by assumption) | exact zpc (by assumption) | decide) only [Option.some.injEq, exists_eq_left', ex2, Option.toList, List.singleton_append, List.append_nil, List.cons_append, List.nil_append, nI_add, nI_addL, nI_Ladd, pk_mul, nI_mulL, nI_Lmul, nI_subL, pk_sub, nI_divL, sub_dm, nI_leE, nI_ltE, nI_eqE, nI_Lle, nI_leL, nI_Llt, nI_ltL, nI_eqL, va_up_self, va_up_ne, up_up, up_comm, nI_clamp, bI_eq0, not_true_eq_false, not_false_eq_true, Nat.reduceEqDiff, Nat.reduceLeDiff, Nat.reduceAdd, Nat.reduceMul, Nat.one_ne_zero, Nat.zero_ne_one, decide_eq_false_iff_not, decide_eq_true_eq, Bool.false_eq_true, decide_true, decide_false, bI_true, bI_false, one_ne, Nat.le_refl, Nat.lt_irrefl, cleT, cleF, cltT, cltF, ceqT, ceqF, ↓reduceIte, eatG]
  refine ⟨?_, ?_, ?_, ?_, ?_, ?_, ?_, ?_, ?_⟩
  · rw [a1 _ (by decide) (by decide), a2 _ (by decide) (by decide)]
    exact h1
  · rw [b1, d1]
    refine cpy_eq h2 ?_
    intro t ht
    rw [h2 _ (by omega), h3 l t hl ht]
  · rw [a1 _ (by decide) (by decide), a2 _ (by decide) (by decide)]
    exact h3
  · rw [a1 _ (by decide) (by decide), a2 _ (by decide) (by decide)]
    exact h4
  · rw [a1 _ (by decide) (by decide), a2 _ (by decide) (by decide)]
    exact h5
  · rw [b2, d2]
    exact up_eq h6 rfl
  · rw [a1 _ (by decide) (by decide), a2 _ (by decide) (by decide)]
    exact h7
  · rw [a1 _ (by decide) (by decide), a2 _ (by decide) (by decide)]
    exact h8
  · rw [a1 _ (by decide) (by decide), a2 _ (by decide) (by decide)]
    exact h9
theorem SR_talk {n L o : Nat} {m m' : Nat → Int32} (h : SR n L x y) (hn : n ≤ 6) (ho : o < 4) (hm : ∀ t, t < n → m t = m' t) : SR n L (it (talkS 61 62 63 m o) n x) (it (talkS 85 86 87 m' o) n y) := by
  refine it_rel (n := n) (fun _ x y => SR n L x y) h ?_ n (Nat.le_refl n)
  intro t x y ht hR
  unfold talkS
  rw [← hm t ht]
  by_cases c : m t = 0
  · rw [if_pos c, if_pos c]
    exact hR
  · rw [if_neg c, if_neg c]
    exact SR_says hR ho (by omega)
theorem SR_night {n L : Nat} (h : SR n L x y) : SR n L (va_up (ageG 59 x L) 47 (va_up (x 47) 4 (x 47 4 + 1))) (va_up (ageG 90 y L) 81 (va_up (y 81) 24 (y 81 24 + 1))) := by
  obtain ⟨h1, h2, h3, h4, h5, h6, h7, h8, h9⟩ := h
  unfold ageG
  refine ⟨?_, ?_, ?_, ?_, ?_, ?_, ?_, ?_, ?_⟩
  · simp (disch := first | omega | assumption | exact Or.inl rfl | exact Or.inr rfl | exact bI_or _ | exact zC81 | exact zC47 | exact zC65 | exact zC0 | exact zC1 | exact zC32 | exact zC70 | exact zC73 | exact ztc (by assumption) | exact zdc (by assumption) | exact zpc (by assumption) | decide) only [Option.some.injEq, exists_eq_left', ex2, Option.toList, List.singleton_append, List.append_nil, List.cons_append, List.nil_append, nI_add, nI_addL, nI_Ladd, pk_mul, nI_mulL, nI_Lmul, nI_subL, pk_sub, nI_divL, sub_dm, nI_leE, nI_ltE, nI_eqE, nI_Lle, nI_leL, nI_Llt, nI_ltL, nI_eqL, va_up_self, va_up_ne, up_up, up_comm, nI_clamp, bI_eq0, not_true_eq_false, not_false_eq_true, Nat.reduceEqDiff, Nat.reduceLeDiff, Nat.reduceAdd, Nat.reduceMul, Nat.one_ne_zero, Nat.zero_ne_one, decide_eq_false_iff_not, decide_eq_true_eq, Bool.false_eq_true, decide_true, decide_false, bI_true, bI_false, one_ne, Nat.le_refl, Nat.lt_irrefl, cleT, cleF, cltT, cltF, ceqT, ceqF, ↓reduceIte, h1]
  · simp (disch := first | omega | assumption | exact Or.inl rfl | exact Or.inr rfl | exact bI_or _ | exact zC81 | exact zC47 | exact zC65 | exact zC0 | exact zC1 | exact zC32 | exact zC70 | exact zC73 | exact ztc (by assumption) | exact zdc (by assumption) | exact zpc (by assumption) | decide) only [Option.some.injEq, exists_eq_left', ex2, Option.toList, List.singleton_append, List.append_nil, List.cons_append, List.nil_append, nI_add, nI_addL, nI_Ladd, pk_mul, nI_mulL, nI_Lmul, nI_subL, pk_sub, nI_divL, sub_dm, nI_leE, nI_ltE, nI_eqE, nI_Lle, nI_leL, nI_Llt, nI_ltL, nI_eqL, va_up_self, va_up_ne, up_up, up_comm, nI_clamp, bI_eq0, not_true_eq_false, not_false_eq_true, Nat.reduceEqDiff, Nat.reduceLeDiff, Nat.reduceAdd, Nat.reduceMul, Nat.one_ne_zero, Nat.zero_ne_one, decide_eq_false_iff_not, decide_eq_true_eq, Bool.false_eq_true, decide_true, decide_false, bI_true, bI_false, one_ne, Nat.le_refl, Nat.lt_irrefl, cleT, cleF, cltT, cltF, ceqT, ceqF, ↓reduceIte]
    exact h2
  · simp (disch := first | omega | assumption | exact Or.inl rfl | exact Or.inr rfl | exact bI_or _ | exact zC81 | exact zC47 | exact zC65 | exact zC0 | exact zC1 | exact zC32 | exact zC70 | exact zC73 | exact ztc (by assumption) | exact zdc (by assumption) | exact zpc (by assumption) | decide) only [Option.some.injEq, exists_eq_left', ex2, Option.toList, List.singleton_append, List.append_nil, List.cons_append, List.nil_append, nI_add, nI_addL, nI_Ladd, pk_mul, nI_mulL, nI_Lmul, nI_subL, pk_sub, nI_divL, sub_dm, nI_leE, nI_ltE, nI_eqE, nI_Lle, nI_leL, nI_Llt, nI_ltL, nI_eqL, va_up_self, va_up_ne, up_up, up_comm, nI_clamp, bI_eq0, not_true_eq_false, not_false_eq_true, Nat.reduceEqDiff, Nat.reduceLeDiff, Nat.reduceAdd, Nat.reduceMul, Nat.one_ne_zero, Nat.zero_ne_one, decide_eq_false_iff_not, decide_eq_true_eq, Bool.false_eq_true, decide_true, decide_false, bI_true, bI_false, one_ne, Nat.le_refl, Nat.lt_irrefl, cleT, cleF, cltT, cltF, ceqT, ceqF, ↓reduceIte]
    exact h3
  · simp (disch := first | omega | assumption | exact Or.inl rfl | exact Or.inr rfl | exact bI_or _ | exact zC81 | exact zC47 | exact zC65 | exact zC0 | exact zC1 | exact zC32 | exact zC70 | exact zC73 | exact ztc (by assumption) | exact zdc (by assumption) | exact zpc (by assumption) | decide) only [Option.some.injEq, exists_eq_left', ex2, Option.toList, List.singleton_append, List.append_nil, List.cons_append, List.nil_append, nI_add, nI_addL, nI_Ladd, pk_mul, nI_mulL, nI_Lmul, nI_subL, pk_sub, nI_divL, sub_dm, nI_leE, nI_ltE, nI_eqE, nI_Lle, nI_leL, nI_Llt, nI_ltL, nI_eqL, va_up_self, va_up_ne, up_up, up_comm, nI_clamp, bI_eq0, not_true_eq_false, not_false_eq_true, Nat.reduceEqDiff, Nat.reduceLeDiff, Nat.reduceAdd, Nat.reduceMul, Nat.one_ne_zero, Nat.zero_ne_one, decide_eq_false_iff_not, decide_eq_true_eq, Bool.false_eq_true, decide_true, decide_false, bI_true, bI_false, one_ne, Nat.le_refl, Nat.lt_irrefl, cleT, cleF, cltT, cltF, ceqT, ceqF, ↓reduceIte]
    exact h4
  · simp (disch := first | omega | assumption | exact Or.inl rfl | exact Or.inr rfl | exact bI_or _ | exact zC81 | exact zC47 | exact zC65 | exact zC0 | exact zC1 | exact zC32 | exact zC70 | exact zC73 | exact ztc (by assumption) | exact zdc (by assumption) | exact zpc (by assumption) | decide) only [Option.some.injEq, exists_eq_left', ex2, Option.toList, List.singleton_append, List.append_nil, List.cons_append, List.nil_append, nI_add, nI_addL, nI_Ladd, pk_mul, nI_mulL, nI_Lmul, nI_subL, pk_sub, nI_divL, sub_dm, nI_leE, nI_ltE, nI_eqE, nI_Lle, nI_leL, nI_Llt, nI_ltL, nI_eqL, va_up_self, va_up_ne, up_up, up_comm, nI_clamp, bI_eq0, not_true_eq_false, not_false_eq_true, Nat.reduceEqDiff, Nat.reduceLeDiff, Nat.reduceAdd, Nat.reduceMul, Nat.one_ne_zero, Nat.zero_ne_one, decide_eq_false_iff_not, decide_eq_true_eq, Bool.false_eq_true, decide_true, decide_false, bI_true, bI_false, one_ne, Nat.le_refl, Nat.lt_irrefl, cleT, cleF, cltT, cltF, ceqT, ceqF, ↓reduceIte]
    refine cpy_eq h5 ?_
    intro j hj
    rw [h5 j hj]
  · simp (disch := first | omega | assumption | exact Or.inl rfl | exact Or.inr rfl | exact bI_or _ | exact zC81 | exact zC47 | exact zC65 | exact zC0 | exact zC1 | exact zC32 | exact zC70 | exact zC73 | exact ztc (by assumption) | exact zdc (by assumption) | exact zpc (by assumption) | decide) only [Option.some.injEq, exists_eq_left', ex2, Option.toList, List.singleton_append, List.append_nil, List.cons_append, List.nil_append, nI_add, nI_addL, nI_Ladd, pk_mul, nI_mulL, nI_Lmul, nI_subL, pk_sub, nI_divL, sub_dm, nI_leE, nI_ltE, nI_eqE, nI_Lle, nI_leL, nI_Llt, nI_ltL, nI_eqL, va_up_self, va_up_ne, up_up, up_comm, nI_clamp, bI_eq0, not_true_eq_false, not_false_eq_true, Nat.reduceEqDiff, Nat.reduceLeDiff, Nat.reduceAdd, Nat.reduceMul, Nat.one_ne_zero, Nat.zero_ne_one, decide_eq_false_iff_not, decide_eq_true_eq, Bool.false_eq_true, decide_true, decide_false, bI_true, bI_false, one_ne, Nat.le_refl, Nat.lt_irrefl, cleT, cleF, cltT, cltF, ceqT, ceqF, ↓reduceIte]
    exact h6
  · simp (disch := first | omega | assumption | exact Or.inl rfl | exact Or.inr rfl | exact bI_or _ | exact zC81 | exact zC47 | exact zC65 | exact zC0 | exact zC1 | exact zC32 | exact zC70 | exact zC73 | exact ztc (by assumption) | exact zdc (by assumption) | exact zpc (by assumption) | decide) only [Option.some.injEq, exists_eq_left', ex2, Option.toList, List.singleton_append, List.append_nil, List.cons_append, List.nil_append, nI_add, nI_addL, nI_Ladd, pk_mul, nI_mulL, nI_Lmul, nI_subL, pk_sub, nI_divL, sub_dm, nI_leE, nI_ltE, nI_eqE, nI_Lle, nI_leL, nI_Llt, nI_ltL, nI_eqL, va_up_self, va_up_ne, up_up, up_comm, nI_clamp, bI_eq0, not_true_eq_false, not_false_eq_true, Nat.reduceEqDiff, Nat.reduceLeDiff, Nat.reduceAdd, Nat.reduceMul, Nat.one_ne_zero, Nat.zero_ne_one, decide_eq_false_iff_not, decide_eq_true_eq, Bool.false_eq_true, decide_true, decide_false, bI_true, bI_false, one_ne, Nat.le_refl, Nat.lt_irrefl, cleT, cleF, cltT, cltF, ceqT, ceqF, ↓reduceIte]
    exact h7
  · simp (disch := first | omega | assumption | exact Or.inl rfl | exact Or.inr rfl | exact bI_or _ | exact zC81 | exact zC47 | exact zC65 | exact zC0 | exact zC1 | exact zC32 | exact zC70 | exact zC73 | exact ztc (by assumption) | exact zdc (by assumption) | exact zpc (by assumption) | decide) only [Option.some.injEq, exists_eq_left', ex2, Option.toList, List.singleton_append, List.append_nil, List.cons_append, List.nil_append, nI_add, nI_addL, nI_Ladd, pk_mul, nI_mulL, nI_Lmul, nI_subL, pk_sub, nI_divL, sub_dm, nI_leE, nI_ltE, nI_eqE, nI_Lle, nI_leL, nI_Llt, nI_ltL, nI_eqL, va_up_self, va_up_ne, up_up, up_comm, nI_clamp, bI_eq0, not_true_eq_false, not_false_eq_true, Nat.reduceEqDiff, Nat.reduceLeDiff, Nat.reduceAdd, Nat.reduceMul, Nat.one_ne_zero, Nat.zero_ne_one, decide_eq_false_iff_not, decide_eq_true_eq, Bool.false_eq_true, decide_true, decide_false, bI_true, bI_false, one_ne, Nat.le_refl, Nat.lt_irrefl, cleT, cleF, cltT, cltF, ceqT, ceqF, ↓reduceIte]
    exact h8
  · simp (disch := first | omega | assumption | exact Or.inl rfl | exact Or.inr rfl | exact bI_or _ | exact zC81 | exact zC47 | exact zC65 | exact zC0 | exact zC1 | exact zC32 | exact zC70 | exact zC73 | exact ztc (by assumption) | exact zdc (by assumption) | exact zpc (by assumption) | decide) only [Option.some.injEq, exists_eq_left', ex2, Option.toList, List.singleton_append, List.append_nil, List.cons_append, List.nil_append, nI_add, nI_addL, nI_Ladd, pk_mul, nI_mulL, nI_Lmul, nI_subL, pk_sub, nI_divL, sub_dm, nI_leE, nI_ltE, nI_eqE, nI_Lle, nI_leL, nI_Llt, nI_ltL, nI_eqL, va_up_self, va_up_ne, up_up, up_comm, nI_clamp, bI_eq0, not_true_eq_false, not_false_eq_true, Nat.reduceEqDiff, Nat.reduceLeDiff, Nat.reduceAdd, Nat.reduceMul, Nat.one_ne_zero, Nat.zero_ne_one, decide_eq_false_iff_not, decide_eq_true_eq, Bool.false_eq_true, decide_true, decide_false, bI_true, bI_false, one_ne, Nat.le_refl, Nat.lt_irrefl, cleT, cleF, cltT, cltF, ceqT, ceqF, ↓reduceIte]
    exact h9
/-- life, votes, stubbornness as both have them -/
def TR (a t0 h : Nat) (x y : hS) : Prop := x a 1 = y 82 (t0 + 1) ∧ 0 ≤ x a 1 ∧ (∀ u, u < h → x (a + 1) u = y 82 (t0 + 5 + u)) ∧ (∀ u, u < h → x (a + 2) u = y 82 (t0 + 13 + u))
theorem fate_eq {e age life k : Int32} (hl : 0 ≤ life) : fateF e age life k = fateR e age life k := by
  unfold fateF fateR
  by_cases c1 : e = 0
  · rw [if_pos c1, if_pos c1]
    by_cases c2 : age = 0
    · subst c2
      rw [if_pos hl, if_pos rfl, if_pos rfl]
    · rw [if_neg c2, if_neg c2]
      by_cases c3 : age ≤ life
      · rw [if_pos c3, if_pos c3]
        split <;> rfl
      · rw [if_neg c3, if_neg c3]
  · rw [if_neg c1, if_neg c1]
theorem agF_eq {n : Nat} {m m' v v' : Nat → Int32} {st : Int32} (hm : ∀ t, t < n → m t = m' t) (hv : ∀ t, t < n → v t = v' t) : agF n m v st = agF n m' v' st := by
  unfold agF
  have q : it (agS m v) n (0, true) = it (agS m' v') n (0, true) := it_congr (fun t p ht => by unfold agS; rw [hm t ht, hv t ht])
  rw [q]
theorem Ag_eq {a t0 n h L u l : Nat} (hR : SR n L x y) (hT : TR a t0 h x y) (hn : n ≤ 6) (hu : u < h) (hh : h ≤ 8) (hl : l < L) : cAg x a n u l = rAg y t0 n u l := by
  unfold cAg rAg
  rw [hT.2.2.2 u hu]
  exact agF_eq (fun t ht => hR.2.1 _ (by omega)) (fun t ht => hR.2.2.1 l t hl ht)
theorem Fate_eq {a t0 n h L l : Nat} (hR : SR n L x y) (hT : TR a t0 h x y) (hl : l < L) : fateF (x 60 l) (x 59 l) (x a 1) (x 58 l) = fateR (y 91 l) (y 90 l) (y 82 (t0 + 1)) (y 89 l) := by
  rw [fate_eq hT.2.1, hT.1, hR.2.2.2.1 l hl, hR.2.2.2.2.1 l hl, hR.2.2.2.2.2.1 l hl]
theorem go1_eq {a t0 n h L k u w : Nat} (hR : SR n L x y) (hT : TR a t0 h x y) (hn : n ≤ 6) (hh : h ≤ 8) : goC1 x a n h L k u w = goR1 y t0 n h L k u w := by
  unfold goC1 goR1
  have q : cGive x a n h L u w = rGive y t0 n h L u w := by
    unfold cGive rGive
    by_cases c1 : u < h
    · by_cases c2 : w < L
      · unfold cMay rMay
        rw [Ag_eq hR hT hn c1 hh c2, Fate_eq hR hT c2]
      · rw [decide_eq_false c2, Bool.and_false, Bool.false_and, Bool.false_and]
    · rw [decide_eq_false c1, Bool.false_and, Bool.false_and, Bool.false_and]
  rw [q]
theorem go2_eq {a n h L k u w : Nat} {A B v : Int32} (hR : SR n L x y) (hd : dv k A B u w) (hg : goC1 x a n h L k u w = true) (hn : n ≤ 6) : SR n (if k = 1 then L + 1 else L) (goC2 x n L k u w v) (goR2 y n L k u w v) := by
  obtain ⟨hk, hAB, d0, d1, d2, d3, d4⟩ := hd
  unfold goC2 goR2
  have hk2 : k = 0 ∨ k = 1 ∨ k = 2 ∨ k = 3 ∨ k = 4 ∨ k = 5 := by omega
  rcases hk2 with rfl | rfl | rfl | rfl | rfl | rfl
  · exact SR_says hR (d0 rfl).1 (d0 rfl).2
  · exact SR_loaf hR hn (d1 rfl).2
  · have q : (decide (u < h) && decide (w < L) && cMay x a n u w) = true := hg
    rw [Bool.and_eq_true_iff, Bool.and_eq_true_iff, decide_eq_true_eq, decide_eq_true_eq] at q
    exact SR_eat hR hn (d2 rfl).1 q.1.2
  · have q : (decide (u < h) && decide (w < L) && cMay x a n u w) = true := hg
    rw [Bool.and_eq_true_iff, Bool.and_eq_true_iff, decide_eq_true_eq, decide_eq_true_eq] at q
    exact SR_eat hR hn (d3 rfl).1 q.1.2
  · have q := (d4 rfl).1
    exact SR_talk hR hn (d4 rfl).2 (fun t ht => hR.2.1 _ (by omega))
  · exact SR_night hR
theorem SR_done {n L : Nat} {v : Int32} (h : SR n L x y) : SR n L x (va_up y 81 (va_up (y 81) 25 v)) := by
  obtain ⟨h1, h2, h3, h4, h5, h6, h7, h8, h9⟩ := h
  refine ⟨?_, ?_, ?_, ?_, ?_, ?_, ?_, ?_, ?_⟩
  · simp (disch := first | omega | assumption | exact Or.inl rfl | exact Or.inr rfl | exact bI_or _ | exact zC81 | exact zC47 | exact zC65 | exact zC0 | exact zC1 | exact zC32 | exact zC70 | exact zC73 | exact ztc (by assumption) | exact zdc (by assumption) | exact zpc (by assumption) | decide) only [Option.some.injEq, exists_eq_left', ex2, Option.toList, List.singleton_append, List.append_nil, List.cons_append, List.nil_append, nI_add, nI_addL, nI_Ladd, pk_mul, nI_mulL, nI_Lmul, nI_subL, pk_sub, nI_divL, sub_dm, nI_leE, nI_ltE, nI_eqE, nI_Lle, nI_leL, nI_Llt, nI_ltL, nI_eqL, va_up_self, va_up_ne, up_up, up_comm, nI_clamp, bI_eq0, not_true_eq_false, not_false_eq_true, Nat.reduceEqDiff, Nat.reduceLeDiff, Nat.reduceAdd, Nat.reduceMul, Nat.one_ne_zero, Nat.zero_ne_one, decide_eq_false_iff_not, decide_eq_true_eq, Bool.false_eq_true, decide_true, decide_false, bI_true, bI_false, one_ne, Nat.le_refl, Nat.lt_irrefl, cleT, cleF, cltT, cltF, ceqT, ceqF, ↓reduceIte, h1]
  all_goals (simp (disch := first | omega | assumption | exact Or.inl rfl | exact Or.inr rfl | exact bI_or _ | exact zC81 | exact zC47 | exact zC65 | exact zC0 | exact zC1 | exact zC32 | exact zC70 | exact zC73 | exact ztc (by assumption) | exact zdc (by assumption) | exact zpc (by assumption) | decide) only [Option.some.injEq, exists_eq_left', ex2, Option.toList, List.singleton_append, List.append_nil, List.cons_append, List.nil_append, nI_add, nI_addL, nI_Ladd, pk_mul, nI_mulL, nI_Lmul, nI_subL, pk_sub, nI_divL, sub_dm, nI_leE, nI_ltE, nI_eqE, nI_Lle, nI_leL, nI_Llt, nI_ltL, nI_eqL, va_up_self, va_up_ne, up_up, up_comm, nI_clamp, bI_eq0, not_true_eq_false, not_false_eq_true, Nat.reduceEqDiff, Nat.reduceLeDiff, Nat.reduceAdd, Nat.reduceMul, Nat.one_ne_zero, Nat.zero_ne_one, decide_eq_false_iff_not, decide_eq_true_eq, Bool.false_eq_true, decide_true, decide_false, bI_true, bI_false, one_ne, Nat.le_refl, Nat.lt_irrefl, cleT, cleF, cltT, cltF, ceqT, ceqF, ↓reduceIte]; assumption)
/-- days on both sides -/
theorem live_eq {x0 y0 : hS} {a t0 n h D : Nat} {dk dx dy : Nat → Nat} {dA dB dC : Nat → Int32} (hTR : ∀ x y, (∀ c, 1 ≤ c ∧ c < 47 → x c = x0 c) → y 82 = y0 82 → TR a t0 h x y) (hd : ∀ i, i < D → dv (dk i) (dA i) (dB i) (dx i) (dy i)) : ∀ (k i : Nat) (x y : hS), i + k ≤ D → CI x0 x a n h → RI y0 y t0 n h → lvC x = lvR y → SR n (lvC x) x y → y 81 25 = nI i → (liveF (stC a n h dk dx dy dC) k i x).1 = (liveF (stR t0 n h dk dx dy dC) k i y).1 ∧ lvC (liveF (stC a n h dk dx dy dC) k i x).2 = lvR (liveF (stR t0 n h dk dx dy dC) k i y).2 ∧ SR n (lvC (liveF (stC a n h dk dx dy dC) k i x).2) (liveF (stC a n h dk dx dy dC) k i x).2 (liveF (stR t0 n h dk dx dy dC) k i y).2 ∧ RI y0 (liveF (stR t0 n h dk dx dy dC) k i y).2 t0 n h ∧ (liveF (stR t0 n h dk dx dy dC) k i y).2 81 25 = nI (liveF (stR t0 n h dk dx dy dC) k i y).1 := by
  intro k
  induction k with
  | zero => exact fun i x y _ hC hRI hl hS h25 => ⟨rfl, hl, hS, hRI, h25⟩
  | succ k ih =>
    intro i x y hi hC hRI hl hS h25
    have hn : n ≤ 6 := hC.1.2.2.2.2.1
    have hh : h ≤ 8 := hC.1.2.2.2.2.2.2
    have hT : TR a t0 h x y := hTR x y (fun c hc => hC.2.2.2 c (by omega)) (hRI.2.2.2.1 82 (by omega))
    have q : goC1 x a n h (lvC x) (dk i) (dx i) (dy i) = goR1 y t0 n h (lvR y) (dk i) (dx i) (dy i) := by
      rw [← hl]
      exact go1_eq hS hT hn hh
    have e1 : liveF (stC a n h dk dx dy dC) (k + 1) i x = if goC1 x a n h (lvC x) (dk i) (dx i) (dy i) = true then liveF (stC a n h dk dx dy dC) k (i + 1) (goC2 x n (lvC x) (dk i) (dx i) (dy i) (dC i)) else (i, x) := rfl
    have e2 : liveF (stR t0 n h dk dx dy dC) (k + 1) i y = if goR1 y t0 n h (lvR y) (dk i) (dx i) (dy i) = true then liveF (stR t0 n h dk dx dy dC) k (i + 1) (va_up (goR2 y n (lvR y) (dk i) (dx i) (dy i) (dC i)) 81 (va_up (goR2 y n (lvR y) (dk i) (dx i) (dy i) (dC i) 81) 25 (nI (i + 1)))) else (i, y) := rfl
    rw [e1, e2, ← q]
    by_cases c : goC1 x a n h (lvC x) (dk i) (dx i) (dy i) = true
    · rw [if_pos c, if_pos c]
      have cR : goR1 y t0 n h (lvR y) (dk i) (dx i) (dy i) = true := q ▸ c
      have w := go2_eq (v := dC i) hS (hd i (by omega)) c hn
      have w1 := CI_go (v := dC i) hC c
      have w2 := RI_go (v := dC i) hRI cR
      have b : (if dk i = 1 then lvC x + 1 else lvC x) ≤ 16 := by
        by_cases c1 : dk i = 1
        · rw [if_pos c1]
          rw [c1] at c
          have z : lvC x < 16 := of_decide_eq_true c
          omega
        · rw [if_neg c1]
          exact hC.2.2.1
      have g1 : lvC (goC2 x n (lvC x) (dk i) (dx i) (dy i) (dC i)) = (if dk i = 1 then lvC x + 1 else lvC x) := lvC_of (goC2_1 hC.2.1) b
      have g2 : lvR (goR2 y n (lvR y) (dk i) (dx i) (dy i) (dC i)) = (if dk i = 1 then lvC x + 1 else lvC x) := by
        rw [hl] at b ⊢
        exact lvR_of (goR2_23 hRI.2.1) b
      refine ih (i + 1) _ _ (by omega) w1 (RI_done w2) ?_ ?_ (by rw [va_up_self, va_up_self])
      · rw [g1, ← g2]
        unfold lvR
        rw [va_up_self, va_up_ne _ _ (by decide)]
      · rw [g1, ← hl]
        exact SR_done w
    · rw [if_neg c, if_neg c]
      exact ⟨rfl, hl, hS, hRI, h25⟩
end SSA
