/-! FEAST: the reference goes on, put together -/
section OR7
variable {xs : Nat → Int32} {sl d : Nat} {J : hJk} {s x y : hS} {g : hG}
theorem pvF_le (f : Nat → Nat) : ∀ n, pvF f n ≤ n := by
  intro n
  induction n with
  | zero => exact Nat.le_refl 0
  | succ n ih =>
    rw [pvF_s]
    cases Nat.blt (f (n + 1)) (f n)
    · exact Nat.le_refl _
    · exact Nat.le_succ_of_le ih
theorem lgF_le (f : Nat → Nat) (x : Nat) : ∀ n, lgF f x n ≤ n := by
  intro n
  induction n with
  | zero => exact Nat.le_refl 0
  | succ n ih =>
    rw [lgF_s]
    cases Nat.blt (f (n + 1)) x
    · exact Nat.le_refl _
    · exact Nat.le_succ_of_le ih
theorem rf_goesOn0 {n : Nat} {f : Nat → Nat} (hn : n ≤ 8) (h2 : 2 ≤ n) (hf : ∀ i, i < n → s 96 i = nI (f i) ∧ f i < 8) (hp0 : pvF f (n - 1) = 0) : Runs xs sl (d+1) 240 0 [some (.ref (81)), some (.int ( nI n)), none, none, none, none] [] (hp J (s) g) (some (.int 0), hp J s g) := by
  have e : nI (n - 2) = nI (n - 1) + -1 := by
    have e2 : n - 1 = (n - 2) + 1 := by omega
    rw [e2]
    exact (nI_dec _).symm
  simp (disch := first | omega | assumption | exact Or.inl rfl | exact Or.inr rfl | exact bI_or _ | exact zC81 | exact zC47 | exact zC65 | exact zC0 | exact zC1 | exact zC32 | exact zC70 | exact zC73 | exact ztc (by assumption) | exact zdc (by assumption) | exact zpc (by assumption) | decide) only [Option.some.injEq, exists_eq_left', ex2, Option.toList, List.singleton_append, List.append_nil, List.cons_append, List.nil_append, nI_add, nI_addL, nI_Ladd, pk_mul, nI_mulL, nI_Lmul, nI_subL, pk_sub, nI_divL, sub_dm, nI_leE, nI_ltE, nI_eqE, nI_Lle, nI_leL, nI_Llt, nI_ltL, nI_eqL, va_up_self, va_up_ne, up_up, up_comm, nI_clamp, bI_eq0, not_true_eq_false, not_false_eq_true, Nat.reduceEqDiff, Nat.reduceLeDiff, Nat.reduceAdd, Nat.reduceMul, Nat.one_ne_zero, Nat.zero_ne_one, decide_eq_false_iff_not, decide_eq_true_eq, Bool.false_eq_true, decide_true, decide_false, bI_true, bI_false, one_ne, Nat.le_refl, Nat.lt_irrefl, cleT, cleF, cltT, cltF, ceqT, ceqF, ↓reduceIte, r240_0, r240_1, r240_2, r240_3]
  rw [e]
  refine rf_pivot hn hf (n - 1) (by omega) _ ?_
  rw [hp0]
  have z1 : ¬ 0 ≤ nI 0 + -1 := by decide
  generalize nI 0 + -1 = w at *
  simp (disch := first | omega | assumption | exact Or.inl rfl | exact Or.inr rfl | exact bI_or _ | exact zC81 | exact zC47 | exact zC65 | exact zC0 | exact zC1 | exact zC32 | exact zC70 | exact zC73 | exact ztc (by assumption) | exact zdc (by assumption) | exact zpc (by assumption) | decide) only [Option.some.injEq, exists_eq_left', ex2, Option.toList, List.singleton_append, List.append_nil, List.cons_append, List.nil_append, nI_add, nI_addL, nI_Ladd, pk_mul, nI_mulL, nI_Lmul, nI_subL, pk_sub, nI_divL, sub_dm, nI_leE, nI_ltE, nI_eqE, nI_Lle, nI_leL, nI_Llt, nI_ltL, nI_eqL, va_up_self, va_up_ne, up_up, up_comm, nI_clamp, bI_eq0, not_true_eq_false, not_false_eq_true, Nat.reduceEqDiff, Nat.reduceLeDiff, Nat.reduceAdd, Nat.reduceMul, Nat.one_ne_zero, Nat.zero_ne_one, decide_eq_false_iff_not, decide_eq_true_eq, Bool.false_eq_true, decide_true, decide_false, bI_true, bI_false, one_ne, Nat.le_refl, Nat.lt_irrefl, cleT, cleF, cltT, cltF, ceqT, ceqF, ↓reduceIte, r240_31, r240_32, r240_35, r240_36, z1]
theorem rf_goesOn1 {n p : Nat} {f : Nat → Nat} (hn : n ≤ 8) (hf : ∀ i, i < n → s 96 i = nI (f i) ∧ f i < 8) (hp1 : pvF f (n - 1) = p + 1) : ∃ s' : hS, Runs xs sl (d+1) 240 0 [some (.ref (81)), some (.int ( nI n)), none, none, none, none] [] (hp J (s) g) (some (.int 1), hp J s' g) ∧ (∀ c, c ≠ 96 → s' c = s c) ∧ ∀ q, q < n → s' 96 q = nI (swF f p (lgF f (f p) (n - 1)) (if q ≤ p then q else p + n - q)) := by
  have le := pvF_le f (n - 1)
  have le2 := lgF_le f (f p) (n - 1)
  have e : nI (n - 2) = nI (n - 1) + -1 := by
    have e2 : n - 1 = (n - 2) + 1 := by omega
    rw [e2]
    exact (nI_dec _).symm
  generalize hj : lgF f (f p) (n - 1) = j at *
  have sw := @rf_swaps xs sl d J s g p j (by omega) (by omega)
  obtain ⟨s1, t1, t2, t3⟩ := @rf_turn xs sl d J (swS s p j) g n p (fun q => nI (swF f p j q)) (some (.int (nI p))) (nI j) hn (by omega) (by
    intro q hq
    rw [swS, va_up_self]
    unfold swF
    by_cases c1 : q = j
    · subst c1
      rw [va_up_self, (hf p (by omega)).1, Nat.beq_refl, cond_true]
    · have b1 : Nat.beq q j = false := by
        cases h : Nat.beq q j with
        | true => exact absurd (Nat.eq_of_beq_eq_true h) c1
        | false => rfl
      rw [va_up_ne _ _ c1, b1, cond_false]
      by_cases c2 : q = p
      · subst c2
        rw [va_up_self, (hf j (by omega)).1, Nat.beq_refl, cond_true]
      · have b2 : Nat.beq q p = false := by
          cases h : Nat.beq q p with
          | true => exact absurd (Nat.eq_of_beq_eq_true h) c2
          | false => rfl
        rw [va_up_ne _ _ c2, b2, cond_false, (hf q hq).1])
  refine ⟨s1, ?_, fun c hc => ?_, t3⟩
  · simp (disch := first | omega | assumption | exact Or.inl rfl | exact Or.inr rfl | exact bI_or _ | exact zC81 | exact zC47 | exact zC65 | exact zC0 | exact zC1 | exact zC32 | exact zC70 | exact zC73 | exact ztc (by assumption) | exact zdc (by assumption) | exact zpc (by assumption) | decide) only [Option.some.injEq, exists_eq_left', ex2, Option.toList, List.singleton_append, List.append_nil, List.cons_append, List.nil_append, nI_add, nI_addL, nI_Ladd, pk_mul, nI_mulL, nI_Lmul, nI_subL, pk_sub, nI_divL, sub_dm, nI_leE, nI_ltE, nI_eqE, nI_Lle, nI_leL, nI_Llt, nI_ltL, nI_eqL, va_up_self, va_up_ne, up_up, up_comm, nI_clamp, bI_eq0, not_true_eq_false, not_false_eq_true, Nat.reduceEqDiff, Nat.reduceLeDiff, Nat.reduceAdd, Nat.reduceMul, Nat.one_ne_zero, Nat.zero_ne_one, decide_eq_false_iff_not, decide_eq_true_eq, Bool.false_eq_true, decide_true, decide_false, bI_true, bI_false, one_ne, Nat.le_refl, Nat.lt_irrefl, cleT, cleF, cltT, cltF, ceqT, ceqF, ↓reduceIte, r240_0, r240_1, r240_2, r240_3]
    rw [e]
    refine rf_pivot hn hf (n - 1) (by omega) _ ?_
    rw [hp1, nI_dec]
    simp (disch := first | omega | assumption | exact Or.inl rfl | exact Or.inr rfl | exact bI_or _ | exact zC81 | exact zC47 | exact zC65 | exact zC0 | exact zC1 | exact zC32 | exact zC70 | exact zC73 | exact ztc (by assumption) | exact zdc (by assumption) | exact zpc (by assumption) | decide) only [Option.some.injEq, exists_eq_left', ex2, Option.toList, List.singleton_append, List.append_nil, List.cons_append, List.nil_append, nI_add, nI_addL, nI_Ladd, pk_mul, nI_mulL, nI_Lmul, nI_subL, pk_sub, nI_divL, sub_dm, nI_leE, nI_ltE, nI_eqE, nI_Lle, nI_leL, nI_Llt, nI_ltL, nI_eqL, va_up_self, va_up_ne, up_up, up_comm, nI_clamp, bI_eq0, not_true_eq_false, not_false_eq_true, Nat.reduceEqDiff, Nat.reduceLeDiff, Nat.reduceAdd, Nat.reduceMul, Nat.one_ne_zero, Nat.zero_ne_one, decide_eq_false_iff_not, decide_eq_true_eq, Bool.false_eq_true, decide_true, decide_false, bI_true, bI_false, one_ne, Nat.le_refl, Nat.lt_irrefl, cleT, cleF, cltT, cltF, ceqT, ceqF, ↓reduceIte, r240_31, r240_32, r240_35, r240_36, r240_37, r240_38, r240_39, r240_40]
    refine rf_least hn (by omega) hf (n - 1) (by omega) (by omega) _ ?_
    rw [hj]
    simp (disch := first | omega | assumption | exact Or.inl rfl | exact Or.inr rfl | exact bI_or _ | exact zC81 | exact zC47 | exact zC65 | exact zC0 | exact zC1 | exact zC32 | exact zC70 | exact zC73 | exact ztc (by assumption) | exact zdc (by assumption) | exact zpc (by assumption) | decide) only [Option.some.injEq, exists_eq_left', ex2, Option.toList, List.singleton_append, List.append_nil, List.cons_append, List.nil_append, nI_add, nI_addL, nI_Ladd, pk_mul, nI_mulL, nI_Lmul, nI_subL, pk_sub, nI_divL, sub_dm, nI_leE, nI_ltE, nI_eqE, nI_Lle, nI_leL, nI_Llt, nI_ltL, nI_eqL, va_up_self, va_up_ne, up_up, up_comm, nI_clamp, bI_eq0, not_true_eq_false, not_false_eq_true, Nat.reduceEqDiff, Nat.reduceLeDiff, Nat.reduceAdd, Nat.reduceMul, Nat.one_ne_zero, Nat.zero_ne_one, decide_eq_false_iff_not, decide_eq_true_eq, Bool.false_eq_true, decide_true, decide_false, bI_true, bI_false, one_ne, Nat.le_refl, Nat.lt_irrefl, cleT, cleF, cltT, cltF, ceqT, ceqF, ↓reduceIte, r240_62, r240_63, r240_64, r240_65, r240_68, r240_69, r240_70, r240_71, r240_73, r240_74, r240_75, r240_76, sw.iff]
    exact t1
  · rw [t2 c hc, swS, va_up_ne _ _ hc]
end OR7
