/-! FEAST: the reference's order -/
section OR4
variable {xs : Nat → Int32} {sl d : Nat} {J : hJk} {s x y : hS} {g : hG}
def swS (s : hS) (i j : Nat) : hS := va_up s 96 (va_up (va_up (s 96) i (s 96 j)) j (s 96 i))
theorem rf_swaps {i j : Nat} (hi : i < 8) (hj : j < 8) : Runs xs sl (d) 241 0 [some (.ref (81)), some (.int ( nI i)), some (.int ( nI j)), none] [] (hp J (s) g) (none, hp J (swS s i j) g) := by
  unfold swS
  simp (disch := first | omega | assumption | exact Or.inl rfl | exact Or.inr rfl | exact bI_or _ | exact zC81 | exact zC47 | exact zC65 | exact zC0 | exact zC1 | exact zC32 | exact zC70 | exact zC73 | exact ztc (by assumption) | exact zdc (by assumption) | exact zpc (by assumption) | decide) only [Option.some.injEq, exists_eq_left', ex2, Option.toList, List.singleton_append, List.append_nil, List.cons_append, List.nil_append, nI_add, nI_addL, nI_Ladd, pk_mul, nI_mulL, nI_Lmul, nI_subL, pk_sub, nI_divL, sub_dm, nI_leE, nI_ltE, nI_eqE, nI_Lle, nI_leL, nI_Llt, nI_ltL, nI_eqL, va_up_self, va_up_ne, up_up, up_comm, nI_clamp, bI_eq0, not_true_eq_false, not_false_eq_true, Nat.reduceEqDiff, Nat.reduceLeDiff, Nat.reduceAdd, Nat.reduceMul, Nat.one_ne_zero, Nat.zero_ne_one, decide_eq_false_iff_not, decide_eq_true_eq, Bool.false_eq_true, decide_true, decide_false, bI_true, bI_false, one_ne, Nat.le_refl, Nat.lt_irrefl, cleT, cleF, cltT, cltF, ceqT, ceqF, ↓reduceIte, r241_0, r241_1, r241_4, r241_5, r241_6, r241_7, r241_8, r241_11, r241_12, r241_13, r241_16, r241_17, r241_18, r241_19, r241_20, r241_23, r241_24, r241_25, r241_26, zO81_30, zA96, zS96]
theorem bcB_le (m l : Nat) : bcB m l ≤ l := by
  have := sumN_le (f := fun j => m / 2 ^ j % 2) (B := 1) l (fun i _ => by omega)
  unfold bcB
  omega
/-- the loaves of m laid in their order: the n-th is l, where n of m's lie below l -/
theorem rf_laysOrder {m : Nat} (hm : m < 256) : ∃ s' : hS, Runs xs sl (d) 238 0 [some (.ref (81)), some (.int ( nI m)), none, none] [] (hp J (s) g) (some (.int (nI (bcB m 8))), hp J s' g) ∧ (∀ c, c ≠ 96 → s' c = s c) ∧ ∀ l, l < 8 → m / 2 ^ l % 2 = 1 → s' 96 (bcB m l) = nI l := by
  obtain ⟨s1, ⟨q1, q2⟩, q3⟩ := up_loop (Q := fun i (s1 : hS) => (∀ c, c ≠ 96 → s1 c = s c) ∧ ∀ l, l < i → m / 2 ^ l % 2 = 1 → s1 96 (bcB m l) = nI l) (P := fun i (s1 : hS) (z : Option Value × mH) => Runs xs sl (d) 238 4 [some (.ref (81)), some (.int ( nI m)), some (.int ( nI (bcB m i))), some (.int ( nI i))] [] (hp J (s1) g) z) 8 (by
    intro i s1 hi hQ
    obtain ⟨q1, q2⟩ := hQ
    have e : bcB m (i + 1) = bcB m i + m / 2 ^ i % 2 := rfl
    have hb := bcB_le m i
    have hs := shr_nI (k := m) (l := i) (by omega) (by omega)
    by_cases c : m / 2 ^ i % 2 = 1
    · refine ⟨va_up s1 96 (va_up (s1 96) (bcB m i) (nI i)), ⟨fun c hc => by rw [va_up_ne _ _ hc]; exact q1 c hc, fun l hl h1 => ?_⟩, fun z hz => ?_⟩
      · rw [va_up_self]
        by_cases c2 : l = i
        · subst c2
          rw [va_up_self]
        · have h3 : bcB m (l + 1) ≤ bcB m i := sumN_up i (by omega)
          have e2 : bcB m (l + 1) = bcB m l + m / 2 ^ l % 2 := rfl
          rw [va_up_ne _ _ (by omega)]
          exact q2 l (by omega) h1
      · rw [e, c] at hz
        rw [r238_4]
        simp (disch := first | omega | assumption | exact Or.inl rfl | exact Or.inr rfl | exact bI_or _ | exact zC81 | exact zC47 | exact zC65 | exact zC0 | exact zC1 | exact zC32 | exact zC70 | exact zC73 | exact ztc (by assumption) | exact zdc (by assumption) | exact zpc (by assumption) | decide) only [Option.some.injEq, exists_eq_left', ex2, Option.toList, List.singleton_append, List.append_nil, List.cons_append, List.nil_append, nI_add, nI_addL, nI_Ladd, pk_mul, nI_mulL, nI_Lmul, nI_subL, pk_sub, nI_divL, sub_dm, nI_leE, nI_ltE, nI_eqE, nI_Lle, nI_leL, nI_Llt, nI_ltL, nI_eqL, va_up_self, va_up_ne, up_up, up_comm, nI_clamp, bI_eq0, not_true_eq_false, not_false_eq_true, Nat.reduceEqDiff, Nat.reduceLeDiff, Nat.reduceAdd, Nat.reduceMul, Nat.one_ne_zero, Nat.zero_ne_one, decide_eq_false_iff_not, decide_eq_true_eq, Bool.false_eq_true, decide_true, decide_false, bI_true, bI_false, one_ne, Nat.le_refl, Nat.lt_irrefl, cleT, cleF, cltT, cltF, ceqT, ceqF, ↓reduceIte, r238_5, r238_7, r238_10, r238_11, r238_12, r238_13, r238_14, r238_15, r238_18, r238_21, r238_22, r238_25, r238_26, r238_27, r238_28, r238_31, r238_34, hs, and1_nI, c, zO81_30, zS96]
        exact hz
    · have c' : m / 2 ^ i % 2 = 0 := by omega
      refine ⟨s1, ⟨q1, fun l hl h1 => ?_⟩, fun z hz => ?_⟩
      · by_cases c2 : l = i
        · subst c2
          exact absurd h1 c
        · exact q2 l (by omega) h1
      · rw [e, c'] at hz
        rw [r238_4]
        simp (disch := first | omega | assumption | exact Or.inl rfl | exact Or.inr rfl | exact bI_or _ | exact zC81 | exact zC47 | exact zC65 | exact zC0 | exact zC1 | exact zC32 | exact zC70 | exact zC73 | exact ztc (by assumption) | exact zdc (by assumption) | exact zpc (by assumption) | decide) only [Option.some.injEq, exists_eq_left', ex2, Option.toList, List.singleton_append, List.append_nil, List.cons_append, List.nil_append, nI_add, nI_addL, nI_Ladd, pk_mul, nI_mulL, nI_Lmul, nI_subL, pk_sub, nI_divL, sub_dm, nI_leE, nI_ltE, nI_eqE, nI_Lle, nI_leL, nI_Llt, nI_ltL, nI_eqL, va_up_self, va_up_ne, up_up, up_comm, nI_clamp, bI_eq0, not_true_eq_false, not_false_eq_true, Nat.reduceEqDiff, Nat.reduceLeDiff, Nat.reduceAdd, Nat.reduceMul, Nat.one_ne_zero, Nat.zero_ne_one, decide_eq_false_iff_not, decide_eq_true_eq, Bool.false_eq_true, decide_true, decide_false, bI_true, bI_false, one_ne, Nat.le_refl, Nat.lt_irrefl, cleT, cleF, cltT, cltF, ceqT, ceqF, ↓reduceIte, r238_5, r238_7, r238_10, r238_11, r238_12, r238_13, r238_14, r238_15, r238_18, r238_21, r238_22, r238_25, r238_26, r238_27, r238_28, r238_31, r238_34, hs, and1_nI, c']
        exact hz) s ⟨fun _ _ => rfl, fun l h => absurd h (by omega)⟩
  refine ⟨s1, ?_, q1, q2⟩
  simp (disch := first | omega | assumption | exact Or.inl rfl | exact Or.inr rfl | exact bI_or _ | exact zC81 | exact zC47 | exact zC65 | exact zC0 | exact zC1 | exact zC32 | exact zC70 | exact zC73 | exact ztc (by assumption) | exact zdc (by assumption) | exact zpc (by assumption) | decide) only [Option.some.injEq, exists_eq_left', ex2, Option.toList, List.singleton_append, List.append_nil, List.cons_append, List.nil_append, nI_add, nI_addL, nI_Ladd, pk_mul, nI_mulL, nI_Lmul, nI_subL, pk_sub, nI_divL, sub_dm, nI_leE, nI_ltE, nI_eqE, nI_Lle, nI_leL, nI_Llt, nI_ltL, nI_eqL, va_up_self, va_up_ne, up_up, up_comm, nI_clamp, bI_eq0, not_true_eq_false, not_false_eq_true, Nat.reduceEqDiff, Nat.reduceLeDiff, Nat.reduceAdd, Nat.reduceMul, Nat.one_ne_zero, Nat.zero_ne_one, decide_eq_false_iff_not, decide_eq_true_eq, Bool.false_eq_true, decide_true, decide_false, bI_true, bI_false, one_ne, Nat.le_refl, Nat.lt_irrefl, cleT, cleF, cltT, cltF, ceqT, ceqF, ↓reduceIte, r238_0, r238_1, r238_2, r238_3]
  refine q3 _ ?_
  rw [r238_4]
  simp (disch := first | omega | assumption | exact Or.inl rfl | exact Or.inr rfl | exact bI_or _ | exact zC81 | exact zC47 | exact zC65 | exact zC0 | exact zC1 | exact zC32 | exact zC70 | exact zC73 | exact ztc (by assumption) | exact zdc (by assumption) | exact zpc (by assumption) | decide) only [Option.some.injEq, exists_eq_left', ex2, Option.toList, List.singleton_append, List.append_nil, List.cons_append, List.nil_append, nI_add, nI_addL, nI_Ladd, pk_mul, nI_mulL, nI_Lmul, nI_subL, pk_sub, nI_divL, sub_dm, nI_leE, nI_ltE, nI_eqE, nI_Lle, nI_leL, nI_Llt, nI_ltL, nI_eqL, va_up_self, va_up_ne, up_up, up_comm, nI_clamp, bI_eq0, not_true_eq_false, not_false_eq_true, Nat.reduceEqDiff, Nat.reduceLeDiff, Nat.reduceAdd, Nat.reduceMul, Nat.one_ne_zero, Nat.zero_ne_one, decide_eq_false_iff_not, decide_eq_true_eq, Bool.false_eq_true, decide_true, decide_false, bI_true, bI_false, one_ne, Nat.le_refl, Nat.lt_irrefl, cleT, cleF, cltT, cltF, ceqT, ceqF, ↓reduceIte, r238_5, r238_7, r238_37, r238_38]
end OR4
