/-! TEXT: the reference goes on to the next token -/
section TXE
variable {xs : Nat → Int32} {sl d : Nat} {J : hJk} {s x y : hS} {g : hG}
def tpR (s : hS) (b : Nat → Nat) (N : Nat) : Prop := s 81 2 = nI N ∧ N ≤ 600 ∧ ∀ i, i < N → b i < 256 ∧ s 82 (10 + i) = nI (b i)
theorem tpR_fr {s' : hS} {b : Nat → Nat} {N : Nat} (h : tpR s b N) (h1 : s' 81 2 = s 81 2) (h2 : ∀ i, i < 600 → s' 82 (10 + i) = s 82 (10 + i)) : tpR s' b N := by
  obtain ⟨t1, t2, t3⟩ := h
  exact ⟨h1.trans t1, t2, fun i hi => ⟨(t3 i hi).1, (h2 i (by omega)).trans (t3 i hi).2⟩⟩
def bA (b : Nat → Nat) (N p : Nat) : Int32 := if p < N then nI (b p) else -1
theorem rf_byteAt {b : Nat → Nat} {N p : Nat} (hT : tpR s b N) (hpN : p ≤ N) {r : Option Value × mH} : Runs xs sl (d) 177 0 [some (.ref (81)), some (.int ( nI p))] [] (hp J (s) g) r ↔ r = (some (.int ( bA b N p)), hp J (s) g) := by
  refine Runs.iff ?_
  obtain ⟨t1, t2, t3⟩ := id hT
  unfold bA
  by_cases c : p < N
  · rw [if_pos c]
    obtain ⟨u1, u2⟩ := t3 p c
    have c' : ¬ N ≤ p := by omega
    have i5 : 10 + p < 5072 := by omega
    simp (disch := first | omega | assumption | exact Or.inl rfl | exact Or.inr rfl | exact bI_or _ | exact zC81 | exact zC47 | exact zC65 | exact zC0 | exact zC1 | exact zC32 | exact zC70 | exact zC73 | exact ztc (by assumption) | exact zdc (by assumption) | exact zpc (by assumption) | decide) only [Option.some.injEq, exists_eq_left', ex2, Option.toList, List.singleton_append, List.append_nil, List.cons_append, List.nil_append, nI_add, nI_addL, nI_Ladd, pk_mul, nI_mulL, nI_Lmul, nI_subL, pk_sub, nI_divL, sub_dm, nI_leE, nI_ltE, nI_eqE, nI_Lle, nI_leL, nI_Llt, nI_ltL, nI_eqL, va_up_self, va_up_ne, up_up, up_comm, nI_clamp, bI_eq0, not_true_eq_false, not_false_eq_true, Nat.reduceEqDiff, Nat.reduceLeDiff, Nat.reduceAdd, Nat.reduceMul, Nat.one_ne_zero, Nat.zero_ne_one, decide_eq_false_iff_not, decide_eq_true_eq, Bool.false_eq_true, decide_true, decide_false, bI_true, bI_false, one_ne, Nat.le_refl, Nat.lt_irrefl, cleT, cleF, cltT, cltF, ceqT, ceqF, ↓reduceIte, r177_0, r177_1, r177_2, r177_5, r177_8, r177_9, r177_12, r177_14, r177_15, r177_16, r177_17, r177_20, r177_21, zO81_0, zO81_2, zA82, t1, c', u2]
  · rw [if_neg c]
    simp (disch := first | omega | assumption | exact Or.inl rfl | exact Or.inr rfl | exact bI_or _ | exact zC81 | exact zC47 | exact zC65 | exact zC0 | exact zC1 | exact zC32 | exact zC70 | exact zC73 | exact ztc (by assumption) | exact zdc (by assumption) | exact zpc (by assumption) | decide) only [Option.some.injEq, exists_eq_left', ex2, Option.toList, List.singleton_append, List.append_nil, List.cons_append, List.nil_append, nI_add, nI_addL, nI_Ladd, pk_mul, nI_mulL, nI_Lmul, nI_subL, pk_sub, nI_divL, sub_dm, nI_leE, nI_ltE, nI_eqE, nI_Lle, nI_leL, nI_Llt, nI_ltL, nI_eqL, va_up_self, va_up_ne, up_up, up_comm, nI_clamp, bI_eq0, not_true_eq_false, not_false_eq_true, Nat.reduceEqDiff, Nat.reduceLeDiff, Nat.reduceAdd, Nat.reduceMul, Nat.one_ne_zero, Nat.zero_ne_one, decide_eq_false_iff_not, decide_eq_true_eq, Bool.false_eq_true, decide_true, decide_false, bI_true, bI_false, one_ne, Nat.le_refl, Nat.lt_irrefl, cleT, cleF, cltT, cltF, ceqT, ceqF, ↓reduceIte, r177_0, r177_1, r177_2, r177_5, r177_8, r177_9, r177_12, r177_14, r177_15, r177_16, r177_17, r177_20, r177_21, zO81_2, t1]
theorem bA_dg {b : Nat → Nat} {N p : Nat} (h : p < N → b p < 256) : (if bA b N p < 48 then (0 : Int32) else if 57 < bA b N p then 0 else 1) = bI (decide (p < N) && isDg (b p)) ∧ (if bA b N p < 97 then (0 : Int32) else if 122 < bA b N p then 0 else 1) = bI (decide (p < N) && isLt (b p)) ∧ (bA b N p = 10 ↔ p < N ∧ b p = 10) ∧ (bA b N p = 32 ↔ p < N ∧ b p = 32) ∧ (bA b N p = 59 ↔ p < N ∧ b p = 59) ∧ (bA b N p < 0 ↔ ¬ p < N) := by
  have q : ∀ k, k < 256 → (if nI k < 48 then (0 : Int32) else if 57 < nI k then 0 else 1) = bI (isDg k) ∧ (if nI k < 97 then (0 : Int32) else if 122 < nI k then 0 else 1) = bI (isLt k) ∧ (nI k = 10 ↔ k = 10) ∧ (nI k = 32 ↔ k = 32) ∧ (nI k = 59 ↔ k = 59) ∧ ¬ nI k < 0 := by decide +kernel
  unfold bA
  by_cases c : p < N
  · obtain ⟨q1, q2, q3, q4, q5, q6⟩ := q (b p) (h c)
    rw [if_pos c, decide_eq_true c, Bool.true_and, Bool.true_and]
    exact ⟨q1, q2, q3.trans ⟨fun z => ⟨c, z⟩, fun z => z.2⟩, q4.trans ⟨fun z => ⟨c, z⟩, fun z => z.2⟩, q5.trans ⟨fun z => ⟨c, z⟩, fun z => z.2⟩, ⟨fun z => absurd z q6, fun z => absurd c z⟩⟩
  · rw [if_neg c, decide_eq_false c, Bool.false_and, Bool.false_and]
    refine ⟨by decide, by decide, ⟨fun z => absurd z (by decide), fun z => absurd z.1 c⟩, ⟨fun z => absurd z (by decide), fun z => absurd z.1 c⟩, ⟨fun z => absurd z (by decide), fun z => absurd z.1 c⟩, ⟨fun _ => c, fun _ => by decide⟩⟩
theorem rf_isDigit {b : Nat → Nat} {N p : Nat} (h : p < N → b p < 256) {H : mH} {r : Option Value × mH} : Runs xs sl d 183 0 [some (.int (bA b N p))] [] H r ↔ r = (some (.int (bI (decide (p < N) && isDg (b p)))), H) := by
  rw [← (bA_dg h).1]
  refine Runs.iff ?_
  by_cases c1 : bA b N p < 48
  · simp (disch := first | omega | assumption | exact Or.inl rfl | exact Or.inr rfl | exact bI_or _ | exact zC81 | exact zC47 | exact zC65 | exact zC0 | exact zC1 | exact zC32 | exact zC70 | exact zC73 | exact ztc (by assumption) | exact zdc (by assumption) | exact zpc (by assumption) | decide) only [Option.some.injEq, exists_eq_left', ex2, Option.toList, List.singleton_append, List.append_nil, List.cons_append, List.nil_append, nI_add, nI_addL, nI_Ladd, pk_mul, nI_mulL, nI_Lmul, nI_subL, pk_sub, nI_divL, sub_dm, nI_leE, nI_ltE, nI_eqE, nI_Lle, nI_leL, nI_Llt, nI_ltL, nI_eqL, va_up_self, va_up_ne, up_up, up_comm, nI_clamp, bI_eq0, not_true_eq_false, not_false_eq_true, Nat.reduceEqDiff, Nat.reduceLeDiff, Nat.reduceAdd, Nat.reduceMul, Nat.one_ne_zero, Nat.zero_ne_one, decide_eq_false_iff_not, decide_eq_true_eq, Bool.false_eq_true, decide_true, decide_false, bI_true, bI_false, one_ne, Nat.le_refl, Nat.lt_irrefl, cleT, cleF, cltT, cltF, ceqT, ceqF, ↓reduceIte, r183_0, r183_1, r183_3, r183_6, r183_7, r183_9, r183_12, r183_13, r183_16, r183_17, c1]
  · by_cases c2 : 57 < bA b N p
    · simp (disch := first | omega | assumption | exact Or.inl rfl | exact Or.inr rfl | exact bI_or _ | exact zC81 | exact zC47 | exact zC65 | exact zC0 | exact zC1 | exact zC32 | exact zC70 | exact zC73 | exact ztc (by assumption) | exact zdc (by assumption) | exact zpc (by assumption) | decide) only [Option.some.injEq, exists_eq_left', ex2, Option.toList, List.singleton_append, List.append_nil, List.cons_append, List.nil_append, nI_add, nI_addL, nI_Ladd, pk_mul, nI_mulL, nI_Lmul, nI_subL, pk_sub, nI_divL, sub_dm, nI_leE, nI_ltE, nI_eqE, nI_Lle, nI_leL, nI_Llt, nI_ltL, nI_eqL, va_up_self, va_up_ne, up_up, up_comm, nI_clamp, bI_eq0, not_true_eq_false, not_false_eq_true, Nat.reduceEqDiff, Nat.reduceLeDiff, Nat.reduceAdd, Nat.reduceMul, Nat.one_ne_zero, Nat.zero_ne_one, decide_eq_false_iff_not, decide_eq_true_eq, Bool.false_eq_true, decide_true, decide_false, bI_true, bI_false, one_ne, Nat.le_refl, Nat.lt_irrefl, cleT, cleF, cltT, cltF, ceqT, ceqF, ↓reduceIte, r183_0, r183_1, r183_3, r183_6, r183_7, r183_9, r183_12, r183_13, r183_16, r183_17, c1, c2]
    · simp (disch := first | omega | assumption | exact Or.inl rfl | exact Or.inr rfl | exact bI_or _ | exact zC81 | exact zC47 | exact zC65 | exact zC0 | exact zC1 | exact zC32 | exact zC70 | exact zC73 | exact ztc (by assumption) | exact zdc (by assumption) | exact zpc (by assumption) | decide) only [Option.some.injEq, exists_eq_left', ex2, Option.toList, List.singleton_append, List.append_nil, List.cons_append, List.nil_append, nI_add, nI_addL, nI_Ladd, pk_mul, nI_mulL, nI_Lmul, nI_subL, pk_sub, nI_divL, sub_dm, nI_leE, nI_ltE, nI_eqE, nI_Lle, nI_leL, nI_Llt, nI_ltL, nI_eqL, va_up_self, va_up_ne, up_up, up_comm, nI_clamp, bI_eq0, not_true_eq_false, not_false_eq_true, Nat.reduceEqDiff, Nat.reduceLeDiff, Nat.reduceAdd, Nat.reduceMul, Nat.one_ne_zero, Nat.zero_ne_one, decide_eq_false_iff_not, decide_eq_true_eq, Bool.false_eq_true, decide_true, decide_false, bI_true, bI_false, one_ne, Nat.le_refl, Nat.lt_irrefl, cleT, cleF, cltT, cltF, ceqT, ceqF, ↓reduceIte, r183_0, r183_1, r183_3, r183_6, r183_7, r183_9, r183_12, r183_13, r183_16, r183_17, c1, c2]
theorem rf_isLetter {b : Nat → Nat} {N p : Nat} (h : p < N → b p < 256) {H : mH} {r : Option Value × mH} : Runs xs sl d 178 0 [some (.int (bA b N p))] [] H r ↔ r = (some (.int (bI (decide (p < N) && isLt (b p)))), H) := by
  rw [← (bA_dg h).2.1]
  refine Runs.iff ?_
  by_cases c1 : bA b N p < 97
  · simp (disch := first | omega | assumption | exact Or.inl rfl | exact Or.inr rfl | exact bI_or _ | exact zC81 | exact zC47 | exact zC65 | exact zC0 | exact zC1 | exact zC32 | exact zC70 | exact zC73 | exact ztc (by assumption) | exact zdc (by assumption) | exact zpc (by assumption) | decide) only [Option.some.injEq, exists_eq_left', ex2, Option.toList, List.singleton_append, List.append_nil, List.cons_append, List.nil_append, nI_add, nI_addL, nI_Ladd, pk_mul, nI_mulL, nI_Lmul, nI_subL, pk_sub, nI_divL, sub_dm, nI_leE, nI_ltE, nI_eqE, nI_Lle, nI_leL, nI_Llt, nI_ltL, nI_eqL, va_up_self, va_up_ne, up_up, up_comm, nI_clamp, bI_eq0, not_true_eq_false, not_false_eq_true, Nat.reduceEqDiff, Nat.reduceLeDiff, Nat.reduceAdd, Nat.reduceMul, Nat.one_ne_zero, Nat.zero_ne_one, decide_eq_false_iff_not, decide_eq_true_eq, Bool.false_eq_true, decide_true, decide_false, bI_true, bI_false, one_ne, Nat.le_refl, Nat.lt_irrefl, cleT, cleF, cltT, cltF, ceqT, ceqF, ↓reduceIte, r178_0, r178_1, r178_3, r178_6, r178_7, r178_9, r178_12, r178_13, r178_16, r178_17, c1]
  · by_cases c2 : 122 < bA b N p
    · simp (disch := first | omega | assumption | exact Or.inl rfl | exact Or.inr rfl | exact bI_or _ | exact zC81 | exact zC47 | exact zC65 | exact zC0 | exact zC1 | exact zC32 | exact zC70 | exact zC73 | exact ztc (by assumption) | exact zdc (by assumption) | exact zpc (by assumption) | decide) only [Option.some.injEq, exists_eq_left', ex2, Option.toList, List.singleton_append, List.append_nil, List.cons_append, List.nil_append, nI_add, nI_addL, nI_Ladd, pk_mul, nI_mulL, nI_Lmul, nI_subL, pk_sub, nI_divL, sub_dm, nI_leE, nI_ltE, nI_eqE, nI_Lle, nI_leL, nI_Llt, nI_ltL, nI_eqL, va_up_self, va_up_ne, up_up, up_comm, nI_clamp, bI_eq0, not_true_eq_false, not_false_eq_true, Nat.reduceEqDiff, Nat.reduceLeDiff, Nat.reduceAdd, Nat.reduceMul, Nat.one_ne_zero, Nat.zero_ne_one, decide_eq_false_iff_not, decide_eq_true_eq, Bool.false_eq_true, decide_true, decide_false, bI_true, bI_false, one_ne, Nat.le_refl, Nat.lt_irrefl, cleT, cleF, cltT, cltF, ceqT, ceqF, ↓reduceIte, r178_0, r178_1, r178_3, r178_6, r178_7, r178_9, r178_12, r178_13, r178_16, r178_17, c1, c2]
    · simp (disch := first | omega | assumption | exact Or.inl rfl | exact Or.inr rfl | exact bI_or _ | exact zC81 | exact zC47 | exact zC65 | exact zC0 | exact zC1 | exact zC32 | exact zC70 | exact zC73 | exact ztc (by assumption) | exact zdc (by assumption) | exact zpc (by assumption) | decide) only [Option.some.injEq, exists_eq_left', ex2, Option.toList, List.singleton_append, List.append_nil, List.cons_append, List.nil_append, nI_add, nI_addL, nI_Ladd, pk_mul, nI_mulL, nI_Lmul, nI_subL, pk_sub, nI_divL, sub_dm, nI_leE, nI_ltE, nI_eqE, nI_Lle, nI_leL, nI_Llt, nI_ltL, nI_eqL, va_up_self, va_up_ne, up_up, up_comm, nI_clamp, bI_eq0, not_true_eq_false, not_false_eq_true, Nat.reduceEqDiff, Nat.reduceLeDiff, Nat.reduceAdd, Nat.reduceMul, Nat.one_ne_zero, Nat.zero_ne_one, decide_eq_false_iff_not, decide_eq_true_eq, Bool.false_eq_true, decide_true, decide_false, bI_true, bI_false, one_ne, Nat.le_refl, Nat.lt_irrefl, cleT, cleF, cltT, cltF, ceqT, ceqF, ↓reduceIte, r178_0, r178_1, r178_3, r178_6, r178_7, r178_9, r178_12, r178_13, r178_16, r178_17, c1, c2]
def nxT (s : hS) (p : Nat) : hS := va_up s 81 (va_up (s 81) 3 (nI p))
theorem nxS_tp {b : Nat → Nat} {N p : Nat} (h : tpR s b N) : tpR (nxT s p) b N := tpR_fr h (by unfold nxT; simp (disch := first | omega | assumption | exact Or.inl rfl | exact Or.inr rfl | exact bI_or _ | exact zC81 | exact zC47 | exact zC65 | exact zC0 | exact zC1 | exact zC32 | exact zC70 | exact zC73 | exact ztc (by assumption) | exact zdc (by assumption) | exact zpc (by assumption) | decide) only [Option.some.injEq, exists_eq_left', ex2, Option.toList, List.singleton_append, List.append_nil, List.cons_append, List.nil_append, nI_add, nI_addL, nI_Ladd, pk_mul, nI_mulL, nI_Lmul, nI_subL, pk_sub, nI_divL, sub_dm, nI_leE, nI_ltE, nI_eqE, nI_Lle, nI_leL, nI_Llt, nI_ltL, nI_eqL, va_up_self, va_up_ne, up_up, up_comm, nI_clamp, bI_eq0, not_true_eq_false, not_false_eq_true, Nat.reduceEqDiff, Nat.reduceLeDiff, Nat.reduceAdd, Nat.reduceMul, Nat.one_ne_zero, Nat.zero_ne_one, decide_eq_false_iff_not, decide_eq_true_eq, Bool.false_eq_true, decide_true, decide_false, bI_true, bI_false, one_ne, Nat.le_refl, Nat.lt_irrefl, cleT, cleF, cltT, cltF, ceqT, ceqF, ↓reduceIte]) (fun i _ => by unfold nxT; simp (disch := first | omega | assumption | exact Or.inl rfl | exact Or.inr rfl | exact bI_or _ | exact zC81 | exact zC47 | exact zC65 | exact zC0 | exact zC1 | exact zC32 | exact zC70 | exact zC73 | exact ztc (by assumption) | exact zdc (by assumption) | exact zpc (by assumption) | decide) only [Option.some.injEq, exists_eq_left', ex2, Option.toList, List.singleton_append, List.append_nil, List.cons_append, List.nil_append, nI_add, nI_addL, nI_Ladd, pk_mul, nI_mulL, nI_Lmul, nI_subL, pk_sub, nI_divL, sub_dm, nI_leE, nI_ltE, nI_eqE, nI_Lle, nI_leL, nI_Llt, nI_ltL, nI_eqL, va_up_self, va_up_ne, up_up, up_comm, nI_clamp, bI_eq0, not_true_eq_false, not_false_eq_true, Nat.reduceEqDiff, Nat.reduceLeDiff, Nat.reduceAdd, Nat.reduceMul, Nat.one_ne_zero, Nat.zero_ne_one, decide_eq_false_iff_not, decide_eq_true_eq, Bool.false_eq_true, decide_true, decide_false, bI_true, bI_false, one_ne, Nat.le_refl, Nat.lt_irrefl, cleT, cleF, cltT, cltF, ceqT, ceqF, ↓reduceIte])
theorem nxS_nx (s : hS) (p q : Nat) : nxT (nxT s p) q = nxT s q := by unfold nxT; simp (disch := first | omega | assumption | exact Or.inl rfl | exact Or.inr rfl | exact bI_or _ | exact zC81 | exact zC47 | exact zC65 | exact zC0 | exact zC1 | exact zC32 | exact zC70 | exact zC73 | exact ztc (by assumption) | exact zdc (by assumption) | exact zpc (by assumption) | decide) only [Option.some.injEq, exists_eq_left', ex2, Option.toList, List.singleton_append, List.append_nil, List.cons_append, List.nil_append, nI_add, nI_addL, nI_Ladd, pk_mul, nI_mulL, nI_Lmul, nI_subL, pk_sub, nI_divL, sub_dm, nI_leE, nI_ltE, nI_eqE, nI_Lle, nI_leL, nI_Llt, nI_ltL, nI_eqL, va_up_self, va_up_ne, up_up, up_comm, nI_clamp, bI_eq0, not_true_eq_false, not_false_eq_true, Nat.reduceEqDiff, Nat.reduceLeDiff, Nat.reduceAdd, Nat.reduceMul, Nat.one_ne_zero, Nat.zero_ne_one, decide_eq_false_iff_not, decide_eq_true_eq, Bool.false_eq_true, decide_true, decide_false, bI_true, bI_false, one_ne, Nat.le_refl, Nat.lt_irrefl, cleT, cleF, cltT, cltF, ceqT, ceqF, ↓reduceIte]
theorem nxS_id {p : Nat} (h : s 81 3 = nI p) : nxT s p = s := by unfold nxT; rw [← h, up_id, up_id]
theorem nxS_3 (s : hS) (p : Nat) : nxT s p 81 3 = nI p := by unfold nxT; simp (disch := first | omega | assumption | exact Or.inl rfl | exact Or.inr rfl | exact bI_or _ | exact zC81 | exact zC47 | exact zC65 | exact zC0 | exact zC1 | exact zC32 | exact zC70 | exact zC73 | exact ztc (by assumption) | exact zdc (by assumption) | exact zpc (by assumption) | decide) only [Option.some.injEq, exists_eq_left', ex2, Option.toList, List.singleton_append, List.append_nil, List.cons_append, List.nil_append, nI_add, nI_addL, nI_Ladd, pk_mul, nI_mulL, nI_Lmul, nI_subL, pk_sub, nI_divL, sub_dm, nI_leE, nI_ltE, nI_eqE, nI_Lle, nI_leL, nI_Llt, nI_ltL, nI_eqL, va_up_self, va_up_ne, up_up, up_comm, nI_clamp, bI_eq0, not_true_eq_false, not_false_eq_true, Nat.reduceEqDiff, Nat.reduceLeDiff, Nat.reduceAdd, Nat.reduceMul, Nat.one_ne_zero, Nat.zero_ne_one, decide_eq_false_iff_not, decide_eq_true_eq, Bool.false_eq_true, decide_true, decide_false, bI_true, bI_false, one_ne, Nat.le_refl, Nat.lt_irrefl, cleT, cleF, cltT, cltF, ceqT, ceqF, ↓reduceIte]
theorem rf_skip {b : Nat → Nat} {N : Nat} {z : Option Value × mH} : ∀ k p (s : hS), p + k = N → tpR s b N → s 81 3 = nI p → Runs xs sl (d+1) 176 39 [some (.ref (81)), none, none, none] [] (hp J (nxT s (rn isBl b N p)) g) z → Runs xs sl (d+1) 176 0 [some (.ref (81)), none, none, none] [] (hp J (s) g) z := by
  intro k
  induction k with
  | zero =>
    intro p s hk hT h3 hz
    rw [rn_end (by omega), nxS_id h3] at hz
    have ba := @rf_byteAt xs sl d J s g b N p hT (by omega)
    obtain ⟨-, -, v1, v2, -, -⟩ := bA_dg (b := b) (N := N) (p := p) (fun h => by omega)
    have w1 : ¬ bA b N p = 10 := fun h => by have := (v1.mp h).1; omega
    have w2 : ¬ bA b N p = 32 := fun h => by have := (v2.mp h).1; omega
    rw [r176_0]
    simp (disch := first | omega | assumption | exact Or.inl rfl | exact Or.inr rfl | exact bI_or _ | exact zC81 | exact zC47 | exact zC65 | exact zC0 | exact zC1 | exact zC32 | exact zC70 | exact zC73 | exact ztc (by assumption) | exact zdc (by assumption) | exact zpc (by assumption) | decide) only [Option.some.injEq, exists_eq_left', ex2, Option.toList, List.singleton_append, List.append_nil, List.cons_append, List.nil_append, nI_add, nI_addL, nI_Ladd, pk_mul, nI_mulL, nI_Lmul, nI_subL, pk_sub, nI_divL, sub_dm, nI_leE, nI_ltE, nI_eqE, nI_Lle, nI_leL, nI_Llt, nI_ltL, nI_eqL, va_up_self, va_up_ne, up_up, up_comm, nI_clamp, bI_eq0, not_true_eq_false, not_false_eq_true, Nat.reduceEqDiff, Nat.reduceLeDiff, Nat.reduceAdd, Nat.reduceMul, Nat.one_ne_zero, Nat.zero_ne_one, decide_eq_false_iff_not, decide_eq_true_eq, Bool.false_eq_true, decide_true, decide_false, bI_true, bI_false, one_ne, Nat.le_refl, Nat.lt_irrefl, cleT, cleF, cltT, cltF, ceqT, ceqF, ↓reduceIte, r176_1, r176_2, r176_5, r176_8, r176_10, r176_13, r176_14, r176_15, r176_18, r176_21, r176_23, zO81_3, h3, ba, w1, w2]
    exact hz
  | succ k ih =>
    intro p s hk hT h3 hz
    obtain ⟨t1, t2, t3⟩ := id hT
    have ba := @rf_byteAt xs sl d J s g b N p hT (by omega)
    obtain ⟨u1, u2⟩ := t3 p (by omega)
    obtain ⟨-, -, v1, v2, -, -⟩ := bA_dg (b := b) (N := N) (p := p) (fun _ => u1)
    have nx : Runs xs sl (d+1) 176 0 [some (.ref (81)), none, none, none] [] (hp J (nxT s (p + 1)) g) z → Runs xs sl (d+1) 176 26 [some (.ref (81)), none, none, none] [] (hp J (s) g) z := by
      intro h
      simp (disch := first | omega | assumption | exact Or.inl rfl | exact Or.inr rfl | exact bI_or _ | exact zC81 | exact zC47 | exact zC65 | exact zC0 | exact zC1 | exact zC32 | exact zC70 | exact zC73 | exact ztc (by assumption) | exact zdc (by assumption) | exact zpc (by assumption) | decide) only [Option.some.injEq, exists_eq_left', ex2, Option.toList, List.singleton_append, List.append_nil, List.cons_append, List.nil_append, nI_add, nI_addL, nI_Ladd, pk_mul, nI_mulL, nI_Lmul, nI_subL, pk_sub, nI_divL, sub_dm, nI_leE, nI_ltE, nI_eqE, nI_Lle, nI_leL, nI_Llt, nI_ltL, nI_eqL, va_up_self, va_up_ne, up_up, up_comm, nI_clamp, bI_eq0, not_true_eq_false, not_false_eq_true, Nat.reduceEqDiff, Nat.reduceLeDiff, Nat.reduceAdd, Nat.reduceMul, Nat.one_ne_zero, Nat.zero_ne_one, decide_eq_false_iff_not, decide_eq_true_eq, Bool.false_eq_true, decide_true, decide_false, bI_true, bI_false, one_ne, Nat.le_refl, Nat.lt_irrefl, cleT, cleF, cltT, cltF, ceqT, ceqF, ↓reduceIte, r176_26, r176_27, r176_28, r176_31, r176_32, r176_33, r176_36, zO81_3, zW81_3, h3]
      exact h
    by_cases c : isBl (b p) = true
    · rw [rn_go (by omega) c] at hz
      have hn := ih (p + 1) (nxT s (p + 1)) (by omega) (nxS_tp hT) (nxS_3 _ _) (by rw [nxS_nx]; exact hz)
      have hn := nx hn
      by_cases c1 : b p = 10
      · have w1 := eq_true (v1.mpr ⟨by omega, c1⟩)
        rw [r176_0]
        simp (disch := first | omega | assumption | exact Or.inl rfl | exact Or.inr rfl | exact bI_or _ | exact zC81 | exact zC47 | exact zC65 | exact zC0 | exact zC1 | exact zC32 | exact zC70 | exact zC73 | exact ztc (by assumption) | exact zdc (by assumption) | exact zpc (by assumption) | decide) only [Option.some.injEq, exists_eq_left', ex2, Option.toList, List.singleton_append, List.append_nil, List.cons_append, List.nil_append, nI_add, nI_addL, nI_Ladd, pk_mul, nI_mulL, nI_Lmul, nI_subL, pk_sub, nI_divL, sub_dm, nI_leE, nI_ltE, nI_eqE, nI_Lle, nI_leL, nI_Llt, nI_ltL, nI_eqL, va_up_self, va_up_ne, up_up, up_comm, nI_clamp, bI_eq0, not_true_eq_false, not_false_eq_true, Nat.reduceEqDiff, Nat.reduceLeDiff, Nat.reduceAdd, Nat.reduceMul, Nat.one_ne_zero, Nat.zero_ne_one, decide_eq_false_iff_not, decide_eq_true_eq, Bool.false_eq_true, decide_true, decide_false, bI_true, bI_false, one_ne, Nat.le_refl, Nat.lt_irrefl, cleT, cleF, cltT, cltF, ceqT, ceqF, ↓reduceIte, r176_1, r176_2, r176_5, r176_8, r176_10, zO81_3, h3, ba, w1]
        exact hn
      · have w1 : ¬ bA b N p = 10 := fun h => c1 (v1.mp h).2
        have c2 : b p = 32 := by
          unfold isBl at c
          rw [decide_eq_false c1, Bool.or_false] at c
          exact of_decide_eq_true c
        have w2 := eq_true (v2.mpr ⟨by omega, c2⟩)
        rw [r176_0]
        simp (disch := first | omega | assumption | exact Or.inl rfl | exact Or.inr rfl | exact bI_or _ | exact zC81 | exact zC47 | exact zC65 | exact zC0 | exact zC1 | exact zC32 | exact zC70 | exact zC73 | exact ztc (by assumption) | exact zdc (by assumption) | exact zpc (by assumption) | decide) only [Option.some.injEq, exists_eq_left', ex2, Option.toList, List.singleton_append, List.append_nil, List.cons_append, List.nil_append, nI_add, nI_addL, nI_Ladd, pk_mul, nI_mulL, nI_Lmul, nI_subL, pk_sub, nI_divL, sub_dm, nI_leE, nI_ltE, nI_eqE, nI_Lle, nI_leL, nI_Llt, nI_ltL, nI_eqL, va_up_self, va_up_ne, up_up, up_comm, nI_clamp, bI_eq0, not_true_eq_false, not_false_eq_true, Nat.reduceEqDiff, Nat.reduceLeDiff, Nat.reduceAdd, Nat.reduceMul, Nat.one_ne_zero, Nat.zero_ne_one, decide_eq_false_iff_not, decide_eq_true_eq, Bool.false_eq_true, decide_true, decide_false, bI_true, bI_false, one_ne, Nat.le_refl, Nat.lt_irrefl, cleT, cleF, cltT, cltF, ceqT, ceqF, ↓reduceIte, r176_1, r176_2, r176_5, r176_8, r176_10, r176_13, r176_14, r176_15, r176_18, r176_21, r176_23, zO81_3, h3, ba, w1, w2]
        exact hn
    · have c' : isBl (b p) = false := by cases h : isBl (b p) <;> simp_all
      rw [rn_no c', nxS_id h3] at hz
      have c12 := Bool.or_eq_false_iff.mp c'
      have w1 : ¬ bA b N p = 10 := fun h => of_decide_eq_false c12.2 (v1.mp h).2
      have w2 : ¬ bA b N p = 32 := fun h => of_decide_eq_false c12.1 (v2.mp h).2
      rw [r176_0]
      simp (disch := first | omega | assumption | exact Or.inl rfl | exact Or.inr rfl | exact bI_or _ | exact zC81 | exact zC47 | exact zC65 | exact zC0 | exact zC1 | exact zC32 | exact zC70 | exact zC73 | exact ztc (by assumption) | exact zdc (by assumption) | exact zpc (by assumption) | decide) only [Option.some.injEq, exists_eq_left', ex2, Option.toList, List.singleton_append, List.append_nil, List.cons_append, List.nil_append, nI_add, nI_addL, nI_Ladd, pk_mul, nI_mulL, nI_Lmul, nI_subL, pk_sub, nI_divL, sub_dm, nI_leE, nI_ltE, nI_eqE, nI_Lle, nI_leL, nI_Llt, nI_ltL, nI_eqL, va_up_self, va_up_ne, up_up, up_comm, nI_clamp, bI_eq0, not_true_eq_false, not_false_eq_true, Nat.reduceEqDiff, Nat.reduceLeDiff, Nat.reduceAdd, Nat.reduceMul, Nat.one_ne_zero, Nat.zero_ne_one, decide_eq_false_iff_not, decide_eq_true_eq, Bool.false_eq_true, decide_true, decide_false, bI_true, bI_false, one_ne, Nat.le_refl, Nat.lt_irrefl, cleT, cleF, cltT, cltF, ceqT, ceqF, ↓reduceIte, r176_1, r176_2, r176_5, r176_8, r176_10, r176_13, r176_14, r176_15, r176_18, r176_21, r176_23, zO81_3, h3, ba, w1, w2]
      exact hz
def lwF (b : Nat → Nat) (q : Nat) (i : Nat) : Nat := b (q + i) - 96
theorem lt_nI {k : Nat} (h : isLt k = true) : 97 ≤ k ∧ k ≤ 122 := by
  have h' := Bool.and_eq_true_iff.mp h
  exact ⟨of_decide_eq_true h'.1, of_decide_eq_true h'.2⟩
theorem lN_step (X c : Nat) (hc : 96 ≤ c) (h31 : c < 2 ^ 31) : (32 : Int64) * lN X + (nI c).toInt64 - 96 = lN (32 * X + (c - 96)) := by
  rw [nI_l h31, show (32 : Int64) = lN 32 from rfl, show (96 : Int64) = lN 96 from rfl, lN_mul, lN_add, lN_sub (by omega)]
  congr 1
  omega
theorem rf_letters {b : Nat → Nat} {N q : Nat} {c : Int32} {z : Option Value × mH} : ∀ k p (s : hS), p + k = N → q ≤ p → tpR s b N → s 81 3 = nI p → s 81 4 = nI q → (∀ i, q ≤ i → i < p → isLt (b i) = true) → Runs xs sl (d+1) 176 138 [some (.ref (81)), some (.int (c)), some (.long ( lN (enG (lwF b q) (min 8 (rn isLt b N p - q))))), none] [] (hp J (nxT s (rn isLt b N p)) g) z → Runs xs sl (d+1) 176 77 [some (.ref (81)), some (.int (c)), some (.long ( lN (enG (lwF b q) (min 8 (p - q))))), none] [] (hp J (s) g) z := by
  intro k
  induction k with
  | zero =>
    intro p s hk hqp hT h3 h4 hal hz
    rw [rn_end (by omega), nxS_id h3] at hz
    have ba := @rf_byteAt xs sl d J s g b N p hT (by omega)
    have lt := @rf_isLetter xs sl d b N p (fun h => by omega)
    have cN : ¬ p < N := by omega
    rw [decide_eq_false cN, Bool.false_and] at lt
    rw [r176_77]
    simp (disch := first | omega | assumption | exact Or.inl rfl | exact Or.inr rfl | exact bI_or _ | exact zC81 | exact zC47 | exact zC65 | exact zC0 | exact zC1 | exact zC32 | exact zC70 | exact zC73 | exact ztc (by assumption) | exact zdc (by assumption) | exact zpc (by assumption) | decide) only [Option.some.injEq, exists_eq_left', ex2, Option.toList, List.singleton_append, List.append_nil, List.cons_append, List.nil_append, nI_add, nI_addL, nI_Ladd, pk_mul, nI_mulL, nI_Lmul, nI_subL, pk_sub, nI_divL, sub_dm, nI_leE, nI_ltE, nI_eqE, nI_Lle, nI_leL, nI_Llt, nI_ltL, nI_eqL, va_up_self, va_up_ne, up_up, up_comm, nI_clamp, bI_eq0, not_true_eq_false, not_false_eq_true, Nat.reduceEqDiff, Nat.reduceLeDiff, Nat.reduceAdd, Nat.reduceMul, Nat.one_ne_zero, Nat.zero_ne_one, decide_eq_false_iff_not, decide_eq_true_eq, Bool.false_eq_true, decide_true, decide_false, bI_true, bI_false, one_ne, Nat.le_refl, Nat.lt_irrefl, cleT, cleF, cltT, cltF, ceqT, ceqF, ↓reduceIte, r176_78, r176_79, r176_82, r176_85, r176_88, zO81_3, h3, ba, lt]
    exact hz
  | succ k ih =>
    intro p s hk hqp hT h3 h4 hal hz
    obtain ⟨t1, t2, t3⟩ := id hT
    have ba := @rf_byteAt xs sl d J s g b N p hT (by omega)
    obtain ⟨u1, u2⟩ := t3 p (by omega)
    have lt := @rf_isLetter xs sl d b N p (fun _ => u1)
    have cN : p < N := by omega
    rw [decide_eq_true cN, Bool.true_and] at lt
    cases cl : isLt (b p)
    · rw [rn_no cl, nxS_id h3] at hz
      rw [cl] at lt
      rw [r176_77]
      simp (disch := first | omega | assumption | exact Or.inl rfl | exact Or.inr rfl | exact bI_or _ | exact zC81 | exact zC47 | exact zC65 | exact zC0 | exact zC1 | exact zC32 | exact zC70 | exact zC73 | exact ztc (by assumption) | exact zdc (by assumption) | exact zpc (by assumption) | decide) only [Option.some.injEq, exists_eq_left', ex2, Option.toList, List.singleton_append, List.append_nil, List.cons_append, List.nil_append, nI_add, nI_addL, nI_Ladd, pk_mul, nI_mulL, nI_Lmul, nI_subL, pk_sub, nI_divL, sub_dm, nI_leE, nI_ltE, nI_eqE, nI_Lle, nI_leL, nI_Llt, nI_ltL, nI_eqL, va_up_self, va_up_ne, up_up, up_comm, nI_clamp, bI_eq0, not_true_eq_false, not_false_eq_true, Nat.reduceEqDiff, Nat.reduceLeDiff, Nat.reduceAdd, Nat.reduceMul, Nat.one_ne_zero, Nat.zero_ne_one, decide_eq_false_iff_not, decide_eq_true_eq, Bool.false_eq_true, decide_true, decide_false, bI_true, bI_false, one_ne, Nat.le_refl, Nat.lt_irrefl, cleT, cleF, cltT, cltF, ceqT, ceqF, ↓reduceIte, r176_78, r176_79, r176_82, r176_85, r176_88, zO81_3, h3, ba, lt]
      exact hz
    · rw [rn_go cN cl] at hz
      rw [cl] at lt
      obtain ⟨l1, l2⟩ := lt_nI cl
      have ebA : bA b N p = nI (b p) := by unfold bA; rw [if_pos cN]
      have hn := ih (p + 1) (nxT s (p + 1)) (by omega) (by omega) (nxS_tp hT) (nxS_3 _ _) (by unfold nxT; simp (disch := first | omega | assumption | exact Or.inl rfl | exact Or.inr rfl | exact bI_or _ | exact zC81 | exact zC47 | exact zC65 | exact zC0 | exact zC1 | exact zC32 | exact zC70 | exact zC73 | exact ztc (by assumption) | exact zdc (by assumption) | exact zpc (by assumption) | decide) only [Option.some.injEq, exists_eq_left', ex2, Option.toList, List.singleton_append, List.append_nil, List.cons_append, List.nil_append, nI_add, nI_addL, nI_Ladd, pk_mul, nI_mulL, nI_Lmul, nI_subL, pk_sub, nI_divL, sub_dm, nI_leE, nI_ltE, nI_eqE, nI_Lle, nI_leL, nI_Llt, nI_ltL, nI_eqL, va_up_self, va_up_ne, up_up, up_comm, nI_clamp, bI_eq0, not_true_eq_false, not_false_eq_true, Nat.reduceEqDiff, Nat.reduceLeDiff, Nat.reduceAdd, Nat.reduceMul, Nat.one_ne_zero, Nat.zero_ne_one, decide_eq_false_iff_not, decide_eq_true_eq, Bool.false_eq_true, decide_true, decide_false, bI_true, bI_false, one_ne, Nat.le_refl, Nat.lt_irrefl, cleT, cleF, cltT, cltF, ceqT, ceqF, ↓reduceIte]; exact h4) (fun i h1 h2 => by
        by_cases e : i = p
        · rw [e]; exact cl
        · exact hal i h1 (by omega)) (by rw [nxS_nx]; exact hz)
      rw [r176_77]
      by_cases c8 : p - q < 8
      · have e1 : min 8 (p - q) = p - q := by omega
        have e2 : min 8 (p + 1 - q) = p - q + 1 := by omega
        have e3 : enG (lwF b q) (p - q + 1) = 32 * enG (lwF b q) (p - q) + (b p - 96) := by
          rw [enG]
          unfold lwF
          rw [show q + (p - q) = p by omega]
        rw [e2, e3, ← lN_step _ _ (by omega) (by omega)] at hn
        rw [e1]
        have c8' : ¬ 8 ≤ p - q := by omega
        simp (disch := first | omega | assumption | exact Or.inl rfl | exact Or.inr rfl | exact bI_or _ | exact zC81 | exact zC47 | exact zC65 | exact zC0 | exact zC1 | exact zC32 | exact zC70 | exact zC73 | exact ztc (by assumption) | exact zdc (by assumption) | exact zpc (by assumption) | decide) only [Option.some.injEq, exists_eq_left', ex2, Option.toList, List.singleton_append, List.append_nil, List.cons_append, List.nil_append, nI_add, nI_addL, nI_Ladd, pk_mul, nI_mulL, nI_Lmul, nI_subL, pk_sub, nI_divL, sub_dm, nI_leE, nI_ltE, nI_eqE, nI_Lle, nI_leL, nI_Llt, nI_ltL, nI_eqL, va_up_self, va_up_ne, up_up, up_comm, nI_clamp, bI_eq0, not_true_eq_false, not_false_eq_true, Nat.reduceEqDiff, Nat.reduceLeDiff, Nat.reduceAdd, Nat.reduceMul, Nat.one_ne_zero, Nat.zero_ne_one, decide_eq_false_iff_not, decide_eq_true_eq, Bool.false_eq_true, decide_true, decide_false, bI_true, bI_false, one_ne, Nat.le_refl, Nat.lt_irrefl, cleT, cleF, cltT, cltF, ceqT, ceqF, ↓reduceIte, r176_78, r176_79, r176_82, r176_85, r176_88, r176_91, r176_92, r176_95, r176_96, r176_99, r176_100, r176_102, r176_105, r176_108, r176_109, r176_110, r176_111, r176_112, r176_115, r176_118, r176_119, r176_120, r176_123, r176_124, r176_125, r176_126, r176_127, r176_130, r176_131, r176_132, r176_135, zO81_3, zO81_4, zW81_3, h3, h4, ba, lt, c8', Bool.true_eq_false]
        rw [ebA]
        exact hn
      · have e2 : min 8 (p + 1 - q) = min 8 (p - q) := by omega
        rw [e2] at hn
        have c8' : 8 ≤ p - q := by omega
        simp (disch := first | omega | assumption | exact Or.inl rfl | exact Or.inr rfl | exact bI_or _ | exact zC81 | exact zC47 | exact zC65 | exact zC0 | exact zC1 | exact zC32 | exact zC70 | exact zC73 | exact ztc (by assumption) | exact zdc (by assumption) | exact zpc (by assumption) | decide) only [Option.some.injEq, exists_eq_left', ex2, Option.toList, List.singleton_append, List.append_nil, List.cons_append, List.nil_append, nI_add, nI_addL, nI_Ladd, pk_mul, nI_mulL, nI_Lmul, nI_subL, pk_sub, nI_divL, sub_dm, nI_leE, nI_ltE, nI_eqE, nI_Lle, nI_leL, nI_Llt, nI_ltL, nI_eqL, va_up_self, va_up_ne, up_up, up_comm, nI_clamp, bI_eq0, not_true_eq_false, not_false_eq_true, Nat.reduceEqDiff, Nat.reduceLeDiff, Nat.reduceAdd, Nat.reduceMul, Nat.one_ne_zero, Nat.zero_ne_one, decide_eq_false_iff_not, decide_eq_true_eq, Bool.false_eq_true, decide_true, decide_false, bI_true, bI_false, one_ne, Nat.le_refl, Nat.lt_irrefl, cleT, cleF, cltT, cltF, ceqT, ceqF, ↓reduceIte, r176_78, r176_79, r176_82, r176_85, r176_88, r176_91, r176_92, r176_95, r176_96, r176_99, r176_100, r176_102, r176_105, r176_108, r176_109, r176_110, r176_111, r176_112, r176_115, r176_118, r176_119, r176_120, r176_123, r176_124, r176_125, r176_126, r176_127, r176_130, r176_131, r176_132, r176_135, zO81_3, zO81_4, zW81_3, h3, h4, ba, lt, c8', Bool.true_eq_false]
        exact hn
def nmS (s : hS) (v : Int32) : hS := va_up s 81 (va_up (s 81) 6 v)
def nuF (b : Nat → Nat) (q : Nat) : Nat → Nat
  | 0 => 0
  | k + 1 => 10 * nuF b q k + (b (q + k) - 48)
theorem rf_digits {b : Nat → Nat} {N q : Nat} {c : Int32} {z : Option Value × mH} : ∀ k p (s : hS), p + k = N → q ≤ p → tpR s b N → s 81 3 = nI p → s 81 4 = nI q → s 81 6 = nI (nuF b q (min 2 (p - q))) → (∀ i, q ≤ i → i < p → isDg (b i) = true) → Runs xs sl (d+1) 176 261 [some (.ref (81)), some (.int (c)), none, none] [] (hp J (nmS (nxT s (rn isDg b N p)) (nI (nuF b q (min 2 (rn isDg b N p - q))))) g) z → Runs xs sl (d+1) 176 198 [some (.ref (81)), some (.int (c)), none, none] [] (hp J (s) g) z := by
  intro k
  induction k with
  | zero =>
    intro p s hk hqp hT h3 h4 h6 hal hz
    have e6 : nmS s (nI (nuF b q (min 2 (p - q)))) = s := by unfold nmS; rw [← h6, up_id, up_id]
    rw [rn_end (by omega), nxS_id h3, e6] at hz
    have ba := @rf_byteAt xs sl d J s g b N p hT (by omega)
    have lt := @rf_isDigit xs sl d b N p (fun h => by omega)
    have cN : ¬ p < N := by omega
    rw [decide_eq_false cN, Bool.false_and] at lt
    rw [r176_198]
    simp (disch := first | omega | assumption | exact Or.inl rfl | exact Or.inr rfl | exact bI_or _ | exact zC81 | exact zC47 | exact zC65 | exact zC0 | exact zC1 | exact zC32 | exact zC70 | exact zC73 | exact ztc (by assumption) | exact zdc (by assumption) | exact zpc (by assumption) | decide) only [Option.some.injEq, exists_eq_left', ex2, Option.toList, List.singleton_append, List.append_nil, List.cons_append, List.nil_append, nI_add, nI_addL, nI_Ladd, pk_mul, nI_mulL, nI_Lmul, nI_subL, pk_sub, nI_divL, sub_dm, nI_leE, nI_ltE, nI_eqE, nI_Lle, nI_leL, nI_Llt, nI_ltL, nI_eqL, va_up_self, va_up_ne, up_up, up_comm, nI_clamp, bI_eq0, not_true_eq_false, not_false_eq_true, Nat.reduceEqDiff, Nat.reduceLeDiff, Nat.reduceAdd, Nat.reduceMul, Nat.one_ne_zero, Nat.zero_ne_one, decide_eq_false_iff_not, decide_eq_true_eq, Bool.false_eq_true, decide_true, decide_false, bI_true, bI_false, one_ne, Nat.le_refl, Nat.lt_irrefl, cleT, cleF, cltT, cltF, ceqT, ceqF, ↓reduceIte, r176_199, r176_200, r176_203, r176_206, r176_209, zO81_3, h3, ba, lt]
    exact hz
  | succ k ih =>
    intro p s hk hqp hT h3 h4 h6 hal hz
    obtain ⟨t1, t2, t3⟩ := id hT
    have ba := @rf_byteAt xs sl d J s g b N p hT (by omega)
    obtain ⟨u1, u2⟩ := t3 p (by omega)
    have lt := @rf_isDigit xs sl d b N p (fun _ => u1)
    have cN : p < N := by omega
    rw [decide_eq_true cN, Bool.true_and] at lt
    cases cl : isDg (b p)
    · have e6 : nmS s (nI (nuF b q (min 2 (p - q)))) = s := by unfold nmS; rw [← h6, up_id, up_id]
      rw [rn_no cl, nxS_id h3, e6] at hz
      rw [cl] at lt
      rw [r176_198]
      simp (disch := first | omega | assumption | exact Or.inl rfl | exact Or.inr rfl | exact bI_or _ | exact zC81 | exact zC47 | exact zC65 | exact zC0 | exact zC1 | exact zC32 | exact zC70 | exact zC73 | exact ztc (by assumption) | exact zdc (by assumption) | exact zpc (by assumption) | decide) only [Option.some.injEq, exists_eq_left', ex2, Option.toList, List.singleton_append, List.append_nil, List.cons_append, List.nil_append, nI_add, nI_addL, nI_Ladd, pk_mul, nI_mulL, nI_Lmul, nI_subL, pk_sub, nI_divL, sub_dm, nI_leE, nI_ltE, nI_eqE, nI_Lle, nI_leL, nI_Llt, nI_ltL, nI_eqL, va_up_self, va_up_ne, up_up, up_comm, nI_clamp, bI_eq0, not_true_eq_false, not_false_eq_true, Nat.reduceEqDiff, Nat.reduceLeDiff, Nat.reduceAdd, Nat.reduceMul, Nat.one_ne_zero, Nat.zero_ne_one, decide_eq_false_iff_not, decide_eq_true_eq, Bool.false_eq_true, decide_true, decide_false, bI_true, bI_false, one_ne, Nat.le_refl, Nat.lt_irrefl, cleT, cleF, cltT, cltF, ceqT, ceqF, ↓reduceIte, r176_199, r176_200, r176_203, r176_206, r176_209, zO81_3, h3, ba, lt]
      exact hz
    · rw [rn_go cN cl] at hz
      rw [cl] at lt
      obtain ⟨l0, l1, l2⟩ := dg_nI cl
      have ebA : bA b N p = nI (b p) := by unfold bA; rw [if_pos cN]
      have hal' : ∀ i, q ≤ i → i < p + 1 → isDg (b i) = true := fun i h1 h2 => by
        by_cases e : i = p
        · rw [e]; exact cl
        · exact hal i h1 (by omega)
      have nlt : nuF b q (min 2 (p - q)) ≤ 1000 := by
        have h3 : min 2 (p - q) = 0 ∨ min 2 (p - q) = 1 ∨ min 2 (p - q) = 2 := by omega
        rcases h3 with e | e | e
        · rw [e]; exact Nat.zero_le _
        · rw [e]
          have := (dg_nI (hal q (Nat.le_refl q) (by omega))).2
          show 10 * 0 + (b (q + 0) - 48) ≤ 1000
          rw [Nat.add_zero]
          omega
        · rw [e]
          have := (dg_nI (hal q (Nat.le_refl q) (by omega))).2
          have := (dg_nI (hal (q + 1) (by omega) (by omega))).2
          show 10 * (10 * 0 + (b (q + 0) - 48)) + (b (q + 1) - 48) ≤ 1000
          rw [Nat.add_zero]
          omega
      rw [r176_198]
      by_cases c8 : p - q < 2
      · have e1 : min 2 (p - q) = p - q := by omega
        have e2 : min 2 (p + 1 - q) = p - q + 1 := by omega
        have e3 : nuF b q (p - q + 1) = 10 * nuF b q (p - q) + (b p - 48) := by
          rw [nuF, show q + (p - q) = p by omega]
        rw [e1] at h6 nlt
        have hn := ih (p + 1) (nmS (nxT s (p + 1)) (nI (10 * nuF b q (p - q) + (b p - 48)))) (by omega) (by omega) (tpR_fr (nxS_tp (p := p + 1) hT) (by unfold nmS; simp (disch := first | omega | assumption | exact Or.inl rfl | exact Or.inr rfl | exact bI_or _ | exact zC81 | exact zC47 | exact zC65 | exact zC0 | exact zC1 | exact zC32 | exact zC70 | exact zC73 | exact ztc (by assumption) | exact zdc (by assumption) | exact zpc (by assumption) | decide) only [Option.some.injEq, exists_eq_left', ex2, Option.toList, List.singleton_append, List.append_nil, List.cons_append, List.nil_append, nI_add, nI_addL, nI_Ladd, pk_mul, nI_mulL, nI_Lmul, nI_subL, pk_sub, nI_divL, sub_dm, nI_leE, nI_ltE, nI_eqE, nI_Lle, nI_leL, nI_Llt, nI_ltL, nI_eqL, va_up_self, va_up_ne, up_up, up_comm, nI_clamp, bI_eq0, not_true_eq_false, not_false_eq_true, Nat.reduceEqDiff, Nat.reduceLeDiff, Nat.reduceAdd, Nat.reduceMul, Nat.one_ne_zero, Nat.zero_ne_one, decide_eq_false_iff_not, decide_eq_true_eq, Bool.false_eq_true, decide_true, decide_false, bI_true, bI_false, one_ne, Nat.le_refl, Nat.lt_irrefl, cleT, cleF, cltT, cltF, ceqT, ceqF, ↓reduceIte]) (fun i _ => by unfold nmS; simp (disch := first | omega | assumption | exact Or.inl rfl | exact Or.inr rfl | exact bI_or _ | exact zC81 | exact zC47 | exact zC65 | exact zC0 | exact zC1 | exact zC32 | exact zC70 | exact zC73 | exact ztc (by assumption) | exact zdc (by assumption) | exact zpc (by assumption) | decide) only [Option.some.injEq, exists_eq_left', ex2, Option.toList, List.singleton_append, List.append_nil, List.cons_append, List.nil_append, nI_add, nI_addL, nI_Ladd, pk_mul, nI_mulL, nI_Lmul, nI_subL, pk_sub, nI_divL, sub_dm, nI_leE, nI_ltE, nI_eqE, nI_Lle, nI_leL, nI_Llt, nI_ltL, nI_eqL, va_up_self, va_up_ne, up_up, up_comm, nI_clamp, bI_eq0, not_true_eq_false, not_false_eq_true, Nat.reduceEqDiff, Nat.reduceLeDiff, Nat.reduceAdd, Nat.reduceMul, Nat.one_ne_zero, Nat.zero_ne_one, decide_eq_false_iff_not, decide_eq_true_eq, Bool.false_eq_true, decide_true, decide_false, bI_true, bI_false, one_ne, Nat.le_refl, Nat.lt_irrefl, cleT, cleF, cltT, cltF, ceqT, ceqF, ↓reduceIte])) (by unfold nmS nxT; simp (disch := first | omega | assumption | exact Or.inl rfl | exact Or.inr rfl | exact bI_or _ | exact zC81 | exact zC47 | exact zC65 | exact zC0 | exact zC1 | exact zC32 | exact zC70 | exact zC73 | exact ztc (by assumption) | exact zdc (by assumption) | exact zpc (by assumption) | decide) only [Option.some.injEq, exists_eq_left', ex2, Option.toList, List.singleton_append, List.append_nil, List.cons_append, List.nil_append, nI_add, nI_addL, nI_Ladd, pk_mul, nI_mulL, nI_Lmul, nI_subL, pk_sub, nI_divL, sub_dm, nI_leE, nI_ltE, nI_eqE, nI_Lle, nI_leL, nI_Llt, nI_ltL, nI_eqL, va_up_self, va_up_ne, up_up, up_comm, nI_clamp, bI_eq0, not_true_eq_false, not_false_eq_true, Nat.reduceEqDiff, Nat.reduceLeDiff, Nat.reduceAdd, Nat.reduceMul, Nat.one_ne_zero, Nat.zero_ne_one, decide_eq_false_iff_not, decide_eq_true_eq, Bool.false_eq_true, decide_true, decide_false, bI_true, bI_false, one_ne, Nat.le_refl, Nat.lt_irrefl, cleT, cleF, cltT, cltF, ceqT, ceqF, ↓reduceIte]) (by unfold nmS nxT; simp (disch := first | omega | assumption | exact Or.inl rfl | exact Or.inr rfl | exact bI_or _ | exact zC81 | exact zC47 | exact zC65 | exact zC0 | exact zC1 | exact zC32 | exact zC70 | exact zC73 | exact ztc (by assumption) | exact zdc (by assumption) | exact zpc (by assumption) | decide) only [Option.some.injEq, exists_eq_left', ex2, Option.toList, List.singleton_append, List.append_nil, List.cons_append, List.nil_append, nI_add, nI_addL, nI_Ladd, pk_mul, nI_mulL, nI_Lmul, nI_subL, pk_sub, nI_divL, sub_dm, nI_leE, nI_ltE, nI_eqE, nI_Lle, nI_leL, nI_Llt, nI_ltL, nI_eqL, va_up_self, va_up_ne, up_up, up_comm, nI_clamp, bI_eq0, not_true_eq_false, not_false_eq_true, Nat.reduceEqDiff, Nat.reduceLeDiff, Nat.reduceAdd, Nat.reduceMul, Nat.one_ne_zero, Nat.zero_ne_one, decide_eq_false_iff_not, decide_eq_true_eq, Bool.false_eq_true, decide_true, decide_false, bI_true, bI_false, one_ne, Nat.le_refl, Nat.lt_irrefl, cleT, cleF, cltT, cltF, ceqT, ceqF, ↓reduceIte]; exact h4) (by rw [e2, e3]; unfold nmS; simp (disch := first | omega | assumption | exact Or.inl rfl | exact Or.inr rfl | exact bI_or _ | exact zC81 | exact zC47 | exact zC65 | exact zC0 | exact zC1 | exact zC32 | exact zC70 | exact zC73 | exact ztc (by assumption) | exact zdc (by assumption) | exact zpc (by assumption) | decide) only [Option.some.injEq, exists_eq_left', ex2, Option.toList, List.singleton_append, List.append_nil, List.cons_append, List.nil_append, nI_add, nI_addL, nI_Ladd, pk_mul, nI_mulL, nI_Lmul, nI_subL, pk_sub, nI_divL, sub_dm, nI_leE, nI_ltE, nI_eqE, nI_Lle, nI_leL, nI_Llt, nI_ltL, nI_eqL, va_up_self, va_up_ne, up_up, up_comm, nI_clamp, bI_eq0, not_true_eq_false, not_false_eq_true, Nat.reduceEqDiff, Nat.reduceLeDiff, Nat.reduceAdd, Nat.reduceMul, Nat.one_ne_zero, Nat.zero_ne_one, decide_eq_false_iff_not, decide_eq_true_eq, Bool.false_eq_true, decide_true, decide_false, bI_true, bI_false, one_ne, Nat.le_refl, Nat.lt_irrefl, cleT, cleF, cltT, cltF, ceqT, ceqF, ↓reduceIte]) hal' (by
          have ee : ∀ (a : Nat) (v w : Int32), nmS (nxT (nmS (nxT s (p + 1)) v) a) w = nmS (nxT s a) w := by
            intro a v w
            unfold nmS nxT
            simp (disch := first | omega | assumption | exact Or.inl rfl | exact Or.inr rfl | exact bI_or _ | exact zC81 | exact zC47 | exact zC65 | exact zC0 | exact zC1 | exact zC32 | exact zC70 | exact zC73 | exact ztc (by assumption) | exact zdc (by assumption) | exact zpc (by assumption) | decide) only [Option.some.injEq, exists_eq_left', ex2, Option.toList, List.singleton_append, List.append_nil, List.cons_append, List.nil_append, nI_add, nI_addL, nI_Ladd, pk_mul, nI_mulL, nI_Lmul, nI_subL, pk_sub, nI_divL, sub_dm, nI_leE, nI_ltE, nI_eqE, nI_Lle, nI_leL, nI_Llt, nI_ltL, nI_eqL, va_up_self, va_up_ne, up_up, up_comm, nI_clamp, bI_eq0, not_true_eq_false, not_false_eq_true, Nat.reduceEqDiff, Nat.reduceLeDiff, Nat.reduceAdd, Nat.reduceMul, Nat.one_ne_zero, Nat.zero_ne_one, decide_eq_false_iff_not, decide_eq_true_eq, Bool.false_eq_true, decide_true, decide_false, bI_true, bI_false, one_ne, Nat.le_refl, Nat.lt_irrefl, cleT, cleF, cltT, cltF, ceqT, ceqF, ↓reduceIte]
          rw [ee]
          exact hz)
        have c8' : ¬ 2 ≤ p - q := by omega
        have e5 : nI (10 * nuF b q (p - q) + b p) - 48 = nI (10 * nuF b q (p - q) + (b p - 48)) := by
          rw [show (48 : Int32) = nI 48 from rfl, pk_sub (by omega)]
          congr 1
          omega
        have e7 : nmS (nxT s (p + 1)) (nI (10 * nuF b q (p - q) + (b p - 48))) = va_up s 81 (va_up (va_up (s 81) 3 (nI (p + 1))) 6 (nI (10 * nuF b q (p - q) + (b p - 48)))) := by unfold nmS nxT; simp (disch := first | omega | assumption | exact Or.inl rfl | exact Or.inr rfl | exact bI_or _ | exact zC81 | exact zC47 | exact zC65 | exact zC0 | exact zC1 | exact zC32 | exact zC70 | exact zC73 | exact ztc (by assumption) | exact zdc (by assumption) | exact zpc (by assumption) | decide) only [Option.some.injEq, exists_eq_left', ex2, Option.toList, List.singleton_append, List.append_nil, List.cons_append, List.nil_append, nI_add, nI_addL, nI_Ladd, pk_mul, nI_mulL, nI_Lmul, nI_subL, pk_sub, nI_divL, sub_dm, nI_leE, nI_ltE, nI_eqE, nI_Lle, nI_leL, nI_Llt, nI_ltL, nI_eqL, va_up_self, va_up_ne, up_up, up_comm, nI_clamp, bI_eq0, not_true_eq_false, not_false_eq_true, Nat.reduceEqDiff, Nat.reduceLeDiff, Nat.reduceAdd, Nat.reduceMul, Nat.one_ne_zero, Nat.zero_ne_one, decide_eq_false_iff_not, decide_eq_true_eq, Bool.false_eq_true, decide_true, decide_false, bI_true, bI_false, one_ne, Nat.le_refl, Nat.lt_irrefl, cleT, cleF, cltT, cltF, ceqT, ceqF, ↓reduceIte]
        rw [e7] at hn
        rw [ebA] at ba lt
        simp (disch := first | omega | assumption | exact zC81) only [r176_199, r176_200, r176_203, r176_206, r176_209, r176_212, r176_213, r176_216, r176_217, r176_220, r176_221, r176_222, r176_225, r176_226, r176_228, r176_229, r176_232, r176_233, r176_234, r176_235, r176_238, r176_241, r176_242, r176_244, r176_245, r176_248, r176_249, r176_250, r176_253, r176_254, r176_255, r176_258, zO81_3, zO81_4, zO81_6, zW81_3, zW81_6, h3, h4, h6, ba, lt, pk_sub, nI_leL, nI_Lle, c8', cleF, bI_true, one_ne, nI_Lmul, nI_add, e5, nI_1, va_up_self, va_up_ne, up_up, up_comm, ne_eq, Nat.reduceEqDiff, not_false_eq_true, Option.some.injEq, exists_eq_left', ex2, Option.toList, List.singleton_append, List.append_nil, List.cons_append, List.nil_append, ↓reduceIte]
        exact hn
      · have e2 : min 2 (p + 1 - q) = min 2 (p - q) := by omega
        have hn := ih (p + 1) (nxT s (p + 1)) (by omega) (by omega) (nxS_tp hT) (nxS_3 _ _) (by unfold nxT; simp (disch := first | omega | assumption | exact Or.inl rfl | exact Or.inr rfl | exact bI_or _ | exact zC81 | exact zC47 | exact zC65 | exact zC0 | exact zC1 | exact zC32 | exact zC70 | exact zC73 | exact ztc (by assumption) | exact zdc (by assumption) | exact zpc (by assumption) | decide) only [Option.some.injEq, exists_eq_left', ex2, Option.toList, List.singleton_append, List.append_nil, List.cons_append, List.nil_append, nI_add, nI_addL, nI_Ladd, pk_mul, nI_mulL, nI_Lmul, nI_subL, pk_sub, nI_divL, sub_dm, nI_leE, nI_ltE, nI_eqE, nI_Lle, nI_leL, nI_Llt, nI_ltL, nI_eqL, va_up_self, va_up_ne, up_up, up_comm, nI_clamp, bI_eq0, not_true_eq_false, not_false_eq_true, Nat.reduceEqDiff, Nat.reduceLeDiff, Nat.reduceAdd, Nat.reduceMul, Nat.one_ne_zero, Nat.zero_ne_one, decide_eq_false_iff_not, decide_eq_true_eq, Bool.false_eq_true, decide_true, decide_false, bI_true, bI_false, one_ne, Nat.le_refl, Nat.lt_irrefl, cleT, cleF, cltT, cltF, ceqT, ceqF, ↓reduceIte]; exact h4) (by rw [e2]; unfold nxT; simp (disch := first | omega | assumption | exact Or.inl rfl | exact Or.inr rfl | exact bI_or _ | exact zC81 | exact zC47 | exact zC65 | exact zC0 | exact zC1 | exact zC32 | exact zC70 | exact zC73 | exact ztc (by assumption) | exact zdc (by assumption) | exact zpc (by assumption) | decide) only [Option.some.injEq, exists_eq_left', ex2, Option.toList, List.singleton_append, List.append_nil, List.cons_append, List.nil_append, nI_add, nI_addL, nI_Ladd, pk_mul, nI_mulL, nI_Lmul, nI_subL, pk_sub, nI_divL, sub_dm, nI_leE, nI_ltE, nI_eqE, nI_Lle, nI_leL, nI_Llt, nI_ltL, nI_eqL, va_up_self, va_up_ne, up_up, up_comm, nI_clamp, bI_eq0, not_true_eq_false, not_false_eq_true, Nat.reduceEqDiff, Nat.reduceLeDiff, Nat.reduceAdd, Nat.reduceMul, Nat.one_ne_zero, Nat.zero_ne_one, decide_eq_false_iff_not, decide_eq_true_eq, Bool.false_eq_true, decide_true, decide_false, bI_true, bI_false, one_ne, Nat.le_refl, Nat.lt_irrefl, cleT, cleF, cltT, cltF, ceqT, ceqF, ↓reduceIte]; exact h6) hal' (by rw [nxS_nx]; exact hz)
        have c8' : 2 ≤ p - q := by omega
        simp (disch := first | omega | assumption | exact Or.inl rfl | exact Or.inr rfl | exact bI_or _ | exact zC81 | exact zC47 | exact zC65 | exact zC0 | exact zC1 | exact zC32 | exact zC70 | exact zC73 | exact ztc (by assumption) | exact zdc (by assumption) | exact zpc (by assumption) | decide) only [Option.some.injEq, exists_eq_left', ex2, Option.toList, List.singleton_append, List.append_nil, List.cons_append, List.nil_append, nI_add, nI_addL, nI_Ladd, pk_mul, nI_mulL, nI_Lmul, nI_subL, pk_sub, nI_divL, sub_dm, nI_leE, nI_ltE, nI_eqE, nI_Lle, nI_leL, nI_Llt, nI_ltL, nI_eqL, va_up_self, va_up_ne, up_up, up_comm, nI_clamp, bI_eq0, not_true_eq_false, not_false_eq_true, Nat.reduceEqDiff, Nat.reduceLeDiff, Nat.reduceAdd, Nat.reduceMul, Nat.one_ne_zero, Nat.zero_ne_one, decide_eq_false_iff_not, decide_eq_true_eq, Bool.false_eq_true, decide_true, decide_false, bI_true, bI_false, one_ne, Nat.le_refl, Nat.lt_irrefl, cleT, cleF, cltT, cltF, ceqT, ceqF, ↓reduceIte, r176_199, r176_200, r176_203, r176_206, r176_209, r176_212, r176_213, r176_216, r176_217, r176_220, r176_221, r176_222, r176_225, r176_226, r176_228, r176_229, r176_232, r176_233, r176_234, r176_235, r176_238, r176_241, r176_242, r176_244, r176_245, r176_248, r176_249, r176_250, r176_253, r176_254, r176_255, r176_258, zO81_3, zO81_4, zW81_3, h3, h4, ba, lt, c8', Bool.true_eq_false]
        exact hn
end TXE
