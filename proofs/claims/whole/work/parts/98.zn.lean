/-! TEXT: the reference's tokens, one by one -/
section TXN
variable {xs : Nat → Int32} {sl d : Nat} {J : hJk} {s x y : hS} {g : hG}
/-- the reference stands before the token behind p -/
def TKp (b : Nat → Nat) (N p : Nat) (t : hS) : Prop := t 81 4 = nI (rn isBl b N p) ∧ t 81 5 = nI (kQ b N (rn isBl b N p)) ∧ (kQ b N (rn isBl b N p) = 1 → t 81 6 = nI (vQ b N (rn isBl b N p))) ∧ (kQ b N (rn isBl b N p) = 3 → t 81 7 = nI (wm (vQ b N (rn isBl b N p)))) ∧ (kQ b N (rn isBl b N p) = 1 ∨ kQ b N (rn isBl b N p) = 2 ∨ kQ b N (rn isBl b N p) = 3 → t 81 3 = nI (eQ b N (rn isBl b N p)))
def RM (b : Nat → Nat) (N : Nat) (σ : TxS) (t : hS) : Prop := tpR t b N ∧ σ.2.1 ≤ N ∧ (σ.1 = true → t 81 8 = 1 ∧ t 82 5 = 1 ∧ t 82 6 = nI σ.2.1) ∧ (σ.1 = false → t 81 8 = 0 ∧ t 82 5 = nI σ.2.2.1 ∧ σ.2.2.1 < 6 ∧ (σ.2.2.1 ≠ 0 → t 82 6 = nI σ.2.2.2 ∧ (σ.2.2.2 < σ.2.1 ∨ (σ.2.2.2 = rn isBl b N σ.2.1 ∧ σ.2.2.1 ≤ 2))) ∧ TKp b N σ.2.1 t)
def RF (s t : hS) : Prop := (∀ c, c ≠ 81 → c ≠ 82 → t c = s c) ∧ (∀ j, j < 3 ∨ 8 < j → t 81 j = s 81 j) ∧ (∀ i, (i ≠ 5 ∧ i ≠ 6) ∨ t 82 5 = 0 → t 82 i = s 82 i)
theorem RF_refl (s : hS) : RF s s := ⟨fun _ _ _ => rfl, fun _ _ => rfl, fun _ _ => rfl⟩
theorem RF_trans {x y z : hS} (h1 : RF x y) (h2 : RF y z) : RF x z := ⟨fun c h h' => (h2.1 c h h').trans (h1.1 c h h'), fun j h => (h2.2.1 j h).trans (h1.2.1 j h), fun i h => by
  rcases h with h | h
  · exact (h2.2.2 i (Or.inl h)).trans (h1.2.2 i (Or.inl h))
  · have e := h2.2.2 5 (Or.inr h)
    exact (h2.2.2 i (Or.inr h)).trans (h1.2.2 i (Or.inr (e.symm.trans h)))⟩
theorem RF_tp {b : Nat → Nat} {N : Nat} {s t : hS} (h : RF s t) (hT : tpR s b N) : tpR t b N := tpR_fr hT (h.2.1 2 (by omega)) (fun i _ => h.2.2 (10 + i) (Or.inl ⟨by omega, by omega⟩))
theorem rf_adv {b : Nat → Nat} {N e F P : Nat} (hT : tpR s b N) (h3 : s 81 3 = nI e) (heN : e ≤ N) (h8 : s 81 8 = 0) (h5 : s 82 5 = nI F) (h6 : F < 6) (hP : F ≠ 0 → s 82 6 = nI P ∧ P < e) : ∃ t : hS, Runs xs sl (d+3+1) 176 0 [some (.ref (81)), none, none, none] [] (hp J (s) g) (none, hp J t g) ∧ RM b N (false, e, F, P) t ∧ RF s t := by
  obtain ⟨t, q1, u0, u1, u2, u3, u4, u5, u6⟩ := @rf_advance xs sl d J s g b N e hT h3 heN
  have hf : RF s t := ⟨fun c h _ => u0 c h, fun j h => u1 j (by omega), fun i _ => by rw [u0 82 (by decide)]⟩
  refine ⟨t, q1, ⟨RF_tp hf hT, heN, fun h => (by cases h), fun _ => ⟨(u1 8 (by omega)).trans h8, ?_, h6, fun hF => ⟨?_, Or.inl (hP hF).2⟩, u2, u3, u4, u5, u6⟩⟩, hf⟩
  · rw [u0 82 (by decide)]; exact h5
  · rw [u0 82 (by decide)]; exact (hP hF).1
theorem rf_ends (h8 : s 81 8 = 0) {r : Option Value × mH} : Runs xs sl (d) 186 0 [some (.ref (81))] [] (hp J (s) g) r ↔ r = (none, hp J (va_up (va_up s 81 (va_up (s 81) 8 1)) 82 (va_up (va_up (s 82) 5 1) 6 (s 81 4))) g) := by
  refine Runs.iff ?_
  have a5 : hAw (hp J (va_up s 81 (va_up (s 81) 8 1)) g) 82 0 5 1 = some (hp J (va_up (va_up s 81 (va_up (s 81) 8 1)) 82 (va_up (va_up s 81 (va_up (s 81) 8 1) 82) 5 1)) g) := zS82 (i := 5) (by decide)
  have a6 : ∀ (x : hS) v, hAw (hp J x g) 82 0 6 v = some (hp J (va_up x 82 (va_up (x 82) 6 v)) g) := fun x v => zS82 (i := 6) (by decide)
  simp (disch := first | omega | assumption | exact Or.inl rfl | exact Or.inr rfl | exact bI_or _ | exact zC81 | exact zC47 | exact zC65 | exact zC0 | exact zC1 | exact zC32 | exact zC70 | exact zC73 | exact ztc (by assumption) | exact zdc (by assumption) | exact zpc (by assumption) | decide) only [Option.some.injEq, exists_eq_left', ex2, Option.toList, List.singleton_append, List.append_nil, List.cons_append, List.nil_append, nI_add, nI_addL, nI_Ladd, pk_mul, nI_mulL, nI_Lmul, nI_subL, pk_sub, nI_divL, sub_dm, nI_leE, nI_ltE, nI_eqE, nI_Lle, nI_leL, nI_Llt, nI_ltL, nI_eqL, va_up_self, va_up_ne, up_up, up_comm, nI_clamp, bI_eq0, not_true_eq_false, not_false_eq_true, Nat.reduceEqDiff, Nat.reduceLeDiff, Nat.reduceAdd, Nat.reduceMul, Nat.one_ne_zero, Nat.zero_ne_one, decide_eq_false_iff_not, decide_eq_true_eq, Bool.false_eq_true, decide_true, decide_false, bI_true, bI_false, one_ne, Nat.le_refl, Nat.lt_irrefl, cleT, cleF, cltT, cltF, ceqT, ceqF, ↓reduceIte, r186_0, r186_1, r186_4, r186_7, r186_8, r186_9, r186_10, r186_13, r186_14, r186_17, r186_18, r186_19, r186_20, r186_21, r186_24, r186_26, r186_27, r186_30, r186_31, zO81_0, zO81_4, zO81_8, zW81_8, h8, a5, a6]
theorem rf_ends_w (h8 : s 81 8 = 1) {r : Option Value × mH} : Runs xs sl (d) 186 0 [some (.ref (81))] [] (hp J (s) g) r ↔ r = (none, hp J (s) g) := by
  refine Runs.iff ?_
  have n : ¬ (1 : Int32) = 0 := by decide
  simp (disch := first | omega | assumption | exact Or.inl rfl | exact Or.inr rfl | exact bI_or _ | exact zC81 | exact zC47 | exact zC65 | exact zC0 | exact zC1 | exact zC32 | exact zC70 | exact zC73 | exact ztc (by assumption) | exact zdc (by assumption) | exact zpc (by assumption) | decide) only [Option.some.injEq, exists_eq_left', ex2, Option.toList, List.singleton_append, List.append_nil, List.cons_append, List.nil_append, nI_add, nI_addL, nI_Ladd, pk_mul, nI_mulL, nI_Lmul, nI_subL, pk_sub, nI_divL, sub_dm, nI_leE, nI_ltE, nI_eqE, nI_Lle, nI_leL, nI_Llt, nI_ltL, nI_eqL, va_up_self, va_up_ne, up_up, up_comm, nI_clamp, bI_eq0, not_true_eq_false, not_false_eq_true, Nat.reduceEqDiff, Nat.reduceLeDiff, Nat.reduceAdd, Nat.reduceMul, Nat.one_ne_zero, Nat.zero_ne_one, decide_eq_false_iff_not, decide_eq_true_eq, Bool.false_eq_true, decide_true, decide_false, bI_true, bI_false, one_ne, Nat.le_refl, Nat.lt_irrefl, cleT, cleF, cltT, cltF, ceqT, ceqF, ↓reduceIte, r186_0, r186_1, r186_4, r186_7, r186_8, r186_9, r186_10, r186_13, r186_14, r186_17, r186_18, r186_19, r186_20, r186_21, r186_24, r186_26, r186_27, r186_30, r186_31, zO81_8, h8, n]
theorem RM_end {b : Nat → Nat} {N : Nat} {σ : TxS} (hw : σ.1 = false) (hM : RM b N σ s) : RM b N (true, rn isBl b N σ.2.1, 0, 0) (va_up (va_up s 81 (va_up (s 81) 8 1)) 82 (va_up (va_up (s 82) 5 1) 6 (s 81 4))) ∧ RF s (va_up (va_up s 81 (va_up (s 81) 8 1)) 82 (va_up (va_up (s 82) 5 1) 6 (s 81 4))) := by
  obtain ⟨hT, hpN, -, h⟩ := hM
  obtain ⟨h8, -, -, -, h4, -⟩ := h hw
  have hf : RF s (va_up (va_up s 81 (va_up (s 81) 8 1)) 82 (va_up (va_up (s 82) 5 1) 6 (s 81 4))) := by
    refine ⟨fun c h h' => ?_, fun j hj => ?_, fun i h => ?_⟩
    · rw [va_up_ne _ _ h', va_up_ne _ _ h]
    · rw [va_up_ne _ _ (by decide), va_up_self, va_up_ne _ _ (by omega)]
    · rcases h with ⟨h, h'⟩ | h
      · rw [va_up_self, va_up_ne _ _ h', va_up_ne _ _ h]
      · rw [va_up_self, va_up_ne _ _ (by decide), va_up_self] at h; exact absurd h (by decide)
  refine ⟨⟨RF_tp hf hT, (rn_prop (P := isBl) (b := b) (N := N) (N - σ.2.1) σ.2.1 (by omega)).2.1, fun _ => ⟨?_, ?_, ?_⟩, fun h => by cases h⟩, hf⟩
  · rw [va_up_ne _ _ (by decide), va_up_self, va_up_self]
  · rw [va_up_self, va_up_ne _ _ (by decide), va_up_self]
  · rw [va_up_self, va_up_self]; exact h4
theorem rf_also {F P q1 : Nat} {k : Int32} {K : Nat} (hk : k = nI K) (hK : K < 10) (hF6 : F < 10) (h8 : s 81 8 = 0) (h5 : s 82 5 = nI F) (hP : F ≠ 0 → s 82 6 = nI P ∧ (P < q1 ∨ (P = q1 ∧ F ≤ K))) (hq : q1 < 1000) {r : Option Value × mH} : Runs xs sl (d) 188 0 [some (.ref (81)), some (.int ( k)), some (.int ( nI q1))] [] (hp J (s) g) r ↔ r = (none, hp J (if F = 0 then va_up s 82 (va_up (va_up (s 82) 5 k) 6 (nI q1)) else s) g) := by
  refine Runs.iff ?_
  have a5 : ∀ (x : hS), hA (hp J x g) 82 0 5 = some (x 82 5) := fun x => zA82 (i := 5) (by decide)
  have a6 : ∀ (x : hS), hA (hp J x g) 82 0 6 = some (x 82 6) := fun x => zA82 (i := 6) (by decide)
  have b5 : ∀ (x : hS) v, hAw (hp J x g) 82 0 5 v = some (hp J (va_up x 82 (va_up (x 82) 5 v)) g) := fun x v => zS82 (i := 5) (by decide)
  have b6 : ∀ (x : hS) v, hAw (hp J x g) 82 0 6 v = some (hp J (va_up x 82 (va_up (x 82) 6 v)) g) := fun x v => zS82 (i := 6) (by decide)
  by_cases c : F = 0
  · subst c
    have h5 : s 82 5 = 0 := h5
    rw [if_pos rfl]
    simp (disch := first | omega | assumption | exact Or.inl rfl | exact Or.inr rfl | exact bI_or _ | exact zC81 | exact zC47 | exact zC65 | exact zC0 | exact zC1 | exact zC32 | exact zC70 | exact zC73 | exact ztc (by assumption) | exact zdc (by assumption) | exact zpc (by assumption) | decide) only [Option.some.injEq, exists_eq_left', ex2, Option.toList, List.singleton_append, List.append_nil, List.cons_append, List.nil_append, nI_add, nI_addL, nI_Ladd, pk_mul, nI_mulL, nI_Lmul, nI_subL, pk_sub, nI_divL, sub_dm, nI_leE, nI_ltE, nI_eqE, nI_Lle, nI_leL, nI_Llt, nI_ltL, nI_eqL, va_up_self, va_up_ne, up_up, up_comm, nI_clamp, bI_eq0, not_true_eq_false, not_false_eq_true, Nat.reduceEqDiff, Nat.reduceLeDiff, Nat.reduceAdd, Nat.reduceMul, Nat.one_ne_zero, Nat.zero_ne_one, decide_eq_false_iff_not, decide_eq_true_eq, Bool.false_eq_true, decide_true, decide_false, bI_true, bI_false, one_ne, Nat.le_refl, Nat.lt_irrefl, cleT, cleF, cltT, cltF, ceqT, ceqF, ↓reduceIte, r188_0, r188_1, r188_4, r188_7, r188_8, r188_11, r188_12, r188_13, r188_16, r188_17, r188_20, r188_22, r188_23, r188_24, r188_27, r188_28, r188_31, r188_33, r188_34, r188_35, r188_38, r188_39, r188_42, r188_43, r188_44, r188_45, r188_48, r188_49, r188_50, r188_53, r188_54, r188_55, r188_56, r188_57, r188_60, r188_62, r188_63, r188_64, zO81_0, zO81_8, h8, h5, a5, b5, b6]
  · rw [if_neg c]
    have nF : ¬ nI F = 0 := by simp (disch := first | omega | assumption | exact Or.inl rfl | exact Or.inr rfl | exact bI_or _ | exact zC81 | exact zC47 | exact zC65 | exact zC0 | exact zC1 | exact zC32 | exact zC70 | exact zC73 | exact ztc (by assumption) | exact zdc (by assumption) | exact zpc (by assumption) | decide) only [Option.some.injEq, exists_eq_left', ex2, Option.toList, List.singleton_append, List.append_nil, List.cons_append, List.nil_append, nI_add, nI_addL, nI_Ladd, pk_mul, nI_mulL, nI_Lmul, nI_subL, pk_sub, nI_divL, sub_dm, nI_leE, nI_ltE, nI_eqE, nI_Lle, nI_leL, nI_Llt, nI_ltL, nI_eqL, va_up_self, va_up_ne, up_up, up_comm, nI_clamp, bI_eq0, not_true_eq_false, not_false_eq_true, Nat.reduceEqDiff, Nat.reduceLeDiff, Nat.reduceAdd, Nat.reduceMul, Nat.one_ne_zero, Nat.zero_ne_one, decide_eq_false_iff_not, decide_eq_true_eq, Bool.false_eq_true, decide_true, decide_false, bI_true, bI_false, one_ne, Nat.le_refl, Nat.lt_irrefl, cleT, cleF, cltT, cltF, ceqT, ceqF, ↓reduceIte, c]
    obtain ⟨e6, e⟩ := hP c
    by_cases c1 : P < q1
    · simp (disch := first | omega | assumption | exact Or.inl rfl | exact Or.inr rfl | exact bI_or _ | exact zC81 | exact zC47 | exact zC65 | exact zC0 | exact zC1 | exact zC32 | exact zC70 | exact zC73 | exact ztc (by assumption) | exact zdc (by assumption) | exact zpc (by assumption) | decide) only [Option.some.injEq, exists_eq_left', ex2, Option.toList, List.singleton_append, List.append_nil, List.cons_append, List.nil_append, nI_add, nI_addL, nI_Ladd, pk_mul, nI_mulL, nI_Lmul, nI_subL, pk_sub, nI_divL, sub_dm, nI_leE, nI_ltE, nI_eqE, nI_Lle, nI_leL, nI_Llt, nI_ltL, nI_eqL, va_up_self, va_up_ne, up_up, up_comm, nI_clamp, bI_eq0, not_true_eq_false, not_false_eq_true, Nat.reduceEqDiff, Nat.reduceLeDiff, Nat.reduceAdd, Nat.reduceMul, Nat.one_ne_zero, Nat.zero_ne_one, decide_eq_false_iff_not, decide_eq_true_eq, Bool.false_eq_true, decide_true, decide_false, bI_true, bI_false, one_ne, Nat.le_refl, Nat.lt_irrefl, cleT, cleF, cltT, cltF, ceqT, ceqF, ↓reduceIte, r188_0, r188_1, r188_4, r188_7, r188_8, r188_11, r188_12, r188_13, r188_16, r188_17, r188_20, r188_22, r188_23, r188_24, r188_27, r188_28, r188_31, r188_33, r188_34, r188_35, r188_38, r188_39, r188_42, r188_43, r188_44, r188_45, r188_48, r188_49, r188_50, r188_53, r188_54, r188_55, r188_56, r188_57, r188_60, r188_62, r188_63, r188_64, zO81_0, zO81_8, h8, h5, a5, a6, e6, nF, c1]
    · have e1 : P = q1 ∧ F ≤ K := by omega
      have e2 := eq_true e1.1
      have e3 := e1.2
      have p1000 : P < 1000 := by omega
      subst hk
      simp (disch := first | omega | assumption | exact Or.inl rfl | exact Or.inr rfl | exact bI_or _ | exact zC81 | exact zC47 | exact zC65 | exact zC0 | exact zC1 | exact zC32 | exact zC70 | exact zC73 | exact ztc (by assumption) | exact zdc (by assumption) | exact zpc (by assumption) | decide) only [Option.some.injEq, exists_eq_left', ex2, Option.toList, List.singleton_append, List.append_nil, List.cons_append, List.nil_append, nI_add, nI_addL, nI_Ladd, pk_mul, nI_mulL, nI_Lmul, nI_subL, pk_sub, nI_divL, sub_dm, nI_leE, nI_ltE, nI_eqE, nI_Lle, nI_leL, nI_Llt, nI_ltL, nI_eqL, va_up_self, va_up_ne, up_up, up_comm, nI_clamp, bI_eq0, not_true_eq_false, not_false_eq_true, Nat.reduceEqDiff, Nat.reduceLeDiff, Nat.reduceAdd, Nat.reduceMul, Nat.one_ne_zero, Nat.zero_ne_one, decide_eq_false_iff_not, decide_eq_true_eq, Bool.false_eq_true, decide_true, decide_false, bI_true, bI_false, one_ne, Nat.le_refl, Nat.lt_irrefl, cleT, cleF, cltT, cltF, ceqT, ceqF, ↓reduceIte, r188_0, r188_1, r188_4, r188_7, r188_8, r188_11, r188_12, r188_13, r188_16, r188_17, r188_20, r188_22, r188_23, r188_24, r188_27, r188_28, r188_31, r188_33, r188_34, r188_35, r188_38, r188_39, r188_42, r188_43, r188_44, r188_45, r188_48, r188_49, r188_50, r188_53, r188_54, r188_55, r188_56, r188_57, r188_60, r188_62, r188_63, r188_64, zO81_0, zO81_8, h8, h5, a5, a6, e6, nF, c1, e2, e3]
end TXN
