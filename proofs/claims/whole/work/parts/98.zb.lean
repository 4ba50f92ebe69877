/-! TEXT: the class takes a token -/
section TXB
variable {xs : Nat → Int32} {sl d : Nat} {J : hJk} {s x y : hS} {g : hG}
def numV (b : Nat → Nat) (q e : Nat) : Nat := if e - q = 2 then 10 * (b q - 48) + (b (e - 1) - 48) else b (e - 1) - 48
def tvS (s : hS) (t v : Int32) : hS := va_up s 32 (va_up (va_up (s 32) 10 t) 12 v)
theorem dg_nI {k : Nat} (h : isDg k = true) : sb k = nI k ∧ 48 ≤ k ∧ k ≤ 57 := by
  have h' := Bool.and_eq_true_iff.mp h
  have h1 := of_decide_eq_true h'.1
  have h2 := of_decide_eq_true h'.2
  exact ⟨sbz_nI k (by omega), h1, h2⟩
theorem cl_takeNumber {b : Nat → Nat} {N q : Nat} (hT : tpC s b N) (h9 : s 32 9 = nI q) (h11 : s 32 11 = nI q) (hq : q < N) (hd : isDg (b q) = true) : Runs xs sl (d+1) 90 0 [some (.ref (32)), none] [] (hp J (s) g) (none, hp J (if rn isDg b N q - q ≤ 2 then tvS (atS s (rn isDg b N q)) 3 (nI (numV b q (rn isDg b N q))) else atS s (rn isDg b N q)) g) := by
  obtain ⟨t1, t2, t3, t4⟩ := id hT
  obtain ⟨r1, r2, r3, r4⟩ := rn_prop (P := isDg) (b := b) (N := N) (N - q) q (by omega)
  have r5 : q + 1 ≤ rn isDg b N q := by
    rw [rn_go hq hd]
    exact (rn_prop (P := isDg) (b := b) (N := N) (N - (q + 1)) (q + 1) (by omega)).1
  refine cl_digits (N - q) q s (by omega) hT h9 ?_
  generalize rn isDg b N q = e at *
  have e9 := atS_9 s e
  have e11 : atS s e 32 11 = nI q := by unfold atS; simp (disch := first | omega | assumption | exact Or.inl rfl | exact Or.inr rfl | exact bI_or _ | exact zC81 | exact zC47 | exact zC65 | exact zC0 | exact zC1 | exact zC32 | exact zC70 | exact zC73 | exact ztc (by assumption) | exact zdc (by assumption) | exact zpc (by assumption) | decide) only [Option.some.injEq, exists_eq_left', ex2, Option.toList, List.singleton_append, List.append_nil, List.cons_append, List.nil_append, nI_add, nI_addL, nI_Ladd, pk_mul, nI_mulL, nI_Lmul, nI_subL, pk_sub, nI_divL, sub_dm, nI_leE, nI_ltE, nI_eqE, nI_Lle, nI_leL, nI_Llt, nI_ltL, nI_eqL, va_up_self, va_up_ne, up_up, up_comm, nI_clamp, bI_eq0, not_true_eq_false, not_false_eq_true, Nat.reduceEqDiff, Nat.reduceLeDiff, Nat.reduceAdd, Nat.reduceMul, Nat.one_ne_zero, Nat.zero_ne_one, decide_eq_false_iff_not, decide_eq_true_eq, Bool.false_eq_true, decide_true, decide_false, bI_true, bI_false, one_ne, Nat.le_refl, Nat.lt_irrefl, cleT, cleF, cltT, cltF, ceqT, ceqF, ↓reduceIte]; exact h11
  have e6 : atS s e 32 6 = nI 6 := by unfold atS; simp (disch := first | omega | assumption | exact Or.inl rfl | exact Or.inr rfl | exact bI_or _ | exact zC81 | exact zC47 | exact zC65 | exact zC0 | exact zC1 | exact zC32 | exact zC70 | exact zC73 | exact ztc (by assumption) | exact zdc (by assumption) | exact zpc (by assumption) | decide) only [Option.some.injEq, exists_eq_left', ex2, Option.toList, List.singleton_append, List.append_nil, List.cons_append, List.nil_append, nI_add, nI_addL, nI_Ladd, pk_mul, nI_mulL, nI_Lmul, nI_subL, pk_sub, nI_divL, sub_dm, nI_leE, nI_ltE, nI_eqE, nI_Lle, nI_leL, nI_Llt, nI_ltL, nI_eqL, va_up_self, va_up_ne, up_up, up_comm, nI_clamp, bI_eq0, not_true_eq_false, not_false_eq_true, Nat.reduceEqDiff, Nat.reduceLeDiff, Nat.reduceAdd, Nat.reduceMul, Nat.one_ne_zero, Nat.zero_ne_one, decide_eq_false_iff_not, decide_eq_true_eq, Bool.false_eq_true, decide_true, decide_false, bI_true, bI_false, one_ne, Nat.le_refl, Nat.lt_irrefl, cleT, cleF, cltT, cltF, ceqT, ceqF, ↓reduceIte]; exact t1
  have x6 : atS s e 6 = s 6 := by unfold atS; simp (disch := first | omega | assumption | exact Or.inl rfl | exact Or.inr rfl | exact bI_or _ | exact zC81 | exact zC47 | exact zC65 | exact zC0 | exact zC1 | exact zC32 | exact zC70 | exact zC73 | exact ztc (by assumption) | exact zdc (by assumption) | exact zpc (by assumption) | decide) only [Option.some.injEq, exists_eq_left', ex2, Option.toList, List.singleton_append, List.append_nil, List.cons_append, List.nil_append, nI_add, nI_addL, nI_Ladd, pk_mul, nI_mulL, nI_Lmul, nI_subL, pk_sub, nI_divL, sub_dm, nI_leE, nI_ltE, nI_eqE, nI_Lle, nI_leL, nI_Llt, nI_ltL, nI_eqL, va_up_self, va_up_ne, up_up, up_comm, nI_clamp, bI_eq0, not_true_eq_false, not_false_eq_true, Nat.reduceEqDiff, Nat.reduceLeDiff, Nat.reduceAdd, Nat.reduceMul, Nat.one_ne_zero, Nat.zero_ne_one, decide_eq_false_iff_not, decide_eq_true_eq, Bool.false_eq_true, decide_true, decide_false, bI_true, bI_false, one_ne, Nat.le_refl, Nat.lt_irrefl, cleT, cleF, cltT, cltF, ceqT, ceqF, ↓reduceIte]
  by_cases c : e - q ≤ 2
  · rw [if_pos c]
    obtain ⟨u1, u2⟩ := t4 (e - 1) (by omega)
    obtain ⟨v1, v2, v3⟩ := dg_nI (r4 (e - 1) (by omega) (by omega))
    obtain ⟨u1', u2'⟩ := t4 q hq
    obtain ⟨v1', v2', v3'⟩ := dg_nI hd
    rw [v1] at u2
    rw [v1'] at u2'
    have i1 : e - 1 < 600 := by omega
    have i2 : q < 600 := by omega
    generalize hs1 : atS s e = s1 at *
    have x6a : s1 6 (e - 1) = nI (b (e - 1)) := by rw [x6]; exact u2
    have x6b : s1 6 q = nI (b q) := by rw [x6]; exact u2'
    have c' : ¬ 2 < e - q := by omega
    have le1 : (1 : Nat) ≤ e := by omega
    by_cases c2 : e - q = 2
    · have c2' := eq_true c2
      have ev : numV b q e = 10 * (b q - 48) + (b (e - 1) - 48) := by unfold numV; rw [if_pos c2]
      rw [ev]
      unfold tvS
      simp (disch := first | omega | assumption | exact Or.inl rfl | exact Or.inr rfl | exact bI_or _ | exact zC81 | exact zC47 | exact zC65 | exact zC0 | exact zC1 | exact zC32 | exact zC70 | exact zC73 | exact ztc (by assumption) | exact zdc (by assumption) | exact zpc (by assumption) | decide) only [Option.some.injEq, exists_eq_left', ex2, Option.toList, List.singleton_append, List.append_nil, List.cons_append, List.nil_append, nI_add, nI_addL, nI_Ladd, pk_mul, nI_mulL, nI_Lmul, nI_subL, pk_sub, nI_divL, sub_dm, nI_leE, nI_ltE, nI_eqE, nI_Lle, nI_leL, nI_Llt, nI_ltL, nI_eqL, va_up_self, va_up_ne, up_up, up_comm, nI_clamp, bI_eq0, not_true_eq_false, not_false_eq_true, Nat.reduceEqDiff, Nat.reduceLeDiff, Nat.reduceAdd, Nat.reduceMul, Nat.one_ne_zero, Nat.zero_ne_one, decide_eq_false_iff_not, decide_eq_true_eq, Bool.false_eq_true, decide_true, decide_false, bI_true, bI_false, one_ne, Nat.le_refl, Nat.lt_irrefl, cleT, cleF, cltT, cltF, ceqT, ceqF, ↓reduceIte, r90_39, r90_40, r90_43, r90_44, r90_47, r90_48, r90_49, r90_52, r90_53, r90_54, r90_57, r90_58, r90_61, r90_62, r90_65, r90_66, r90_67, r90_68, r90_70, r90_71, r90_71_1, r90_72, r90_73, r90_74, r90_77, r90_78, r90_81, r90_82, r90_83, r90_86, r90_87, r90_90, r90_91, r90_94, r90_95, r90_97, r90_98, r90_100, r90_101, r90_102, r90_103, r90_106, r90_107, r90_110, zO32_6, zO32_9, zO32_10, zO32_11, zW32_10, zW32_12, zB6, e6, e9, e11, x6a, x6b, c', c2]
    · have ev : numV b q e = b (e - 1) - 48 := by unfold numV; rw [if_neg c2]
      rw [ev]
      unfold tvS
      simp (disch := first | omega | assumption | exact Or.inl rfl | exact Or.inr rfl | exact bI_or _ | exact zC81 | exact zC47 | exact zC65 | exact zC0 | exact zC1 | exact zC32 | exact zC70 | exact zC73 | exact ztc (by assumption) | exact zdc (by assumption) | exact zpc (by assumption) | decide) only [Option.some.injEq, exists_eq_left', ex2, Option.toList, List.singleton_append, List.append_nil, List.cons_append, List.nil_append, nI_add, nI_addL, nI_Ladd, pk_mul, nI_mulL, nI_Lmul, nI_subL, pk_sub, nI_divL, sub_dm, nI_leE, nI_ltE, nI_eqE, nI_Lle, nI_leL, nI_Llt, nI_ltL, nI_eqL, va_up_self, va_up_ne, up_up, up_comm, nI_clamp, bI_eq0, not_true_eq_false, not_false_eq_true, Nat.reduceEqDiff, Nat.reduceLeDiff, Nat.reduceAdd, Nat.reduceMul, Nat.one_ne_zero, Nat.zero_ne_one, decide_eq_false_iff_not, decide_eq_true_eq, Bool.false_eq_true, decide_true, decide_false, bI_true, bI_false, one_ne, Nat.le_refl, Nat.lt_irrefl, cleT, cleF, cltT, cltF, ceqT, ceqF, ↓reduceIte, r90_39, r90_40, r90_43, r90_44, r90_47, r90_48, r90_49, r90_52, r90_53, r90_54, r90_57, r90_58, r90_61, r90_62, r90_65, r90_66, r90_67, r90_68, r90_70, r90_71, r90_71_1, r90_72, r90_73, r90_74, r90_77, r90_78, r90_81, r90_82, r90_83, r90_86, r90_87, r90_90, r90_91, r90_94, r90_95, r90_97, r90_98, r90_100, r90_101, r90_102, r90_103, r90_106, r90_107, r90_110, zO32_6, zO32_9, zO32_10, zO32_11, zW32_10, zW32_12, zB6, e6, e9, e11, x6a, x6b, c', c2]
  · rw [if_neg c]
    have c' : 2 < e - q := by omega
    simp (disch := first | omega | assumption | exact Or.inl rfl | exact Or.inr rfl | exact bI_or _ | exact zC81 | exact zC47 | exact zC65 | exact zC0 | exact zC1 | exact zC32 | exact zC70 | exact zC73 | exact ztc (by assumption) | exact zdc (by assumption) | exact zpc (by assumption) | decide) only [Option.some.injEq, exists_eq_left', ex2, Option.toList, List.singleton_append, List.append_nil, List.cons_append, List.nil_append, nI_add, nI_addL, nI_Ladd, pk_mul, nI_mulL, nI_Lmul, nI_subL, pk_sub, nI_divL, sub_dm, nI_leE, nI_ltE, nI_eqE, nI_Lle, nI_leL, nI_Llt, nI_ltL, nI_eqL, va_up_self, va_up_ne, up_up, up_comm, nI_clamp, bI_eq0, not_true_eq_false, not_false_eq_true, Nat.reduceEqDiff, Nat.reduceLeDiff, Nat.reduceAdd, Nat.reduceMul, Nat.one_ne_zero, Nat.zero_ne_one, decide_eq_false_iff_not, decide_eq_true_eq, Bool.false_eq_true, decide_true, decide_false, bI_true, bI_false, one_ne, Nat.le_refl, Nat.lt_irrefl, cleT, cleF, cltT, cltF, ceqT, ceqF, ↓reduceIte, r90_39, r90_40, r90_43, r90_44, r90_47, r90_48, r90_49, r90_110, zO32_9, zO32_11, e9, e11, c']
/-- the words of the class's row -/
def wOff : List Nat := [0, 4, 8, 14, 20, 26, 30, 35, 39, 46, 51, 57, 64, 69, 75, 81, 86, 91, 96, 101, 107, 111, 119]
def wO (j : Nat) : Nat := wOff.getD j 0
def wLn (j : Nat) : Nat := wO (j + 1) - wO j - 1
theorem wO_ok : ∀ j, j < 22 → wO j + wLn j + 1 = wO (j + 1) ∧ wO (j + 1) ≤ 119 ∧ sch 0 (wO j + wLn j) = 32 ∧ 1 ≤ wLn j ∧ wLn j ≤ 7 := by decide +kernel
theorem wO_le : ∀ j, j < 22 → ∀ i, i < wLn j → ¬ sch 0 (wO j + i) = 32 := by decide +kernel
theorem slen0 : slen 0 = 119 := rfl
def mtF (b : Nat → Nat) (q f n : Nat) : Bool := (List.range n).all (fun i => decide (sb (b (q + i)) = sch 0 (f + i)))
theorem cl_wordFrom {b : Nat → Nat} {N q e f : Nat} (hT : tpC s b N) (h9 : s 32 9 = nI e) (h11 : s 32 11 = nI q) (hqe : q ≤ e) (heN : e ≤ N) (hf : f + (e - q) ≤ 119) {r : Option Value × mH} : Runs xs sl (d+4) 93 0 [some (.ref (32)), some (.int ( nI f)), none] [] (hp J (s) g) r ↔ r = (some (.int (bI (mtF b q f (e - q)))), hp J s g) := by
  obtain ⟨t1, t2, t3, t4⟩ := id hT
  refine Runs.iff ?_
  have loop : ∀ k i, i + k = e - q → (∀ j, j < i → sb (b (q + j)) = sch 0 (f + j)) → Runs xs sl (d+4) 93 5 [some (.ref (32)), some (.int ( nI f)), some (.int ( nI (q + i)))] [] (hp J (s) g) (some (.int (bI (mtF b q f (e - q)))), hp J s g) := by
    intro k
    induction k with
    | zero =>
      intro i hi hall
      have et : mtF b q f (e - q) = true := List.all_eq_true.mpr (fun j hj => decide_eq_true (hall j (by have := List.mem_range.mp hj; omega)))
      rw [et]
      have e1 : q + i = e := by omega
      rw [e1, r93_5]
      simp (disch := first | omega | assumption | exact Or.inl rfl | exact Or.inr rfl | exact bI_or _ | exact zC81 | exact zC47 | exact zC65 | exact zC0 | exact zC1 | exact zC32 | exact zC70 | exact zC73 | exact ztc (by assumption) | exact zdc (by assumption) | exact zpc (by assumption) | decide) only [Option.some.injEq, exists_eq_left', ex2, Option.toList, List.singleton_append, List.append_nil, List.cons_append, List.nil_append, nI_add, nI_addL, nI_Ladd, pk_mul, nI_mulL, nI_Lmul, nI_subL, pk_sub, nI_divL, sub_dm, nI_leE, nI_ltE, nI_eqE, nI_Lle, nI_leL, nI_Llt, nI_ltL, nI_eqL, va_up_self, va_up_ne, up_up, up_comm, nI_clamp, bI_eq0, not_true_eq_false, not_false_eq_true, Nat.reduceEqDiff, Nat.reduceLeDiff, Nat.reduceAdd, Nat.reduceMul, Nat.one_ne_zero, Nat.zero_ne_one, decide_eq_false_iff_not, decide_eq_true_eq, Bool.false_eq_true, decide_true, decide_false, bI_true, bI_false, one_ne, Nat.le_refl, Nat.lt_irrefl, cleT, cleF, cltT, cltF, ceqT, ceqF, ↓reduceIte, r93_6, r93_7, r93_10, r93_43, r93_44, zO32_9, h9]
    | succ k ih =>
      intro i hi hall
      obtain ⟨u1, u2⟩ := t4 (q + i) (by omega)
      have i6 : q + i < 600 := by omega
      have e2 : f + (q + i) - q = f + i := by omega
      have lt : f + i < slen 0 := by rw [slen0]; omega
      rw [r93_5]
      by_cases c : sb (b (q + i)) = sch 0 (f + i)
      · have c' := eq_true c
        have hn := ih (i + 1) (by omega) (fun j hj => by
          by_cases ej : j = i
          · rw [ej]; exact c
          · exact hall j (by omega))
        simp (disch := first | omega | assumption | exact Or.inl rfl | exact Or.inr rfl | exact bI_or _ | exact zC81 | exact zC47 | exact zC65 | exact zC0 | exact zC1 | exact zC32 | exact zC70 | exact zC73 | exact ztc (by assumption) | exact zdc (by assumption) | exact zpc (by assumption) | decide) only [Option.some.injEq, exists_eq_left', ex2, Option.toList, List.singleton_append, List.append_nil, List.cons_append, List.nil_append, nI_add, nI_addL, nI_Ladd, pk_mul, nI_mulL, nI_Lmul, nI_subL, pk_sub, nI_divL, sub_dm, nI_leE, nI_ltE, nI_eqE, nI_Lle, nI_leL, nI_Llt, nI_ltL, nI_eqL, va_up_self, va_up_ne, up_up, up_comm, nI_clamp, bI_eq0, not_true_eq_false, not_false_eq_true, Nat.reduceEqDiff, Nat.reduceLeDiff, Nat.reduceAdd, Nat.reduceMul, Nat.one_ne_zero, Nat.zero_ne_one, decide_eq_false_iff_not, decide_eq_true_eq, Bool.false_eq_true, decide_true, decide_false, bI_true, bI_false, one_ne, Nat.le_refl, Nat.lt_irrefl, cleT, cleF, cltT, cltF, ceqT, ceqF, ↓reduceIte, r93_6, r93_7, r93_10, r93_13, r93_14, r93_17, r93_18, r93_19, r93_21, r93_22, r93_23, r93_24, r93_25, r93_28, r93_29, r93_32, r93_35, r93_36, r93_37, r93_40, zO32_6, zO32_9, zO32_11, zB6, t1, h9, h11, u2, e2, c']
        exact hn
      · have ef : mtF b q f (e - q) = false := by
          cases em : mtF b q f (e - q) with
          | false => rfl
          | true => exact absurd (of_decide_eq_true (List.all_eq_true.mp em i (List.mem_range.mpr (by omega)))) c
        rw [ef]
        simp (disch := first | omega | assumption | exact Or.inl rfl | exact Or.inr rfl | exact bI_or _ | exact zC81 | exact zC47 | exact zC65 | exact zC0 | exact zC1 | exact zC32 | exact zC70 | exact zC73 | exact ztc (by assumption) | exact zdc (by assumption) | exact zpc (by assumption) | decide) only [Option.some.injEq, exists_eq_left', ex2, Option.toList, List.singleton_append, List.append_nil, List.cons_append, List.nil_append, nI_add, nI_addL, nI_Ladd, pk_mul, nI_mulL, nI_Lmul, nI_subL, pk_sub, nI_divL, sub_dm, nI_leE, nI_ltE, nI_eqE, nI_Lle, nI_leL, nI_Llt, nI_ltL, nI_eqL, va_up_self, va_up_ne, up_up, up_comm, nI_clamp, bI_eq0, not_true_eq_false, not_false_eq_true, Nat.reduceEqDiff, Nat.reduceLeDiff, Nat.reduceAdd, Nat.reduceMul, Nat.one_ne_zero, Nat.zero_ne_one, decide_eq_false_iff_not, decide_eq_true_eq, Bool.false_eq_true, decide_true, decide_false, bI_true, bI_false, one_ne, Nat.le_refl, Nat.lt_irrefl, cleT, cleF, cltT, cltF, ceqT, ceqF, ↓reduceIte, r93_6, r93_7, r93_10, r93_13, r93_14, r93_17, r93_18, r93_19, r93_21, r93_22, r93_23, r93_24, r93_25, r93_28, r93_29, r93_32, r93_35, r93_36, zO32_6, zO32_9, zO32_11, zB6, t1, h9, h11, u2, e2, c]
  simp (disch := first | omega | assumption | exact Or.inl rfl | exact Or.inr rfl | exact bI_or _ | exact zC81 | exact zC47 | exact zC65 | exact zC0 | exact zC1 | exact zC32 | exact zC70 | exact zC73 | exact ztc (by assumption) | exact zdc (by assumption) | exact zpc (by assumption) | decide) only [Option.some.injEq, exists_eq_left', ex2, Option.toList, List.singleton_append, List.append_nil, List.cons_append, List.nil_append, nI_add, nI_addL, nI_Ladd, pk_mul, nI_mulL, nI_Lmul, nI_subL, pk_sub, nI_divL, sub_dm, nI_leE, nI_ltE, nI_eqE, nI_Lle, nI_leL, nI_Llt, nI_ltL, nI_eqL, va_up_self, va_up_ne, up_up, up_comm, nI_clamp, bI_eq0, not_true_eq_false, not_false_eq_true, Nat.reduceEqDiff, Nat.reduceLeDiff, Nat.reduceAdd, Nat.reduceMul, Nat.one_ne_zero, Nat.zero_ne_one, decide_eq_false_iff_not, decide_eq_true_eq, Bool.false_eq_true, decide_true, decide_false, bI_true, bI_false, one_ne, Nat.le_refl, Nat.lt_irrefl, cleT, cleF, cltT, cltF, ceqT, ceqF, ↓reduceIte, r93_0, r93_1, r93_4, zO32_11, h11]
  exact loop (e - q) 0 (by omega) (fun j hj => by omega)
def wM (b : Nat → Nat) (q e j : Nat) : Bool := decide (e - q = wLn j) && mtF b q (wO j) (e - q)
def wix (b : Nat → Nat) (q e : Nat) : Option Nat := (List.range' 0 22).find? (wM b q e)
def vlS (s : hS) (v : Int32) : hS := va_up s 32 (va_up (s 32) 12 v)
theorem cl_words {b : Nat → Nat} {N q e : Nat} (hT : tpC s b N) (h9 : s 32 9 = nI e) (h11 : s 32 11 = nI q) (h12 : s 32 12 = -1) (hqe : q ≤ e) (heN : e ≤ N) : ∀ k j, j + k = 22 → Runs xs sl (d+4+1) 92 50 [some (.ref (32)), some (.int ( nI j)), some (.int ( nI (wO j))), some (.int ( nI (wO j)))] [] (hp J (s) g) (none, hp J (match (List.range' j k).find? (wM b q e) with
    | some w => vlS s (nI w)
    | none => s) g) := by
  have t3 : N ≤ 600 := hT.2.2.1
  intro k
  induction k with
  | zero =>
    intro j hj
    have e22 : j = 22 := by omega
    subst e22
    rw [r92_50]
    show Runs xs sl (d+4+1) 92 51 [some (.ref (32)), some (.int ( nI 22)), some (.int ( nI (wO 22))), some (.int ( nI (wO 22)))] [.int ( nI (wO 22))] (hp J (s) g) _
    have w22 : wO 22 = 119 := rfl
    rw [w22]
    have z : List.find? (wM b q e) (List.range' 22 0) = none := rfl
    rw [z]
    simp (disch := first | omega | assumption | exact Or.inl rfl | exact Or.inr rfl | exact bI_or _ | exact zC81 | exact zC47 | exact zC65 | exact zC0 | exact zC1 | exact zC32 | exact zC70 | exact zC73 | exact ztc (by assumption) | exact zdc (by assumption) | exact zpc (by assumption) | decide) only [Option.some.injEq, exists_eq_left', ex2, Option.toList, List.singleton_append, List.append_nil, List.cons_append, List.nil_append, nI_add, nI_addL, nI_Ladd, pk_mul, nI_mulL, nI_Lmul, nI_subL, pk_sub, nI_divL, sub_dm, nI_leE, nI_ltE, nI_eqE, nI_Lle, nI_leL, nI_Llt, nI_ltL, nI_eqL, va_up_self, va_up_ne, up_up, up_comm, nI_clamp, bI_eq0, not_true_eq_false, not_false_eq_true, Nat.reduceEqDiff, Nat.reduceLeDiff, Nat.reduceAdd, Nat.reduceMul, Nat.one_ne_zero, Nat.zero_ne_one, decide_eq_false_iff_not, decide_eq_true_eq, Bool.false_eq_true, decide_true, decide_false, bI_true, bI_false, one_ne, Nat.le_refl, Nat.lt_irrefl, cleT, cleF, cltT, cltF, ceqT, ceqF, ↓reduceIte, r92_51, r92_53, r92_56, r92_119, slen0]
  | succ k ih =>
    intro j hj
    obtain ⟨w1, w2, w3, w4, w5⟩ := wO_ok j (by omega)
    have wl := wO_le j (by omega)
    have ih := ih (j + 1) (by omega)
    have er : List.range' j (k + 1) = j :: List.range' (j + 1) k := rfl
    rw [er, List.find?_cons]
    have inner : ∀ t u, u + t = wLn j → Runs xs sl (d+4+1) 92 50 [some (.ref (32)), some (.int ( nI j)), some (.int ( nI (wO j))), some (.int ( nI (wO j + u)))] [] (hp J (s) g) (none, hp J (match (match wM b q e j with
      | true => some j
      | false => List.find? (wM b q e) (List.range' (j + 1) k)) with
    | some w => vlS s (nI w)
    | none => s) g) := by
      intro t
      induction t with
      | zero =>
        intro u hu
        have eu : u = wLn j := by omega
        subst eu
        have lt : wO j + wLn j < slen 0 := by rw [slen0]; omega
        have lt2 : ¬ 119 ≤ wO j + wLn j := by omega
        have e4 : wO j + wLn j - wO j = wLn j := by omega
        have w3' := eq_true w3
        rw [r92_50]
        by_cases c : wLn j = e - q
        · have c' := eq_true c
          have wf := @cl_wordFrom xs sl d J s g b N q e (wO j) hT h9 h11 hqe heN (by omega)
          cases cm : mtF b q (wO j) (e - q)
          · have cM : wM b q e j = false := by unfold wM; rw [cm, Bool.and_false]
            rw [cM]
            dsimp only
            rw [cm] at wf
            rw [← w1] at ih
            simp (disch := first | omega | assumption | exact Or.inl rfl | exact Or.inr rfl | exact bI_or _ | exact zC81 | exact zC47 | exact zC65 | exact zC0 | exact zC1 | exact zC32 | exact zC70 | exact zC73 | exact ztc (by assumption) | exact zdc (by assumption) | exact zpc (by assumption) | decide) only [Option.some.injEq, exists_eq_left', ex2, Option.toList, List.singleton_append, List.append_nil, List.cons_append, List.nil_append, nI_add, nI_addL, nI_Ladd, pk_mul, nI_mulL, nI_Lmul, nI_subL, pk_sub, nI_divL, sub_dm, nI_leE, nI_ltE, nI_eqE, nI_Lle, nI_leL, nI_Llt, nI_ltL, nI_eqL, va_up_self, va_up_ne, up_up, up_comm, nI_clamp, bI_eq0, not_true_eq_false, not_false_eq_true, Nat.reduceEqDiff, Nat.reduceLeDiff, Nat.reduceAdd, Nat.reduceMul, Nat.one_ne_zero, Nat.zero_ne_one, decide_eq_false_iff_not, decide_eq_true_eq, Bool.false_eq_true, decide_true, decide_false, bI_true, bI_false, one_ne, Nat.le_refl, Nat.lt_irrefl, cleT, cleF, cltT, cltF, ceqT, ceqF, ↓reduceIte, r92_51, r92_53, r92_56, r92_59, r92_60, r92_63, r92_64, r92_67, r92_69, r92_70, r92_73, r92_75, r92_78, r92_79, r92_80, r92_81, r92_82, r92_85, r92_86, r92_89, r92_90, r92_93, r92_94, r92_95, r92_98, r92_101, r92_102, r92_103, r92_106, r92_106_1, r92_109, r92_110, r92_111, r92_112, r92_113, r92_116, zO32_9, zO32_11, zO32_12, h9, h11, h12, slen0, lt2, w3, e4, c', wf]
            exact ih
          · have cM : wM b q e j = true := by unfold wM; rw [cm, decide_eq_true c.symm]; rfl
            rw [cM]
            dsimp only
            rw [cm] at wf
            have nm : ¬ nI j = -1 := by
              intro z
              have h0 := nI_pos (n := j) (by omega)
              rw [z] at h0
              exact h0 (by decide)
            simp (disch := first | omega | assumption | exact Or.inl rfl | exact Or.inr rfl | exact bI_or _ | exact zC81 | exact zC47 | exact zC65 | exact zC0 | exact zC1 | exact zC32 | exact zC70 | exact zC73 | exact ztc (by assumption) | exact zdc (by assumption) | exact zpc (by assumption) | decide) only [Option.some.injEq, exists_eq_left', ex2, Option.toList, List.singleton_append, List.append_nil, List.cons_append, List.nil_append, nI_add, nI_addL, nI_Ladd, pk_mul, nI_mulL, nI_Lmul, nI_subL, pk_sub, nI_divL, sub_dm, nI_leE, nI_ltE, nI_eqE, nI_Lle, nI_leL, nI_Llt, nI_ltL, nI_eqL, va_up_self, va_up_ne, up_up, up_comm, nI_clamp, bI_eq0, not_true_eq_false, not_false_eq_true, Nat.reduceEqDiff, Nat.reduceLeDiff, Nat.reduceAdd, Nat.reduceMul, Nat.one_ne_zero, Nat.zero_ne_one, decide_eq_false_iff_not, decide_eq_true_eq, Bool.false_eq_true, decide_true, decide_false, bI_true, bI_false, one_ne, Nat.le_refl, Nat.lt_irrefl, cleT, cleF, cltT, cltF, ceqT, ceqF, ↓reduceIte, r92_51, r92_53, r92_56, r92_59, r92_60, r92_63, r92_64, r92_67, r92_69, r92_70, r92_73, r92_75, r92_78, r92_79, r92_80, r92_81, r92_82, r92_85, r92_86, r92_89, r92_90, r92_93, r92_94, r92_95, r92_98, r92_101, r92_102, r92_103, r92_106, r92_106_1, r92_109, r92_110, r92_111, r92_112, r92_113, r92_116, zO32_9, zO32_11, zO32_12, zW32_12, h9, h11, h12, slen0, lt2, w3, e4, c', wf, Bool.true_eq_false]
            rw [r92_50]
            have x12 : vlS s (nI j) 32 12 = nI j := by unfold vlS; simp (disch := first | omega | assumption | exact Or.inl rfl | exact Or.inr rfl | exact bI_or _ | exact zC81 | exact zC47 | exact zC65 | exact zC0 | exact zC1 | exact zC32 | exact zC70 | exact zC73 | exact ztc (by assumption) | exact zdc (by assumption) | exact zpc (by assumption) | decide) only [Option.some.injEq, exists_eq_left', ex2, Option.toList, List.singleton_append, List.append_nil, List.cons_append, List.nil_append, nI_add, nI_addL, nI_Ladd, pk_mul, nI_mulL, nI_Lmul, nI_subL, pk_sub, nI_divL, sub_dm, nI_leE, nI_ltE, nI_eqE, nI_Lle, nI_leL, nI_Llt, nI_ltL, nI_eqL, va_up_self, va_up_ne, up_up, up_comm, nI_clamp, bI_eq0, not_true_eq_false, not_false_eq_true, Nat.reduceEqDiff, Nat.reduceLeDiff, Nat.reduceAdd, Nat.reduceMul, Nat.one_ne_zero, Nat.zero_ne_one, decide_eq_false_iff_not, decide_eq_true_eq, Bool.false_eq_true, decide_true, decide_false, bI_true, bI_false, one_ne, Nat.le_refl, Nat.lt_irrefl, cleT, cleF, cltT, cltF, ceqT, ceqF, ↓reduceIte]
            by_cases c9 : 119 ≤ wO j + wLn j + 1
            · simp (disch := first | omega | assumption | exact Or.inl rfl | exact Or.inr rfl | exact bI_or _ | exact zC81 | exact zC47 | exact zC65 | exact zC0 | exact zC1 | exact zC32 | exact zC70 | exact zC73 | exact ztc (by assumption) | exact zdc (by assumption) | exact zpc (by assumption) | decide) only [Option.some.injEq, exists_eq_left', ex2, Option.toList, List.singleton_append, List.append_nil, List.cons_append, List.nil_append, nI_add, nI_addL, nI_Ladd, pk_mul, nI_mulL, nI_Lmul, nI_subL, pk_sub, nI_divL, sub_dm, nI_leE, nI_ltE, nI_eqE, nI_Lle, nI_leL, nI_Llt, nI_ltL, nI_eqL, va_up_self, va_up_ne, up_up, up_comm, nI_clamp, bI_eq0, not_true_eq_false, not_false_eq_true, Nat.reduceEqDiff, Nat.reduceLeDiff, Nat.reduceAdd, Nat.reduceMul, Nat.one_ne_zero, Nat.zero_ne_one, decide_eq_false_iff_not, decide_eq_true_eq, Bool.false_eq_true, decide_true, decide_false, bI_true, bI_false, one_ne, Nat.le_refl, Nat.lt_irrefl, cleT, cleF, cltT, cltF, ceqT, ceqF, ↓reduceIte, r92_51, r92_53, r92_56, r92_119, slen0, c9, vlS]
            · simp (disch := first | omega | assumption | exact Or.inl rfl | exact Or.inr rfl | exact bI_or _ | exact zC81 | exact zC47 | exact zC65 | exact zC0 | exact zC1 | exact zC32 | exact zC70 | exact zC73 | exact ztc (by assumption) | exact zdc (by assumption) | exact zpc (by assumption) | decide) only [Option.some.injEq, exists_eq_left', ex2, Option.toList, List.singleton_append, List.append_nil, List.cons_append, List.nil_append, nI_add, nI_addL, nI_Ladd, pk_mul, nI_mulL, nI_Lmul, nI_subL, pk_sub, nI_divL, sub_dm, nI_leE, nI_ltE, nI_eqE, nI_Lle, nI_leL, nI_Llt, nI_ltL, nI_eqL, va_up_self, va_up_ne, up_up, up_comm, nI_clamp, bI_eq0, not_true_eq_false, not_false_eq_true, Nat.reduceEqDiff, Nat.reduceLeDiff, Nat.reduceAdd, Nat.reduceMul, Nat.one_ne_zero, Nat.zero_ne_one, decide_eq_false_iff_not, decide_eq_true_eq, Bool.false_eq_true, decide_true, decide_false, bI_true, bI_false, one_ne, Nat.le_refl, Nat.lt_irrefl, cleT, cleF, cltT, cltF, ceqT, ceqF, ↓reduceIte, r92_51, r92_53, r92_56, r92_59, r92_60, r92_63, r92_64, r92_119, slen0, c9, vlS, zO32_12, nm]
        · have cM : wM b q e j = false := by unfold wM; rw [decide_eq_false (fun h => c h.symm), Bool.false_and]
          rw [cM]
          dsimp only
          rw [← w1] at ih
          have c' : ¬ wLn j = e - q := c
          simp (disch := first | omega | assumption | exact Or.inl rfl | exact Or.inr rfl | exact bI_or _ | exact zC81 | exact zC47 | exact zC65 | exact zC0 | exact zC1 | exact zC32 | exact zC70 | exact zC73 | exact ztc (by assumption) | exact zdc (by assumption) | exact zpc (by assumption) | decide) only [Option.some.injEq, exists_eq_left', ex2, Option.toList, List.singleton_append, List.append_nil, List.cons_append, List.nil_append, nI_add, nI_addL, nI_Ladd, pk_mul, nI_mulL, nI_Lmul, nI_subL, pk_sub, nI_divL, sub_dm, nI_leE, nI_ltE, nI_eqE, nI_Lle, nI_leL, nI_Llt, nI_ltL, nI_eqL, va_up_self, va_up_ne, up_up, up_comm, nI_clamp, bI_eq0, not_true_eq_false, not_false_eq_true, Nat.reduceEqDiff, Nat.reduceLeDiff, Nat.reduceAdd, Nat.reduceMul, Nat.one_ne_zero, Nat.zero_ne_one, decide_eq_false_iff_not, decide_eq_true_eq, Bool.false_eq_true, decide_true, decide_false, bI_true, bI_false, one_ne, Nat.le_refl, Nat.lt_irrefl, cleT, cleF, cltT, cltF, ceqT, ceqF, ↓reduceIte, r92_51, r92_53, r92_56, r92_59, r92_60, r92_63, r92_64, r92_67, r92_69, r92_70, r92_73, r92_75, r92_78, r92_79, r92_80, r92_81, r92_82, r92_85, r92_86, r92_89, r92_90, r92_93, r92_94, r92_95, r92_98, r92_101, r92_102, r92_103, r92_106, r92_106_1, r92_109, r92_110, r92_111, r92_112, r92_113, r92_116, zO32_9, zO32_11, zO32_12, h9, h11, h12, slen0, lt2, w3, e4, c']
          exact ih
      | succ t iht =>
        intro u hu
        have lt : wO j + u < slen 0 := by rw [slen0]; omega
        have lt2 : ¬ 119 ≤ wO j + u := by omega
        have n32 := wl u (by omega)
        have hn := iht (u + 1) (by omega)
        rw [r92_50]
        simp (disch := first | omega | assumption | exact Or.inl rfl | exact Or.inr rfl | exact bI_or _ | exact zC81 | exact zC47 | exact zC65 | exact zC0 | exact zC1 | exact zC32 | exact zC70 | exact zC73 | exact ztc (by assumption) | exact zdc (by assumption) | exact zpc (by assumption) | decide) only [Option.some.injEq, exists_eq_left', ex2, Option.toList, List.singleton_append, List.append_nil, List.cons_append, List.nil_append, nI_add, nI_addL, nI_Ladd, pk_mul, nI_mulL, nI_Lmul, nI_subL, pk_sub, nI_divL, sub_dm, nI_leE, nI_ltE, nI_eqE, nI_Lle, nI_leL, nI_Llt, nI_ltL, nI_eqL, va_up_self, va_up_ne, up_up, up_comm, nI_clamp, bI_eq0, not_true_eq_false, not_false_eq_true, Nat.reduceEqDiff, Nat.reduceLeDiff, Nat.reduceAdd, Nat.reduceMul, Nat.one_ne_zero, Nat.zero_ne_one, decide_eq_false_iff_not, decide_eq_true_eq, Bool.false_eq_true, decide_true, decide_false, bI_true, bI_false, one_ne, Nat.le_refl, Nat.lt_irrefl, cleT, cleF, cltT, cltF, ceqT, ceqF, ↓reduceIte, r92_51, r92_53, r92_56, r92_59, r92_60, r92_63, r92_64, r92_67, r92_69, r92_70, r92_73, r92_75, r92_78, r92_79, r92_80, r92_81, r92_82, r92_85, r92_86, r92_89, r92_90, r92_93, r92_94, r92_95, r92_98, r92_101, r92_102, r92_103, r92_106, r92_106_1, r92_109, r92_110, r92_111, r92_112, r92_113, r92_116, zO32_12, h12, slen0, lt2, n32]
        exact hn
    have q := inner (wLn j) 0 (by omega)
    exact q
theorem cl_takeWord {b : Nat → Nat} {N q : Nat} (hT : tpC s b N) (h9 : s 32 9 = nI q) (h11 : s 32 11 = nI q) (h12 : s 32 12 = -1) (hq : q < N) : Runs xs sl (d+4+1) 92 0 [some (.ref (32)), none, none, none] [] (hp J (s) g) (none, hp J (match wix b q (rn isLt b N q) with
    | some w => tvS (atS s (rn isLt b N q)) 2 (nI w)
    | none => tvS (atS s (rn isLt b N q)) 2 (-1)) g) := by
  obtain ⟨t1, t2, t3, t4⟩ := id hT
  obtain ⟨r1, r2, r3, r4⟩ := rn_prop (P := isLt) (b := b) (N := N) (N - q) q (by omega)
  refine cl_letters (N - q) q s (by omega) hT h9 ?_
  generalize rn isLt b N q = e at *
  generalize hs1 : atS s e = s1
  have a9 : s1 32 9 = nI e := by rw [← hs1]; exact atS_9 s e
  have a11 : s1 32 11 = nI q := by rw [← hs1]; unfold atS; simp (disch := first | omega | assumption | exact Or.inl rfl | exact Or.inr rfl | exact bI_or _ | exact zC81 | exact zC47 | exact zC65 | exact zC0 | exact zC1 | exact zC32 | exact zC70 | exact zC73 | exact ztc (by assumption) | exact zdc (by assumption) | exact zpc (by assumption) | decide) only [Option.some.injEq, exists_eq_left', ex2, Option.toList, List.singleton_append, List.append_nil, List.cons_append, List.nil_append, nI_add, nI_addL, nI_Ladd, pk_mul, nI_mulL, nI_Lmul, nI_subL, pk_sub, nI_divL, sub_dm, nI_leE, nI_ltE, nI_eqE, nI_Lle, nI_leL, nI_Llt, nI_ltL, nI_eqL, va_up_self, va_up_ne, up_up, up_comm, nI_clamp, bI_eq0, not_true_eq_false, not_false_eq_true, Nat.reduceEqDiff, Nat.reduceLeDiff, Nat.reduceAdd, Nat.reduceMul, Nat.one_ne_zero, Nat.zero_ne_one, decide_eq_false_iff_not, decide_eq_true_eq, Bool.false_eq_true, decide_true, decide_false, bI_true, bI_false, one_ne, Nat.le_refl, Nat.lt_irrefl, cleT, cleF, cltT, cltF, ceqT, ceqF, ↓reduceIte]; exact h11
  have a12 : s1 32 12 = -1 := by rw [← hs1]; unfold atS; simp (disch := first | omega | assumption | exact Or.inl rfl | exact Or.inr rfl | exact bI_or _ | exact zC81 | exact zC47 | exact zC65 | exact zC0 | exact zC1 | exact zC32 | exact zC70 | exact zC73 | exact ztc (by assumption) | exact zdc (by assumption) | exact zpc (by assumption) | decide) only [Option.some.injEq, exists_eq_left', ex2, Option.toList, List.singleton_append, List.append_nil, List.cons_append, List.nil_append, nI_add, nI_addL, nI_Ladd, pk_mul, nI_mulL, nI_Lmul, nI_subL, pk_sub, nI_divL, sub_dm, nI_leE, nI_ltE, nI_eqE, nI_Lle, nI_leL, nI_Llt, nI_ltL, nI_eqL, va_up_self, va_up_ne, up_up, up_comm, nI_clamp, bI_eq0, not_true_eq_false, not_false_eq_true, Nat.reduceEqDiff, Nat.reduceLeDiff, Nat.reduceAdd, Nat.reduceMul, Nat.one_ne_zero, Nat.zero_ne_one, decide_eq_false_iff_not, decide_eq_true_eq, Bool.false_eq_true, decide_true, decide_false, bI_true, bI_false, one_ne, Nat.le_refl, Nat.lt_irrefl, cleT, cleF, cltT, cltF, ceqT, ceqF, ↓reduceIte]; exact h12
  generalize hs2 : va_up s1 32 (va_up (s1 32) 10 2) = s2
  have hT2 : tpC s2 b N := tpC_fr hT (by rw [← hs2, ← hs1]; unfold atS; simp (disch := first | omega | assumption | exact Or.inl rfl | exact Or.inr rfl | exact bI_or _ | exact zC81 | exact zC47 | exact zC65 | exact zC0 | exact zC1 | exact zC32 | exact zC70 | exact zC73 | exact ztc (by assumption) | exact zdc (by assumption) | exact zpc (by assumption) | decide) only [Option.some.injEq, exists_eq_left', ex2, Option.toList, List.singleton_append, List.append_nil, List.cons_append, List.nil_append, nI_add, nI_addL, nI_Ladd, pk_mul, nI_mulL, nI_Lmul, nI_subL, pk_sub, nI_divL, sub_dm, nI_leE, nI_ltE, nI_eqE, nI_Lle, nI_leL, nI_Llt, nI_ltL, nI_eqL, va_up_self, va_up_ne, up_up, up_comm, nI_clamp, bI_eq0, not_true_eq_false, not_false_eq_true, Nat.reduceEqDiff, Nat.reduceLeDiff, Nat.reduceAdd, Nat.reduceMul, Nat.one_ne_zero, Nat.zero_ne_one, decide_eq_false_iff_not, decide_eq_true_eq, Bool.false_eq_true, decide_true, decide_false, bI_true, bI_false, one_ne, Nat.le_refl, Nat.lt_irrefl, cleT, cleF, cltT, cltF, ceqT, ceqF, ↓reduceIte]) (by rw [← hs2, ← hs1]; unfold atS; simp (disch := first | omega | assumption | exact Or.inl rfl | exact Or.inr rfl | exact bI_or _ | exact zC81 | exact zC47 | exact zC65 | exact zC0 | exact zC1 | exact zC32 | exact zC70 | exact zC73 | exact ztc (by assumption) | exact zdc (by assumption) | exact zpc (by assumption) | decide) only [Option.some.injEq, exists_eq_left', ex2, Option.toList, List.singleton_append, List.append_nil, List.cons_append, List.nil_append, nI_add, nI_addL, nI_Ladd, pk_mul, nI_mulL, nI_Lmul, nI_subL, pk_sub, nI_divL, sub_dm, nI_leE, nI_ltE, nI_eqE, nI_Lle, nI_leL, nI_Llt, nI_ltL, nI_eqL, va_up_self, va_up_ne, up_up, up_comm, nI_clamp, bI_eq0, not_true_eq_false, not_false_eq_true, Nat.reduceEqDiff, Nat.reduceLeDiff, Nat.reduceAdd, Nat.reduceMul, Nat.one_ne_zero, Nat.zero_ne_one, decide_eq_false_iff_not, decide_eq_true_eq, Bool.false_eq_true, decide_true, decide_false, bI_true, bI_false, one_ne, Nat.le_refl, Nat.lt_irrefl, cleT, cleF, cltT, cltF, ceqT, ceqF, ↓reduceIte]) (by rw [← hs2, ← hs1]; unfold atS; simp (disch := first | omega | assumption | exact Or.inl rfl | exact Or.inr rfl | exact bI_or _ | exact zC81 | exact zC47 | exact zC65 | exact zC0 | exact zC1 | exact zC32 | exact zC70 | exact zC73 | exact ztc (by assumption) | exact zdc (by assumption) | exact zpc (by assumption) | decide) only [Option.some.injEq, exists_eq_left', ex2, Option.toList, List.singleton_append, List.append_nil, List.cons_append, List.nil_append, nI_add, nI_addL, nI_Ladd, pk_mul, nI_mulL, nI_Lmul, nI_subL, pk_sub, nI_divL, sub_dm, nI_leE, nI_ltE, nI_eqE, nI_Lle, nI_leL, nI_Llt, nI_ltL, nI_eqL, va_up_self, va_up_ne, up_up, up_comm, nI_clamp, bI_eq0, not_true_eq_false, not_false_eq_true, Nat.reduceEqDiff, Nat.reduceLeDiff, Nat.reduceAdd, Nat.reduceMul, Nat.one_ne_zero, Nat.zero_ne_one, decide_eq_false_iff_not, decide_eq_true_eq, Bool.false_eq_true, decide_true, decide_false, bI_true, bI_false, one_ne, Nat.le_refl, Nat.lt_irrefl, cleT, cleF, cltT, cltF, ceqT, ceqF, ↓reduceIte])
  have wd := @cl_words xs sl d J s2 g b N q e hT2 (by rw [← hs2]; simp (disch := first | omega | assumption | exact Or.inl rfl | exact Or.inr rfl | exact bI_or _ | exact zC81 | exact zC47 | exact zC65 | exact zC0 | exact zC1 | exact zC32 | exact zC70 | exact zC73 | exact ztc (by assumption) | exact zdc (by assumption) | exact zpc (by assumption) | decide) only [Option.some.injEq, exists_eq_left', ex2, Option.toList, List.singleton_append, List.append_nil, List.cons_append, List.nil_append, nI_add, nI_addL, nI_Ladd, pk_mul, nI_mulL, nI_Lmul, nI_subL, pk_sub, nI_divL, sub_dm, nI_leE, nI_ltE, nI_eqE, nI_Lle, nI_leL, nI_Llt, nI_ltL, nI_eqL, va_up_self, va_up_ne, up_up, up_comm, nI_clamp, bI_eq0, not_true_eq_false, not_false_eq_true, Nat.reduceEqDiff, Nat.reduceLeDiff, Nat.reduceAdd, Nat.reduceMul, Nat.one_ne_zero, Nat.zero_ne_one, decide_eq_false_iff_not, decide_eq_true_eq, Bool.false_eq_true, decide_true, decide_false, bI_true, bI_false, one_ne, Nat.le_refl, Nat.lt_irrefl, cleT, cleF, cltT, cltF, ceqT, ceqF, ↓reduceIte]; exact a9) (by rw [← hs2]; simp (disch := first | omega | assumption | exact Or.inl rfl | exact Or.inr rfl | exact bI_or _ | exact zC81 | exact zC47 | exact zC65 | exact zC0 | exact zC1 | exact zC32 | exact zC70 | exact zC73 | exact ztc (by assumption) | exact zdc (by assumption) | exact zpc (by assumption) | decide) only [Option.some.injEq, exists_eq_left', ex2, Option.toList, List.singleton_append, List.append_nil, List.cons_append, List.nil_append, nI_add, nI_addL, nI_Ladd, pk_mul, nI_mulL, nI_Lmul, nI_subL, pk_sub, nI_divL, sub_dm, nI_leE, nI_ltE, nI_eqE, nI_Lle, nI_leL, nI_Llt, nI_ltL, nI_eqL, va_up_self, va_up_ne, up_up, up_comm, nI_clamp, bI_eq0, not_true_eq_false, not_false_eq_true, Nat.reduceEqDiff, Nat.reduceLeDiff, Nat.reduceAdd, Nat.reduceMul, Nat.one_ne_zero, Nat.zero_ne_one, decide_eq_false_iff_not, decide_eq_true_eq, Bool.false_eq_true, decide_true, decide_false, bI_true, bI_false, one_ne, Nat.le_refl, Nat.lt_irrefl, cleT, cleF, cltT, cltF, ceqT, ceqF, ↓reduceIte]; exact a11) (by rw [← hs2]; simp (disch := first | omega | assumption | exact Or.inl rfl | exact Or.inr rfl | exact bI_or _ | exact zC81 | exact zC47 | exact zC65 | exact zC0 | exact zC1 | exact zC32 | exact zC70 | exact zC73 | exact ztc (by assumption) | exact zdc (by assumption) | exact zpc (by assumption) | decide) only [Option.some.injEq, exists_eq_left', ex2, Option.toList, List.singleton_append, List.append_nil, List.cons_append, List.nil_append, nI_add, nI_addL, nI_Ladd, pk_mul, nI_mulL, nI_Lmul, nI_subL, pk_sub, nI_divL, sub_dm, nI_leE, nI_ltE, nI_eqE, nI_Lle, nI_leL, nI_Llt, nI_ltL, nI_eqL, va_up_self, va_up_ne, up_up, up_comm, nI_clamp, bI_eq0, not_true_eq_false, not_false_eq_true, Nat.reduceEqDiff, Nat.reduceLeDiff, Nat.reduceAdd, Nat.reduceMul, Nat.one_ne_zero, Nat.zero_ne_one, decide_eq_false_iff_not, decide_eq_true_eq, Bool.false_eq_true, decide_true, decide_false, bI_true, bI_false, one_ne, Nat.le_refl, Nat.lt_irrefl, cleT, cleF, cltT, cltF, ceqT, ceqF, ↓reduceIte]; exact a12) r1 r2 22 0 rfl
  have ew : wix b q e = (List.range' 0 22).find? (wM b q e) := rfl
  rw [ew]
  have wd' : Runs xs sl (d+4+1) 92 50 [some (.ref (32)), some (.int ( 0)), some (.int ( 0)), some (.int ( 0))] [] (hp J (s2) g) (none, hp J (match (List.range' 0 22).find? (wM b q e) with
    | some w => vlS s2 (nI w)
    | none => s2) g) := wd
  cases ef : (List.range' 0 22).find? (wM b q e) with
  | none =>
    rw [ef] at wd'
    dsimp only at wd' ⊢
    have e5 : tvS s1 2 (-1) = s2 := by
      have h := up_id (va_up (s1 32) 10 2) 12
      rw [va_up_ne _ _ (by decide), a12] at h
      rw [← hs2]
      unfold tvS
      rw [h]
    rw [e5]
    simp (disch := first | omega | assumption | exact Or.inl rfl | exact Or.inr rfl | exact bI_or _ | exact zC81 | exact zC47 | exact zC65 | exact zC0 | exact zC1 | exact zC32 | exact zC70 | exact zC73 | exact ztc (by assumption) | exact zdc (by assumption) | exact zpc (by assumption) | decide) only [Option.some.injEq, exists_eq_left', ex2, Option.toList, List.singleton_append, List.append_nil, List.cons_append, List.nil_append, nI_add, nI_addL, nI_Ladd, pk_mul, nI_mulL, nI_Lmul, nI_subL, pk_sub, nI_divL, sub_dm, nI_leE, nI_ltE, nI_eqE, nI_Lle, nI_leL, nI_Llt, nI_ltL, nI_eqL, va_up_self, va_up_ne, up_up, up_comm, nI_clamp, bI_eq0, not_true_eq_false, not_false_eq_true, Nat.reduceEqDiff, Nat.reduceLeDiff, Nat.reduceAdd, Nat.reduceMul, Nat.one_ne_zero, Nat.zero_ne_one, decide_eq_false_iff_not, decide_eq_true_eq, Bool.false_eq_true, decide_true, decide_false, bI_true, bI_false, one_ne, Nat.le_refl, Nat.lt_irrefl, cleT, cleF, cltT, cltF, ceqT, ceqF, ↓reduceIte, r92_39, r92_40, r92_41, r92_44, r92_45, r92_45_1, r92_46, r92_47, r92_48, r92_49, zW32_10, hs2]
    exact wd'
  | some w =>
    rw [ef] at wd'
    dsimp only at wd' ⊢
    have e5 : tvS s1 2 (nI w) = vlS s2 (nI w) := by
      rw [← hs2]
      unfold tvS vlS
      simp (disch := first | omega | assumption | exact Or.inl rfl | exact Or.inr rfl | exact bI_or _ | exact zC81 | exact zC47 | exact zC65 | exact zC0 | exact zC1 | exact zC32 | exact zC70 | exact zC73 | exact ztc (by assumption) | exact zdc (by assumption) | exact zpc (by assumption) | decide) only [Option.some.injEq, exists_eq_left', ex2, Option.toList, List.singleton_append, List.append_nil, List.cons_append, List.nil_append, nI_add, nI_addL, nI_Ladd, pk_mul, nI_mulL, nI_Lmul, nI_subL, pk_sub, nI_divL, sub_dm, nI_leE, nI_ltE, nI_eqE, nI_Lle, nI_leL, nI_Llt, nI_ltL, nI_eqL, va_up_self, va_up_ne, up_up, up_comm, nI_clamp, bI_eq0, not_true_eq_false, not_false_eq_true, Nat.reduceEqDiff, Nat.reduceLeDiff, Nat.reduceAdd, Nat.reduceMul, Nat.one_ne_zero, Nat.zero_ne_one, decide_eq_false_iff_not, decide_eq_true_eq, Bool.false_eq_true, decide_true, decide_false, bI_true, bI_false, one_ne, Nat.le_refl, Nat.lt_irrefl, cleT, cleF, cltT, cltF, ceqT, ceqF, ↓reduceIte]
    rw [e5]
    simp (disch := first | omega | assumption | exact Or.inl rfl | exact Or.inr rfl | exact bI_or _ | exact zC81 | exact zC47 | exact zC65 | exact zC0 | exact zC1 | exact zC32 | exact zC70 | exact zC73 | exact ztc (by assumption) | exact zdc (by assumption) | exact zpc (by assumption) | decide) only [Option.some.injEq, exists_eq_left', ex2, Option.toList, List.singleton_append, List.append_nil, List.cons_append, List.nil_append, nI_add, nI_addL, nI_Ladd, pk_mul, nI_mulL, nI_Lmul, nI_subL, pk_sub, nI_divL, sub_dm, nI_leE, nI_ltE, nI_eqE, nI_Lle, nI_leL, nI_Llt, nI_ltL, nI_eqL, va_up_self, va_up_ne, up_up, up_comm, nI_clamp, bI_eq0, not_true_eq_false, not_false_eq_true, Nat.reduceEqDiff, Nat.reduceLeDiff, Nat.reduceAdd, Nat.reduceMul, Nat.one_ne_zero, Nat.zero_ne_one, decide_eq_false_iff_not, decide_eq_true_eq, Bool.false_eq_true, decide_true, decide_false, bI_true, bI_false, one_ne, Nat.le_refl, Nat.lt_irrefl, cleT, cleF, cltT, cltF, ceqT, ceqF, ↓reduceIte, r92_39, r92_40, r92_41, r92_44, r92_45, r92_45_1, r92_46, r92_47, r92_48, r92_49, zW32_10, hs2]
    exact wd'
end TXB
