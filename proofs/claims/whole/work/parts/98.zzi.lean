/-! TEXT: the reference keeps what it read -/
section TXZI
variable {xs : Nat → Int32} {sl d : Nat} {J : hJk} {s t x y : hS} {g : hG}
def szO (so : Nat) : Nat := if so = 0 then 129 else if so = 1 then 161 else 39
def plO (so k : Nat) : Nat := if so = 0 then 610 + 129 * k else if so = 1 then 868 + 161 * k else 1190 + 39 * k
theorem rf_szO {so : Nat} (hso : so < 3) {H : mH} {r : Option Value × mH} : Runs xs sl d 200 0 [some (.int (nI so))] [] H r ↔ r = (some (.int (nI (szO so))), H) := by
  refine Runs.iff ?_
  have n10 : ¬ (1 : Int32) = 0 := by decide
  have n20 : ¬ (2 : Int32) = 0 := by decide
  have n21 : ¬ (2 : Int32) = 1 := by decide
  have k : so = 0 ∨ so = 1 ∨ so = 2 := by omega
  rcases k with rfl | rfl | rfl
  · rw [show nI 0 = (0 : Int32) from rfl]
    simp (disch := first | omega | assumption | exact Or.inl rfl | exact Or.inr rfl | exact bI_or _ | exact zC81 | exact zC47 | exact zC65 | exact zC0 | exact zC1 | exact zC32 | exact zC70 | exact zC73 | exact ztc (by assumption) | exact zdc (by assumption) | exact zpc (by assumption) | decide) only [Option.some.injEq, exists_eq_left', ex2, Option.toList, List.singleton_append, List.append_nil, List.cons_append, List.nil_append, nI_add, nI_addL, nI_Ladd, pk_mul, nI_mulL, nI_Lmul, nI_subL, pk_sub, nI_divL, sub_dm, nI_leE, nI_ltE, nI_eqE, nI_Lle, nI_leL, nI_Llt, nI_ltL, nI_eqL, va_up_self, va_up_ne, up_up, up_comm, nI_clamp, bI_eq0, not_true_eq_false, not_false_eq_true, Nat.reduceEqDiff, Nat.reduceLeDiff, Nat.reduceAdd, Nat.reduceMul, Nat.one_ne_zero, Nat.zero_ne_one, decide_eq_false_iff_not, decide_eq_true_eq, Bool.false_eq_true, decide_true, decide_false, bI_true, bI_false, one_ne, Nat.le_refl, Nat.lt_irrefl, cleT, cleF, cltT, cltF, ceqT, ceqF, ↓reduceIte, r200_0, r200_1, r200_4, r200_7, r200_10, r200_11, r200_12, r200_15, r200_18, r200_21, r200_23]
    rfl
  · rw [show nI 1 = (1 : Int32) from rfl]
    simp (disch := first | omega | assumption | exact Or.inl rfl | exact Or.inr rfl | exact bI_or _ | exact zC81 | exact zC47 | exact zC65 | exact zC0 | exact zC1 | exact zC32 | exact zC70 | exact zC73 | exact ztc (by assumption) | exact zdc (by assumption) | exact zpc (by assumption) | decide) only [Option.some.injEq, exists_eq_left', ex2, Option.toList, List.singleton_append, List.append_nil, List.cons_append, List.nil_append, nI_add, nI_addL, nI_Ladd, pk_mul, nI_mulL, nI_Lmul, nI_subL, pk_sub, nI_divL, sub_dm, nI_leE, nI_ltE, nI_eqE, nI_Lle, nI_leL, nI_Llt, nI_ltL, nI_eqL, va_up_self, va_up_ne, up_up, up_comm, nI_clamp, bI_eq0, not_true_eq_false, not_false_eq_true, Nat.reduceEqDiff, Nat.reduceLeDiff, Nat.reduceAdd, Nat.reduceMul, Nat.one_ne_zero, Nat.zero_ne_one, decide_eq_false_iff_not, decide_eq_true_eq, Bool.false_eq_true, decide_true, decide_false, bI_true, bI_false, one_ne, Nat.le_refl, Nat.lt_irrefl, cleT, cleF, cltT, cltF, ceqT, ceqF, ↓reduceIte, r200_0, r200_1, r200_4, r200_7, r200_10, r200_11, r200_12, r200_15, r200_18, r200_21, r200_23, n10]
    rfl
  · rw [show nI 2 = (2 : Int32) from rfl]
    simp (disch := first | omega | assumption | exact Or.inl rfl | exact Or.inr rfl | exact bI_or _ | exact zC81 | exact zC47 | exact zC65 | exact zC0 | exact zC1 | exact zC32 | exact zC70 | exact zC73 | exact ztc (by assumption) | exact zdc (by assumption) | exact zpc (by assumption) | decide) only [Option.some.injEq, exists_eq_left', ex2, Option.toList, List.singleton_append, List.append_nil, List.cons_append, List.nil_append, nI_add, nI_addL, nI_Ladd, pk_mul, nI_mulL, nI_Lmul, nI_subL, pk_sub, nI_divL, sub_dm, nI_leE, nI_ltE, nI_eqE, nI_Lle, nI_leL, nI_Llt, nI_ltL, nI_eqL, va_up_self, va_up_ne, up_up, up_comm, nI_clamp, bI_eq0, not_true_eq_false, not_false_eq_true, Nat.reduceEqDiff, Nat.reduceLeDiff, Nat.reduceAdd, Nat.reduceMul, Nat.one_ne_zero, Nat.zero_ne_one, decide_eq_false_iff_not, decide_eq_true_eq, Bool.false_eq_true, decide_true, decide_false, bI_true, bI_false, one_ne, Nat.le_refl, Nat.lt_irrefl, cleT, cleF, cltT, cltF, ceqT, ceqF, ↓reduceIte, r200_0, r200_1, r200_4, r200_7, r200_10, r200_11, r200_12, r200_15, r200_18, r200_21, r200_23, n20, n21]
    rfl
theorem rf_plO {so k : Nat} (hso : so < 3) (hk : k < 2) {H : mH} {r : Option Value × mH} : Runs xs sl d 201 0 [some (.int (nI so)), some (.int (nI k))] [] H r ↔ r = (some (.int (nI (plO so k))), H) := by
  refine Runs.iff ?_
  have n10 : ¬ (1 : Int32) = 0 := by decide
  have n20 : ¬ (2 : Int32) = 0 := by decide
  have n21 : ¬ (2 : Int32) = 1 := by decide
  have q : so = 0 ∨ so = 1 ∨ so = 2 := by omega
  rcases q with rfl | rfl | rfl
  · rw [show nI 0 = (0 : Int32) from rfl]
    simp (disch := first | omega | assumption | exact Or.inl rfl | exact Or.inr rfl | exact bI_or _ | exact zC81 | exact zC47 | exact zC65 | exact zC0 | exact zC1 | exact zC32 | exact zC70 | exact zC73 | exact ztc (by assumption) | exact zdc (by assumption) | exact zpc (by assumption) | decide) only [Option.some.injEq, exists_eq_left', ex2, Option.toList, List.singleton_append, List.append_nil, List.cons_append, List.nil_append, nI_add, nI_addL, nI_Ladd, pk_mul, nI_mulL, nI_Lmul, nI_subL, pk_sub, nI_divL, sub_dm, nI_leE, nI_ltE, nI_eqE, nI_Lle, nI_leL, nI_Llt, nI_ltL, nI_eqL, va_up_self, va_up_ne, up_up, up_comm, nI_clamp, bI_eq0, not_true_eq_false, not_false_eq_true, Nat.reduceEqDiff, Nat.reduceLeDiff, Nat.reduceAdd, Nat.reduceMul, Nat.one_ne_zero, Nat.zero_ne_one, decide_eq_false_iff_not, decide_eq_true_eq, Bool.false_eq_true, decide_true, decide_false, bI_true, bI_false, one_ne, Nat.le_refl, Nat.lt_irrefl, cleT, cleF, cltT, cltF, ceqT, ceqF, ↓reduceIte, r201_0, r201_1, r201_4, r201_7, r201_10, r201_11, r201_12, r201_13, r201_16, r201_17, r201_18, r201_21, r201_24, r201_27, r201_28, r201_29, r201_30, r201_33, r201_36, r201_38, r201_39, r201_40, r201_41]
    rfl
  · rw [show nI 1 = (1 : Int32) from rfl]
    simp (disch := first | omega | assumption | exact Or.inl rfl | exact Or.inr rfl | exact bI_or _ | exact zC81 | exact zC47 | exact zC65 | exact zC0 | exact zC1 | exact zC32 | exact zC70 | exact zC73 | exact ztc (by assumption) | exact zdc (by assumption) | exact zpc (by assumption) | decide) only [Option.some.injEq, exists_eq_left', ex2, Option.toList, List.singleton_append, List.append_nil, List.cons_append, List.nil_append, nI_add, nI_addL, nI_Ladd, pk_mul, nI_mulL, nI_Lmul, nI_subL, pk_sub, nI_divL, sub_dm, nI_leE, nI_ltE, nI_eqE, nI_Lle, nI_leL, nI_Llt, nI_ltL, nI_eqL, va_up_self, va_up_ne, up_up, up_comm, nI_clamp, bI_eq0, not_true_eq_false, not_false_eq_true, Nat.reduceEqDiff, Nat.reduceLeDiff, Nat.reduceAdd, Nat.reduceMul, Nat.one_ne_zero, Nat.zero_ne_one, decide_eq_false_iff_not, decide_eq_true_eq, Bool.false_eq_true, decide_true, decide_false, bI_true, bI_false, one_ne, Nat.le_refl, Nat.lt_irrefl, cleT, cleF, cltT, cltF, ceqT, ceqF, ↓reduceIte, r201_0, r201_1, r201_4, r201_7, r201_10, r201_11, r201_12, r201_13, r201_16, r201_17, r201_18, r201_21, r201_24, r201_27, r201_28, r201_29, r201_30, r201_33, r201_36, r201_38, r201_39, r201_40, r201_41, n10]
    rfl
  · rw [show nI 2 = (2 : Int32) from rfl]
    simp (disch := first | omega | assumption | exact Or.inl rfl | exact Or.inr rfl | exact bI_or _ | exact zC81 | exact zC47 | exact zC65 | exact zC0 | exact zC1 | exact zC32 | exact zC70 | exact zC73 | exact ztc (by assumption) | exact zdc (by assumption) | exact zpc (by assumption) | decide) only [Option.some.injEq, exists_eq_left', ex2, Option.toList, List.singleton_append, List.append_nil, List.cons_append, List.nil_append, nI_add, nI_addL, nI_Ladd, pk_mul, nI_mulL, nI_Lmul, nI_subL, pk_sub, nI_divL, sub_dm, nI_leE, nI_ltE, nI_eqE, nI_Lle, nI_leL, nI_Llt, nI_ltL, nI_eqL, va_up_self, va_up_ne, up_up, up_comm, nI_clamp, bI_eq0, not_true_eq_false, not_false_eq_true, Nat.reduceEqDiff, Nat.reduceLeDiff, Nat.reduceAdd, Nat.reduceMul, Nat.one_ne_zero, Nat.zero_ne_one, decide_eq_false_iff_not, decide_eq_true_eq, Bool.false_eq_true, decide_true, decide_false, bI_true, bI_false, one_ne, Nat.le_refl, Nat.lt_irrefl, cleT, cleF, cltT, cltF, ceqT, ceqF, ↓reduceIte, r201_0, r201_1, r201_4, r201_7, r201_10, r201_11, r201_12, r201_13, r201_16, r201_17, r201_18, r201_21, r201_24, r201_27, r201_28, r201_29, r201_30, r201_33, r201_36, r201_38, r201_39, r201_40, r201_41, n20, n21]
    rfl
theorem plO_ok {so k : Nat} (hso : so < 3) (hk : k < 2) : 610 ≤ plO so k ∧ plO so k + szO so ≤ 1268 ∧ szO so ≤ 161 := by
  have q : so = 0 ∨ so = 1 ∨ so = 2 := by omega
  rcases q with rfl | rfl | rfl
  · show 610 ≤ 610 + 129 * k ∧ 610 + 129 * k + 129 ≤ 1268 ∧ 129 ≤ 161
    omega
  · show 610 ≤ 868 + 161 * k ∧ 868 + 161 * k + 161 ≤ 1268 ∧ 161 ≤ 161
    omega
  · show 610 ≤ 1190 + 39 * k ∧ 1190 + 39 * k + 39 ≤ 1268 ∧ 39 ≤ 161
    omega
theorem rf_keep {so k : Nat} {A : Int32} (hso : so < 3) (hk : k < 2) : ∀ m i (t : hS), i + m = szO so → ∃ t' : hS, (∀ c, c ≠ 82 → t' c = t c) ∧ (∀ u, t' 82 u = if plO so k + i ≤ u ∧ u < plO so k + szO so then t 84 (u - plO so k) else t 82 u) ∧ ∀ z, Runs xs sl (d+1) 172 312 [some (.ref (81)), some (.int ( nI so)), some (.int ( A)), some (.int ( nI k)), some (.int ( nI (szO so)))] [] (hp J (t') g) z → Runs xs sl (d+1) 172 277 [some (.ref (81)), some (.int ( nI so)), some (.int ( A)), some (.int ( nI k)), some (.int ( nI i))] [] (hp J (t) g) z := by
  have f1 := @rf_szO xs sl d so hso
  have f2 := @rf_plO xs sl d so k hso hk
  obtain ⟨p1, p2, p3⟩ := plO_ok hso hk
  generalize szO so = L at *
  generalize plO so k = B at *
  intro m
  induction m with
  | zero =>
    intro i t hi
    have hi : i = L := by omega
    subst hi
    refine ⟨t, fun _ _ => rfl, fun u => by rw [if_neg (by omega)], fun z hz => ?_⟩
    have f1' := @f1 (hp J t g)
    rw [r172_277]
    simp (disch := first | omega | assumption | exact Or.inl rfl | exact Or.inr rfl | exact bI_or _ | exact zC81 | exact zC47 | exact zC65 | exact zC0 | exact zC1 | exact zC32 | exact zC70 | exact zC73 | exact ztc (by assumption) | exact zdc (by assumption) | exact zpc (by assumption) | decide) only [Option.some.injEq, exists_eq_left', ex2, Option.toList, List.singleton_append, List.append_nil, List.cons_append, List.nil_append, nI_add, nI_addL, nI_Ladd, pk_mul, nI_mulL, nI_Lmul, nI_subL, pk_sub, nI_divL, sub_dm, nI_leE, nI_ltE, nI_eqE, nI_Lle, nI_leL, nI_Llt, nI_ltL, nI_eqL, va_up_self, va_up_ne, up_up, up_comm, nI_clamp, bI_eq0, not_true_eq_false, not_false_eq_true, Nat.reduceEqDiff, Nat.reduceLeDiff, Nat.reduceAdd, Nat.reduceMul, Nat.one_ne_zero, Nat.zero_ne_one, decide_eq_false_iff_not, decide_eq_true_eq, Bool.false_eq_true, decide_true, decide_false, bI_true, bI_false, one_ne, Nat.le_refl, Nat.lt_irrefl, cleT, cleF, cltT, cltF, ceqT, ceqF, ↓reduceIte, r172_279, r172_280, r172_283, r172_286, r172_287, r172_290, r172_291, r172_292, r172_295, r172_297, r172_298, r172_299, r172_302, r172_304, r172_305, r172_306, r172_309, f1']
    exact hz
  | succ m ih =>
    intro i t hi
    have c : ¬ L ≤ i := by omega
    obtain ⟨t', h1, h2, h3⟩ := ih (i + 1) (va_up t 82 (va_up (t 82) (B + i) (t 84 i))) (by omega)
    refine ⟨t', fun c hc => by rw [h1 c hc, va_up_ne _ _ hc], fun u => ?_, fun z hz => ?_⟩
    · rw [h2 u, va_up_self, va_up_ne _ _ (by decide)]
      by_cases q : u = B + i
      · subst q
        rw [va_up_self, if_neg (by omega), if_pos ⟨by omega, by omega⟩, show B + i - B = i by omega]
      · rw [va_up_ne _ _ q]
        by_cases q2 : B + (i + 1) ≤ u ∧ u < B + L
        · rw [if_pos q2, if_pos ⟨by omega, by omega⟩]
        · rw [if_neg q2, if_neg (by omega)]
    · have f1' := @f1 (hp J t g)
      have f2' := @f2 (hp J t g)
      have b1 : i < 161 := by omega
      have b2 : B + i < 5072 := by omega
      rw [r172_277]
      simp (disch := first | omega | assumption | exact Or.inl rfl | exact Or.inr rfl | exact bI_or _ | exact zC81 | exact zC47 | exact zC65 | exact zC0 | exact zC1 | exact zC32 | exact zC70 | exact zC73 | exact ztc (by assumption) | exact zdc (by assumption) | exact zpc (by assumption) | decide) only [Option.some.injEq, exists_eq_left', ex2, Option.toList, List.singleton_append, List.append_nil, List.cons_append, List.nil_append, nI_add, nI_addL, nI_Ladd, pk_mul, nI_mulL, nI_Lmul, nI_subL, pk_sub, nI_divL, sub_dm, nI_leE, nI_ltE, nI_eqE, nI_Lle, nI_leL, nI_Llt, nI_ltL, nI_eqL, va_up_self, va_up_ne, up_up, up_comm, nI_clamp, bI_eq0, not_true_eq_false, not_false_eq_true, Nat.reduceEqDiff, Nat.reduceLeDiff, Nat.reduceAdd, Nat.reduceMul, Nat.one_ne_zero, Nat.zero_ne_one, decide_eq_false_iff_not, decide_eq_true_eq, Bool.false_eq_true, decide_true, decide_false, bI_true, bI_false, one_ne, Nat.le_refl, Nat.lt_irrefl, cleT, cleF, cltT, cltF, ceqT, ceqF, ↓reduceIte, r172_279, r172_280, r172_283, r172_286, r172_287, r172_290, r172_291, r172_292, r172_295, r172_297, r172_298, r172_299, r172_302, r172_304, r172_305, r172_306, r172_309, f1', f2', zO81_0, zO81_11, zA84, zS82, c, b1, b2]
      exact h3 z hz
end TXZI
