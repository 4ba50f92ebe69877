/-! TEXT: a slot -/
section TXI
variable {xs : Nat → Int32} {sl d : Nat} {J : hJk} {s x y : hS} {g : hG}
theorem cl_slot_pre {c i : Nat} (hc : c < 200) {z : Option Value × mH} (h : Runs xs sl (d) 99 24 [some (.ref (32)), some (.int ( nI c)), some (.int ( nI i)), some (.int ( bI (isWk c)))] [] (hp J (s) g) z) : Runs xs sl (d) 99 0 [some (.ref (32)), some (.int ( nI c)), some (.int ( nI i)), none] [] (hp J (s) g) z := by
  unfold isWk at h
  by_cases c1 : c = 107
  · have c1' := eq_true c1
    rw [decide_eq_true c1, Bool.true_or, Bool.true_or] at h
    simp (disch := first | omega | assumption | exact Or.inl rfl | exact Or.inr rfl | exact bI_or _ | exact zC81 | exact zC47 | exact zC65 | exact zC0 | exact zC1 | exact zC32 | exact zC70 | exact zC73 | exact ztc (by assumption) | exact zdc (by assumption) | exact zpc (by assumption) | decide) only [Option.some.injEq, exists_eq_left', ex2, Option.toList, List.singleton_append, List.append_nil, List.cons_append, List.nil_append, nI_add, nI_addL, nI_Ladd, pk_mul, nI_mulL, nI_Lmul, nI_subL, pk_sub, nI_divL, sub_dm, nI_leE, nI_ltE, nI_eqE, nI_Lle, nI_leL, nI_Llt, nI_ltL, nI_eqL, va_up_self, va_up_ne, up_up, up_comm, nI_clamp, bI_eq0, not_true_eq_false, not_false_eq_true, Nat.reduceEqDiff, Nat.reduceLeDiff, Nat.reduceAdd, Nat.reduceMul, Nat.one_ne_zero, Nat.zero_ne_one, decide_eq_false_iff_not, decide_eq_true_eq, Bool.false_eq_true, decide_true, decide_false, bI_true, bI_false, one_ne, Nat.le_refl, Nat.lt_irrefl, cleT, cleF, cltT, cltF, ceqT, ceqF, ↓reduceIte, r99_0, r99_1, r99_3, r99_6, r99_7, r99_9, r99_12, r99_13, r99_15, r99_18, r99_19, r99_22, r99_23, c1']
    exact h
  by_cases c2 : c = 98
  · have c2' := eq_true c2
    rw [decide_eq_true c2, Bool.or_true, Bool.true_or] at h
    simp (disch := first | omega | assumption | exact Or.inl rfl | exact Or.inr rfl | exact bI_or _ | exact zC81 | exact zC47 | exact zC65 | exact zC0 | exact zC1 | exact zC32 | exact zC70 | exact zC73 | exact ztc (by assumption) | exact zdc (by assumption) | exact zpc (by assumption) | decide) only [Option.some.injEq, exists_eq_left', ex2, Option.toList, List.singleton_append, List.append_nil, List.cons_append, List.nil_append, nI_add, nI_addL, nI_Ladd, pk_mul, nI_mulL, nI_Lmul, nI_subL, pk_sub, nI_divL, sub_dm, nI_leE, nI_ltE, nI_eqE, nI_Lle, nI_leL, nI_Llt, nI_ltL, nI_eqL, va_up_self, va_up_ne, up_up, up_comm, nI_clamp, bI_eq0, not_true_eq_false, not_false_eq_true, Nat.reduceEqDiff, Nat.reduceLeDiff, Nat.reduceAdd, Nat.reduceMul, Nat.one_ne_zero, Nat.zero_ne_one, decide_eq_false_iff_not, decide_eq_true_eq, Bool.false_eq_true, decide_true, decide_false, bI_true, bI_false, one_ne, Nat.le_refl, Nat.lt_irrefl, cleT, cleF, cltT, cltF, ceqT, ceqF, ↓reduceIte, r99_0, r99_1, r99_3, r99_6, r99_7, r99_9, r99_12, r99_13, r99_15, r99_18, r99_19, r99_22, r99_23, c1, c2']
    exact h
  by_cases c3 : c = 119
  · have c3' := eq_true c3
    rw [decide_eq_true c3, Bool.or_true] at h
    simp (disch := first | omega | assumption | exact Or.inl rfl | exact Or.inr rfl | exact bI_or _ | exact zC81 | exact zC47 | exact zC65 | exact zC0 | exact zC1 | exact zC32 | exact zC70 | exact zC73 | exact ztc (by assumption) | exact zdc (by assumption) | exact zpc (by assumption) | decide) only [Option.some.injEq, exists_eq_left', ex2, Option.toList, List.singleton_append, List.append_nil, List.cons_append, List.nil_append, nI_add, nI_addL, nI_Ladd, pk_mul, nI_mulL, nI_Lmul, nI_subL, pk_sub, nI_divL, sub_dm, nI_leE, nI_ltE, nI_eqE, nI_Lle, nI_leL, nI_Llt, nI_ltL, nI_eqL, va_up_self, va_up_ne, up_up, up_comm, nI_clamp, bI_eq0, not_true_eq_false, not_false_eq_true, Nat.reduceEqDiff, Nat.reduceLeDiff, Nat.reduceAdd, Nat.reduceMul, Nat.one_ne_zero, Nat.zero_ne_one, decide_eq_false_iff_not, decide_eq_true_eq, Bool.false_eq_true, decide_true, decide_false, bI_true, bI_false, one_ne, Nat.le_refl, Nat.lt_irrefl, cleT, cleF, cltT, cltF, ceqT, ceqF, ↓reduceIte, r99_0, r99_1, r99_3, r99_6, r99_7, r99_9, r99_12, r99_13, r99_15, r99_18, r99_19, r99_22, r99_23, c1, c2, c3']
    exact h
  · rw [decide_eq_false c1, decide_eq_false c2, decide_eq_false c3, Bool.or_self, Bool.or_self] at h
    simp (disch := first | omega | assumption | exact Or.inl rfl | exact Or.inr rfl | exact bI_or _ | exact zC81 | exact zC47 | exact zC65 | exact zC0 | exact zC1 | exact zC32 | exact zC70 | exact zC73 | exact ztc (by assumption) | exact zdc (by assumption) | exact zpc (by assumption) | decide) only [Option.some.injEq, exists_eq_left', ex2, Option.toList, List.singleton_append, List.append_nil, List.cons_append, List.nil_append, nI_add, nI_addL, nI_Ladd, pk_mul, nI_mulL, nI_Lmul, nI_subL, pk_sub, nI_divL, sub_dm, nI_leE, nI_ltE, nI_eqE, nI_Lle, nI_leL, nI_Llt, nI_ltL, nI_eqL, va_up_self, va_up_ne, up_up, up_comm, nI_clamp, bI_eq0, not_true_eq_false, not_false_eq_true, Nat.reduceEqDiff, Nat.reduceLeDiff, Nat.reduceAdd, Nat.reduceMul, Nat.one_ne_zero, Nat.zero_ne_one, decide_eq_false_iff_not, decide_eq_true_eq, Bool.false_eq_true, decide_true, decide_false, bI_true, bI_false, one_ne, Nat.le_refl, Nat.lt_irrefl, cleT, cleF, cltT, cltF, ceqT, ceqF, ↓reduceIte, r99_0, r99_1, r99_3, r99_6, r99_7, r99_9, r99_12, r99_13, r99_15, r99_18, r99_19, r99_22, r99_23, c1, c2, c3]
    exact h
theorem kQ_cases (b : Nat → Nat) (N q : Nat) : kQ b N q = 0 ∨ kQ b N q = 1 ∨ kQ b N q = 2 ∨ kQ b N q = 3 ∨ kQ b N q = 4 := by
  unfold kQ
  by_cases c0 : N ≤ q
  · rw [if_pos c0]; omega
  rw [if_neg c0]
  by_cases c1 : b q = 59
  · rw [if_pos c1]; omega
  rw [if_neg c1]
  by_cases c2 : isDg (b q) = true
  · rw [if_pos c2]
    by_cases c4 : rn isDg b N q - q ≤ 2
    · rw [if_pos c4]; omega
    · rw [if_neg c4]; omega
  rw [if_neg c2]
  by_cases c3 : isLt (b q) = true
  · rw [if_pos c3]
    by_cases c4 : (wix b q (rn isLt b N q)).isSome = true
    · rw [if_pos c4]; omega
    · rw [if_neg c4]; omega
  · rw [if_neg c3]; omega
/-- the token of the class, where it is no number; where it is no word; where it is no semicolon -/
theorem TKC_no {b : Nat → Nat} {N q : Nat} {s s' : hS} (h : TKC b N q s s') : (kQ b N q ≠ 1 → ¬ s' 32 10 = 3) ∧ (kQ b N q ≠ 3 → ¬ s' 32 10 = 2 ∨ (s' 32 10 = 2 ∧ s' 32 12 = -1)) ∧ (kQ b N q ≠ 2 → ¬ s' 32 10 = 1) ∧ (kQ b N q ≠ 0 → ¬ s' 32 10 = 0) := by
  obtain ⟨-, -, -, tk0, tk2, tk3, tk1, tk4⟩ := h
  rcases kQ_cases b N q with k | k | k | k | k
  · have e := tk0 k
    rw [e]
    exact ⟨fun _ => by decide, fun _ => Or.inl (by decide), fun _ => by decide, fun h => absurd k h⟩
  · have e := (tk1 k).1
    rw [e]
    exact ⟨fun h => absurd k h, fun _ => Or.inl (by decide), fun _ => by decide, fun _ => by decide⟩
  · have e := (tk2 k).1
    rw [e]
    exact ⟨fun _ => by decide, fun _ => Or.inl (by decide), fun h => absurd k h, fun _ => by decide⟩
  · have e := (tk3 k).1
    rw [e]
    exact ⟨fun _ => by decide, fun h => absurd k h, fun _ => by decide, fun _ => by decide⟩
  · rcases tk4 k with e | ⟨e, e'⟩
    · rw [e]
      exact ⟨fun _ => by decide, fun _ => Or.inl (by decide), fun _ => by decide, fun _ => by decide⟩
    · rw [e, e']
      exact ⟨fun _ => by decide, fun _ => Or.inr ⟨rfl, rfl⟩, fun _ => by decide, fun _ => by decide⟩
/-- take() and readSlot() -/
theorem cl_slot {b : Nat → Nat} {N c s0 i : Nat} {σ : TxS} (hw : σ.1 = false) (hM : CM b N σ s) (hi : i < 4) (hc : isWk c = true ∨ c = 99 ∨ c = 110 ∨ c = 122 ∨ c = 104 ∨ c = 97 ∨ c = 116 ∨ c = 111 ∨ c = 108 ∨ c = 118) (hs : c = 97 → s0 < 100 ∧ s 45 0 = nI s0) : ∃ s1 s2 : hS, Runs xs sl (d+4+1+1) 88 0 [some (.ref (32))] [] (hp J (s) g) (none, hp J s1 g) ∧ Runs xs sl (d+4+1+1) 99 0 [some (.ref (32)), some (.int ( nI c)), some (.int ( nI i)), none] [] (hp J (s1) g) (some (.int (bI (!(slS b N c s0 σ).1))), hp J s2 g) ∧ CM b N (slS b N c s0 σ) s2 ∧ CF s s2 ∧ ((slS b N c s0 σ).1 = false → s2 45 = va_up (s 45) i (nI (slV b N σ)) ∧ slV b N σ < 100) := by
  obtain ⟨w, p, F, P⟩ := σ
  have hw : w = false := hw
  subst hw
  obtain ⟨hT, hpN, h9, h3⟩ := hM
  have h9 : s 32 9 = nI p := h9
  have hpN : p ≤ N := hpN
  obtain ⟨f3, f6, f4⟩ := h3 rfl
  have f3 : s 32 3 = nI F := f3
  have f6 : F < 6 := f6
  have f4 : F ≠ 0 → s 32 4 = nI P ∧ P < p := f4
  obtain ⟨s1, run1, tk⟩ := @cl_take xs sl d J s g b N p hT h9 hpN
  obtain ⟨r1, r2, r3, r4⟩ := rn_prop (P := isBl) (b := b) (N := N) (N - p) p (by omega)
  have hN6 : N ≤ 600 := hT.2.2.1
  have hsv : slV b N (false, p, F, P) = vQ b N (rn isBl b N p) := rfl
  rw [hsv]
  generalize hq : rn isBl b N p = q at *
  obtain ⟨no1, no3, -, -⟩ := TKC_no tk
  obtain ⟨t0, t1, t11, tk0, tk2, tk3, tk1, tk4⟩ := tk
  have hT1 : tpC s1 b N := tpC_fr hT (t1 6 (by omega)) (t1 7 (by omega)) (t0 6 (by decide))
  have cf1 : CF s s1 := ⟨fun c h _ => t0 c h, fun j h => t1 j (by omega)⟩
  have g3 : s1 32 3 = nI F := (t1 3 (by omega)).trans f3
  have c200 : c < 200 := by
    rcases hc with h | h
    · unfold isWk at h
      rw [Bool.or_eq_true, Bool.or_eq_true, decide_eq_true_eq, decide_eq_true_eq, decide_eq_true_eq] at h
      omega
    · omega
  have cm1 : CM b N (true, q, 0, 0) s1 := ⟨hT1, r2, t11, fun h => by cases h⟩
  have a45 : s1 45 = s 45 := t0 45 (by decide)
  have i9 : kQ b N q = 1 ∨ kQ b N q = 2 ∨ kQ b N q = 3 → s1 32 9 = nI (eQ b N q) → CM b N (false, eQ b N q, F, P) (va_up s1 45 (va_up (s1 45) i (nI (vQ b N q)))) := by
    intro hk v9
    obtain ⟨e1, e2⟩ := eQ_gt hk
    refine ⟨tpC_fr hT1 (by rw [va_up_ne _ _ (by decide)]) (by rw [va_up_ne _ _ (by decide)]) (by rw [va_up_ne _ _ (by decide)]), e2, ?_, fun _ => ⟨?_, f6, fun h => ⟨?_, ?_⟩⟩⟩
    · rw [va_up_ne _ _ (by decide)]; exact v9
    · rw [va_up_ne _ _ (by decide)]; exact g3
    · rw [va_up_ne _ _ (by decide)]; exact (t1 4 (by omega)).trans (f4 h).1
    · have := (f4 h).2
      show P < eQ b N q
      omega
  cases cw : isWk c
  case true =>
    have hc3 : c = 107 ∨ c = 98 ∨ c = 119 := by
      unfold isWk at cw
      rw [Bool.or_eq_true, Bool.or_eq_true, decide_eq_true_eq, decide_eq_true_eq, decide_eq_true_eq] at cw
      omega
    have es : slS b N c s0 (false, p, F, P) = if kQ b N q = 3 ∧ okW c (vQ b N q) = true then (false, eQ b N q, F, P) else (true, q, 0, 0) := by
      unfold slS woS slV
      rw [if_pos cw, if_neg (show ¬ false = true by decide), hq]
    have pr := fun z => @cl_slot_pre xs sl (d + 4 + 1 + 1) J s1 g c i c200 z
    rw [cw] at pr
    by_cases k3 : kQ b N q = 3
    · obtain ⟨v10, v12, v9⟩ := tk3 k3
      have v22 := vQ_word k3
      have iw := fun H => @cl_isWordOf xs sl (d + 4 + 1) c (vQ b N q) hc3 (by omega) H
      have iw' := @iw (hp J s1 g)
      have v10' := eq_true v10
      cases ko : okW c (vQ b N q)
      case true =>
        rw [ko] at iw'
        rw [if_pos ⟨k3, ko⟩] at es
        rw [es]
        refine ⟨s1, _, run1, pr _ ?_, i9 (by omega) v9, ⟨fun c h h' => by rw [va_up_ne _ _ h']; exact t0 c h, fun j h => by rw [va_up_ne _ _ (by decide)]; exact t1 j (by omega)⟩, fun _ => ⟨by rw [va_up_self, a45], by omega⟩⟩
        simp (disch := first | omega | assumption | exact Or.inl rfl | exact Or.inr rfl | exact bI_or _ | exact zC81 | exact zC47 | exact zC65 | exact zC0 | exact zC1 | exact zC32 | exact zC70 | exact zC73 | exact ztc (by assumption) | exact zdc (by assumption) | exact zpc (by assumption) | decide) only [Option.some.injEq, exists_eq_left', ex2, Option.toList, List.singleton_append, List.append_nil, List.cons_append, List.nil_append, nI_add, nI_addL, nI_Ladd, pk_mul, nI_mulL, nI_Lmul, nI_subL, pk_sub, nI_divL, sub_dm, nI_leE, nI_ltE, nI_eqE, nI_Lle, nI_leL, nI_Llt, nI_ltL, nI_eqL, va_up_self, va_up_ne, up_up, up_comm, nI_clamp, bI_eq0, not_true_eq_false, not_false_eq_true, Nat.reduceEqDiff, Nat.reduceLeDiff, Nat.reduceAdd, Nat.reduceMul, Nat.one_ne_zero, Nat.zero_ne_one, decide_eq_false_iff_not, decide_eq_true_eq, Bool.false_eq_true, decide_true, decide_false, bI_true, bI_false, one_ne, Nat.le_refl, Nat.lt_irrefl, cleT, cleF, cltT, cltF, ceqT, ceqF, ↓reduceIte, r99_24, r99_25, r99_28, r99_29, r99_32, r99_33, r99_36, r99_37, r99_40, r99_41, r99_42, r99_43, r99_46, r99_47, r99_48, r99_51, r99_54, r99_57, r99_58, r99_59, r99_60, r99_63, r99_64, r99_65, r99_66, r99_69, r99_72, r99_75, r99_76, r99_77, r99_78, r99_81, r99_84, r99_85, r99_88, r99_89, r99_90, r99_93, r99_94, r99_97, r99_98, r99_101, r99_102, r99_103, r99_106, r99_107, r99_108, zO32_10, zO32_12, zO32_5, zL45, zS45, v10, v12, iw', hi, Bool.not_false]
      case false =>
        rw [ko] at iw'
        rw [if_neg (fun h => by rw [ko] at h; cases h.2)] at es
        rw [es]
        refine ⟨s1, s1, run1, pr _ ?_, cm1, cf1, fun h => by cases h⟩
        simp (disch := first | omega | assumption | exact Or.inl rfl | exact Or.inr rfl | exact bI_or _ | exact zC81 | exact zC47 | exact zC65 | exact zC0 | exact zC1 | exact zC32 | exact zC70 | exact zC73 | exact ztc (by assumption) | exact zdc (by assumption) | exact zpc (by assumption) | decide) only [Option.some.injEq, exists_eq_left', ex2, Option.toList, List.singleton_append, List.append_nil, List.cons_append, List.nil_append, nI_add, nI_addL, nI_Ladd, pk_mul, nI_mulL, nI_Lmul, nI_subL, pk_sub, nI_divL, sub_dm, nI_leE, nI_ltE, nI_eqE, nI_Lle, nI_leL, nI_Llt, nI_ltL, nI_eqL, va_up_self, va_up_ne, up_up, up_comm, nI_clamp, bI_eq0, not_true_eq_false, not_false_eq_true, Nat.reduceEqDiff, Nat.reduceLeDiff, Nat.reduceAdd, Nat.reduceMul, Nat.one_ne_zero, Nat.zero_ne_one, decide_eq_false_iff_not, decide_eq_true_eq, Bool.false_eq_true, decide_true, decide_false, bI_true, bI_false, one_ne, Nat.le_refl, Nat.lt_irrefl, cleT, cleF, cltT, cltF, ceqT, ceqF, ↓reduceIte, r99_24, r99_25, r99_28, r99_29, r99_32, r99_33, r99_36, r99_37, r99_40, r99_41, r99_42, r99_43, r99_46, r99_47, r99_48, r99_51, r99_54, r99_57, r99_58, r99_59, r99_60, r99_63, r99_64, r99_65, r99_66, r99_69, r99_72, r99_75, r99_76, r99_77, r99_78, r99_81, r99_84, r99_85, r99_88, r99_89, r99_90, r99_93, r99_94, r99_97, r99_98, r99_101, r99_102, r99_103, r99_106, r99_107, r99_108, zO32_10, zO32_12, v10, v12, iw', Bool.not_true]
    · rw [if_neg (fun h => k3 h.1)] at es
      rw [es]
      refine ⟨s1, s1, run1, pr _ ?_, cm1, cf1, fun h => by cases h⟩
      rcases no3 k3 with n | ⟨n, n'⟩
      · simp (disch := first | omega | assumption | exact Or.inl rfl | exact Or.inr rfl | exact bI_or _ | exact zC81 | exact zC47 | exact zC65 | exact zC0 | exact zC1 | exact zC32 | exact zC70 | exact zC73 | exact ztc (by assumption) | exact zdc (by assumption) | exact zpc (by assumption) | decide) only [Option.some.injEq, exists_eq_left', ex2, Option.toList, List.singleton_append, List.append_nil, List.cons_append, List.nil_append, nI_add, nI_addL, nI_Ladd, pk_mul, nI_mulL, nI_Lmul, nI_subL, pk_sub, nI_divL, sub_dm, nI_leE, nI_ltE, nI_eqE, nI_Lle, nI_leL, nI_Llt, nI_ltL, nI_eqL, va_up_self, va_up_ne, up_up, up_comm, nI_clamp, bI_eq0, not_true_eq_false, not_false_eq_true, Nat.reduceEqDiff, Nat.reduceLeDiff, Nat.reduceAdd, Nat.reduceMul, Nat.one_ne_zero, Nat.zero_ne_one, decide_eq_false_iff_not, decide_eq_true_eq, Bool.false_eq_true, decide_true, decide_false, bI_true, bI_false, one_ne, Nat.le_refl, Nat.lt_irrefl, cleT, cleF, cltT, cltF, ceqT, ceqF, ↓reduceIte, r99_24, r99_25, r99_28, r99_29, r99_32, r99_33, r99_36, r99_37, r99_40, r99_41, r99_42, r99_43, r99_46, r99_47, r99_48, r99_51, r99_54, r99_57, r99_58, r99_59, r99_60, r99_63, r99_64, r99_65, r99_66, r99_69, r99_72, r99_75, r99_76, r99_77, r99_78, r99_81, r99_84, r99_85, r99_88, r99_89, r99_90, r99_93, r99_94, r99_97, r99_98, r99_101, r99_102, r99_103, r99_106, r99_107, r99_108, zO32_10, n, Bool.not_true]
      · have iw := fun H => @cl_isWordOf_no xs sl (d + 4 + 1) c hc3 H
        have iw' := @iw (hp J s1 g)
        simp (disch := first | omega | assumption | exact Or.inl rfl | exact Or.inr rfl | exact bI_or _ | exact zC81 | exact zC47 | exact zC65 | exact zC0 | exact zC1 | exact zC32 | exact zC70 | exact zC73 | exact ztc (by assumption) | exact zdc (by assumption) | exact zpc (by assumption) | decide) only [Option.some.injEq, exists_eq_left', ex2, Option.toList, List.singleton_append, List.append_nil, List.cons_append, List.nil_append, nI_add, nI_addL, nI_Ladd, pk_mul, nI_mulL, nI_Lmul, nI_subL, pk_sub, nI_divL, sub_dm, nI_leE, nI_ltE, nI_eqE, nI_Lle, nI_leL, nI_Llt, nI_ltL, nI_eqL, va_up_self, va_up_ne, up_up, up_comm, nI_clamp, bI_eq0, not_true_eq_false, not_false_eq_true, Nat.reduceEqDiff, Nat.reduceLeDiff, Nat.reduceAdd, Nat.reduceMul, Nat.one_ne_zero, Nat.zero_ne_one, decide_eq_false_iff_not, decide_eq_true_eq, Bool.false_eq_true, decide_true, decide_false, bI_true, bI_false, one_ne, Nat.le_refl, Nat.lt_irrefl, cleT, cleF, cltT, cltF, ceqT, ceqF, ↓reduceIte, r99_24, r99_25, r99_28, r99_29, r99_32, r99_33, r99_36, r99_37, r99_40, r99_41, r99_42, r99_43, r99_46, r99_47, r99_48, r99_51, r99_54, r99_57, r99_58, r99_59, r99_60, r99_63, r99_64, r99_65, r99_66, r99_69, r99_72, r99_75, r99_76, r99_77, r99_78, r99_81, r99_84, r99_85, r99_88, r99_89, r99_90, r99_93, r99_94, r99_97, r99_98, r99_101, r99_102, r99_103, r99_106, r99_107, r99_108, zO32_10, zO32_12, n, n', iw', Bool.not_true]
  case false =>
    have hc9 : c = 99 ∨ c = 110 ∨ c = 122 ∨ c = 104 ∨ c = 97 ∨ c = 116 ∨ c = 111 ∨ c = 108 ∨ c = 118 := by
      rcases hc with h | h
      · rw [h] at cw; cases cw
      · exact h
    have es : slS b N c s0 (false, p, F, P) = if kQ b N q = 1 then (false, eQ b N q, (if okN c s0 (vQ b N q) = true then (false, p, F, P) else noS 2 q (false, p, F, P)).2.2) else (true, q, 0, 0) := by
      unfold slS nuS slV
      rw [if_neg (by rw [cw]; decide), if_neg (show ¬ false = true by decide), hq]
    have pr := fun z => @cl_slot_pre xs sl (d + 4 + 1 + 1) J s1 g c i c200 z
    rw [cw] at pr
    by_cases k1 : kQ b N q = 1
    · obtain ⟨v10, v12, v9⟩ := tk1 k1
      have v100 := vQ_num k1
      have iw := @cl_isNumberOf xs sl (d + 4 + 1) J s1 g c s0 (vQ b N q) hc9 v100.1 (fun h => by rw [a45]; exact hs h)
      rw [if_pos k1] at es
      cases ko : okN c s0 (vQ b N q)
      case true =>
        rw [ko] at iw
        rw [ko, if_pos rfl] at es
        rw [es]
        refine ⟨s1, _, run1, pr _ ?_, i9 (by omega) v9, ⟨fun c h h' => by rw [va_up_ne _ _ h']; exact t0 c h, fun j h => by rw [va_up_ne _ _ (by decide)]; exact t1 j (by omega)⟩, fun _ => ⟨by rw [va_up_self, a45], by omega⟩⟩
        simp (disch := first | omega | assumption | exact Or.inl rfl | exact Or.inr rfl | exact bI_or _ | exact zC81 | exact zC47 | exact zC65 | exact zC0 | exact zC1 | exact zC32 | exact zC70 | exact zC73 | exact ztc (by assumption) | exact zdc (by assumption) | exact zpc (by assumption) | decide) only [Option.some.injEq, exists_eq_left', ex2, Option.toList, List.singleton_append, List.append_nil, List.cons_append, List.nil_append, nI_add, nI_addL, nI_Ladd, pk_mul, nI_mulL, nI_Lmul, nI_subL, pk_sub, nI_divL, sub_dm, nI_leE, nI_ltE, nI_eqE, nI_Lle, nI_leL, nI_Llt, nI_ltL, nI_eqL, va_up_self, va_up_ne, up_up, up_comm, nI_clamp, bI_eq0, not_true_eq_false, not_false_eq_true, Nat.reduceEqDiff, Nat.reduceLeDiff, Nat.reduceAdd, Nat.reduceMul, Nat.one_ne_zero, Nat.zero_ne_one, decide_eq_false_iff_not, decide_eq_true_eq, Bool.false_eq_true, decide_true, decide_false, bI_true, bI_false, one_ne, Nat.le_refl, Nat.lt_irrefl, cleT, cleF, cltT, cltF, ceqT, ceqF, ↓reduceIte, r99_24, r99_25, r99_28, r99_29, r99_32, r99_33, r99_36, r99_37, r99_40, r99_41, r99_42, r99_43, r99_46, r99_47, r99_48, r99_51, r99_54, r99_57, r99_58, r99_59, r99_60, r99_63, r99_64, r99_65, r99_66, r99_69, r99_72, r99_75, r99_76, r99_77, r99_78, r99_81, r99_84, r99_85, r99_88, r99_89, r99_90, r99_93, r99_94, r99_97, r99_98, r99_101, r99_102, r99_103, r99_106, r99_107, r99_108, zO32_10, zO32_12, zO32_5, zL45, zS45, v10, v12, iw, hi, Bool.not_false]
      case false =>
        rw [ko] at iw
        rw [ko, if_neg (show ¬ false = true by decide)] at es
        rw [es]
        have nt := @cl_note xs sl (d + 4 + 1) J s1 g 2 (nI q)
        by_cases cF : F = 0
        · subst cF
          have g3' : s1 32 3 = 0 := g3
          rw [if_pos g3'] at nt
          generalize hs2 : va_up s1 32 (va_up (va_up (s1 32) 3 2) 4 (nI q)) = s2 at nt
          have u0 : ∀ c, c ≠ 32 → s2 c = s1 c := fun c h => by rw [← hs2, va_up_ne _ _ h]
          have u1 : ∀ j, j ≠ 3 → j ≠ 4 → s2 32 j = s1 32 j := fun j h h' => by rw [← hs2, va_up_self, va_up_ne _ _ h', va_up_ne _ _ h]
          have v12' : s2 32 12 = nI (vQ b N q) := (u1 12 (by decide) (by decide)).trans v12
          have e45 : s2 45 = s1 45 := u0 45 (by decide)
          obtain ⟨e1, e2⟩ := eQ_gt (b := b) (N := N) (q := q) (by omega)
          refine ⟨s1, va_up s2 45 (va_up (s2 45) i (nI (vQ b N q))), run1, pr _ ?_, ⟨tpC_fr hT1 (by rw [va_up_ne _ _ (by decide)]; exact u1 6 (by decide) (by decide)) (by rw [va_up_ne _ _ (by decide)]; exact u1 7 (by decide) (by decide)) (by rw [va_up_ne _ _ (by decide)]; exact u0 6 (by decide)), e2, ?_, fun _ => ⟨?_, (by decide : (2 : Nat) < 6), fun _ => ⟨?_, e1⟩⟩⟩, ⟨fun c h h' => by rw [va_up_ne _ _ h', u0 c h]; exact t0 c h, fun j h => by rw [va_up_ne _ _ (by decide), u1 j (by omega) (by omega)]; exact t1 j (by omega)⟩, fun _ => ⟨by rw [va_up_self, e45, a45], by omega⟩⟩
          · simp (disch := first | omega | assumption | exact Or.inl rfl | exact Or.inr rfl | exact bI_or _ | exact zC81 | exact zC47 | exact zC65 | exact zC0 | exact zC1 | exact zC32 | exact zC70 | exact zC73 | exact ztc (by assumption) | exact zdc (by assumption) | exact zpc (by assumption) | decide) only [Option.some.injEq, exists_eq_left', ex2, Option.toList, List.singleton_append, List.append_nil, List.cons_append, List.nil_append, nI_add, nI_addL, nI_Ladd, pk_mul, nI_mulL, nI_Lmul, nI_subL, pk_sub, nI_divL, sub_dm, nI_leE, nI_ltE, nI_eqE, nI_Lle, nI_leL, nI_Llt, nI_ltL, nI_eqL, va_up_self, va_up_ne, up_up, up_comm, nI_clamp, bI_eq0, not_true_eq_false, not_false_eq_true, Nat.reduceEqDiff, Nat.reduceLeDiff, Nat.reduceAdd, Nat.reduceMul, Nat.one_ne_zero, Nat.zero_ne_one, decide_eq_false_iff_not, decide_eq_true_eq, Bool.false_eq_true, decide_true, decide_false, bI_true, bI_false, one_ne, Nat.le_refl, Nat.lt_irrefl, cleT, cleF, cltT, cltF, ceqT, ceqF, ↓reduceIte, r99_24, r99_25, r99_28, r99_29, r99_32, r99_33, r99_36, r99_37, r99_40, r99_41, r99_42, r99_43, r99_46, r99_47, r99_48, r99_51, r99_54, r99_57, r99_58, r99_59, r99_60, r99_63, r99_64, r99_65, r99_66, r99_69, r99_72, r99_75, r99_76, r99_77, r99_78, r99_81, r99_84, r99_85, r99_88, r99_89, r99_90, r99_93, r99_94, r99_97, r99_98, r99_101, r99_102, r99_103, r99_106, r99_107, r99_108, zO32_10, zO32_11, zO32_12, zO32_5, zL45, zS45, v10, v12, v12', t11, iw, nt, hi, Bool.not_false]
          · rw [va_up_ne _ _ (by decide)]
            show s2 32 9 = _
            rw [u1 9 (by decide) (by decide)]; exact v9
          · rw [va_up_ne _ _ (by decide), ← hs2]; simp (disch := first | omega | assumption | exact Or.inl rfl | exact Or.inr rfl | exact bI_or _ | exact zC81 | exact zC47 | exact zC65 | exact zC0 | exact zC1 | exact zC32 | exact zC70 | exact zC73 | exact ztc (by assumption) | exact zdc (by assumption) | exact zpc (by assumption) | decide) only [Option.some.injEq, exists_eq_left', ex2, Option.toList, List.singleton_append, List.append_nil, List.cons_append, List.nil_append, nI_add, nI_addL, nI_Ladd, pk_mul, nI_mulL, nI_Lmul, nI_subL, pk_sub, nI_divL, sub_dm, nI_leE, nI_ltE, nI_eqE, nI_Lle, nI_leL, nI_Llt, nI_ltL, nI_eqL, va_up_self, va_up_ne, up_up, up_comm, nI_clamp, bI_eq0, not_true_eq_false, not_false_eq_true, Nat.reduceEqDiff, Nat.reduceLeDiff, Nat.reduceAdd, Nat.reduceMul, Nat.one_ne_zero, Nat.zero_ne_one, decide_eq_false_iff_not, decide_eq_true_eq, Bool.false_eq_true, decide_true, decide_false, bI_true, bI_false, one_ne, Nat.le_refl, Nat.lt_irrefl, cleT, cleF, cltT, cltF, ceqT, ceqF, ↓reduceIte]; rfl
          · rw [va_up_ne _ _ (by decide), ← hs2]; simp (disch := first | omega | assumption | exact Or.inl rfl | exact Or.inr rfl | exact bI_or _ | exact zC81 | exact zC47 | exact zC65 | exact zC0 | exact zC1 | exact zC32 | exact zC70 | exact zC73 | exact ztc (by assumption) | exact zdc (by assumption) | exact zpc (by assumption) | decide) only [Option.some.injEq, exists_eq_left', ex2, Option.toList, List.singleton_append, List.append_nil, List.cons_append, List.nil_append, nI_add, nI_addL, nI_Ladd, pk_mul, nI_mulL, nI_Lmul, nI_subL, pk_sub, nI_divL, sub_dm, nI_leE, nI_ltE, nI_eqE, nI_Lle, nI_leL, nI_Llt, nI_ltL, nI_eqL, va_up_self, va_up_ne, up_up, up_comm, nI_clamp, bI_eq0, not_true_eq_false, not_false_eq_true, Nat.reduceEqDiff, Nat.reduceLeDiff, Nat.reduceAdd, Nat.reduceMul, Nat.one_ne_zero, Nat.zero_ne_one, decide_eq_false_iff_not, decide_eq_true_eq, Bool.false_eq_true, decide_true, decide_false, bI_true, bI_false, one_ne, Nat.le_refl, Nat.lt_irrefl, cleT, cleF, cltT, cltF, ceqT, ceqF, ↓reduceIte]; rfl
        · have g3' : ¬ s1 32 3 = 0 := by
            rw [g3]
            simp (disch := first | omega | assumption | exact Or.inl rfl | exact Or.inr rfl | exact bI_or _ | exact zC81 | exact zC47 | exact zC65 | exact zC0 | exact zC1 | exact zC32 | exact zC70 | exact zC73 | exact ztc (by assumption) | exact zdc (by assumption) | exact zpc (by assumption) | decide) only [Option.some.injEq, exists_eq_left', ex2, Option.toList, List.singleton_append, List.append_nil, List.cons_append, List.nil_append, nI_add, nI_addL, nI_Ladd, pk_mul, nI_mulL, nI_Lmul, nI_subL, pk_sub, nI_divL, sub_dm, nI_leE, nI_ltE, nI_eqE, nI_Lle, nI_leL, nI_Llt, nI_ltL, nI_eqL, va_up_self, va_up_ne, up_up, up_comm, nI_clamp, bI_eq0, not_true_eq_false, not_false_eq_true, Nat.reduceEqDiff, Nat.reduceLeDiff, Nat.reduceAdd, Nat.reduceMul, Nat.one_ne_zero, Nat.zero_ne_one, decide_eq_false_iff_not, decide_eq_true_eq, Bool.false_eq_true, decide_true, decide_false, bI_true, bI_false, one_ne, Nat.le_refl, Nat.lt_irrefl, cleT, cleF, cltT, cltF, ceqT, ceqF, ↓reduceIte, cF]
          rw [if_neg g3'] at nt
          have en : noS 2 q (false, p, F, P) = (false, p, F, P) := if_neg cF
          rw [en]
          refine ⟨s1, _, run1, pr _ ?_, i9 (by omega) v9, ⟨fun c h h' => by rw [va_up_ne _ _ h']; exact t0 c h, fun j h => by rw [va_up_ne _ _ (by decide)]; exact t1 j (by omega)⟩, fun _ => ⟨by rw [va_up_self, a45], by omega⟩⟩
          simp (disch := first | omega | assumption | exact Or.inl rfl | exact Or.inr rfl | exact bI_or _ | exact zC81 | exact zC47 | exact zC65 | exact zC0 | exact zC1 | exact zC32 | exact zC70 | exact zC73 | exact ztc (by assumption) | exact zdc (by assumption) | exact zpc (by assumption) | decide) only [Option.some.injEq, exists_eq_left', ex2, Option.toList, List.singleton_append, List.append_nil, List.cons_append, List.nil_append, nI_add, nI_addL, nI_Ladd, pk_mul, nI_mulL, nI_Lmul, nI_subL, pk_sub, nI_divL, sub_dm, nI_leE, nI_ltE, nI_eqE, nI_Lle, nI_leL, nI_Llt, nI_ltL, nI_eqL, va_up_self, va_up_ne, up_up, up_comm, nI_clamp, bI_eq0, not_true_eq_false, not_false_eq_true, Nat.reduceEqDiff, Nat.reduceLeDiff, Nat.reduceAdd, Nat.reduceMul, Nat.one_ne_zero, Nat.zero_ne_one, decide_eq_false_iff_not, decide_eq_true_eq, Bool.false_eq_true, decide_true, decide_false, bI_true, bI_false, one_ne, Nat.le_refl, Nat.lt_irrefl, cleT, cleF, cltT, cltF, ceqT, ceqF, ↓reduceIte, r99_24, r99_25, r99_28, r99_29, r99_32, r99_33, r99_36, r99_37, r99_40, r99_41, r99_42, r99_43, r99_46, r99_47, r99_48, r99_51, r99_54, r99_57, r99_58, r99_59, r99_60, r99_63, r99_64, r99_65, r99_66, r99_69, r99_72, r99_75, r99_76, r99_77, r99_78, r99_81, r99_84, r99_85, r99_88, r99_89, r99_90, r99_93, r99_94, r99_97, r99_98, r99_101, r99_102, r99_103, r99_106, r99_107, r99_108, zO32_10, zO32_11, zO32_12, zO32_5, zL45, zS45, v10, v12, t11, iw, nt, hi, Bool.not_false]
    · rw [if_neg k1] at es
      rw [es]
      refine ⟨s1, s1, run1, pr _ ?_, cm1, cf1, fun h => by cases h⟩
      have n := no1 k1
      simp (disch := first | omega | assumption | exact Or.inl rfl | exact Or.inr rfl | exact bI_or _ | exact zC81 | exact zC47 | exact zC65 | exact zC0 | exact zC1 | exact zC32 | exact zC70 | exact zC73 | exact ztc (by assumption) | exact zdc (by assumption) | exact zpc (by assumption) | decide) only [Option.some.injEq, exists_eq_left', ex2, Option.toList, List.singleton_append, List.append_nil, List.cons_append, List.nil_append, nI_add, nI_addL, nI_Ladd, pk_mul, nI_mulL, nI_Lmul, nI_subL, pk_sub, nI_divL, sub_dm, nI_leE, nI_ltE, nI_eqE, nI_Lle, nI_leL, nI_Llt, nI_ltL, nI_eqL, va_up_self, va_up_ne, up_up, up_comm, nI_clamp, bI_eq0, not_true_eq_false, not_false_eq_true, Nat.reduceEqDiff, Nat.reduceLeDiff, Nat.reduceAdd, Nat.reduceMul, Nat.one_ne_zero, Nat.zero_ne_one, decide_eq_false_iff_not, decide_eq_true_eq, Bool.false_eq_true, decide_true, decide_false, bI_true, bI_false, one_ne, Nat.le_refl, Nat.lt_irrefl, cleT, cleF, cltT, cltF, ceqT, ceqF, ↓reduceIte, r99_24, r99_25, r99_28, r99_29, r99_32, r99_33, r99_36, r99_37, r99_40, r99_41, r99_42, r99_43, r99_46, r99_47, r99_48, r99_51, r99_54, r99_57, r99_58, r99_59, r99_60, r99_63, r99_64, r99_65, r99_66, r99_69, r99_72, r99_75, r99_76, r99_77, r99_78, r99_81, r99_84, r99_85, r99_88, r99_89, r99_90, r99_93, r99_94, r99_97, r99_98, r99_101, r99_102, r99_103, r99_106, r99_107, r99_108, zO32_10, n, Bool.not_true]
end TXI
