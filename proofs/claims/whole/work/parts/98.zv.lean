/-! TEXT: the reference's line of a crumb -/
section TXV
variable {xs : Nat → Int32} {sl d : Nat} {J : hJk} {s x y : hS} {g : hG}
theorem wm_b : ∀ v, v < 22 → (okW 98 v = true → (decide (10 ≤ wm v) && decide (wm v ≤ 14)) = true ∧ wm v = 10 + v) ∧ (okW 98 v = true ↔ (nI (wm v) = 11 ∨ nI (wm v) = 13 ∨ nI (wm v) = 14)) := by decide +kernel
theorem rl_crumb {b : Nat → Nat} {N e F P q cr : Nat} (hM : RM b N (false, e, F, P) s) (hPq : F ≠ 0 → P < q ∨ (P = q ∧ F ≤ 3)) (hqe : q < e) (heN : e ≤ N) (k1 : s 84 2 = nI cr) (k1' : cr ≤ 12) (σ1 : TxS) (h1 : σ1 = (false, e, fpS (decide (12 ≤ cr)) q F P)) : ∃ t : hS, Runs xs sl (d+3+1+1+1+1) 199 0 [some (.ref (81)), some (.int ( nI q)), none, none, none, none, none, none] [] (hp J (s) g) (none, hp J t g) ∧ RM b N (stI b N 11 σ1 4) t ∧ LF s t ∧ (∃ c', t 84 2 = nI c' ∧ c' ≤ 12) ∧ ((stI b N 11 σ1 4).1 = false → (stI b N 11 σ1 4).2.2.1 = 0 → cr < 12 ∧ t 84 = va_up (va_up (va_up (va_up (s 84) 2 (nI (cr + 1))) (3 + 3 * cr) (nI (slV b N σ1))) (3 + 3 * cr + 1) (nI (slV b N (stI b N 11 σ1 1)))) (3 + 3 * cr + 2) (viS (slV b N (stI b N 11 σ1 2)) (slV b N (stI b N 11 σ1 3))) ∧ t 81 10 = (if s 81 10 < nI (slV b N (stI b N 11 σ1 1)) then nI (slV b N (stI b N 11 σ1 1)) else s 81 10)) := by
  have hN6 : N ≤ 600 := hM.1.2.1
  have st : ∃ s1 : hS, RM b N σ1 s1 ∧ RF s s1 ∧ ∀ z, Runs xs sl (d+3+1+1+1+1) 199 27 [some (.ref (81)), some (.int ( nI q)), some (.int ( bI (decide (cr < 12)))), none, none, none, none, none] [] (hp J (s1) g) z → Runs xs sl (d+3+1+1+1+1) 199 0 [some (.ref (81)), some (.int ( nI q)), none, none, none, none, none, none] [] (hp J (s) g) z := by
    by_cases c8 : 12 ≤ cr
    · obtain ⟨s1, q1, q2, q3⟩ := @rf_full xs sl (d + 3 + 1 + 1 + 1) J s g b N e F P q hM hPq hqe (by omega)
      have i1 := fun r => Runs.iff (r := r) q1
      rw [decide_eq_true c8] at h1
      rw [h1]
      refine ⟨s1, q2, q3, fun z hz => ?_⟩
      rw [decide_eq_false (by omega)] at hz
      simp (disch := first | omega | assumption | exact Or.inl rfl | exact Or.inr rfl | exact bI_or _ | exact zC81 | exact zC47 | exact zC65 | exact zC0 | exact zC1 | exact zC32 | exact zC70 | exact zC73 | exact ztc (by assumption) | exact zdc (by assumption) | exact zpc (by assumption) | decide) only [Option.some.injEq, exists_eq_left', ex2, Option.toList, List.singleton_append, List.append_nil, List.cons_append, List.nil_append, nI_add, nI_addL, nI_Ladd, pk_mul, nI_mulL, nI_Lmul, nI_subL, pk_sub, nI_divL, sub_dm, nI_leE, nI_ltE, nI_eqE, nI_Lle, nI_leL, nI_Llt, nI_ltL, nI_eqL, va_up_self, va_up_ne, up_up, up_comm, nI_clamp, bI_eq0, not_true_eq_false, not_false_eq_true, Nat.reduceEqDiff, Nat.reduceLeDiff, Nat.reduceAdd, Nat.reduceMul, Nat.one_ne_zero, Nat.zero_ne_one, decide_eq_false_iff_not, decide_eq_true_eq, Bool.false_eq_true, decide_true, decide_false, bI_true, bI_false, one_ne, Nat.le_refl, Nat.lt_irrefl, cleT, cleF, cltT, cltF, ceqT, ceqF, ↓reduceIte, r199_0, r199_1, r199_4, r199_5, r199_6, r199_8, r199_11, r199_12, r199_15, r199_16, r199_17, r199_18, r199_21, r199_22, r199_23, r199_24, zO81_11, zA84L, k1, c8, i1]
      exact hz
    · rw [decide_eq_false c8] at h1
      have e1 : fpS false q F P = (F, P) := by unfold fpS; rw [if_neg (fun h => by cases h.1)]
      rw [e1] at h1
      rw [h1]
      refine ⟨s, hM, RF_refl s, fun z hz => ?_⟩
      rw [decide_eq_true (by omega)] at hz
      simp (disch := first | omega | assumption | exact Or.inl rfl | exact Or.inr rfl | exact bI_or _ | exact zC81 | exact zC47 | exact zC65 | exact zC0 | exact zC1 | exact zC32 | exact zC70 | exact zC73 | exact ztc (by assumption) | exact zdc (by assumption) | exact zpc (by assumption) | decide) only [Option.some.injEq, exists_eq_left', ex2, Option.toList, List.singleton_append, List.append_nil, List.cons_append, List.nil_append, nI_add, nI_addL, nI_Ladd, pk_mul, nI_mulL, nI_Lmul, nI_subL, pk_sub, nI_divL, sub_dm, nI_leE, nI_ltE, nI_eqE, nI_Lle, nI_leL, nI_Llt, nI_ltL, nI_eqL, va_up_self, va_up_ne, up_up, up_comm, nI_clamp, bI_eq0, not_true_eq_false, not_false_eq_true, Nat.reduceEqDiff, Nat.reduceLeDiff, Nat.reduceAdd, Nat.reduceMul, Nat.one_ne_zero, Nat.zero_ne_one, decide_eq_false_iff_not, decide_eq_true_eq, Bool.false_eq_true, decide_true, decide_false, bI_true, bI_false, one_ne, Nat.le_refl, Nat.lt_irrefl, cleT, cleF, cltT, cltF, ceqT, ceqF, ↓reduceIte, r199_0, r199_1, r199_4, r199_5, r199_6, r199_8, r199_11, r199_12, r199_15, r199_16, r199_17, r199_18, r199_21, r199_22, r199_23, r199_24, zO81_11, zA84L, k1, c8]
      exact hz
  obtain ⟨s1, m1, f1, go1⟩ := st
  have w1 : σ1.1 = false := by rw [h1]
  generalize hmo : bI (decide (cr < 12)) = mo at go1
  have kd : ∃ (k0 : Int32) (k3 : Int32) (t1 : hS), RM b N (stI b N 11 σ1 1) t1 ∧ RF s1 t1 ∧ ((stI b N 11 σ1 1).1 = false → k0 = nI (slV b N σ1)) ∧ ∀ z, Runs xs sl (d+3+1+1+1+1) 199 104 [some (.ref (81)), some (.int ( nI q)), some (.int ( mo)), some (.int ( k3)), some (.int ( k0)), none, none, none] [] (hp J (t1) g) z → Runs xs sl (d+3+1+1+1+1) 199 27 [some (.ref (81)), some (.int ( nI q)), some (.int ( mo)), none, none, none, none, none] [] (hp J (s1) g) z := by
    have e1 : stI b N 11 σ1 1 = woS b N (okW 98 (slV b N σ1)) σ1 := rfl
    obtain ⟨h8, h5, h6, hP, k4, k5, k6, k7, k3⟩ := m1.2.2.2 w1
    have hse : woS b N (okW 98 (slV b N σ1)) σ1 = if kQ b N (rn isBl b N σ1.2.1) = 3 ∧ okW 98 (slV b N σ1) = true then (false, eQ b N (rn isBl b N σ1.2.1), σ1.2.2) else (true, rn isBl b N σ1.2.1, 0, 0) := by
      unfold woS; rw [if_neg (show ¬ σ1.1 = true by rw [w1]; decide)]
    have ends := RM_end w1 m1
    have ee := @rf_ends xs sl (d + 3 + 1 + 1 + 1) J s1 g h8
    have kc := kQ_cases b N (rn isBl b N σ1.2.1)
    by_cases k : kQ b N (rn isBl b N σ1.2.1) = 3
    · have v22 := (vQ_word k).1
      have v7 := k7 k
      obtain ⟨u1, u2⟩ := wm_b (slV b N σ1) v22
      have kk' := eq_true k
      have v7 : s1 81 7 = nI (wm (slV b N σ1)) := v7
      cases ko : okW 98 (slV b N σ1)
      case true =>
        obtain ⟨o1, o2⟩ := u1 ko
        obtain ⟨t1, a1, a2, a3⟩ := @rf_takes xs sl (d + 1) J s1 g b N 10 14 10 14 σ1 m1 rfl rfl (by decide) true (fun _ => o1.symm)
        have a1 := (show d + 1 + 3 + 1 + 1 = d + 3 + 1 + 1 + 1 by omega) ▸ a1
        rw [ko] at e1 hse
        rw [← e1] at a2 a1
        have hwf : (stI b N 11 σ1 1).1 = false := by rw [e1, hse, if_pos ⟨k, rfl⟩]
        rw [if_neg (show ¬ (stI b N 11 σ1 1).1 = true by rw [hwf]; decide)] at a1
        have i1 := fun r => Runs.iff (r := r) a1
        refine ⟨nI (wm (slV b N σ1)) - 10, 1, t1, a2, a3, fun _ => ?_, fun z hz => ?_⟩
        · rw [o2]
          simp (disch := first | omega | assumption | exact Or.inl rfl | exact Or.inr rfl | exact bI_or _ | exact zC81 | exact zC47 | exact zC65 | exact zC0 | exact zC1 | exact zC32 | exact zC70 | exact zC73 | exact ztc (by assumption) | exact zdc (by assumption) | exact zpc (by assumption) | decide) only [Option.some.injEq, exists_eq_left', ex2, Option.toList, List.singleton_append, List.append_nil, List.cons_append, List.nil_append, nI_add, nI_addL, nI_Ladd, pk_mul, nI_mulL, nI_Lmul, nI_subL, pk_sub, nI_divL, sub_dm, nI_leE, nI_ltE, nI_eqE, nI_Lle, nI_leL, nI_Llt, nI_ltL, nI_eqL, va_up_self, va_up_ne, up_up, up_comm, nI_clamp, bI_eq0, not_true_eq_false, not_false_eq_true, Nat.reduceEqDiff, Nat.reduceLeDiff, Nat.reduceAdd, Nat.reduceMul, Nat.one_ne_zero, Nat.zero_ne_one, decide_eq_false_iff_not, decide_eq_true_eq, Bool.false_eq_true, decide_true, decide_false, bI_true, bI_false, one_ne, Nat.le_refl, Nat.lt_irrefl, cleT, cleF, cltT, cltF, ceqT, ceqF, ↓reduceIte]
          exact congrArg nI (by omega)
        · have w := u2.mp ko
          have j1 : ¬ (13 : Int32) = 11 := by decide
          have j2 : ¬ (14 : Int32) = 11 := by decide
          have j3 : ¬ (14 : Int32) = 13 := by decide
          rcases w with w | w | w
          · rw [w] at i1 hz v7
            simp (disch := first | omega | assumption | exact Or.inl rfl | exact Or.inr rfl | exact bI_or _ | exact zC81 | exact zC47 | exact zC65 | exact zC0 | exact zC1 | exact zC32 | exact zC70 | exact zC73 | exact ztc (by assumption) | exact zdc (by assumption) | exact zpc (by assumption) | decide) only [Option.some.injEq, exists_eq_left', ex2, Option.toList, List.singleton_append, List.append_nil, List.cons_append, List.nil_append, nI_add, nI_addL, nI_Ladd, pk_mul, nI_mulL, nI_Lmul, nI_subL, pk_sub, nI_divL, sub_dm, nI_leE, nI_ltE, nI_eqE, nI_Lle, nI_leL, nI_Llt, nI_ltL, nI_eqL, va_up_self, va_up_ne, up_up, up_comm, nI_clamp, bI_eq0, not_true_eq_false, not_false_eq_true, Nat.reduceEqDiff, Nat.reduceLeDiff, Nat.reduceAdd, Nat.reduceMul, Nat.one_ne_zero, Nat.zero_ne_one, decide_eq_false_iff_not, decide_eq_true_eq, Bool.false_eq_true, decide_true, decide_false, bI_true, bI_false, one_ne, Nat.le_refl, Nat.lt_irrefl, cleT, cleF, cltT, cltF, ceqT, ceqF, ↓reduceIte, r199_27, r199_28, r199_31, r199_32, r199_35, r199_36, r199_39, r199_41, r199_44, r199_45, r199_48, r199_50, r199_53, r199_54, r199_57, r199_59, r199_62, r199_63, r199_66, r199_67, r199_68, r199_69, r199_72, r199_75, r199_76, r199_79, r199_80, r199_83, r199_84, r199_87, r199_88, r199_90, r199_92, r199_95, r199_97, r199_98, r199_101, r199_102, zO81_5, zO81_7, zO81_8, h8, k5, kk', v7, i1, j1, j2, j3, one_ne]
            exact hz
          · rw [w] at i1 hz v7
            simp (disch := first | omega | assumption | exact Or.inl rfl | exact Or.inr rfl | exact bI_or _ | exact zC81 | exact zC47 | exact zC65 | exact zC0 | exact zC1 | exact zC32 | exact zC70 | exact zC73 | exact ztc (by assumption) | exact zdc (by assumption) | exact zpc (by assumption) | decide) only [Option.some.injEq, exists_eq_left', ex2, Option.toList, List.singleton_append, List.append_nil, List.cons_append, List.nil_append, nI_add, nI_addL, nI_Ladd, pk_mul, nI_mulL, nI_Lmul, nI_subL, pk_sub, nI_divL, sub_dm, nI_leE, nI_ltE, nI_eqE, nI_Lle, nI_leL, nI_Llt, nI_ltL, nI_eqL, va_up_self, va_up_ne, up_up, up_comm, nI_clamp, bI_eq0, not_true_eq_false, not_false_eq_true, Nat.reduceEqDiff, Nat.reduceLeDiff, Nat.reduceAdd, Nat.reduceMul, Nat.one_ne_zero, Nat.zero_ne_one, decide_eq_false_iff_not, decide_eq_true_eq, Bool.false_eq_true, decide_true, decide_false, bI_true, bI_false, one_ne, Nat.le_refl, Nat.lt_irrefl, cleT, cleF, cltT, cltF, ceqT, ceqF, ↓reduceIte, r199_27, r199_28, r199_31, r199_32, r199_35, r199_36, r199_39, r199_41, r199_44, r199_45, r199_48, r199_50, r199_53, r199_54, r199_57, r199_59, r199_62, r199_63, r199_66, r199_67, r199_68, r199_69, r199_72, r199_75, r199_76, r199_79, r199_80, r199_83, r199_84, r199_87, r199_88, r199_90, r199_92, r199_95, r199_97, r199_98, r199_101, r199_102, zO81_5, zO81_7, zO81_8, h8, k5, kk', v7, i1, j1, j2, j3, one_ne]
            exact hz
          · rw [w] at i1 hz v7
            simp (disch := first | omega | assumption | exact Or.inl rfl | exact Or.inr rfl | exact bI_or _ | exact zC81 | exact zC47 | exact zC65 | exact zC0 | exact zC1 | exact zC32 | exact zC70 | exact zC73 | exact ztc (by assumption) | exact zdc (by assumption) | exact zpc (by assumption) | decide) only [Option.some.injEq, exists_eq_left', ex2, Option.toList, List.singleton_append, List.append_nil, List.cons_append, List.nil_append, nI_add, nI_addL, nI_Ladd, pk_mul, nI_mulL, nI_Lmul, nI_subL, pk_sub, nI_divL, sub_dm, nI_leE, nI_ltE, nI_eqE, nI_Lle, nI_leL, nI_Llt, nI_ltL, nI_eqL, va_up_self, va_up_ne, up_up, up_comm, nI_clamp, bI_eq0, not_true_eq_false, not_false_eq_true, Nat.reduceEqDiff, Nat.reduceLeDiff, Nat.reduceAdd, Nat.reduceMul, Nat.one_ne_zero, Nat.zero_ne_one, decide_eq_false_iff_not, decide_eq_true_eq, Bool.false_eq_true, decide_true, decide_false, bI_true, bI_false, one_ne, Nat.le_refl, Nat.lt_irrefl, cleT, cleF, cltT, cltF, ceqT, ceqF, ↓reduceIte, r199_27, r199_28, r199_31, r199_32, r199_35, r199_36, r199_39, r199_41, r199_44, r199_45, r199_48, r199_50, r199_53, r199_54, r199_57, r199_59, r199_62, r199_63, r199_66, r199_67, r199_68, r199_69, r199_72, r199_75, r199_76, r199_79, r199_80, r199_83, r199_84, r199_87, r199_88, r199_90, r199_92, r199_95, r199_97, r199_98, r199_101, r199_102, zO81_5, zO81_7, zO81_8, h8, k5, kk', v7, i1, j1, j2, j3, one_ne]
            exact hz
      case false =>
        rw [ko] at e1 hse
        rw [if_neg (fun h => by cases h.2)] at hse
        rw [e1, hse]
        have n1 : ¬ nI (wm (slV b N σ1)) = 11 := fun h => by rw [u2.mpr (Or.inl h)] at ko; cases ko
        have n2 : ¬ nI (wm (slV b N σ1)) = 13 := fun h => by rw [u2.mpr (Or.inr (Or.inl h))] at ko; cases ko
        have n3 : ¬ nI (wm (slV b N σ1)) = 14 := fun h => by rw [u2.mpr (Or.inr (Or.inr h))] at ko; cases ko
        generalize nI (wm (slV b N σ1)) = wv at *
        refine ⟨0, 0, _, ends.1, ends.2, fun h => (by cases h), fun z hz => ?_⟩
        simp (disch := first | omega | assumption | exact Or.inl rfl | exact Or.inr rfl | exact bI_or _ | exact zC81 | exact zC47 | exact zC65 | exact zC0 | exact zC1 | exact zC32 | exact zC70 | exact zC73 | exact ztc (by assumption) | exact zdc (by assumption) | exact zpc (by assumption) | decide) only [Option.some.injEq, exists_eq_left', ex2, Option.toList, List.singleton_append, List.append_nil, List.cons_append, List.nil_append, nI_add, nI_addL, nI_Ladd, pk_mul, nI_mulL, nI_Lmul, nI_subL, pk_sub, nI_divL, sub_dm, nI_leE, nI_ltE, nI_eqE, nI_Lle, nI_leL, nI_Llt, nI_ltL, nI_eqL, va_up_self, va_up_ne, up_up, up_comm, nI_clamp, bI_eq0, not_true_eq_false, not_false_eq_true, Nat.reduceEqDiff, Nat.reduceLeDiff, Nat.reduceAdd, Nat.reduceMul, Nat.one_ne_zero, Nat.zero_ne_one, decide_eq_false_iff_not, decide_eq_true_eq, Bool.false_eq_true, decide_true, decide_false, bI_true, bI_false, one_ne, Nat.le_refl, Nat.lt_irrefl, cleT, cleF, cltT, cltF, ceqT, ceqF, ↓reduceIte, r199_27, r199_28, r199_31, r199_32, r199_35, r199_36, r199_39, r199_41, r199_44, r199_45, r199_48, r199_50, r199_53, r199_54, r199_57, r199_59, r199_62, r199_63, r199_66, r199_67, r199_68, r199_69, r199_72, r199_75, r199_76, r199_79, r199_80, r199_83, r199_84, r199_87, r199_88, r199_90, r199_92, r199_95, r199_97, r199_98, r199_101, r199_102, zO81_5, zO81_7, zO81_8, h8, k5, kk', v7, n1, n2, n3, ee]
        exact hz
    · rw [if_neg (fun h => k h.1)] at hse
      rw [e1, hse]
      refine ⟨0, 0, _, ends.1, ends.2, fun h => (by cases h), fun z hz => ?_⟩
      simp (disch := first | omega | assumption | exact Or.inl rfl | exact Or.inr rfl | exact bI_or _ | exact zC81 | exact zC47 | exact zC65 | exact zC0 | exact zC1 | exact zC32 | exact zC70 | exact zC73 | exact ztc (by assumption) | exact zdc (by assumption) | exact zpc (by assumption) | decide) only [Option.some.injEq, exists_eq_left', ex2, Option.toList, List.singleton_append, List.append_nil, List.cons_append, List.nil_append, nI_add, nI_addL, nI_Ladd, pk_mul, nI_mulL, nI_Lmul, nI_subL, pk_sub, nI_divL, sub_dm, nI_leE, nI_ltE, nI_eqE, nI_Lle, nI_leL, nI_Llt, nI_ltL, nI_eqL, va_up_self, va_up_ne, up_up, up_comm, nI_clamp, bI_eq0, not_true_eq_false, not_false_eq_true, Nat.reduceEqDiff, Nat.reduceLeDiff, Nat.reduceAdd, Nat.reduceMul, Nat.one_ne_zero, Nat.zero_ne_one, decide_eq_false_iff_not, decide_eq_true_eq, Bool.false_eq_true, decide_true, decide_false, bI_true, bI_false, one_ne, Nat.le_refl, Nat.lt_irrefl, cleT, cleF, cltT, cltF, ceqT, ceqF, ↓reduceIte, r199_27, r199_28, r199_31, r199_32, r199_35, r199_36, r199_39, r199_41, r199_44, r199_45, r199_48, r199_50, r199_53, r199_54, r199_57, r199_59, r199_62, r199_63, r199_66, r199_67, r199_68, r199_69, r199_72, r199_75, r199_76, r199_79, r199_80, r199_83, r199_84, r199_87, r199_88, r199_90, r199_92, r199_95, r199_97, r199_98, r199_101, r199_102, zO81_5, zO81_8, h8, k5, k, ee]
      exact hz
  obtain ⟨k0, k3, t1, a2, a3, a6, go2⟩ := kd
  obtain ⟨v1, t2, b1, b2, b3, b84, b9, b10, b5, b6⟩ := @rf_topicTold xs sl d J t1 g b N (stI b N 11 σ1 1) a2
  have b2 : RM b N (stI b N 11 σ1 2) t2 := b2
  obtain ⟨x, t3, c1, c2, c3, c6⟩ := @rf_viewTold xs sl d J t2 g b N (stI b N 11 σ1 2) b2 (stI b N 11 σ1 3) rfl
  have c2 : RM b N (stI b N 11 σ1 4) t3 := c2
  obtain ⟨l1, l2, l3, l4⟩ := RF_LF (RF_trans f1 a3)
  obtain ⟨n1, n2, n3, n4⟩ := RF_LF c3
  have L3 := LF_trans (LF_trans l1 b3) n1
  have e84 : t3 84 = s 84 := by rw [n2, b84, l2]
  have e10 : t3 81 10 = (if s 81 10 < nI v1 then nI v1 else s 81 10) := by rw [n4, b10, l4]
  have i2 := fun r => Runs.iff (r := r) b1
  have i3 := fun r => Runs.iff (r := r) c1
  have kk : t3 84 2 = nI cr := by rw [e84]; exact k1
  by_cases c8 : cr < 12
  · rw [decide_eq_true c8] at hmo
    refine ⟨va_up t3 84 (va_up (va_up (va_up (va_up (t3 84) 2 (nI (cr + 1))) (3 + 3 * cr) k0) (3 + 3 * cr + 1) (nI v1)) (3 + 3 * cr + 2) x), go1 _ (go2 _ ?_), RM_84 _ c2, LF_trans L3 (LF_84 _ _), ⟨cr + 1, by simp (disch := first | omega | assumption | exact Or.inl rfl | exact Or.inr rfl | exact bI_or _ | exact zC81 | exact zC47 | exact zC65 | exact zC0 | exact zC1 | exact zC32 | exact zC70 | exact zC73 | exact ztc (by assumption) | exact zdc (by assumption) | exact zpc (by assumption) | decide) only [Option.some.injEq, exists_eq_left', ex2, Option.toList, List.singleton_append, List.append_nil, List.cons_append, List.nil_append, nI_add, nI_addL, nI_Ladd, pk_mul, nI_mulL, nI_Lmul, nI_subL, pk_sub, nI_divL, sub_dm, nI_leE, nI_ltE, nI_eqE, nI_Lle, nI_leL, nI_Llt, nI_ltL, nI_eqL, va_up_self, va_up_ne, up_up, up_comm, nI_clamp, bI_eq0, not_true_eq_false, not_false_eq_true, Nat.reduceEqDiff, Nat.reduceLeDiff, Nat.reduceAdd, Nat.reduceMul, Nat.one_ne_zero, Nat.zero_ne_one, decide_eq_false_iff_not, decide_eq_true_eq, Bool.false_eq_true, decide_true, decide_false, bI_true, bI_false, one_ne, Nat.le_refl, Nat.lt_irrefl, cleT, cleF, cltT, cltF, ceqT, ceqF, ↓reduceIte], by omega⟩, fun hw hF => ?_⟩
    · rw [← hmo]
      simp (disch := first | omega | assumption | exact Or.inl rfl | exact Or.inr rfl | exact bI_or _ | exact zC81 | exact zC47 | exact zC65 | exact zC0 | exact zC1 | exact zC32 | exact zC70 | exact zC73 | exact ztc (by assumption) | exact zdc (by assumption) | exact zpc (by assumption) | decide) only [Option.some.injEq, exists_eq_left', ex2, Option.toList, List.singleton_append, List.append_nil, List.cons_append, List.nil_append, nI_add, nI_addL, nI_Ladd, pk_mul, nI_mulL, nI_Lmul, nI_subL, pk_sub, nI_divL, sub_dm, nI_leE, nI_ltE, nI_eqE, nI_Lle, nI_leL, nI_Llt, nI_ltL, nI_eqL, va_up_self, va_up_ne, up_up, up_comm, nI_clamp, bI_eq0, not_true_eq_false, not_false_eq_true, Nat.reduceEqDiff, Nat.reduceLeDiff, Nat.reduceAdd, Nat.reduceMul, Nat.one_ne_zero, Nat.zero_ne_one, decide_eq_false_iff_not, decide_eq_true_eq, Bool.false_eq_true, decide_true, decide_false, bI_true, bI_false, one_ne, Nat.le_refl, Nat.lt_irrefl, cleT, cleF, cltT, cltF, ceqT, ceqF, ↓reduceIte, r199_104, r199_105, r199_108, r199_110, r199_111, r199_114, r199_116, r199_117, r199_120, r199_121, r199_122, r199_123, r199_124, r199_127, r199_128, r199_129, r199_130, r199_131, r199_133, r199_134, r199_137, r199_139, r199_141, r199_142, r199_143, r199_146, r199_148, r199_149, r199_150, r199_152, r199_153, r199_154, r199_157, r199_159, r199_160, r199_161, r199_163, r199_164, r199_165, r199_168, r199_169, r199_170, r199_171, r199_172, r199_173, r199_174, i2, i3, zO81_11, zA84L, zA84, zS84, zS84L, kk, one_ne]
    · obtain ⟨w4, F4, o4⟩ := slS_ok (c := 118) hw hF
      obtain ⟨w3, F3, o3⟩ := slS_ok (c := 119) w4 F4
      obtain ⟨w2, F2, o2⟩ := slS_ok (c := 116) w3 F3
      have o4 : slV b N (stI b N 11 σ1 3) ≤ 3 := of_decide_eq_true o4
      have o2 : slV b N (stI b N 11 σ1 1) < 6 := of_decide_eq_true o2
      have y1 := b6 w3 o2
      rw [va_up_self, va_up_ne _ _ (by decide), e84, a6 w2, c6 hw o4, ← y1]
      exact ⟨c8, rfl, e10⟩
  · rw [decide_eq_false c8] at hmo
    refine ⟨t3, go1 _ (go2 _ ?_), c2, L3, ⟨cr, kk, k1'⟩, fun hw hF => ?_⟩
    · rw [← hmo]
      simp (disch := first | omega | assumption | exact Or.inl rfl | exact Or.inr rfl | exact bI_or _ | exact zC81 | exact zC47 | exact zC65 | exact zC0 | exact zC1 | exact zC32 | exact zC70 | exact zC73 | exact ztc (by assumption) | exact zdc (by assumption) | exact zpc (by assumption) | decide) only [Option.some.injEq, exists_eq_left', ex2, Option.toList, List.singleton_append, List.append_nil, List.cons_append, List.nil_append, nI_add, nI_addL, nI_Ladd, pk_mul, nI_mulL, nI_Lmul, nI_subL, pk_sub, nI_divL, sub_dm, nI_leE, nI_ltE, nI_eqE, nI_Lle, nI_leL, nI_Llt, nI_ltL, nI_eqL, va_up_self, va_up_ne, up_up, up_comm, nI_clamp, bI_eq0, not_true_eq_false, not_false_eq_true, Nat.reduceEqDiff, Nat.reduceLeDiff, Nat.reduceAdd, Nat.reduceMul, Nat.one_ne_zero, Nat.zero_ne_one, decide_eq_false_iff_not, decide_eq_true_eq, Bool.false_eq_true, decide_true, decide_false, bI_true, bI_false, one_ne, Nat.le_refl, Nat.lt_irrefl, cleT, cleF, cltT, cltF, ceqT, ceqF, ↓reduceIte, r199_104, r199_105, r199_108, r199_110, r199_111, r199_114, r199_116, r199_117, r199_120, r199_121, r199_122, r199_123, r199_124, r199_127, r199_128, r199_129, r199_130, r199_131, r199_133, r199_134, r199_137, r199_139, r199_141, r199_142, r199_143, r199_146, r199_148, r199_149, r199_150, r199_152, r199_153, r199_154, r199_157, r199_159, r199_160, r199_161, r199_163, r199_164, r199_165, r199_168, r199_169, r199_170, r199_171, r199_172, r199_173, r199_174, i2, i3]
    · obtain ⟨w4, F4, o4⟩ := slS_ok (c := 118) hw hF
      obtain ⟨w3, F3, o3⟩ := slS_ok (c := 119) w4 F4
      obtain ⟨w2, F2, o2⟩ := slS_ok (c := 116) w3 F3
      obtain ⟨w1, F1, o1⟩ := slS_ok (c := 98) w2 F2
      rw [h1] at F1
      have := (fpS_0 F1).1
      rw [decide_eq_false_iff_not] at this
      omega
end TXV
