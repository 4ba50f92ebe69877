/-! FITS: what the reference reads off its rows -/
section RW4
variable {xs : Nat → Int32} {sl d : Nat} {J : hJk} {s x y : hS} {g : hG}
def GK3 (g g' : hG) : Prop := ∀ c, c ≠ 100 → c ≠ 101 → c ≠ 102 → g' c = g c
theorem v_inj : ∀ i, i < 7 → ∀ j, j < 7 → decide (nI i - 3 = nI j - 3) = decide (i = j) := by decide +kernel
theorem t_inj : ∀ i, i < 6 → ∀ j, j < 6 → decide (nI i = nI j) = decide (i = j) := by decide +kernel
theorem t_no : ∀ i, i < 6 → decide (nI i = -1) = false := by decide +kernel
theorem rf_row {c0 n li c top v0 : Nat} {kd tp : Nat → Nat} {vv : Nat → Int32} (hP : rP s c0 n li c kd tp vv) (ht : top < n) (hv : v0 < 7) : ∃ g1 : hG, Runs xs sl (d + 3) 269 0 [some (.ref 81), some (.int (nI top)), some (.int (nI v0 - 3)), none, none, none, none] [] (hp J s g) (some (.long (lN (FV (msF kd tp vv c) n li top v0))), hp J s g1) ∧ GK g g1 := by
  have n6 : n ≤ 6 := hP.2.2.2.2.1
  have q := @rf_rowsOf xs sl d J s g c0 n li c kd tp vv (nI top) (nI v0 - 3) (oK top v0) hP (fun t v h1 h2 => by rw [oK, v_inj v h2 v0 hv, t_inj t (by omega) top (by omega)])
  rw [rw_onl hv] at q
  exact q
theorem rf_rowAll {c0 n li c : Nat} {kd tp : Nat → Nat} {vv : Nat → Int32} (hP : rP s c0 n li c kd tp vv) : ∃ g1 : hG, Runs xs sl (d + 3) 269 0 [some (.ref 81), some (.int (-1)), some (.int 0), none, none, none, none] [] (hp J s g) (some (.long (lN (TOT (msF kd tp vv c) n li))), hp J s g1) ∧ GK g g1 := by
  have n6 : n ≤ 6 := hP.2.2.2.2.1
  have q := @rf_rowsOf xs sl d J s g c0 n li c kd tp vv (-1) 0 (fun _ _ => false) hP (fun t v h1 h2 => by rw [t_no t (by omega)]; rfl)
  rw [rw_all] at q
  exact q
theorem FV_le {m : Nat → Nat → Nat} {n li t v : Nat} (hn : n ≤ 6) (ht : t < n) (hv : v < 7) : FV m n li t v ≤ 117649 := by
  have h := FV_sum (m := m) (li := li) ht
  have h2 := TOT_le (m := m) (li := li) hn
  have h3 : sumN (FV m n li t) (v + 1) ≤ sumN (FV m n li t) 7 := sumN_up 7 (by omega)
  have e : sumN (FV m n li t) (v + 1) = sumN (FV m n li t) v + FV m n li t v := rfl
  omega
theorem rf_greatest {c0 n li c k t : Nat} {kd tp : Nat → Nat} {vv : Nat → Int32} (hP : rP s c0 n li c kd tp vv) (ht : t < n) (hk : k = 1 ∨ k = 3 ∨ k = 4) : ∃ g1 : hG, Runs xs sl (d + 4) 271 0 [some (.ref 81), some (.int (nI k)), some (.int (nI t)), none, none, none] [] (hp J s g) (some (.long (lN (mx7 (gsum (FV (msF kd tp vv c) n li t) k 7)))), hp J s g1) ∧ GK3 g g1 := by
  have n6 : n ≤ 6 := hP.2.2.2.2.1
  have rr := fun (g : hG) (v : Nat) (hv : v < 7) => @rf_row xs sl d J s g c0 n li c t v kd tp vv hP ht hv
  have fb : sumN (FV (msF kd tp vv c) n li t) 7 ≤ 117649 := by rw [FV_sum ht]; exact TOT_le n6
  generalize FV (msF kd tp vv c) n li t = f at *
  obtain ⟨g1, ⟨q1, q2⟩, q3⟩ := up_loop (Q := fun i (g1 : hG) => (∀ c, c ≠ 102 → g1 c = g c) ∧ ∀ k, k < i → g1 102 k = lN 0) (P := fun i (g1 : hG) (z : Option Value × mH) => Runs xs sl (d + 4) 271 5 [some (.ref 81), some (.int (nI k)), some (.int (nI t)), some (.long (lN 0)), none, some (.int (nI i))] [] (hp J s g1) z) 7 (by
    intro i g1 hi hQ
    refine ⟨va_up g1 102 (va_up (g1 102) i (lN 0)), ⟨fun c h1 => by rw [va_up_ne _ _ h1]; exact hQ.1 c h1, fun k hk => ?_⟩, fun z hz => ?_⟩
    · rw [va_up_self]
      by_cases c : k = i
      · subst c
        rw [va_up_self]
      · rw [va_up_ne _ _ c]
        exact hQ.2 k (by omega)
    · rw [r271_5]
      simp (disch := first | omega | assumption | exact Or.inl rfl | exact Or.inr rfl | exact bI_or _ | exact zC81 | exact zC47 | exact zC65 | exact zC0 | exact zC1 | exact zC32 | exact zC70 | exact zC73 | exact ztc (by assumption) | exact zdc (by assumption) | exact zpc (by assumption) | decide) only [Option.some.injEq, exists_eq_left', ex2, Option.toList, List.singleton_append, List.append_nil, List.cons_append, List.nil_append, nI_add, nI_addL, nI_Ladd, pk_mul, nI_mulL, nI_Lmul, nI_subL, pk_sub, nI_divL, sub_dm, nI_leE, nI_ltE, nI_eqE, nI_Lle, nI_leL, nI_Llt, nI_ltL, nI_eqL, va_up_self, va_up_ne, up_up, up_comm, nI_clamp, bI_eq0, not_true_eq_false, not_false_eq_true, Nat.reduceEqDiff, Nat.reduceLeDiff, Nat.reduceAdd, Nat.reduceMul, Nat.one_ne_zero, Nat.zero_ne_one, decide_eq_false_iff_not, decide_eq_true_eq, Bool.false_eq_true, decide_true, decide_false, bI_true, bI_false, one_ne, Nat.le_refl, Nat.lt_irrefl, cleT, cleF, cltT, cltF, ceqT, ceqF, ↓reduceIte, r271_7, r271_9, r271_12, r271_13, r271_16, r271_18, r271_19, r271_20, r271_23, zO81_40, zK102]
      exact hz) g ⟨fun _ _ => rfl, fun k h => absurd h (by omega)⟩
  obtain ⟨g2, ⟨u1, u2⟩, u3⟩ := up_loop (Q := fun v (g2 : hG) => GK3 g g2 ∧ ∀ j, j < 7 → g2 102 j = lN (gsum f k v j)) (P := fun v (g2 : hG) (z : Option Value × mH) => Runs xs sl (d + 4) 271 30 [some (.ref 81), some (.int (nI k)), some (.int (nI t)), some (.long (lN 0)), none, some (.int (nI v - 3))] [] (hp J s g2) z) 7 (by
    intro v g2 hv hQ
    obtain ⟨u1, u2⟩ := hQ
    obtain ⟨e1, e2⟩ := gx7 k (by omega) v hv
    have w1 := v_lt3 v (by omega)
    have w2 := v_inc v (by omega)
    obtain ⟨g3, r1, r2⟩ := rr g2 v hv
    have ta := @rf_tasted xs sl (d + 2) J s g2 k (nI v - 3) hk
    have es : ∀ j, gsum f k (v + 1) j = gsum f k v j + (if gx k v = j then f v else 0) := fun _ => rfl
    have old := u2 (gx k v) e2
    refine ⟨va_up g3 102 (va_up (g3 102) (gx k v) (lN (gsum f k v (gx k v) + f v))), ⟨fun c h1 h2 h3 => by rw [va_up_ne _ _ h3, r2 c h1 h2]; exact u1 c h1 h2 h3, fun j hj => ?_⟩, fun z hz => ?_⟩
    · rw [va_up_self]
      by_cases c : j = gx k v
      · subst c
        rw [va_up_self, es, if_pos rfl]
      · rw [va_up_ne _ _ c, r2 102 (by decide) (by decide), u2 j hj, es, if_neg (fun z => c z.symm)]
        rfl
    · rw [r271_30]
      generalize gx k v = j0 at *
      simp (disch := first | omega | assumption | exact Or.inl rfl | exact Or.inr rfl | exact bI_or _ | exact zC81 | exact zC47 | exact zC65 | exact zC0 | exact zC1 | exact zC32 | exact zC70 | exact zC73 | exact ztc (by assumption) | exact zdc (by assumption) | exact zpc (by assumption) | decide) only [Option.some.injEq, exists_eq_left', ex2, Option.toList, List.singleton_append, List.append_nil, List.cons_append, List.nil_append, nI_add, nI_addL, nI_Ladd, pk_mul, nI_mulL, nI_Lmul, nI_subL, pk_sub, nI_divL, sub_dm, nI_leE, nI_ltE, nI_eqE, nI_Lle, nI_leL, nI_Llt, nI_ltL, nI_eqL, va_up_self, va_up_ne, up_up, up_comm, nI_clamp, bI_eq0, not_true_eq_false, not_false_eq_true, Nat.reduceEqDiff, Nat.reduceLeDiff, Nat.reduceAdd, Nat.reduceMul, Nat.one_ne_zero, Nat.zero_ne_one, decide_eq_false_iff_not, decide_eq_true_eq, Bool.false_eq_true, decide_true, decide_false, bI_true, bI_false, one_ne, Nat.le_refl, Nat.lt_irrefl, cleT, cleF, cltT, cltF, ceqT, ceqF, ↓reduceIte, r271_32, r271_33, r271_36, r271_37, r271_40, r271_41, r271_43, r271_46, r271_47, r271_48, r271_49, r271_50, r271_51, r271_52, r271_54, r271_57, r271_58, r271_59, r271_62, zO81_40, w1, w2, ta, e1, zJ102, zK102, old, r1.iff, lN_add]
      exact hz) g1 ⟨fun c h1 h2 h3 => q1 c h3, fun j hj => q2 j hj⟩
  refine ⟨g2, ?_, u1⟩
  have GB : ∀ j, gsum f k 7 j ≤ 117649 := fun j => Nat.le_trans (gsum_le 7) fb
  generalize gsum f k 7 = G at *
  simp (disch := first | omega | assumption | exact Or.inl rfl | exact Or.inr rfl | exact bI_or _ | exact zC81 | exact zC47 | exact zC65 | exact zC0 | exact zC1 | exact zC32 | exact zC70 | exact zC73 | exact ztc (by assumption) | exact zdc (by assumption) | exact zpc (by assumption) | decide) only [Option.some.injEq, exists_eq_left', ex2, Option.toList, List.singleton_append, List.append_nil, List.cons_append, List.nil_append, nI_add, nI_addL, nI_Ladd, pk_mul, nI_mulL, nI_Lmul, nI_subL, pk_sub, nI_divL, sub_dm, nI_leE, nI_ltE, nI_eqE, nI_Lle, nI_leL, nI_Llt, nI_ltL, nI_eqL, va_up_self, va_up_ne, up_up, up_comm, nI_clamp, bI_eq0, not_true_eq_false, not_false_eq_true, Nat.reduceEqDiff, Nat.reduceLeDiff, Nat.reduceAdd, Nat.reduceMul, Nat.one_ne_zero, Nat.zero_ne_one, decide_eq_false_iff_not, decide_eq_true_eq, Bool.false_eq_true, decide_true, decide_false, bI_true, bI_false, one_ne, Nat.le_refl, Nat.lt_irrefl, cleT, cleF, cltT, cltF, ceqT, ceqF, ↓reduceIte, r271_0, r271_1, r271_2, r271_3]
  refine q3 _ ?_
  rw [r271_5]
  simp (disch := first | omega | assumption | exact Or.inl rfl | exact Or.inr rfl | exact bI_or _ | exact zC81 | exact zC47 | exact zC65 | exact zC0 | exact zC1 | exact zC32 | exact zC70 | exact zC73 | exact ztc (by assumption) | exact zdc (by assumption) | exact zpc (by assumption) | decide) only [Option.some.injEq, exists_eq_left', ex2, Option.toList, List.singleton_append, List.append_nil, List.cons_append, List.nil_append, nI_add, nI_addL, nI_Ladd, pk_mul, nI_mulL, nI_Lmul, nI_subL, pk_sub, nI_divL, sub_dm, nI_leE, nI_ltE, nI_eqE, nI_Lle, nI_leL, nI_Llt, nI_ltL, nI_eqL, va_up_self, va_up_ne, up_up, up_comm, nI_clamp, bI_eq0, not_true_eq_false, not_false_eq_true, Nat.reduceEqDiff, Nat.reduceLeDiff, Nat.reduceAdd, Nat.reduceMul, Nat.one_ne_zero, Nat.zero_ne_one, decide_eq_false_iff_not, decide_eq_true_eq, Bool.false_eq_true, decide_true, decide_false, bI_true, bI_false, one_ne, Nat.le_refl, Nat.lt_irrefl, cleT, cleF, cltT, cltF, ceqT, ceqF, ↓reduceIte, r271_7, r271_9, r271_26, r271_28]
  refine u3 _ ?_
  rw [r271_30]
  have w1 := v_lt3 7 (by omega)
  simp (disch := first | omega | assumption | exact Or.inl rfl | exact Or.inr rfl | exact bI_or _ | exact zC81 | exact zC47 | exact zC65 | exact zC0 | exact zC1 | exact zC32 | exact zC70 | exact zC73 | exact ztc (by assumption) | exact zdc (by assumption) | exact zpc (by assumption) | decide) only [Option.some.injEq, exists_eq_left', ex2, Option.toList, List.singleton_append, List.append_nil, List.cons_append, List.nil_append, nI_add, nI_addL, nI_Ladd, pk_mul, nI_mulL, nI_Lmul, nI_subL, pk_sub, nI_divL, sub_dm, nI_leE, nI_ltE, nI_eqE, nI_Lle, nI_leL, nI_Llt, nI_ltL, nI_eqL, va_up_self, va_up_ne, up_up, up_comm, nI_clamp, bI_eq0, not_true_eq_false, not_false_eq_true, Nat.reduceEqDiff, Nat.reduceLeDiff, Nat.reduceAdd, Nat.reduceMul, Nat.one_ne_zero, Nat.zero_ne_one, decide_eq_false_iff_not, decide_eq_true_eq, Bool.false_eq_true, decide_true, decide_false, bI_true, bI_false, one_ne, Nat.le_refl, Nat.lt_irrefl, cleT, cleF, cltT, cltF, ceqT, ceqF, ↓reduceIte, r271_32, r271_33, r271_65, r271_66, w1]
  have MB : ∀ i, it (fun j b => if b < G j then G j else b) i 0 ≤ 117649 := by
    intro i
    induction i with
    | zero => exact Nat.zero_le _
    | succ i ih =>
      have e : it (fun j b => if b < G j then G j else b) (i + 1) 0 = if it (fun j b => if b < G j then G j else b) i 0 < G i then G i else it (fun j b => if b < G j then G j else b) i 0 := rfl
      rw [e]
      have := GB i
      split <;> omega
  unfold mx7
  refine dn_loop (P := fun i => Runs xs sl (d + 4) 271 68 [some (.ref 81), some (.int (nI k)), some (.int (nI t)), some (.long (lN (it (fun j b => if b < G j then G j else b) i 0))), none, some (.int (nI i))] [] (hp J s g2) _) 7 ?_ ?_
  · intro i hi hr
    have e : it (fun j b => if b < G j then G j else b) (i + 1) 0 = if it (fun j b => if b < G j then G j else b) i 0 < G i then G i else it (fun j b => if b < G j then G j else b) i 0 := rfl
    rw [e] at hr
    have mb := MB i
    have gb := GB i
    have ug := u2 i hi
    rw [r271_68]
    generalize it (fun j b => if b < G j then G j else b) i 0 = b at *
    by_cases cc : b < G i
    · rw [if_pos cc] at hr
      have c3 : ¬ lg_cmp (lN (G i)) (lN b) ≤ 0 := fun z => by
        have := (lN_le (by omega) (by omega)).mp ((lg_cmp_le _ _).mp z)
        omega
      simp (disch := first | omega | assumption | exact Or.inl rfl | exact Or.inr rfl | exact bI_or _ | exact zC81 | exact zC47 | exact zC65 | exact zC0 | exact zC1 | exact zC32 | exact zC70 | exact zC73 | exact ztc (by assumption) | exact zdc (by assumption) | exact zpc (by assumption) | decide) only [Option.some.injEq, exists_eq_left', ex2, Option.toList, List.singleton_append, List.append_nil, List.cons_append, List.nil_append, nI_add, nI_addL, nI_Ladd, pk_mul, nI_mulL, nI_Lmul, nI_subL, pk_sub, nI_divL, sub_dm, nI_leE, nI_ltE, nI_eqE, nI_Lle, nI_leL, nI_Llt, nI_ltL, nI_eqL, va_up_self, va_up_ne, up_up, up_comm, nI_clamp, bI_eq0, not_true_eq_false, not_false_eq_true, Nat.reduceEqDiff, Nat.reduceLeDiff, Nat.reduceAdd, Nat.reduceMul, Nat.one_ne_zero, Nat.zero_ne_one, decide_eq_false_iff_not, decide_eq_true_eq, Bool.false_eq_true, decide_true, decide_false, bI_true, bI_false, one_ne, Nat.le_refl, Nat.lt_irrefl, cleT, cleF, cltT, cltF, ceqT, ceqF, ↓reduceIte, r271_70, r271_72, r271_75, r271_76, r271_79, r271_81, r271_82, r271_83, r271_84, r271_87, r271_88, r271_91, r271_93, r271_94, r271_97, r271_98, r271_99, r271_102, zO81_40, zJ102, ug, c3]
      exact hr
    · rw [if_neg cc] at hr
      have c3 : lg_cmp (lN (G i)) (lN b) ≤ 0 := (lg_cmp_le _ _).mpr ((lN_le (by omega) (by omega)).mpr (by omega))
      have c3' := eq_true c3
      simp (disch := first | omega | assumption | exact Or.inl rfl | exact Or.inr rfl | exact bI_or _ | exact zC81 | exact zC47 | exact zC65 | exact zC0 | exact zC1 | exact zC32 | exact zC70 | exact zC73 | exact ztc (by assumption) | exact zdc (by assumption) | exact zpc (by assumption) | decide) only [Option.some.injEq, exists_eq_left', ex2, Option.toList, List.singleton_append, List.append_nil, List.cons_append, List.nil_append, nI_add, nI_addL, nI_Ladd, pk_mul, nI_mulL, nI_Lmul, nI_subL, pk_sub, nI_divL, sub_dm, nI_leE, nI_ltE, nI_eqE, nI_Lle, nI_leL, nI_Llt, nI_ltL, nI_eqL, va_up_self, va_up_ne, up_up, up_comm, nI_clamp, bI_eq0, not_true_eq_false, not_false_eq_true, Nat.reduceEqDiff, Nat.reduceLeDiff, Nat.reduceAdd, Nat.reduceMul, Nat.one_ne_zero, Nat.zero_ne_one, decide_eq_false_iff_not, decide_eq_true_eq, Bool.false_eq_true, decide_true, decide_false, bI_true, bI_false, one_ne, Nat.le_refl, Nat.lt_irrefl, cleT, cleF, cltT, cltF, ceqT, ceqF, ↓reduceIte, r271_70, r271_72, r271_75, r271_76, r271_79, r271_81, r271_82, r271_83, r271_84, r271_87, r271_88, r271_91, r271_93, r271_94, r271_97, r271_98, r271_99, r271_102, zO81_40, zJ102, ug, c3']
      exact hr
  · rw [r271_68]
    simp (disch := first | omega | assumption | exact Or.inl rfl | exact Or.inr rfl | exact bI_or _ | exact zC81 | exact zC47 | exact zC65 | exact zC0 | exact zC1 | exact zC32 | exact zC70 | exact zC73 | exact ztc (by assumption) | exact zdc (by assumption) | exact zpc (by assumption) | decide) only [Option.some.injEq, exists_eq_left', ex2, Option.toList, List.singleton_append, List.append_nil, List.cons_append, List.nil_append, nI_add, nI_addL, nI_Ladd, pk_mul, nI_mulL, nI_Lmul, nI_subL, pk_sub, nI_divL, sub_dm, nI_leE, nI_ltE, nI_eqE, nI_Lle, nI_leL, nI_Llt, nI_ltL, nI_eqL, va_up_self, va_up_ne, up_up, up_comm, nI_clamp, bI_eq0, not_true_eq_false, not_false_eq_true, Nat.reduceEqDiff, Nat.reduceLeDiff, Nat.reduceAdd, Nat.reduceMul, Nat.one_ne_zero, Nat.zero_ne_one, decide_eq_false_iff_not, decide_eq_true_eq, Bool.false_eq_true, decide_true, decide_false, bI_true, bI_false, one_ne, Nat.le_refl, Nat.lt_irrefl, cleT, cleF, cltT, cltF, ceqT, ceqF, ↓reduceIte, r271_70, r271_72, r271_105, r271_106]
end RW4
