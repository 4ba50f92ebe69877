/-! AGREE in the machine, alike -/
section AGM
variable {xs : Nat → Int32} {sl d : Nat} {J : hJk} {s x y : hS} {g : hG}
theorem rf_bitsOf {k : Nat} (hk : k < 256) {r : Option Value × mH} : Runs xs sl (d) 236 0 [some (.int ( nI k)), none, none] [] (hp J (s) g) r ↔ r = (some (.int ( nI (bc k))), hp J (s) g) := by
  refine Runs.iff ?_
  have h31 : k < 2 ^ 31 := by omega
  have e : bc k = sumN (fun i => k / 2 ^ i % 2) 8 := by
    simp only [sumN, it, bc, Nat.pow_zero, Nat.div_one, Nat.zero_add, Nat.reducePow]
  rw [e]
  simp (disch := first | omega | assumption | exact Or.inl rfl | exact Or.inr rfl | exact bI_or _ | exact zC81 | exact zC47 | exact zC65 | exact zC0 | exact zC1 | exact zC32 | exact zC70 | exact zC73 | exact ztc (by assumption) | exact zdc (by assumption) | exact zpc (by assumption) | decide) only [Option.some.injEq, exists_eq_left', ex2, Option.toList, List.singleton_append, List.append_nil, List.cons_append, List.nil_append, nI_add, nI_addL, nI_Ladd, pk_mul, nI_mulL, nI_Lmul, nI_subL, pk_sub, nI_divL, sub_dm, nI_leE, nI_ltE, nI_eqE, nI_Lle, nI_leL, nI_Llt, nI_ltL, nI_eqL, va_up_self, va_up_ne, up_up, up_comm, nI_clamp, bI_eq0, not_true_eq_false, not_false_eq_true, Nat.reduceEqDiff, Nat.reduceLeDiff, Nat.reduceAdd, Nat.reduceMul, Nat.one_ne_zero, Nat.zero_ne_one, decide_eq_false_iff_not, decide_eq_true_eq, Bool.false_eq_true, decide_true, decide_false, bI_true, bI_false, one_ne, Nat.le_refl, Nat.lt_irrefl, cleT, cleF, cltT, cltF, ceqT, ceqF, ↓reduceIte, r236_0, r236_1, r236_2, r236_3]
  refine dn_loop (P := fun i => Runs xs sl (d) 236 4 [some (.int ( nI k)), some (.int ( nI (sumN (fun i => k / 2 ^ i % 2) i))), some (.int ( nI i))] [] (hp J (s) g) _) 8 ?_ ?_
  · intro i hi hr
    rw [r236_4]
    dsimp only [sumN, it] at hr ⊢
    simp (disch := first | omega | assumption | exact Or.inl rfl | exact Or.inr rfl | exact bI_or _ | exact zC81 | exact zC47 | exact zC65 | exact zC0 | exact zC1 | exact zC32 | exact zC70 | exact zC73 | exact ztc (by assumption) | exact zdc (by assumption) | exact zpc (by assumption) | decide) only [Option.some.injEq, exists_eq_left', ex2, Option.toList, List.singleton_append, List.append_nil, List.cons_append, List.nil_append, nI_add, nI_addL, nI_Ladd, pk_mul, nI_mulL, nI_Lmul, nI_subL, pk_sub, nI_divL, sub_dm, nI_leE, nI_ltE, nI_eqE, nI_Lle, nI_leL, nI_Llt, nI_ltL, nI_eqL, va_up_self, va_up_ne, up_up, up_comm, nI_clamp, bI_eq0, not_true_eq_false, not_false_eq_true, Nat.reduceEqDiff, Nat.reduceLeDiff, Nat.reduceAdd, Nat.reduceMul, Nat.one_ne_zero, Nat.zero_ne_one, decide_eq_false_iff_not, decide_eq_true_eq, Bool.false_eq_true, decide_true, decide_false, bI_true, bI_false, one_ne, Nat.le_refl, Nat.lt_irrefl, cleT, cleF, cltT, cltF, ceqT, ceqF, ↓reduceIte, r236_5, r236_7, r236_10, r236_11, r236_12, r236_13, r236_14, r236_15, r236_16, r236_17, r236_18, r236_21, bit_nI]
    exact hr
  · rw [r236_4]
    simp (disch := first | omega | assumption | exact Or.inl rfl | exact Or.inr rfl | exact bI_or _ | exact zC81 | exact zC47 | exact zC65 | exact zC0 | exact zC1 | exact zC32 | exact zC70 | exact zC73 | exact ztc (by assumption) | exact zdc (by assumption) | exact zpc (by assumption) | decide) only [Option.some.injEq, exists_eq_left', ex2, Option.toList, List.singleton_append, List.append_nil, List.cons_append, List.nil_append, nI_add, nI_addL, nI_Ladd, pk_mul, nI_mulL, nI_Lmul, nI_subL, pk_sub, nI_divL, sub_dm, nI_leE, nI_ltE, nI_eqE, nI_Lle, nI_leL, nI_Llt, nI_ltL, nI_eqL, va_up_self, va_up_ne, up_up, up_comm, nI_clamp, bI_eq0, not_true_eq_false, not_false_eq_true, Nat.reduceEqDiff, Nat.reduceLeDiff, Nat.reduceAdd, Nat.reduceMul, Nat.one_ne_zero, Nat.zero_ne_one, decide_eq_false_iff_not, decide_eq_true_eq, Bool.false_eq_true, decide_true, decide_false, bI_true, bI_false, one_ne, Nat.le_refl, Nat.lt_irrefl, cleT, cleF, cltT, cltF, ceqT, ceqF, ↓reduceIte, r236_5, r236_7, r236_24, r236_25]
theorem sc_isClash_loop {a n h p q : Nat} (hT : cT s a n h) (hpp : p < 16) (hq : q < 16) : ∀ m t, t + m = n → Runs xs sl (d) 139 2 [some (.ref (47)), some (.int ( nI p)), some (.int ( nI q)), some (.int ( nI t))] [] (hp J (s) g) (some (.int (bI (anyB (clB (s 57) p q) m t))), hp J s g) := by
  obtain ⟨ha, h31, h47, hn, hn6, hh, hh8⟩ := hT
  intro m
  induction m with
  | zero =>
    intro t ht
    rw [r139_2, anyB]
    simp (disch := first | omega | assumption | exact Or.inl rfl | exact Or.inr rfl | exact bI_or _ | exact zC81 | exact zC47 | exact zC65 | exact zC0 | exact zC1 | exact zC32 | exact zC70 | exact zC73 | exact ztc (by assumption) | exact zdc (by assumption) | exact zpc (by assumption) | decide) only [Option.some.injEq, exists_eq_left', ex2, Option.toList, List.singleton_append, List.append_nil, List.cons_append, List.nil_append, nI_add, nI_addL, nI_Ladd, pk_mul, nI_mulL, nI_Lmul, nI_subL, pk_sub, nI_divL, sub_dm, nI_leE, nI_ltE, nI_eqE, nI_Lle, nI_leL, nI_Llt, nI_ltL, nI_eqL, va_up_self, va_up_ne, up_up, up_comm, nI_clamp, bI_eq0, not_true_eq_false, not_false_eq_true, Nat.reduceEqDiff, Nat.reduceLeDiff, Nat.reduceAdd, Nat.reduceMul, Nat.one_ne_zero, Nat.zero_ne_one, decide_eq_false_iff_not, decide_eq_true_eq, Bool.false_eq_true, decide_true, decide_false, bI_true, bI_false, one_ne, Nat.le_refl, Nat.lt_irrefl, cleT, cleF, cltT, cltF, ceqT, ceqF, ↓reduceIte, r139_3, r139_4, r139_7, r139_10, r139_47, r139_48, zC47, zO47_0, zW47_0, zO47_1, zW47_1, zO47_2, zO47_3, zO47_4, zW47_4, zO47_5, zO47_6, zO47_7, zO47_8, zO47_9, zO47_10, zO47_11, ztc, zto0, ztw0, zto1, ztw1, zto2, ztw2, zto3, ztw3, zto4, ztw4, zto5, zto6, zto7, zto8, zto9, zto10, zto11, ztl1, zta1, zts1, ztl2, zta2, zts2, ztl3, zta3, zts3, ztl4, zta4, zts4, ztl5, zta5, zts5, ztl6, zta6, zts6, ztl7, zta7, zts7, h47, hn]
  | succ m ih =>
    intro t ht
    have hnx := ih (t + 1) (by omega)
    rw [r139_2, anyB]
    unfold clB at hnx ⊢
    by_cases c : s 57 (6 * p + t) * s 57 (6 * q + t) < 0
    · have c2 := Int32.not_le.mpr c
      rw [decide_eq_true c, Bool.true_or]
      simp (disch := first | omega | assumption | exact Or.inl rfl | exact Or.inr rfl | exact bI_or _ | exact zC81 | exact zC47 | exact zC65 | exact zC0 | exact zC1 | exact zC32 | exact zC70 | exact zC73 | exact ztc (by assumption) | exact zdc (by assumption) | exact zpc (by assumption) | decide) only [Option.some.injEq, exists_eq_left', ex2, Option.toList, List.singleton_append, List.append_nil, List.cons_append, List.nil_append, nI_add, nI_addL, nI_Ladd, pk_mul, nI_mulL, nI_Lmul, nI_subL, pk_sub, nI_divL, sub_dm, nI_leE, nI_ltE, nI_eqE, nI_Lle, nI_leL, nI_Llt, nI_ltL, nI_eqL, va_up_self, va_up_ne, up_up, up_comm, nI_clamp, bI_eq0, not_true_eq_false, not_false_eq_true, Nat.reduceEqDiff, Nat.reduceLeDiff, Nat.reduceAdd, Nat.reduceMul, Nat.one_ne_zero, Nat.zero_ne_one, decide_eq_false_iff_not, decide_eq_true_eq, Bool.false_eq_true, decide_true, decide_false, bI_true, bI_false, one_ne, Nat.le_refl, Nat.lt_irrefl, cleT, cleF, cltT, cltF, ceqT, ceqF, ↓reduceIte, r139_3, r139_4, r139_7, r139_10, r139_13, r139_14, r139_17, r139_18, r139_20, r139_21, r139_22, r139_23, r139_24, r139_25, r139_28, r139_29, r139_31, r139_32, r139_33, r139_34, r139_35, r139_36, r139_39, r139_40, r139_41, r139_44, zC47, zO47_0, zW47_0, zO47_1, zW47_1, zO47_2, zO47_3, zO47_4, zW47_4, zO47_5, zO47_6, zO47_7, zO47_8, zO47_9, zO47_10, zO47_11, zL57, zA57, zS57, ztc, zto0, ztw0, zto1, ztw1, zto2, ztw2, zto3, ztw3, zto4, ztw4, zto5, zto6, zto7, zto8, zto9, zto10, zto11, ztl1, zta1, zts1, ztl2, zta2, zts2, ztl3, zta3, zts3, ztl4, zta4, zts4, ztl5, zta5, zts5, ztl6, zta6, zts6, ztl7, zta7, zts7, h47, hn, c2]
    · have c2 := Int32.not_lt.mp c
      rw [decide_eq_false c, Bool.false_or]
      simp (disch := first | omega | assumption | exact Or.inl rfl | exact Or.inr rfl | exact bI_or _ | exact zC81 | exact zC47 | exact zC65 | exact zC0 | exact zC1 | exact zC32 | exact zC70 | exact zC73 | exact ztc (by assumption) | exact zdc (by assumption) | exact zpc (by assumption) | decide) only [Option.some.injEq, exists_eq_left', ex2, Option.toList, List.singleton_append, List.append_nil, List.cons_append, List.nil_append, nI_add, nI_addL, nI_Ladd, pk_mul, nI_mulL, nI_Lmul, nI_subL, pk_sub, nI_divL, sub_dm, nI_leE, nI_ltE, nI_eqE, nI_Lle, nI_leL, nI_Llt, nI_ltL, nI_eqL, va_up_self, va_up_ne, up_up, up_comm, nI_clamp, bI_eq0, not_true_eq_false, not_false_eq_true, Nat.reduceEqDiff, Nat.reduceLeDiff, Nat.reduceAdd, Nat.reduceMul, Nat.one_ne_zero, Nat.zero_ne_one, decide_eq_false_iff_not, decide_eq_true_eq, Bool.false_eq_true, decide_true, decide_false, bI_true, bI_false, one_ne, Nat.le_refl, Nat.lt_irrefl, cleT, cleF, cltT, cltF, ceqT, ceqF, ↓reduceIte, r139_3, r139_4, r139_7, r139_10, r139_13, r139_14, r139_17, r139_18, r139_20, r139_21, r139_22, r139_23, r139_24, r139_25, r139_28, r139_29, r139_31, r139_32, r139_33, r139_34, r139_35, r139_36, r139_39, r139_40, r139_41, r139_44, zC47, zO47_0, zW47_0, zO47_1, zW47_1, zO47_2, zO47_3, zO47_4, zW47_4, zO47_5, zO47_6, zO47_7, zO47_8, zO47_9, zO47_10, zO47_11, zL57, zA57, zS57, ztc, zto0, ztw0, zto1, ztw1, zto2, ztw2, zto3, ztw3, zto4, ztw4, zto5, zto6, zto7, zto8, zto9, zto10, zto11, ztl1, zta1, zts1, ztl2, zta2, zts2, ztl3, zta3, zts3, ztl4, zta4, zts4, ztl5, zta5, zts5, ztl6, zta6, zts6, ztl7, zta7, zts7, h47, hn, c2]
      exact hnx
theorem sc_isClash {a n h p q : Nat} (hT : cT s a n h) (hpp : p < 16) (hq : q < 16) {r : Option Value × mH} : Runs xs sl (d) 139 0 [some (.ref (47)), some (.int ( nI p)), some (.int ( nI q)), none] [] (hp J (s) g) r ↔ r = (some (.int ( bI (clA (s 57) n p q))), hp J (s) g) := by
  refine Runs.iff ?_
  have w := @sc_isClash_loop xs sl d J s g a n h p q hT hpp hq n 0 (by omega)
  simp (disch := first | omega | assumption | exact Or.inl rfl | exact Or.inr rfl | exact bI_or _ | exact zC81 | exact zC47 | exact zC65 | exact zC0 | exact zC1 | exact zC32 | exact zC70 | exact zC73 | exact ztc (by assumption) | exact zdc (by assumption) | exact zpc (by assumption) | decide) only [Option.some.injEq, exists_eq_left', ex2, Option.toList, List.singleton_append, List.append_nil, List.cons_append, List.nil_append, nI_add, nI_addL, nI_Ladd, pk_mul, nI_mulL, nI_Lmul, nI_subL, pk_sub, nI_divL, sub_dm, nI_leE, nI_ltE, nI_eqE, nI_Lle, nI_leL, nI_Llt, nI_ltL, nI_eqL, va_up_self, va_up_ne, up_up, up_comm, nI_clamp, bI_eq0, not_true_eq_false, not_false_eq_true, Nat.reduceEqDiff, Nat.reduceLeDiff, Nat.reduceAdd, Nat.reduceMul, Nat.one_ne_zero, Nat.zero_ne_one, decide_eq_false_iff_not, decide_eq_true_eq, Bool.false_eq_true, decide_true, decide_false, bI_true, bI_false, one_ne, Nat.le_refl, Nat.lt_irrefl, cleT, cleF, cltT, cltF, ceqT, ceqF, ↓reduceIte, r139_0, r139_1]
  exact w
/-- the foes are found -/
def FO (n L : Nat) (s : hS) : Prop := ∀ l, l < L → s 64 l = nI (foF (s 57) n L l)
theorem sc_findFoes {a n h L : Nat} (hT : cT s a n h) (hL : s 47 1 = nI L) (hL8 : L ≤ 8) : ∃ s' : hS, FO n L s' ∧ (∀ c, c ≠ 64 → s' c = s c) ∧ Runs xs sl (d+1) 138 0 [some (.ref (47)), none, none] [] (hp J (s) g) (none, hp J s' g) := by
  have ha' : a = 7 ∨ a = 19 ∨ a = 33 ∨ a = 48 := hT.1
  refine Exists.elim (up_loop (Q := fun i (s1 : hS) => (∀ l, l < i → s1 64 l = nI (foF (s 57) n L l)) ∧ ∀ c, c ≠ 64 → s1 c = s c) (P := fun i (s1 : hS) (z : Option Value × mH) => ∀ l2, Runs xs sl (d+1) 138 2 [some (.ref (47)), some (.int ( nI i)), l2] [] (hp J (s1) g) z) L ?_ s ⟨fun l hl => absurd hl (by omega), fun c _ => rfl⟩) ?_
  · intro i s1 hi hQ
    obtain ⟨i1, i2⟩ := hQ
    refine Exists.elim (up_loop (Q := fun o (s2 : hS) => (∀ l, l < i → s2 64 l = nI (foF (s 57) n L l)) ∧ (∀ c, c ≠ 64 → s2 c = s c) ∧ s2 64 i = nI (it (fun o b => if clA (s 57) n i o = true then b ||| 2 ^ o else b) o 0)) (P := fun o (s2 : hS) (z : Option Value × mH) => Runs xs sl (d+1) 138 19 [some (.ref (47)), some (.int ( nI i)), some (.int ( nI o))] [] (hp J (s2) g) z) L ?_ (va_up s1 64 (va_up (s1 64) i 0)) ⟨fun l hl => ?_, fun c hc => by rw [va_up_ne _ _ hc]; exact i2 c hc, by rw [va_up_self, va_up_self]; rfl⟩) ?_
    · intro o s2 ho hQ
      obtain ⟨k1, k2, k3⟩ := hQ
      have g1 : s2 47 1 = nI L := by rw [k2 47 (by decide)]; exact hL
      have hT2 : cT s2 a n h := cT_fr hT (by rw [k2 47 (by decide)]) (k2 a (by omega))
      have e57 : s2 57 = s 57 := k2 57 (by decide)
      have i16 : i < 16 := by omega
      have o16 : o < 16 := by omega
      have ic := @sc_isClash xs sl d J s2 g a n h i o hT2 i16 o16
      rw [e57] at ic
      have e : it (fun o b => if clA (s 57) n i o = true then b ||| 2 ^ o else b) (o + 1) 0 = if clA (s 57) n i o = true then it (fun o b => if clA (s 57) n i o = true then b ||| 2 ^ o else b) o 0 ||| 2 ^ o else it (fun o b => if clA (s 57) n i o = true then b ||| 2 ^ o else b) o 0 := rfl
      cases c : clA (s 57) n i o
      · rw [c] at ic
        refine ⟨s2, ⟨k1, k2, ?_⟩, fun z hz => ?_⟩
        · rw [e, if_neg (by rw [c]; decide)]
          exact k3
        · rw [r138_19]
          simp (disch := first | omega | assumption | exact Or.inl rfl | exact Or.inr rfl | exact bI_or _ | exact zC81 | exact zC47 | exact zC65 | exact zC0 | exact zC1 | exact zC32 | exact zC70 | exact zC73 | exact ztc (by assumption) | exact zdc (by assumption) | exact zpc (by assumption) | decide) only [Option.some.injEq, exists_eq_left', ex2, Option.toList, List.singleton_append, List.append_nil, List.cons_append, List.nil_append, nI_add, nI_addL, nI_Ladd, pk_mul, nI_mulL, nI_Lmul, nI_subL, pk_sub, nI_divL, sub_dm, nI_leE, nI_ltE, nI_eqE, nI_Lle, nI_leL, nI_Llt, nI_ltL, nI_eqL, va_up_self, va_up_ne, up_up, up_comm, nI_clamp, bI_eq0, not_true_eq_false, not_false_eq_true, Nat.reduceEqDiff, Nat.reduceLeDiff, Nat.reduceAdd, Nat.reduceMul, Nat.one_ne_zero, Nat.zero_ne_one, decide_eq_false_iff_not, decide_eq_true_eq, Bool.false_eq_true, decide_true, decide_false, bI_true, bI_false, one_ne, Nat.le_refl, Nat.lt_irrefl, cleT, cleF, cltT, cltF, ceqT, ceqF, ↓reduceIte, r138_20, r138_21, r138_24, r138_27, r138_28, r138_29, r138_30, r138_33, r138_36, r138_37, r138_40, r138_41, r138_42, r138_43, r138_44, r138_45, r138_46, r138_47, r138_48, r138_51, zC47, zO47_0, zW47_0, zO47_1, zW47_1, zO47_2, zO47_3, zO47_4, zW47_4, zO47_5, zO47_6, zO47_7, zO47_8, zO47_9, zO47_10, zO47_11, g1, ic]
          exact hz
      · rw [c] at ic
        refine ⟨va_up s2 64 (va_up (s2 64) i (nI (it (fun o b => if clA (s 57) n i o = true then b ||| 2 ^ o else b) o 0 ||| 2 ^ o))), ⟨fun l hl => ?_, fun c hc => ?_, ?_⟩, fun z hz => ?_⟩
        · rw [va_up_self, va_up_ne _ _ (by omega)]
          exact k1 l hl
        · rw [va_up_ne _ _ hc]
          exact k2 c hc
        · rw [va_up_self, va_up_self, e, if_pos c]
        · rw [r138_19]
          simp (disch := first | omega | assumption | exact Or.inl rfl | exact Or.inr rfl | exact bI_or _ | exact zC81 | exact zC47 | exact zC65 | exact zC0 | exact zC1 | exact zC32 | exact zC70 | exact zC73 | exact ztc (by assumption) | exact zdc (by assumption) | exact zpc (by assumption) | decide) only [Option.some.injEq, exists_eq_left', ex2, Option.toList, List.singleton_append, List.append_nil, List.cons_append, List.nil_append, nI_add, nI_addL, nI_Ladd, pk_mul, nI_mulL, nI_Lmul, nI_subL, pk_sub, nI_divL, sub_dm, nI_leE, nI_ltE, nI_eqE, nI_Lle, nI_leL, nI_Llt, nI_ltL, nI_eqL, va_up_self, va_up_ne, up_up, up_comm, nI_clamp, bI_eq0, not_true_eq_false, not_false_eq_true, Nat.reduceEqDiff, Nat.reduceLeDiff, Nat.reduceAdd, Nat.reduceMul, Nat.one_ne_zero, Nat.zero_ne_one, decide_eq_false_iff_not, decide_eq_true_eq, Bool.false_eq_true, decide_true, decide_false, bI_true, bI_false, one_ne, Nat.le_refl, Nat.lt_irrefl, cleT, cleF, cltT, cltF, ceqT, ceqF, ↓reduceIte, r138_20, r138_21, r138_24, r138_27, r138_28, r138_29, r138_30, r138_33, r138_36, r138_37, r138_40, r138_41, r138_42, r138_43, r138_44, r138_45, r138_46, r138_47, r138_48, r138_51, zC47, zO47_0, zW47_0, zO47_1, zW47_1, zO47_2, zO47_3, zO47_4, zW47_4, zO47_5, zO47_6, zO47_7, zO47_8, zO47_9, zO47_10, zO47_11, zL64, zA64, zS64, g1, ic, k3, sh1, or_nI]
          exact hz
    · rw [va_up_self, va_up_ne _ _ (by omega)]
      exact i1 l hl
    · rintro s2 ⟨⟨j1, j2, j3⟩, j5⟩
      refine ⟨s2, ⟨fun l hl => ?_, j2⟩, fun z hz l2 => ?_⟩
      · by_cases k : l = i
        · subst k
          exact j3
        · exact j1 l (by omega)
      · have g1 : s1 47 1 = nI L := by rw [i2 47 (by decide)]; exact hL
        have g2 : s2 47 1 = nI L := by rw [j2 47 (by decide)]; exact hL
        rw [r138_2]
        simp (disch := first | omega | assumption | exact Or.inl rfl | exact Or.inr rfl | exact bI_or _ | exact zC81 | exact zC47 | exact zC65 | exact zC0 | exact zC1 | exact zC32 | exact zC70 | exact zC73 | exact ztc (by assumption) | exact zdc (by assumption) | exact zpc (by assumption) | decide) only [Option.some.injEq, exists_eq_left', ex2, Option.toList, List.singleton_append, List.append_nil, List.cons_append, List.nil_append, nI_add, nI_addL, nI_Ladd, pk_mul, nI_mulL, nI_Lmul, nI_subL, pk_sub, nI_divL, sub_dm, nI_leE, nI_ltE, nI_eqE, nI_Lle, nI_leL, nI_Llt, nI_ltL, nI_eqL, va_up_self, va_up_ne, up_up, up_comm, nI_clamp, bI_eq0, not_true_eq_false, not_false_eq_true, Nat.reduceEqDiff, Nat.reduceLeDiff, Nat.reduceAdd, Nat.reduceMul, Nat.one_ne_zero, Nat.zero_ne_one, decide_eq_false_iff_not, decide_eq_true_eq, Bool.false_eq_true, decide_true, decide_false, bI_true, bI_false, one_ne, Nat.le_refl, Nat.lt_irrefl, cleT, cleF, cltT, cltF, ceqT, ceqF, ↓reduceIte, r138_3, r138_4, r138_7, r138_10, r138_11, r138_14, r138_15, r138_16, r138_17, r138_18, zC47, zO47_0, zW47_0, zO47_1, zW47_1, zO47_2, zO47_3, zO47_4, zW47_4, zO47_5, zO47_6, zO47_7, zO47_8, zO47_9, zO47_10, zO47_11, zL64, zA64, zS64, g1]
        refine j5 z ?_
        rw [r138_19]
        simp (disch := first | omega | assumption | exact Or.inl rfl | exact Or.inr rfl | exact bI_or _ | exact zC81 | exact zC47 | exact zC65 | exact zC0 | exact zC1 | exact zC32 | exact zC70 | exact zC73 | exact ztc (by assumption) | exact zdc (by assumption) | exact zpc (by assumption) | decide) only [Option.some.injEq, exists_eq_left', ex2, Option.toList, List.singleton_append, List.append_nil, List.cons_append, List.nil_append, nI_add, nI_addL, nI_Ladd, pk_mul, nI_mulL, nI_Lmul, nI_subL, pk_sub, nI_divL, sub_dm, nI_leE, nI_ltE, nI_eqE, nI_Lle, nI_leL, nI_Llt, nI_ltL, nI_eqL, va_up_self, va_up_ne, up_up, up_comm, nI_clamp, bI_eq0, not_true_eq_false, not_false_eq_true, Nat.reduceEqDiff, Nat.reduceLeDiff, Nat.reduceAdd, Nat.reduceMul, Nat.one_ne_zero, Nat.zero_ne_one, decide_eq_false_iff_not, decide_eq_true_eq, Bool.false_eq_true, decide_true, decide_false, bI_true, bI_false, one_ne, Nat.le_refl, Nat.lt_irrefl, cleT, cleF, cltT, cltF, ceqT, ceqF, ↓reduceIte, r138_20, r138_21, r138_24, r138_54, r138_54_1, r138_57, zC47, zO47_0, zW47_0, zO47_1, zW47_1, zO47_2, zO47_3, zO47_4, zW47_4, zO47_5, zO47_6, zO47_7, zO47_8, zO47_9, zO47_10, zO47_11, g2]
        exact hz _
  · rintro s1 ⟨⟨q1, q2⟩, q3⟩
    refine ⟨s1, fun l hl => by rw [q2 57 (by decide)]; exact q1 l hl, q2, ?_⟩
    have g1 : s1 47 1 = nI L := by rw [q2 47 (by decide)]; exact hL
    simp (disch := first | omega | assumption | exact Or.inl rfl | exact Or.inr rfl | exact bI_or _ | exact zC81 | exact zC47 | exact zC65 | exact zC0 | exact zC1 | exact zC32 | exact zC70 | exact zC73 | exact ztc (by assumption) | exact zdc (by assumption) | exact zpc (by assumption) | decide) only [Option.some.injEq, exists_eq_left', ex2, Option.toList, List.singleton_append, List.append_nil, List.cons_append, List.nil_append, nI_add, nI_addL, nI_Ladd, pk_mul, nI_mulL, nI_Lmul, nI_subL, pk_sub, nI_divL, sub_dm, nI_leE, nI_ltE, nI_eqE, nI_Lle, nI_leL, nI_Llt, nI_ltL, nI_eqL, va_up_self, va_up_ne, up_up, up_comm, nI_clamp, bI_eq0, not_true_eq_false, not_false_eq_true, Nat.reduceEqDiff, Nat.reduceLeDiff, Nat.reduceAdd, Nat.reduceMul, Nat.one_ne_zero, Nat.zero_ne_one, decide_eq_false_iff_not, decide_eq_true_eq, Bool.false_eq_true, decide_true, decide_false, bI_true, bI_false, one_ne, Nat.le_refl, Nat.lt_irrefl, cleT, cleF, cltT, cltF, ceqT, ceqF, ↓reduceIte, r138_0, r138_1, r138_1_1]
    refine q3 _ ?_ none
    intro l2
    rw [r138_2]
    simp (disch := first | omega | assumption | exact Or.inl rfl | exact Or.inr rfl | exact bI_or _ | exact zC81 | exact zC47 | exact zC65 | exact zC0 | exact zC1 | exact zC32 | exact zC70 | exact zC73 | exact ztc (by assumption) | exact zdc (by assumption) | exact zpc (by assumption) | decide) only [Option.some.injEq, exists_eq_left', ex2, Option.toList, List.singleton_append, List.append_nil, List.cons_append, List.nil_append, nI_add, nI_addL, nI_Ladd, pk_mul, nI_mulL, nI_Lmul, nI_subL, pk_sub, nI_divL, sub_dm, nI_leE, nI_ltE, nI_eqE, nI_Lle, nI_leL, nI_Llt, nI_ltL, nI_eqL, va_up_self, va_up_ne, up_up, up_comm, nI_clamp, bI_eq0, not_true_eq_false, not_false_eq_true, Nat.reduceEqDiff, Nat.reduceLeDiff, Nat.reduceAdd, Nat.reduceMul, Nat.one_ne_zero, Nat.zero_ne_one, decide_eq_false_iff_not, decide_eq_true_eq, Bool.false_eq_true, decide_true, decide_false, bI_true, bI_false, one_ne, Nat.le_refl, Nat.lt_irrefl, cleT, cleF, cltT, cltF, ceqT, ceqF, ↓reduceIte, r138_3, r138_4, r138_7, r138_60, zC47, zO47_0, zW47_0, zO47_1, zW47_1, zO47_2, zO47_3, zO47_4, zW47_4, zO47_5, zO47_6, zO47_7, zO47_8, zO47_9, zO47_10, zO47_11, g1]
theorem sc_peace_loop {n L k : Nat} (hF : FO n L s) (hL : s 47 1 = nI L) (hL8 : L ≤ 8) (hk : k < 2 ^ L) : ∀ m l, l + m = L → Runs xs sl (d) 140 2 [some (.ref (47)), some (.int ( nI k)), some (.int ( nI l))] [] (hp J (s) g) (some (.int (bI (!anyB (fun l => k.testBit l && !decide (foF (s 57) n L l &&& k = 0)) m l))), hp J s g) := by
  have p8 := pw8 hL8
  intro m
  induction m with
  | zero =>
    intro l hl
    rw [r140_2, anyB]
    simp (disch := first | omega | assumption | exact Or.inl rfl | exact Or.inr rfl | exact bI_or _ | exact zC81 | exact zC47 | exact zC65 | exact zC0 | exact zC1 | exact zC32 | exact zC70 | exact zC73 | exact ztc (by assumption) | exact zdc (by assumption) | exact zpc (by assumption) | decide) only [Option.some.injEq, exists_eq_left', ex2, Option.toList, List.singleton_append, List.append_nil, List.cons_append, List.nil_append, nI_add, nI_addL, nI_Ladd, pk_mul, nI_mulL, nI_Lmul, nI_subL, pk_sub, nI_divL, sub_dm, nI_leE, nI_ltE, nI_eqE, nI_Lle, nI_leL, nI_Llt, nI_ltL, nI_eqL, va_up_self, va_up_ne, up_up, up_comm, nI_clamp, bI_eq0, not_true_eq_false, not_false_eq_true, Nat.reduceEqDiff, Nat.reduceLeDiff, Nat.reduceAdd, Nat.reduceMul, Nat.one_ne_zero, Nat.zero_ne_one, decide_eq_false_iff_not, decide_eq_true_eq, Bool.false_eq_true, decide_true, decide_false, bI_true, bI_false, one_ne, Nat.le_refl, Nat.lt_irrefl, cleT, cleF, cltT, cltF, ceqT, ceqF, ↓reduceIte, r140_3, r140_4, r140_7, r140_37, r140_38, zC47, zO47_0, zW47_0, zO47_1, zW47_1, zO47_2, zO47_3, zO47_4, zW47_4, zO47_5, zO47_6, zO47_7, zO47_8, zO47_9, zO47_10, zO47_11, hL, Bool.not_false]
  | succ m ih =>
    intro l hl
    have hnx := ih (l + 1) (by omega)
    have k31 : k < 2 ^ 31 := by omega
    have lt := foF_lt (V := s 57) (n := n) (l := l) L
    have fo := hF l (by omega)
    have al : foF (s 57) n L l &&& k < 2 ^ L := Nat.and_lt_two_pow _ hk
    rw [r140_2, anyB]
    cases c1 : k.testBit l
    · have e1 := tb0 c1
      rw [Bool.false_and, Bool.false_or]
      simp (disch := first | omega | assumption | exact Or.inl rfl | exact Or.inr rfl | exact bI_or _ | exact zC81 | exact zC47 | exact zC65 | exact zC0 | exact zC1 | exact zC32 | exact zC70 | exact zC73 | exact ztc (by assumption) | exact zdc (by assumption) | exact zpc (by assumption) | decide) only [Option.some.injEq, exists_eq_left', ex2, Option.toList, List.singleton_append, List.append_nil, List.cons_append, List.nil_append, nI_add, nI_addL, nI_Ladd, pk_mul, nI_mulL, nI_Lmul, nI_subL, pk_sub, nI_divL, sub_dm, nI_leE, nI_ltE, nI_eqE, nI_Lle, nI_leL, nI_Llt, nI_ltL, nI_eqL, va_up_self, va_up_ne, up_up, up_comm, nI_clamp, bI_eq0, not_true_eq_false, not_false_eq_true, Nat.reduceEqDiff, Nat.reduceLeDiff, Nat.reduceAdd, Nat.reduceMul, Nat.one_ne_zero, Nat.zero_ne_one, decide_eq_false_iff_not, decide_eq_true_eq, Bool.false_eq_true, decide_true, decide_false, bI_true, bI_false, one_ne, Nat.le_refl, Nat.lt_irrefl, cleT, cleF, cltT, cltF, ceqT, ceqF, ↓reduceIte, r140_3, r140_4, r140_7, r140_10, r140_11, r140_12, r140_13, r140_14, r140_15, r140_18, r140_19, r140_22, r140_23, r140_24, r140_25, r140_26, r140_29, r140_30, r140_31, r140_34, zC47, zO47_0, zW47_0, zO47_1, zW47_1, zO47_2, zO47_3, zO47_4, zW47_4, zO47_5, zO47_6, zO47_7, zO47_8, zO47_9, zO47_10, zO47_11, hL, bit_nI, e1]
      exact hnx
    · have e1 := tb1 c1
      rw [Bool.true_and]
      by_cases c2 : foF (s 57) n L l &&& k = 0
      · have c2' := eq_true c2
        rw [decide_eq_true c2, Bool.not_true, Bool.false_or]
        simp (disch := first | omega | assumption | exact Or.inl rfl | exact Or.inr rfl | exact bI_or _ | exact zC81 | exact zC47 | exact zC65 | exact zC0 | exact zC1 | exact zC32 | exact zC70 | exact zC73 | exact ztc (by assumption) | exact zdc (by assumption) | exact zpc (by assumption) | decide) only [Option.some.injEq, exists_eq_left', ex2, Option.toList, List.singleton_append, List.append_nil, List.cons_append, List.nil_append, nI_add, nI_addL, nI_Ladd, pk_mul, nI_mulL, nI_Lmul, nI_subL, pk_sub, nI_divL, sub_dm, nI_leE, nI_ltE, nI_eqE, nI_Lle, nI_leL, nI_Llt, nI_ltL, nI_eqL, va_up_self, va_up_ne, up_up, up_comm, nI_clamp, bI_eq0, not_true_eq_false, not_false_eq_true, Nat.reduceEqDiff, Nat.reduceLeDiff, Nat.reduceAdd, Nat.reduceMul, Nat.one_ne_zero, Nat.zero_ne_one, decide_eq_false_iff_not, decide_eq_true_eq, Bool.false_eq_true, decide_true, decide_false, bI_true, bI_false, one_ne, Nat.le_refl, Nat.lt_irrefl, cleT, cleF, cltT, cltF, ceqT, ceqF, ↓reduceIte, r140_3, r140_4, r140_7, r140_10, r140_11, r140_12, r140_13, r140_14, r140_15, r140_18, r140_19, r140_22, r140_23, r140_24, r140_25, r140_26, r140_29, r140_30, r140_31, r140_34, zC47, zO47_0, zW47_0, zO47_1, zW47_1, zO47_2, zO47_3, zO47_4, zW47_4, zO47_5, zO47_6, zO47_7, zO47_8, zO47_9, zO47_10, zO47_11, zL64, zA64, zS64, hL, bit_nI, e1, fo, and_nI, c2']
        exact hnx
      · rw [decide_eq_false c2, Bool.not_false, Bool.true_or]
        simp (disch := first | omega | assumption | exact Or.inl rfl | exact Or.inr rfl | exact bI_or _ | exact zC81 | exact zC47 | exact zC65 | exact zC0 | exact zC1 | exact zC32 | exact zC70 | exact zC73 | exact ztc (by assumption) | exact zdc (by assumption) | exact zpc (by assumption) | decide) only [Option.some.injEq, exists_eq_left', ex2, Option.toList, List.singleton_append, List.append_nil, List.cons_append, List.nil_append, nI_add, nI_addL, nI_Ladd, pk_mul, nI_mulL, nI_Lmul, nI_subL, pk_sub, nI_divL, sub_dm, nI_leE, nI_ltE, nI_eqE, nI_Lle, nI_leL, nI_Llt, nI_ltL, nI_eqL, va_up_self, va_up_ne, up_up, up_comm, nI_clamp, bI_eq0, not_true_eq_false, not_false_eq_true, Nat.reduceEqDiff, Nat.reduceLeDiff, Nat.reduceAdd, Nat.reduceMul, Nat.one_ne_zero, Nat.zero_ne_one, decide_eq_false_iff_not, decide_eq_true_eq, Bool.false_eq_true, decide_true, decide_false, bI_true, bI_false, one_ne, Nat.le_refl, Nat.lt_irrefl, cleT, cleF, cltT, cltF, ceqT, ceqF, ↓reduceIte, r140_3, r140_4, r140_7, r140_10, r140_11, r140_12, r140_13, r140_14, r140_15, r140_18, r140_19, r140_22, r140_23, r140_24, r140_25, r140_26, r140_29, r140_30, r140_31, r140_34, zC47, zO47_0, zW47_0, zO47_1, zW47_1, zO47_2, zO47_3, zO47_4, zW47_4, zO47_5, zO47_6, zO47_7, zO47_8, zO47_9, zO47_10, zO47_11, zL64, zA64, zS64, hL, bit_nI, e1, fo, and_nI, c2, Bool.not_true]
theorem sc_isPeaceful {n L k : Nat} (hF : FO n L s) (hL : s 47 1 = nI L) (hL8 : L ≤ 8) (hk : k < 2 ^ L) {r : Option Value × mH} : Runs xs sl (d) 140 0 [some (.ref (47)), some (.int ( nI k)), none] [] (hp J (s) g) r ↔ r = (some (.int ( bI (pcF (s 57) n L k))), hp J (s) g) := by
  refine Runs.iff ?_
  have w := @sc_peace_loop xs sl d J s g n L k hF hL hL8 hk L 0 (by omega)
  simp (disch := first | omega | assumption | exact Or.inl rfl | exact Or.inr rfl | exact bI_or _ | exact zC81 | exact zC47 | exact zC65 | exact zC0 | exact zC1 | exact zC32 | exact zC70 | exact zC73 | exact ztc (by assumption) | exact zdc (by assumption) | exact zpc (by assumption) | decide) only [Option.some.injEq, exists_eq_left', ex2, Option.toList, List.singleton_append, List.append_nil, List.cons_append, List.nil_append, nI_add, nI_addL, nI_Ladd, pk_mul, nI_mulL, nI_Lmul, nI_subL, pk_sub, nI_divL, sub_dm, nI_leE, nI_ltE, nI_eqE, nI_Lle, nI_leL, nI_Llt, nI_ltL, nI_eqL, va_up_self, va_up_ne, up_up, up_comm, nI_clamp, bI_eq0, not_true_eq_false, not_false_eq_true, Nat.reduceEqDiff, Nat.reduceLeDiff, Nat.reduceAdd, Nat.reduceMul, Nat.one_ne_zero, Nat.zero_ne_one, decide_eq_false_iff_not, decide_eq_true_eq, Bool.false_eq_true, decide_true, decide_false, bI_true, bI_false, one_ne, Nat.le_refl, Nat.lt_irrefl, cleT, cleF, cltT, cltF, ceqT, ceqF, ↓reduceIte, r140_0, r140_1]
  exact w
def tgF (P : Nat → Bool) (N : Nat) : Nat := it (fun set best => if (decide (bc best < bc set) && P set) = true then set else best) N 0
theorem tgF_lt {P : Nat → Bool} {N : Nat} (hN : 0 < N) : ∀ i, i ≤ N → it (fun set best => if (decide (bc best < bc set) && P set) = true then set else best) i 0 < N := by
  refine it_inv (fun _ b => b < N) hN ?_
  intro i b hi hb
  split
  · exact hi
  · exact hb
theorem sc_together {a n h L : Nat} (hT : cT s a n h) (hL : s 47 1 = nI L) (hL8 : L ≤ 8) : ∃ s' : hS, (∀ c, c ≠ 64 → s' c = s c) ∧ Runs xs sl (d+2) 137 0 [some (.ref (47)), none, none] [] (hp J (s) g) (some (.int (nI (tgF (pcF (s 57) n L) (2 ^ L)))), hp J s' g) := by
  obtain ⟨s1, f1, f2, f3⟩ := @sc_findFoes xs sl d J s g a n h L hT hL hL8
  have g1 : s1 47 1 = nI L := by rw [f2 47 (by decide)]; exact hL
  have e57 : s1 57 = s 57 := f2 57 (by decide)
  have p8 := pw8 hL8
  have p0 : 0 < 2 ^ L := Nat.pow_pos (by decide)
  refine ⟨s1, f2, ?_⟩
  simp (disch := first | omega | assumption | exact Or.inl rfl | exact Or.inr rfl | exact bI_or _ | exact zC81 | exact zC47 | exact zC65 | exact zC0 | exact zC1 | exact zC32 | exact zC70 | exact zC73 | exact ztc (by assumption) | exact zdc (by assumption) | exact zpc (by assumption) | decide) only [Option.some.injEq, exists_eq_left', ex2, Option.toList, List.singleton_append, List.append_nil, List.cons_append, List.nil_append, nI_add, nI_addL, nI_Ladd, pk_mul, nI_mulL, nI_Lmul, nI_subL, pk_sub, nI_divL, sub_dm, nI_leE, nI_ltE, nI_eqE, nI_Lle, nI_leL, nI_Llt, nI_ltL, nI_eqL, va_up_self, va_up_ne, up_up, up_comm, nI_clamp, bI_eq0, not_true_eq_false, not_false_eq_true, Nat.reduceEqDiff, Nat.reduceLeDiff, Nat.reduceAdd, Nat.reduceMul, Nat.one_ne_zero, Nat.zero_ne_one, decide_eq_false_iff_not, decide_eq_true_eq, Bool.false_eq_true, decide_true, decide_false, bI_true, bI_false, one_ne, Nat.le_refl, Nat.lt_irrefl, cleT, cleF, cltT, cltF, ceqT, ceqF, ↓reduceIte, r137_0, r137_1, r137_4, r137_5, r137_5_1, r137_6, r137_7, f3.iff]
  unfold tgF
  generalize hP : pcF (s 57) n L = P
  have B := tgF_lt (P := P) p0
  have e1 : it (fun set best => if (decide (bc best < bc set) && P set) = true then set else best) 1 0 = 0 := by
    rw [it, it]
    rw [if_neg]
    rw [decide_eq_false (by omega), Bool.false_and]
    decide
  have st : Runs xs sl (d+2) 137 8 [some (.ref (47)), some (.int ( nI (it (fun set best => if (decide (bc best < bc set) && P set) = true then set else best) 1 0))), some (.int ( nI (0 + 1)))] [] (hp J (s1) g) (some (.int (nI (it (fun set best => if (decide (bc best < bc set) && P set) = true then set else best) (2 ^ L) 0))), hp J s1 g) := by
    refine dn_loop (P := fun i => Runs xs sl (d+2) 137 8 [some (.ref (47)), some (.int ( nI (it (fun set best => if (decide (bc best < bc set) && P set) = true then set else best) (i + 1) 0))), some (.int ( nI (i + 1)))] [] (hp J (s1) g) _) (2 ^ L - 1) ?_ ?_
    · intro i hi hr
      rw [r137_8]
      have b := B (i + 1) (by omega)
      rw [it] at hr
      generalize it (fun set best => if (decide (bc best < bc set) && P set) = true then set else best) (i + 1) 0 = be at *
      have b1 := @zx_bitCount xs sl (d + 1) (hp J s1 g) (i + 1) (by omega)
      have b2 := @zx_bitCount xs sl (d + 1) (hp J s1 g) (be) (by omega)
      have l1 := @bc_le (i + 1)
      have l2 := @bc_le be
      have pe := @sc_isPeaceful xs sl (d + 1) J s1 g n L (i + 1) f1 g1 hL8 (by omega)
      rw [e57, hP] at pe
      by_cases c1 : bc be < bc (i + 1)
      · cases c2 : P (i + 1)
        · simp only [c1, c2, decide_true, Bool.and_false, Bool.false_eq_true, ↓reduceIte] at hr
          simp (disch := first | omega | assumption | exact Or.inl rfl | exact Or.inr rfl | exact bI_or _ | exact zC81 | exact zC47 | exact zC65 | exact zC0 | exact zC1 | exact zC32 | exact zC70 | exact zC73 | exact ztc (by assumption) | exact zdc (by assumption) | exact zpc (by assumption) | decide) only [Option.some.injEq, exists_eq_left', ex2, Option.toList, List.singleton_append, List.append_nil, List.cons_append, List.nil_append, nI_add, nI_addL, nI_Ladd, pk_mul, nI_mulL, nI_Lmul, nI_subL, pk_sub, nI_divL, sub_dm, nI_leE, nI_ltE, nI_eqE, nI_Lle, nI_leL, nI_Llt, nI_ltL, nI_eqL, va_up_self, va_up_ne, up_up, up_comm, nI_clamp, bI_eq0, not_true_eq_false, not_false_eq_true, Nat.reduceEqDiff, Nat.reduceLeDiff, Nat.reduceAdd, Nat.reduceMul, Nat.one_ne_zero, Nat.zero_ne_one, decide_eq_false_iff_not, decide_eq_true_eq, Bool.false_eq_true, decide_true, decide_false, bI_true, bI_false, one_ne, Nat.le_refl, Nat.lt_irrefl, cleT, cleF, cltT, cltF, ceqT, ceqF, ↓reduceIte, r137_9, r137_10, r137_11, r137_14, r137_15, r137_18, r137_19, r137_22, r137_23, r137_26, r137_29, r137_30, r137_31, r137_34, r137_37, r137_38, r137_38_1, r137_39, r137_42, zC47, zO47_0, zW47_0, zO47_1, zW47_1, zO47_2, zO47_3, zO47_4, zW47_4, zO47_5, zO47_6, zO47_7, zO47_8, zO47_9, zO47_10, zO47_11, g1, sh1, b1, b2, pe, c2]
          exact hr
        · simp only [c1, c2, decide_true, Bool.and_true, ↓reduceIte] at hr
          simp (disch := first | omega | assumption | exact Or.inl rfl | exact Or.inr rfl | exact bI_or _ | exact zC81 | exact zC47 | exact zC65 | exact zC0 | exact zC1 | exact zC32 | exact zC70 | exact zC73 | exact ztc (by assumption) | exact zdc (by assumption) | exact zpc (by assumption) | decide) only [Option.some.injEq, exists_eq_left', ex2, Option.toList, List.singleton_append, List.append_nil, List.cons_append, List.nil_append, nI_add, nI_addL, nI_Ladd, pk_mul, nI_mulL, nI_Lmul, nI_subL, pk_sub, nI_divL, sub_dm, nI_leE, nI_ltE, nI_eqE, nI_Lle, nI_leL, nI_Llt, nI_ltL, nI_eqL, va_up_self, va_up_ne, up_up, up_comm, nI_clamp, bI_eq0, not_true_eq_false, not_false_eq_true, Nat.reduceEqDiff, Nat.reduceLeDiff, Nat.reduceAdd, Nat.reduceMul, Nat.one_ne_zero, Nat.zero_ne_one, decide_eq_false_iff_not, decide_eq_true_eq, Bool.false_eq_true, decide_true, decide_false, bI_true, bI_false, one_ne, Nat.le_refl, Nat.lt_irrefl, cleT, cleF, cltT, cltF, ceqT, ceqF, ↓reduceIte, r137_9, r137_10, r137_11, r137_14, r137_15, r137_18, r137_19, r137_22, r137_23, r137_26, r137_29, r137_30, r137_31, r137_34, r137_37, r137_38, r137_38_1, r137_39, r137_42, zC47, zO47_0, zW47_0, zO47_1, zW47_1, zO47_2, zO47_3, zO47_4, zW47_4, zO47_5, zO47_6, zO47_7, zO47_8, zO47_9, zO47_10, zO47_11, g1, sh1, b1, b2, pe, c2, Bool.true_eq_false]
          exact hr
      · simp only [c1, decide_false, Bool.false_and, Bool.false_eq_true, ↓reduceIte] at hr
        simp (disch := first | omega | assumption | exact Or.inl rfl | exact Or.inr rfl | exact bI_or _ | exact zC81 | exact zC47 | exact zC65 | exact zC0 | exact zC1 | exact zC32 | exact zC70 | exact zC73 | exact ztc (by assumption) | exact zdc (by assumption) | exact zpc (by assumption) | decide) only [Option.some.injEq, exists_eq_left', ex2, Option.toList, List.singleton_append, List.append_nil, List.cons_append, List.nil_append, nI_add, nI_addL, nI_Ladd, pk_mul, nI_mulL, nI_Lmul, nI_subL, pk_sub, nI_divL, sub_dm, nI_leE, nI_ltE, nI_eqE, nI_Lle, nI_leL, nI_Llt, nI_ltL, nI_eqL, va_up_self, va_up_ne, up_up, up_comm, nI_clamp, bI_eq0, not_true_eq_false, not_false_eq_true, Nat.reduceEqDiff, Nat.reduceLeDiff, Nat.reduceAdd, Nat.reduceMul, Nat.one_ne_zero, Nat.zero_ne_one, decide_eq_false_iff_not, decide_eq_true_eq, Bool.false_eq_true, decide_true, decide_false, bI_true, bI_false, one_ne, Nat.le_refl, Nat.lt_irrefl, cleT, cleF, cltT, cltF, ceqT, ceqF, ↓reduceIte, r137_9, r137_10, r137_11, r137_14, r137_15, r137_18, r137_19, r137_22, r137_23, r137_26, r137_29, r137_30, r137_31, r137_34, r137_37, r137_38, r137_38_1, r137_39, r137_42, zC47, zO47_0, zW47_0, zO47_1, zW47_1, zO47_2, zO47_3, zO47_4, zW47_4, zO47_5, zO47_6, zO47_7, zO47_8, zO47_9, zO47_10, zO47_11, g1, sh1, b1, b2]
        exact hr
    · rw [r137_8]
      have e2 : 2 ^ L - 1 + 1 = 2 ^ L := by omega
      rw [e2]
      simp (disch := first | omega | assumption | exact Or.inl rfl | exact Or.inr rfl | exact bI_or _ | exact zC81 | exact zC47 | exact zC65 | exact zC0 | exact zC1 | exact zC32 | exact zC70 | exact zC73 | exact ztc (by assumption) | exact zdc (by assumption) | exact zpc (by assumption) | decide) only [Option.some.injEq, exists_eq_left', ex2, Option.toList, List.singleton_append, List.append_nil, List.cons_append, List.nil_append, nI_add, nI_addL, nI_Ladd, pk_mul, nI_mulL, nI_Lmul, nI_subL, pk_sub, nI_divL, sub_dm, nI_leE, nI_ltE, nI_eqE, nI_Lle, nI_leL, nI_Llt, nI_ltL, nI_eqL, va_up_self, va_up_ne, up_up, up_comm, nI_clamp, bI_eq0, not_true_eq_false, not_false_eq_true, Nat.reduceEqDiff, Nat.reduceLeDiff, Nat.reduceAdd, Nat.reduceMul, Nat.one_ne_zero, Nat.zero_ne_one, decide_eq_false_iff_not, decide_eq_true_eq, Bool.false_eq_true, decide_true, decide_false, bI_true, bI_false, one_ne, Nat.le_refl, Nat.lt_irrefl, cleT, cleF, cltT, cltF, ceqT, ceqF, ↓reduceIte, r137_9, r137_10, r137_11, r137_14, r137_15, r137_45, r137_46, zC47, zO47_0, zW47_0, zO47_1, zW47_1, zO47_2, zO47_3, zO47_4, zW47_4, zO47_5, zO47_6, zO47_7, zO47_8, zO47_9, zO47_10, zO47_11, g1, sh1]
  rw [e1] at st
  exact st
theorem sc_clashes {a n h L : Nat} (hT : cT s a n h) (hL : s 47 1 = nI L) (hL8 : L ≤ 8) : ∃ s' : hS, (∀ c, c ≠ 64 → s' c = s c) ∧ Runs xs sl (d+2) 142 0 [some (.ref (47)), none, none] [] (hp J (s) g) (some (.int (nI (sumN (fun l => bc (foF (s 57) n L l)) L / 2))), hp J s' g) := by
  obtain ⟨s1, f1, f2, f3⟩ := @sc_findFoes xs sl d J s g a n h L hT hL hL8
  have g1 : s1 47 1 = nI L := by rw [f2 47 (by decide)]; exact hL
  have e57 : s1 57 = s 57 := f2 57 (by decide)
  have p8 := pw8 hL8
  refine ⟨s1, f2, ?_⟩
  simp (disch := first | omega | assumption | exact Or.inl rfl | exact Or.inr rfl | exact bI_or _ | exact zC81 | exact zC47 | exact zC65 | exact zC0 | exact zC1 | exact zC32 | exact zC70 | exact zC73 | exact ztc (by assumption) | exact zdc (by assumption) | exact zpc (by assumption) | decide) only [Option.some.injEq, exists_eq_left', ex2, Option.toList, List.singleton_append, List.append_nil, List.cons_append, List.nil_append, nI_add, nI_addL, nI_Ladd, pk_mul, nI_mulL, nI_Lmul, nI_subL, pk_sub, nI_divL, sub_dm, nI_leE, nI_ltE, nI_eqE, nI_Lle, nI_leL, nI_Llt, nI_ltL, nI_eqL, va_up_self, va_up_ne, up_up, up_comm, nI_clamp, bI_eq0, not_true_eq_false, not_false_eq_true, Nat.reduceEqDiff, Nat.reduceLeDiff, Nat.reduceAdd, Nat.reduceMul, Nat.one_ne_zero, Nat.zero_ne_one, decide_eq_false_iff_not, decide_eq_true_eq, Bool.false_eq_true, decide_true, decide_false, bI_true, bI_false, one_ne, Nat.le_refl, Nat.lt_irrefl, cleT, cleF, cltT, cltF, ceqT, ceqF, ↓reduceIte, r142_0, r142_1, r142_4, r142_5, r142_5_1, r142_6, r142_7, f3.iff]
  have bd : ∀ i, sumN (fun l => bc (foF (s 57) n L l)) i ≤ 8 * i := by
    intro i
    induction i with
    | zero => exact Nat.le_refl 0
    | succ i ih =>
      have e : sumN (fun l => bc (foF (s 57) n L l)) (i + 1) = sumN (fun l => bc (foF (s 57) n L l)) i + bc (foF (s 57) n L i) := rfl
      have := @bc_le (foF (s 57) n L i)
      omega
  refine dn_loop (P := fun i => Runs xs sl (d+2) 142 8 [some (.ref (47)), some (.int ( nI (sumN (fun l => bc (foF (s 57) n L l)) i))), some (.int ( nI i))] [] (hp J (s1) g) _) L ?_ ?_
  · intro i hi hr
    rw [r142_8]
    have lt := foF_lt (V := s 57) (n := n) (l := i) L
    have fo := f1 i hi
    rw [e57] at fo
    have b1 := @zx_bitCount xs sl (d + 1) (hp J s1 g) (foF (s 57) n L i) (by omega)
    dsimp only [sumN, it] at hr ⊢
    simp (disch := first | omega | assumption | exact Or.inl rfl | exact Or.inr rfl | exact bI_or _ | exact zC81 | exact zC47 | exact zC65 | exact zC0 | exact zC1 | exact zC32 | exact zC70 | exact zC73 | exact ztc (by assumption) | exact zdc (by assumption) | exact zpc (by assumption) | decide) only [Option.some.injEq, exists_eq_left', ex2, Option.toList, List.singleton_append, List.append_nil, List.cons_append, List.nil_append, nI_add, nI_addL, nI_Ladd, pk_mul, nI_mulL, nI_Lmul, nI_subL, pk_sub, nI_divL, sub_dm, nI_leE, nI_ltE, nI_eqE, nI_Lle, nI_leL, nI_Llt, nI_ltL, nI_eqL, va_up_self, va_up_ne, up_up, up_comm, nI_clamp, bI_eq0, not_true_eq_false, not_false_eq_true, Nat.reduceEqDiff, Nat.reduceLeDiff, Nat.reduceAdd, Nat.reduceMul, Nat.one_ne_zero, Nat.zero_ne_one, decide_eq_false_iff_not, decide_eq_true_eq, Bool.false_eq_true, decide_true, decide_false, bI_true, bI_false, one_ne, Nat.le_refl, Nat.lt_irrefl, cleT, cleF, cltT, cltF, ceqT, ceqF, ↓reduceIte, r142_9, r142_10, r142_13, r142_16, r142_17, r142_18, r142_21, r142_22, r142_23, r142_26, r142_27, r142_27_1, r142_28, r142_31, zC47, zO47_0, zW47_0, zO47_1, zW47_1, zO47_2, zO47_3, zO47_4, zW47_4, zO47_5, zO47_6, zO47_7, zO47_8, zO47_9, zO47_10, zO47_11, zL64, zA64, zS64, g1, fo, b1]
    exact hr
  · rw [r142_8]
    have := bd L
    have z2 : ¬ (2 : Int32) = 0 := by decide
    simp (disch := first | omega | assumption | exact Or.inl rfl | exact Or.inr rfl | exact bI_or _ | exact zC81 | exact zC47 | exact zC65 | exact zC0 | exact zC1 | exact zC32 | exact zC70 | exact zC73 | exact ztc (by assumption) | exact zdc (by assumption) | exact zpc (by assumption) | decide) only [Option.some.injEq, exists_eq_left', ex2, Option.toList, List.singleton_append, List.append_nil, List.cons_append, List.nil_append, nI_add, nI_addL, nI_Ladd, pk_mul, nI_mulL, nI_Lmul, nI_subL, pk_sub, nI_divL, sub_dm, nI_leE, nI_ltE, nI_eqE, nI_Lle, nI_leL, nI_Llt, nI_ltL, nI_eqL, va_up_self, va_up_ne, up_up, up_comm, nI_clamp, bI_eq0, not_true_eq_false, not_false_eq_true, Nat.reduceEqDiff, Nat.reduceLeDiff, Nat.reduceAdd, Nat.reduceMul, Nat.one_ne_zero, Nat.zero_ne_one, decide_eq_false_iff_not, decide_eq_true_eq, Bool.false_eq_true, decide_true, decide_false, bI_true, bI_false, one_ne, Nat.le_refl, Nat.lt_irrefl, cleT, cleF, cltT, cltF, ceqT, ceqF, ↓reduceIte, r142_9, r142_10, r142_13, r142_34, r142_35, r142_36, r142_37, zC47, zO47_0, zW47_0, zO47_1, zW47_1, zO47_2, zO47_3, zO47_4, zW47_4, zO47_5, zO47_6, zO47_7, zO47_8, zO47_9, zO47_10, zO47_11, g1]
theorem sc_strike {a n h L : Nat} (hT : cT s a n h) (hL : s 47 1 = nI L) (hL8 : L ≤ 8) {r : Option Value × mH} : Runs xs sl (d+2) 141 0 [some (.ref (47))] [] (hp J (s) g) r ↔ r = (some (.int ( nI (splF (s 57) L n))), hp J (s) g) := by
  refine Runs.iff ?_
  have q := @sc_splitTopics xs sl d J s g a n h 57 L hT (fun i hi => zA57 (by omega)) (by omega)
  simp (disch := first | omega | assumption | exact Or.inl rfl | exact Or.inr rfl | exact bI_or _ | exact zC81 | exact zC47 | exact zC65 | exact zC0 | exact zC1 | exact zC32 | exact zC70 | exact zC73 | exact ztc (by assumption) | exact zdc (by assumption) | exact zpc (by assumption) | decide) only [Option.some.injEq, exists_eq_left', ex2, Option.toList, List.singleton_append, List.append_nil, List.cons_append, List.nil_append, nI_add, nI_addL, nI_Ladd, pk_mul, nI_mulL, nI_Lmul, nI_subL, pk_sub, nI_divL, sub_dm, nI_leE, nI_ltE, nI_eqE, nI_Lle, nI_leL, nI_Llt, nI_ltL, nI_eqL, va_up_self, va_up_ne, up_up, up_comm, nI_clamp, bI_eq0, not_true_eq_false, not_false_eq_true, Nat.reduceEqDiff, Nat.reduceLeDiff, Nat.reduceAdd, Nat.reduceMul, Nat.one_ne_zero, Nat.zero_ne_one, decide_eq_false_iff_not, decide_eq_true_eq, Bool.false_eq_true, decide_true, decide_false, bI_true, bI_false, one_ne, Nat.le_refl, Nat.lt_irrefl, cleT, cleF, cltT, cltF, ceqT, ceqF, ↓reduceIte, r141_0, r141_1, r141_2, r141_5, r141_6, r141_9, r141_12, zC47, zO47_0, zW47_0, zO47_1, zW47_1, zO47_2, zO47_3, zO47_4, zW47_4, zO47_5, zO47_6, zO47_7, zO47_8, zO47_9, zO47_10, zO47_11, hL, q]
/-- the reference -/
theorem rf_clash {t0 n h p q k : Nat} (hT : rT s t0 n h) (hpp : p < 16) (hq : q < 16) (hk : k < 256) {r : Option Value × mH} : Runs xs sl (d) 252 0 [some (.ref (81)), some (.int ( nI p)), some (.int ( nI q)), some (.int ( nI k)), none, none] [] (hp J (s) g) r ↔ r = (some (.int ( bI (clR (s 88) n k p q))), hp J (s) g) := by
  refine Runs.iff ?_
  obtain ⟨h12, ht0, h13, hn6, h14, hh8⟩ := hT
  have k31 : k < 2 ^ 31 := by omega
  simp (disch := first | omega | assumption | exact Or.inl rfl | exact Or.inr rfl | exact bI_or _ | exact zC81 | exact zC47 | exact zC65 | exact zC0 | exact zC1 | exact zC32 | exact zC70 | exact zC73 | exact ztc (by assumption) | exact zdc (by assumption) | exact zpc (by assumption) | decide) only [Option.some.injEq, exists_eq_left', ex2, Option.toList, List.singleton_append, List.append_nil, List.cons_append, List.nil_append, nI_add, nI_addL, nI_Ladd, pk_mul, nI_mulL, nI_Lmul, nI_subL, pk_sub, nI_divL, sub_dm, nI_leE, nI_ltE, nI_eqE, nI_Lle, nI_leL, nI_Llt, nI_ltL, nI_eqL, va_up_self, va_up_ne, up_up, up_comm, nI_clamp, bI_eq0, not_true_eq_false, not_false_eq_true, Nat.reduceEqDiff, Nat.reduceLeDiff, Nat.reduceAdd, Nat.reduceMul, Nat.one_ne_zero, Nat.zero_ne_one, decide_eq_false_iff_not, decide_eq_true_eq, Bool.false_eq_true, decide_true, decide_false, bI_true, bI_false, one_ne, Nat.le_refl, Nat.lt_irrefl, cleT, cleF, cltT, cltF, ceqT, ceqF, ↓reduceIte, r252_0, r252_1, r252_3, r252_4]
  unfold clR orI
  refine dn_loop (P := fun t => Runs xs sl (d) 252 6 [some (.ref (81)), some (.int ( nI p)), some (.int ( nI q)), some (.int ( nI k)), some (.int ( bI (it (fun t b => b || (!k.testBit t && clB (s 88) p q t)) t false))), some (.int ( nI t))] [] (hp J (s) g) _) n ?_ ?_
  · intro t ht hr
    rw [r252_6]
    dsimp only [it] at hr
    generalize it (fun t b => b || (!k.testBit t && clB (s 88) p q t)) t false = b at hr ⊢
    cases b
    · cases c1 : k.testBit t
      · have e1 := tb0 c1
        unfold clB at hr
        by_cases c : s 88 (6 * p + t) * s 88 (6 * q + t) < 0
        · have c2 := Int32.not_le.mpr c
          simp only [c1, c, decide_true, Bool.not_false, Bool.true_and, Bool.false_or] at hr
          simp (disch := first | omega | assumption | exact Or.inl rfl | exact Or.inr rfl | exact bI_or _ | exact zC81 | exact zC47 | exact zC65 | exact zC0 | exact zC1 | exact zC32 | exact zC70 | exact zC73 | exact ztc (by assumption) | exact zdc (by assumption) | exact zpc (by assumption) | decide) only [Option.some.injEq, exists_eq_left', ex2, Option.toList, List.singleton_append, List.append_nil, List.cons_append, List.nil_append, nI_add, nI_addL, nI_Ladd, pk_mul, nI_mulL, nI_Lmul, nI_subL, pk_sub, nI_divL, sub_dm, nI_leE, nI_ltE, nI_eqE, nI_Lle, nI_leL, nI_Llt, nI_ltL, nI_eqL, va_up_self, va_up_ne, up_up, up_comm, nI_clamp, bI_eq0, not_true_eq_false, not_false_eq_true, Nat.reduceEqDiff, Nat.reduceLeDiff, Nat.reduceAdd, Nat.reduceMul, Nat.one_ne_zero, Nat.zero_ne_one, decide_eq_false_iff_not, decide_eq_true_eq, Bool.false_eq_true, decide_true, decide_false, bI_true, bI_false, one_ne, Nat.le_refl, Nat.lt_irrefl, cleT, cleF, cltT, cltF, ceqT, ceqF, ↓reduceIte, r252_8, r252_9, r252_12, r252_15, r252_17, r252_20, r252_21, r252_23, r252_24, r252_25, r252_26, r252_29, r252_30, r252_33, r252_35, r252_36, r252_37, r252_39, r252_40, r252_41, r252_42, r252_45, r252_47, r252_48, r252_49, r252_51, r252_52, r252_53, r252_54, r252_57, r252_58, r252_61, r252_62, r252_64, r252_67, zO81_13, zO81_18, zL88, zA88, zS88, h13, bit_nI, e1, c2]
          exact hr
        · have c2 := Int32.not_lt.mp c
          simp only [c1, c, decide_false, Bool.not_false, Bool.true_and, Bool.false_or] at hr
          simp (disch := first | omega | assumption | exact Or.inl rfl | exact Or.inr rfl | exact bI_or _ | exact zC81 | exact zC47 | exact zC65 | exact zC0 | exact zC1 | exact zC32 | exact zC70 | exact zC73 | exact ztc (by assumption) | exact zdc (by assumption) | exact zpc (by assumption) | decide) only [Option.some.injEq, exists_eq_left', ex2, Option.toList, List.singleton_append, List.append_nil, List.cons_append, List.nil_append, nI_add, nI_addL, nI_Ladd, pk_mul, nI_mulL, nI_Lmul, nI_subL, pk_sub, nI_divL, sub_dm, nI_leE, nI_ltE, nI_eqE, nI_Lle, nI_leL, nI_Llt, nI_ltL, nI_eqL, va_up_self, va_up_ne, up_up, up_comm, nI_clamp, bI_eq0, not_true_eq_false, not_false_eq_true, Nat.reduceEqDiff, Nat.reduceLeDiff, Nat.reduceAdd, Nat.reduceMul, Nat.one_ne_zero, Nat.zero_ne_one, decide_eq_false_iff_not, decide_eq_true_eq, Bool.false_eq_true, decide_true, decide_false, bI_true, bI_false, one_ne, Nat.le_refl, Nat.lt_irrefl, cleT, cleF, cltT, cltF, ceqT, ceqF, ↓reduceIte, r252_8, r252_9, r252_12, r252_15, r252_17, r252_20, r252_21, r252_23, r252_24, r252_25, r252_26, r252_29, r252_30, r252_33, r252_35, r252_36, r252_37, r252_39, r252_40, r252_41, r252_42, r252_45, r252_47, r252_48, r252_49, r252_51, r252_52, r252_53, r252_54, r252_57, r252_58, r252_61, r252_62, r252_64, r252_67, zO81_13, zO81_18, zL88, zA88, zS88, h13, bit_nI, e1, c2]
          exact hr
      · have e1 := tb1 c1
        simp only [c1, Bool.not_true, Bool.false_and, Bool.false_or] at hr
        simp (disch := first | omega | assumption | exact Or.inl rfl | exact Or.inr rfl | exact bI_or _ | exact zC81 | exact zC47 | exact zC65 | exact zC0 | exact zC1 | exact zC32 | exact zC70 | exact zC73 | exact ztc (by assumption) | exact zdc (by assumption) | exact zpc (by assumption) | decide) only [Option.some.injEq, exists_eq_left', ex2, Option.toList, List.singleton_append, List.append_nil, List.cons_append, List.nil_append, nI_add, nI_addL, nI_Ladd, pk_mul, nI_mulL, nI_Lmul, nI_subL, pk_sub, nI_divL, sub_dm, nI_leE, nI_ltE, nI_eqE, nI_Lle, nI_leL, nI_Llt, nI_ltL, nI_eqL, va_up_self, va_up_ne, up_up, up_comm, nI_clamp, bI_eq0, not_true_eq_false, not_false_eq_true, Nat.reduceEqDiff, Nat.reduceLeDiff, Nat.reduceAdd, Nat.reduceMul, Nat.one_ne_zero, Nat.zero_ne_one, decide_eq_false_iff_not, decide_eq_true_eq, Bool.false_eq_true, decide_true, decide_false, bI_true, bI_false, one_ne, Nat.le_refl, Nat.lt_irrefl, cleT, cleF, cltT, cltF, ceqT, ceqF, ↓reduceIte, r252_8, r252_9, r252_12, r252_15, r252_17, r252_20, r252_21, r252_23, r252_24, r252_25, r252_26, r252_29, r252_30, r252_33, r252_35, r252_36, r252_37, r252_39, r252_40, r252_41, r252_42, r252_45, r252_47, r252_48, r252_49, r252_51, r252_52, r252_53, r252_54, r252_57, r252_58, r252_61, r252_62, r252_64, r252_67, zO81_13, h13, bit_nI, e1]
        exact hr
    · simp only [Bool.true_or] at hr
      simp (disch := first | omega | assumption | exact Or.inl rfl | exact Or.inr rfl | exact bI_or _ | exact zC81 | exact zC47 | exact zC65 | exact zC0 | exact zC1 | exact zC32 | exact zC70 | exact zC73 | exact ztc (by assumption) | exact zdc (by assumption) | exact zpc (by assumption) | decide) only [Option.some.injEq, exists_eq_left', ex2, Option.toList, List.singleton_append, List.append_nil, List.cons_append, List.nil_append, nI_add, nI_addL, nI_Ladd, pk_mul, nI_mulL, nI_Lmul, nI_subL, pk_sub, nI_divL, sub_dm, nI_leE, nI_ltE, nI_eqE, nI_Lle, nI_leL, nI_Llt, nI_ltL, nI_eqL, va_up_self, va_up_ne, up_up, up_comm, nI_clamp, bI_eq0, not_true_eq_false, not_false_eq_true, Nat.reduceEqDiff, Nat.reduceLeDiff, Nat.reduceAdd, Nat.reduceMul, Nat.one_ne_zero, Nat.zero_ne_one, decide_eq_false_iff_not, decide_eq_true_eq, Bool.false_eq_true, decide_true, decide_false, bI_true, bI_false, one_ne, Nat.le_refl, Nat.lt_irrefl, cleT, cleF, cltT, cltF, ceqT, ceqF, ↓reduceIte, r252_8, r252_9, r252_12, r252_15, r252_17, r252_20, r252_21, r252_23, r252_24, r252_25, r252_26, r252_29, r252_30, r252_33, r252_35, r252_36, r252_37, r252_39, r252_40, r252_41, r252_42, r252_45, r252_47, r252_48, r252_49, r252_51, r252_52, r252_53, r252_54, r252_57, r252_58, r252_61, r252_62, r252_64, r252_67, zO81_13, h13, Bool.true_eq_false]
      exact hr
  · rw [r252_6]
    simp (disch := first | omega | assumption | exact Or.inl rfl | exact Or.inr rfl | exact bI_or _ | exact zC81 | exact zC47 | exact zC65 | exact zC0 | exact zC1 | exact zC32 | exact zC70 | exact zC73 | exact ztc (by assumption) | exact zdc (by assumption) | exact zpc (by assumption) | decide) only [Option.some.injEq, exists_eq_left', ex2, Option.toList, List.singleton_append, List.append_nil, List.cons_append, List.nil_append, nI_add, nI_addL, nI_Ladd, pk_mul, nI_mulL, nI_Lmul, nI_subL, pk_sub, nI_divL, sub_dm, nI_leE, nI_ltE, nI_eqE, nI_Lle, nI_leL, nI_Llt, nI_ltL, nI_eqL, va_up_self, va_up_ne, up_up, up_comm, nI_clamp, bI_eq0, not_true_eq_false, not_false_eq_true, Nat.reduceEqDiff, Nat.reduceLeDiff, Nat.reduceAdd, Nat.reduceMul, Nat.one_ne_zero, Nat.zero_ne_one, decide_eq_false_iff_not, decide_eq_true_eq, Bool.false_eq_true, decide_true, decide_false, bI_true, bI_false, one_ne, Nat.le_refl, Nat.lt_irrefl, cleT, cleF, cltT, cltF, ceqT, ceqF, ↓reduceIte, r252_8, r252_9, r252_12, r252_70, r252_72, zO81_13, h13]
theorem and_bit {k p q : Nat} (hk : k < 2 ^ 31) (hp' : p < 32) (hq : q < 32) : nI k >>> (nI p &&& 31) &&& nI k >>> (nI q &&& 31) &&& 1 = nI (if (k.testBit p && k.testBit q) = true then 1 else 0) := by
  rw [shr_nI hk hp', shr_nI hk hq, and_nI, and1_nI]
  congr 1
  have e := Nat.testBit_and (k / 2 ^ p) (k / 2 ^ q) 0
  rw [Nat.testBit_div_two_pow, Nat.testBit_div_two_pow, Nat.zero_add, Nat.zero_add] at e
  rw [Nat.testBit_zero] at e
  rw [← e]
  by_cases c : (k / 2 ^ p &&& k / 2 ^ q) % 2 = 1
  · rw [if_pos (decide_eq_true c), c]
  · rw [if_neg (fun z => c (of_decide_eq_true z))]
    omega
theorem csR_le {V : Nat → Int32} {n L set struck : Nat} : csR V n L set struck ≤ L * L := by
  rw [csR_sum]
  have q1 : ∀ (f : Nat → Nat) (m c : Nat), (∀ i, i < m → f i ≤ c) → sumN f m ≤ m * c := by
    intro f m c
    induction m with
    | zero => exact fun _ => Nat.zero_le _
    | succ m ih =>
      intro h
      have e : sumN f (m + 1) = sumN f m + f m := rfl
      have a := ih (fun i hi => h i (by omega))
      have b := h m (by omega)
      rw [e, Nat.succ_mul]
      omega
  refine q1 _ L L (fun b hb => ?_)
  have r := q1 (fun a => if (set.testBit a && set.testBit b && clR V n struck a b) = true then 1 else 0) b 1 (fun a _ => by split <;> omega)
  omega
theorem rf_clashes {t0 n h L set k : Nat} (hT : rT s t0 n h) (hL : s 81 23 = nI L) (hL8 : L ≤ 8) (hset : set < 2 ^ 31) (hk : k < 256) {r : Option Value × mH} : Runs xs sl (d+1) 251 0 [some (.ref (81)), some (.int ( nI set)), some (.int ( nI k)), none, none, none] [] (hp J (s) g) r ↔ r = (some (.int ( nI (csR (s 88) n L set k))), hp J (s) g) := by
  refine Runs.iff ?_
  simp (disch := first | omega | assumption | exact Or.inl rfl | exact Or.inr rfl | exact bI_or _ | exact zC81 | exact zC47 | exact zC65 | exact zC0 | exact zC1 | exact zC32 | exact zC70 | exact zC73 | exact ztc (by assumption) | exact zdc (by assumption) | exact zpc (by assumption) | decide) only [Option.some.injEq, exists_eq_left', ex2, Option.toList, List.singleton_append, List.append_nil, List.cons_append, List.nil_append, nI_add, nI_addL, nI_Ladd, pk_mul, nI_mulL, nI_Lmul, nI_subL, pk_sub, nI_divL, sub_dm, nI_leE, nI_ltE, nI_eqE, nI_Lle, nI_leL, nI_Llt, nI_ltL, nI_eqL, va_up_self, va_up_ne, up_up, up_comm, nI_clamp, bI_eq0, not_true_eq_false, not_false_eq_true, Nat.reduceEqDiff, Nat.reduceLeDiff, Nat.reduceAdd, Nat.reduceMul, Nat.one_ne_zero, Nat.zero_ne_one, decide_eq_false_iff_not, decide_eq_true_eq, Bool.false_eq_true, decide_true, decide_false, bI_true, bI_false, one_ne, Nat.le_refl, Nat.lt_irrefl, cleT, cleF, cltT, cltF, ceqT, ceqF, ↓reduceIte, r251_0, r251_1, r251_2, r251_3]
  unfold csR
  refine dn_loop (P := fun b => ∀ l5, Runs xs sl (d+1) 251 5 [some (.ref (81)), some (.int ( nI set)), some (.int ( nI k)), some (.int ( nI (it (fun b c => it (fun a c => c + (if (set.testBit a && set.testBit b && clR (s 88) n k a b) = true then 1 else 0)) b c) b 0))), some (.int ( nI b)), l5] [] (hp J (s) g) _) L ?_ ?_ none
  · intro b hb hr l5
    rw [r251_5]
    rw [it] at hr
    generalize it (fun b c => it (fun a c => c + (if (set.testBit a && set.testBit b && clR (s 88) n k a b) = true then 1 else 0)) b c) b 0 = c0 at *
    simp (disch := first | omega | assumption | exact Or.inl rfl | exact Or.inr rfl | exact bI_or _ | exact zC81 | exact zC47 | exact zC65 | exact zC0 | exact zC1 | exact zC32 | exact zC70 | exact zC73 | exact ztc (by assumption) | exact zdc (by assumption) | exact zpc (by assumption) | decide) only [Option.some.injEq, exists_eq_left', ex2, Option.toList, List.singleton_append, List.append_nil, List.cons_append, List.nil_append, nI_add, nI_addL, nI_Ladd, pk_mul, nI_mulL, nI_Lmul, nI_subL, pk_sub, nI_divL, sub_dm, nI_leE, nI_ltE, nI_eqE, nI_Lle, nI_leL, nI_Llt, nI_ltL, nI_eqL, va_up_self, va_up_ne, up_up, up_comm, nI_clamp, bI_eq0, not_true_eq_false, not_false_eq_true, Nat.reduceEqDiff, Nat.reduceLeDiff, Nat.reduceAdd, Nat.reduceMul, Nat.one_ne_zero, Nat.zero_ne_one, decide_eq_false_iff_not, decide_eq_true_eq, Bool.false_eq_true, decide_true, decide_false, bI_true, bI_false, one_ne, Nat.le_refl, Nat.lt_irrefl, cleT, cleF, cltT, cltF, ceqT, ceqF, ↓reduceIte, r251_7, r251_8, r251_11, r251_14, r251_15, zO81_23, hL]
    refine dn_loop (P := fun a => Runs xs sl (d+1) 251 17 [some (.ref (81)), some (.int ( nI set)), some (.int ( nI k)), some (.int ( nI (it (fun a c => c + (if (set.testBit a && set.testBit b && clR (s 88) n k a b) = true then 1 else 0)) a c0))), some (.int ( nI b)), some (.int ( nI a))] [] (hp J (s) g) _) b ?_ ?_
    · intro a ha hr2
      rw [r251_17]
      rw [it] at hr2
      generalize it (fun a c => c + (if (set.testBit a && set.testBit b && clR (s 88) n k a b) = true then 1 else 0)) a c0 = c1 at *
      have ab := and_bit (p := a) (q := b) hset (by omega) (by omega)
      have a16 : a < 16 := by omega
      have b16 : b < 16 := by omega
      by_cases c : (set.testBit a && set.testBit b) = true
      · rw [if_pos c] at ab
        rw [c, Bool.true_and] at hr2
        cases c2 : clR (s 88) n k a b
        · simp only [c2, Bool.false_eq_true, ↓reduceIte, Nat.add_zero] at hr2
          simp (disch := first | omega | assumption | exact zC81) only [r251_19, r251_21, r251_24, r251_25, r251_26, r251_28, r251_29, r251_30, r251_32, r251_33, r251_34, r251_35, r251_36, r251_37, r251_40, r251_41, r251_43, r251_45, r251_46, r251_49, r251_52, r251_53, r251_56, r251_57, r251_58, r251_59, r251_62, nI_leE, cleF, ab, show nI 1 = (1 : Int32) from rfl, rf_clash hT a16 b16 hk, c2, bI_false, Int32.add_zero, nI_1, Option.some.injEq, exists_eq_left', ex2, Option.toList, List.singleton_append, List.append_nil, List.cons_append, List.nil_append, not_true_eq_false, ↓reduceIte]
          exact hr2
        · simp only [c2, ↓reduceIte] at hr2
          simp (disch := first | omega | assumption | exact zC81) only [r251_19, r251_21, r251_24, r251_25, r251_26, r251_28, r251_29, r251_30, r251_32, r251_33, r251_34, r251_35, r251_36, r251_37, r251_40, r251_41, r251_43, r251_45, r251_46, r251_49, r251_52, r251_53, r251_56, r251_57, r251_58, r251_59, r251_62, nI_leE, cleF, ab, show nI 1 = (1 : Int32) from rfl, rf_clash hT a16 b16 hk, c2, bI_true, one_ne, nI_1, Option.some.injEq, exists_eq_left', ex2, Option.toList, List.singleton_append, List.append_nil, List.cons_append, List.nil_append, not_true_eq_false, ↓reduceIte]
          exact hr2
      · rw [if_neg c] at ab
        rw [Bool.not_eq_true] at c
        simp only [c, Bool.false_and, Bool.false_eq_true, ↓reduceIte, Nat.add_zero] at hr2
        have z : ¬ (nI 0 : Int32) = 1 := by decide
        simp (disch := first | omega | assumption | exact zC81) only [r251_19, r251_21, r251_24, r251_25, r251_26, r251_28, r251_29, r251_30, r251_32, r251_33, r251_34, r251_35, r251_36, r251_37, r251_40, r251_41, r251_43, r251_45, r251_46, r251_49, r251_52, r251_53, r251_56, r251_57, r251_58, r251_59, r251_62, nI_leE, cleF, ab, z, Int32.add_zero, nI_1, Option.some.injEq, exists_eq_left', ex2, Option.toList, List.singleton_append, List.append_nil, List.cons_append, List.nil_append, not_false_eq_true, ↓reduceIte]
        exact hr2
    · rw [r251_17]
      simp (disch := first | omega | assumption | exact Or.inl rfl | exact Or.inr rfl | exact bI_or _ | exact zC81 | exact zC47 | exact zC65 | exact zC0 | exact zC1 | exact zC32 | exact zC70 | exact zC73 | exact ztc (by assumption) | exact zdc (by assumption) | exact zpc (by assumption) | decide) only [Option.some.injEq, exists_eq_left', ex2, Option.toList, List.singleton_append, List.append_nil, List.cons_append, List.nil_append, nI_add, nI_addL, nI_Ladd, pk_mul, nI_mulL, nI_Lmul, nI_subL, pk_sub, nI_divL, sub_dm, nI_leE, nI_ltE, nI_eqE, nI_Lle, nI_leL, nI_Llt, nI_ltL, nI_eqL, va_up_self, va_up_ne, up_up, up_comm, nI_clamp, bI_eq0, not_true_eq_false, not_false_eq_true, Nat.reduceEqDiff, Nat.reduceLeDiff, Nat.reduceAdd, Nat.reduceMul, Nat.one_ne_zero, Nat.zero_ne_one, decide_eq_false_iff_not, decide_eq_true_eq, Bool.false_eq_true, decide_true, decide_false, bI_true, bI_false, one_ne, Nat.le_refl, Nat.lt_irrefl, cleT, cleF, cltT, cltF, ceqT, ceqF, ↓reduceIte, r251_19, r251_21, r251_65, r251_68]
      exact hr _
  · intro l5
    rw [r251_5]
    simp (disch := first | omega | assumption | exact Or.inl rfl | exact Or.inr rfl | exact bI_or _ | exact zC81 | exact zC47 | exact zC65 | exact zC0 | exact zC1 | exact zC32 | exact zC70 | exact zC73 | exact ztc (by assumption) | exact zdc (by assumption) | exact zpc (by assumption) | decide) only [Option.some.injEq, exists_eq_left', ex2, Option.toList, List.singleton_append, List.append_nil, List.cons_append, List.nil_append, nI_add, nI_addL, nI_Ladd, pk_mul, nI_mulL, nI_Lmul, nI_subL, pk_sub, nI_divL, sub_dm, nI_leE, nI_ltE, nI_eqE, nI_Lle, nI_leL, nI_Llt, nI_ltL, nI_eqL, va_up_self, va_up_ne, up_up, up_comm, nI_clamp, bI_eq0, not_true_eq_false, not_false_eq_true, Nat.reduceEqDiff, Nat.reduceLeDiff, Nat.reduceAdd, Nat.reduceMul, Nat.one_ne_zero, Nat.zero_ne_one, decide_eq_false_iff_not, decide_eq_true_eq, Bool.false_eq_true, decide_true, decide_false, bI_true, bI_false, one_ne, Nat.le_refl, Nat.lt_irrefl, cleT, cleF, cltT, cltF, ceqT, ceqF, ↓reduceIte, r251_7, r251_8, r251_11, r251_71, r251_72, zO81_23, hL]
end AGM
