/-! SHARES: the reference's tables, and both alike -/
section SH2
variable {xs : Nat → Int32} {sl d : Nat} {J : hJk} {s x y : hS} {g : hG}
def wR (s : hS) (t0 n L t u p : Nat) : Int32 := sg (eaF n (fun l t => s 88 (6 * l + t)) (s 82 (t0 + 13 + u)) p L (fun t => s 82 (t0 + 29 + 6 * u + t)) t) * s 82 (t0 + 5 + u)
set_option maxHeartbeats 1000000 in
theorem rf_given {t0 n h L t : Nat} (hT : rT s t0 n h) (hL : s 81 23 = nI L) (hL8 : L ≤ 8) (ht : t < n) : ∃ s' : hS, Runs xs sl (d+3) 234 4 [some (.ref (81)), some (.int ( nI t)), none, none, none, none, none] [] (hp J (s) g) (none, hp J s' g) ∧ (∀ c, c < 92 ∨ 95 < c → s' c = s c) ∧ ∀ v, v < 2 ^ L → s' 93 v = Gj (wR s t0 n L t) h v := by
  have p8 := pw8 hL8
  have hh8 := hT.2.2.2.2.2
  generalize hs0 : va_up s 93 (va_cpy (fun v => if v = 0 then 0 else -1000) (s 93) 0 0 256) = s0
  have a0 : ∀ c, c < 92 ∨ 95 < c → s0 c = s c := fun c hc => by rw [← hs0, va_up_ne _ _ (by omega)]
  have a93 : ∀ v, v < 2 ^ L → s0 93 v = Gj (wR s t0 n L t) 0 v := by
    intro v hv
    rw [← hs0, va_up_self, pk_cpy_in (by omega) (by omega), show 0 + (v - 0) = v by omega]
    rfl
  obtain ⟨s1, ⟨q1, q2⟩, q3⟩ := up_loop (Q := fun u (s1 : hS) => (∀ c, c < 92 ∨ 95 < c → s1 c = s c) ∧ ∀ v, v < 2 ^ L → s1 93 v = Gj (wR s t0 n L t) u v) (P := fun u (s1 : hS) (z : Option Value × mH) => ∀ l3 l4 l5 l6, Runs xs sl (d+3) 234 38 [some (.ref (81)), some (.int ( nI t)), some (.int ( nI u)), l3, l4, l5, l6] [] (hp J (s1) g) z) h (by
    intro u s1 hu hQ
    obtain ⟨i1, i2⟩ := hQ
    have f81 : s1 81 = s 81 := i1 81 (by omega)
    have hT1 : rT s1 t0 n h := rT_fr hT (by rw [f81]) (by rw [f81]) (by rw [f81])
    have g1 : s1 81 23 = nI L := by rw [f81]; exact hL
    have g14 : s1 81 14 = nI h := hT1.2.2.2.2.1
    obtain ⟨s2, e1, e2, e3⟩ := @rf_laysSigns xs sl d J s1 g t0 n h L u t hT1 g1 hL8 hu ht
    have e3' : ∀ p, p < 2 ^ L → s2 95 p = wR s t0 n L t u p := by
      intro p hp'
      rw [e3 p hp']
      unfold wR
      rw [i1 82 (by omega), i1 88 (by omega)]
    have z81 : s2 81 = s 81 := (e2 81 (by decide) (by decide)).trans f81
    have z93 : ∀ v, v < 2 ^ L → s2 93 v = Gj (wR s t0 n L t) u v := fun v hv => by rw [e2 93 (by decide) (by decide)]; exact i2 v hv
    have g2 : s2 81 23 = nI L := by rw [z81]; exact hL
    obtain ⟨s3, ⟨w1, w2⟩, w3⟩ := up_loop (Q := fun i (s3 : hS) => (∀ c, c ≠ 94 → s3 c = s2 c) ∧ ∀ v, v < i → s3 94 v = Gj (wR s t0 n L t) (u + 1) v) (P := fun i (s3 : hS) (z : Option Value × mH) => ∀ l4 l5 l6, Runs xs sl (d+3) 234 54 [some (.ref (81)), some (.int ( nI t)), some (.int ( nI u)), some (.int ( nI i)), l4, l5, l6] [] (hp J (s3) g) z) (2 ^ L) (by
      intro set s3 hset hQ2
      obtain ⟨k1, k2⟩ := hQ2
      have en : subF (fR (s3 93) (s3 95) set) set 257 set (-1000) = Gj (wR s t0 n L t) (u + 1) set := by
        have e : Gj (wR s t0 n L t) (u + 1) set = nR (Gj (wR s t0 n L t) u) (wR s t0 n L t u) set := rfl
        rw [e]
        show nR (s3 93) (s3 95) set = _
        refine nR_congr (fun v hv => ?_) (fun v hv => ?_)
        · rw [k1 93 (by decide)]
          exact z93 v (by omega)
        · rw [k1 95 (by decide)]
          exact e3' v (by omega)
      have g3 : s3 81 23 = nI L := by rw [k1 81 (by decide)]; exact g2
      refine ⟨va_up s3 94 (va_up (s3 94) set (Gj (wR s t0 n L t) (u + 1) set)), ⟨fun c hc => by rw [va_up_ne _ _ hc]; exact k1 c hc, fun v hv => ?_⟩, fun z hz l4 l5 l6 => ?_⟩
      · rw [va_up_self]
        by_cases e : v = set
        · rw [e, va_up_self]
        · rw [va_up_ne _ _ e]
          exact k2 v (by omega)
      · have inn := @rf_gInner xs sl (d + 3) J s3 g t0 n h set (some (.int (nI t))) (some (.int (nI u))) z (by omega) 257 set (-1000) (by omega) (Nat.le_refl _) (Nat.and_self _)
        rw [en] at inn
        rw [r234_54]
        simp (disch := first | omega | assumption | exact Or.inl rfl | exact Or.inr rfl | exact bI_or _ | exact zC81 | exact zC47 | exact zC65 | exact zC0 | exact zC1 | exact zC32 | exact zC70 | exact zC73 | exact ztc (by assumption) | exact zdc (by assumption) | exact zpc (by assumption) | decide) only [Option.some.injEq, exists_eq_left', ex2, Option.toList, List.singleton_append, List.append_nil, List.cons_append, List.nil_append, nI_add, nI_addL, nI_Ladd, pk_mul, nI_mulL, nI_Lmul, nI_subL, pk_sub, nI_divL, sub_dm, nI_leE, nI_ltE, nI_eqE, nI_Lle, nI_leL, nI_Llt, nI_ltL, nI_eqL, va_up_self, va_up_ne, up_up, up_comm, nI_clamp, bI_eq0, not_true_eq_false, not_false_eq_true, Nat.reduceEqDiff, Nat.reduceLeDiff, Nat.reduceAdd, Nat.reduceMul, Nat.one_ne_zero, Nat.zero_ne_one, decide_eq_false_iff_not, decide_eq_true_eq, Bool.false_eq_true, decide_true, decide_false, bI_true, bI_false, one_ne, Nat.le_refl, Nat.lt_irrefl, cleT, cleF, cltT, cltF, ceqT, ceqF, ↓reduceIte, r234_55, r234_56, r234_57, r234_60, r234_61, r234_64, r234_65, r234_68, r234_69, r234_72, r234_73, r234_74, r234_76, r234_77, zO81_23, zO81_28, g3, sh1, zS94]
        refine inn ?_ l6
        intro l4 l6
        simp (disch := first | omega | assumption | exact Or.inl rfl | exact Or.inr rfl | exact bI_or _ | exact zC81 | exact zC47 | exact zC65 | exact zC0 | exact zC1 | exact zC32 | exact zC70 | exact zC73 | exact ztc (by assumption) | exact zdc (by assumption) | exact zpc (by assumption) | decide) only [Option.some.injEq, exists_eq_left', ex2, Option.toList, List.singleton_append, List.append_nil, List.cons_append, List.nil_append, nI_add, nI_addL, nI_Ladd, pk_mul, nI_mulL, nI_Lmul, nI_subL, pk_sub, nI_divL, sub_dm, nI_leE, nI_ltE, nI_eqE, nI_Lle, nI_leL, nI_Llt, nI_ltL, nI_eqL, va_up_self, va_up_ne, up_up, up_comm, nI_clamp, bI_eq0, not_true_eq_false, not_false_eq_true, Nat.reduceEqDiff, Nat.reduceLeDiff, Nat.reduceAdd, Nat.reduceMul, Nat.one_ne_zero, Nat.zero_ne_one, decide_eq_false_iff_not, decide_eq_true_eq, Bool.false_eq_true, decide_true, decide_false, bI_true, bI_false, one_ne, Nat.le_refl, Nat.lt_irrefl, cleT, cleF, cltT, cltF, ceqT, ceqF, ↓reduceIte, r234_163, r234_166]
        exact hz _ _ _) s2 ⟨fun c _ => rfl, fun v hv => absurd hv (by omega)⟩
    have g3 : s3 81 23 = nI L := by rw [w1 81 (by decide)]; exact g2
    generalize hs4 : va_up s3 93 (va_cpy (s3 94) (s3 93) 0 0 (2 ^ L)) = s4
    refine ⟨s4, ⟨fun c hc => ?_, fun v hv => ?_⟩, fun z hz l3 l4 l5 l6 => ?_⟩
    · rw [← hs4, va_up_ne _ _ (by omega), w1 c (by omega), e2 c (by omega) (by omega)]
      exact i1 c hc
    · rw [← hs4, va_up_self, pk_cpy_in (by omega) (by omega), show 0 + (v - 0) = v by omega]
      exact w2 v hv
    · rw [r234_38]
      simp (disch := first | omega | assumption | exact Or.inl rfl | exact Or.inr rfl | exact bI_or _ | exact zC81 | exact zC47 | exact zC65 | exact zC0 | exact zC1 | exact zC32 | exact zC70 | exact zC73 | exact ztc (by assumption) | exact zdc (by assumption) | exact zpc (by assumption) | decide) only [Option.some.injEq, exists_eq_left', ex2, Option.toList, List.singleton_append, List.append_nil, List.cons_append, List.nil_append, nI_add, nI_addL, nI_Ladd, pk_mul, nI_mulL, nI_Lmul, nI_subL, pk_sub, nI_divL, sub_dm, nI_leE, nI_ltE, nI_eqE, nI_Lle, nI_leL, nI_Llt, nI_ltL, nI_eqL, va_up_self, va_up_ne, up_up, up_comm, nI_clamp, bI_eq0, not_true_eq_false, not_false_eq_true, Nat.reduceEqDiff, Nat.reduceLeDiff, Nat.reduceAdd, Nat.reduceMul, Nat.one_ne_zero, Nat.zero_ne_one, decide_eq_false_iff_not, decide_eq_true_eq, Bool.false_eq_true, decide_true, decide_false, bI_true, bI_false, one_ne, Nat.le_refl, Nat.lt_irrefl, cleT, cleF, cltT, cltF, ceqT, ceqF, ↓reduceIte, r234_39, r234_40, r234_43, r234_46, r234_47, r234_48, r234_49, r234_52, r234_53, zO81_14, g14, e1.iff]
      refine w3 z ?_ l4 l5 l6
      intro l4 l5 l6
      rw [r234_54]
      simp (disch := first | omega | assumption | exact Or.inl rfl | exact Or.inr rfl | exact bI_or _ | exact zC81 | exact zC47 | exact zC65 | exact zC0 | exact zC1 | exact zC32 | exact zC70 | exact zC73 | exact ztc (by assumption) | exact zdc (by assumption) | exact zpc (by assumption) | decide) only [Option.some.injEq, exists_eq_left', ex2, Option.toList, List.singleton_append, List.append_nil, List.cons_append, List.nil_append, nI_add, nI_addL, nI_Ladd, pk_mul, nI_mulL, nI_Lmul, nI_subL, pk_sub, nI_divL, sub_dm, nI_leE, nI_ltE, nI_eqE, nI_Lle, nI_leL, nI_Llt, nI_ltL, nI_eqL, va_up_self, va_up_ne, up_up, up_comm, nI_clamp, bI_eq0, not_true_eq_false, not_false_eq_true, Nat.reduceEqDiff, Nat.reduceLeDiff, Nat.reduceAdd, Nat.reduceMul, Nat.one_ne_zero, Nat.zero_ne_one, decide_eq_false_iff_not, decide_eq_true_eq, Bool.false_eq_true, decide_true, decide_false, bI_true, bI_false, one_ne, Nat.le_refl, Nat.lt_irrefl, cleT, cleF, cltT, cltF, ceqT, ceqF, ↓reduceIte, r234_55, r234_56, r234_57, r234_60, r234_61, r234_169, r234_170, zO81_23, g3, sh1]
      have e0 : hp J s3 g = hp J (va_up s3 93 (va_cpy (s3 94) (s3 93) 0 0 0)) g := by rw [cpy_zero, up_id]
      rw [e0]
      refine dn_loop (P := fun i => Runs xs sl (d+3) 234 171 [some (.ref (81)), some (.int ( nI t)), some (.int ( nI u)), some (.int ( nI i)), l4, l5, l6] [] (hp J (va_up s3 93 (va_cpy (s3 94) (s3 93) 0 0 i)) g) z) (2 ^ L) ?_ ?_
      · intro i hi hr
        rw [r234_171]
        have e4 := cpy_snoc0 (s3 94) (s3 93) i
        simp (disch := first | omega | assumption | exact Or.inl rfl | exact Or.inr rfl | exact bI_or _ | exact zC81 | exact zC47 | exact zC65 | exact zC0 | exact zC1 | exact zC32 | exact zC70 | exact zC73 | exact ztc (by assumption) | exact zdc (by assumption) | exact zpc (by assumption) | decide) only [Option.some.injEq, exists_eq_left', ex2, Option.toList, List.singleton_append, List.append_nil, List.cons_append, List.nil_append, nI_add, nI_addL, nI_Ladd, pk_mul, nI_mulL, nI_Lmul, nI_subL, pk_sub, nI_divL, sub_dm, nI_leE, nI_ltE, nI_eqE, nI_Lle, nI_leL, nI_Llt, nI_ltL, nI_eqL, va_up_self, va_up_ne, up_up, up_comm, nI_clamp, bI_eq0, not_true_eq_false, not_false_eq_true, Nat.reduceEqDiff, Nat.reduceLeDiff, Nat.reduceAdd, Nat.reduceMul, Nat.one_ne_zero, Nat.zero_ne_one, decide_eq_false_iff_not, decide_eq_true_eq, Bool.false_eq_true, decide_true, decide_false, bI_true, bI_false, one_ne, Nat.le_refl, Nat.lt_irrefl, cleT, cleF, cltT, cltF, ceqT, ceqF, ↓reduceIte, r234_172, r234_173, r234_174, r234_177, r234_178, r234_181, r234_182, r234_185, r234_186, r234_187, r234_190, r234_191, r234_192, r234_193, r234_196, zO81_23, zO81_27, zO81_28, g3, sh1, zA94, zS93, e4]
        exact hr
      · rw [r234_171]
        simp (disch := first | omega | assumption | exact Or.inl rfl | exact Or.inr rfl | exact bI_or _ | exact zC81 | exact zC47 | exact zC65 | exact zC0 | exact zC1 | exact zC32 | exact zC70 | exact zC73 | exact ztc (by assumption) | exact zdc (by assumption) | exact zpc (by assumption) | decide) only [Option.some.injEq, exists_eq_left', ex2, Option.toList, List.singleton_append, List.append_nil, List.cons_append, List.nil_append, nI_add, nI_addL, nI_Ladd, pk_mul, nI_mulL, nI_Lmul, nI_subL, pk_sub, nI_divL, sub_dm, nI_leE, nI_ltE, nI_eqE, nI_Lle, nI_leL, nI_Llt, nI_ltL, nI_eqL, va_up_self, va_up_ne, up_up, up_comm, nI_clamp, bI_eq0, not_true_eq_false, not_false_eq_true, Nat.reduceEqDiff, Nat.reduceLeDiff, Nat.reduceAdd, Nat.reduceMul, Nat.one_ne_zero, Nat.zero_ne_one, decide_eq_false_iff_not, decide_eq_true_eq, Bool.false_eq_true, decide_true, decide_false, bI_true, bI_false, one_ne, Nat.le_refl, Nat.lt_irrefl, cleT, cleF, cltT, cltF, ceqT, ceqF, ↓reduceIte, r234_172, r234_173, r234_174, r234_177, r234_178, r234_199, r234_202, zO81_23, g3, sh1]
        rw [hs4]
        exact hz _ _ _ _) s0 ⟨a0, a93⟩
  refine ⟨s1, ?_, q1, q2⟩
  have g14 : s1 81 14 = nI h := by rw [q1 81 (by omega)]; exact hT.2.2.2.2.1
  simp (disch := first | omega | assumption | exact Or.inl rfl | exact Or.inr rfl | exact bI_or _ | exact zC81 | exact zC47 | exact zC65 | exact zC0 | exact zC1 | exact zC32 | exact zC70 | exact zC73 | exact ztc (by assumption) | exact zdc (by assumption) | exact zpc (by assumption) | decide) only [Option.some.injEq, exists_eq_left', ex2, Option.toList, List.singleton_append, List.append_nil, List.cons_append, List.nil_append, nI_add, nI_addL, nI_Ladd, pk_mul, nI_mulL, nI_Lmul, nI_subL, pk_sub, nI_divL, sub_dm, nI_leE, nI_ltE, nI_eqE, nI_Lle, nI_leL, nI_Llt, nI_ltL, nI_eqL, va_up_self, va_up_ne, up_up, up_comm, nI_clamp, bI_eq0, not_true_eq_false, not_false_eq_true, Nat.reduceEqDiff, Nat.reduceLeDiff, Nat.reduceAdd, Nat.reduceMul, Nat.one_ne_zero, Nat.zero_ne_one, decide_eq_false_iff_not, decide_eq_true_eq, Bool.false_eq_true, decide_true, decide_false, bI_true, bI_false, one_ne, Nat.le_refl, Nat.lt_irrefl, cleT, cleF, cltT, cltF, ceqT, ceqF, ↓reduceIte, r234_4, r234_5]
  have e0 : hp J s g = hp J (va_up s 93 (va_cpy (fun v => if v = 0 then 0 else -1000) (s 93) 0 0 0)) g := by rw [cpy_zero, up_id]
  rw [e0]
  refine dn_loop (P := fun i => Runs xs sl (d+3) 234 6 [some (.ref (81)), some (.int ( nI t)), some (.int ( nI i)), none, none, none, none] [] (hp J (va_up s 93 (va_cpy (fun v => if v = 0 then 0 else -1000) (s 93) 0 0 i)) g) _) 256 ?_ ?_
  · intro i hi hr
    rw [r234_6]
    have e4 := cpy_snoc0 (fun v => if v = 0 then (0 : Int32) else -1000) (s 93) i
    by_cases c : i = 0
    · rw [if_pos c] at e4
      simp (disch := first | omega | assumption | exact Or.inl rfl | exact Or.inr rfl | exact bI_or _ | exact zC81 | exact zC47 | exact zC65 | exact zC0 | exact zC1 | exact zC32 | exact zC70 | exact zC73 | exact ztc (by assumption) | exact zdc (by assumption) | exact zpc (by assumption) | decide) only [Option.some.injEq, exists_eq_left', ex2, Option.toList, List.singleton_append, List.append_nil, List.cons_append, List.nil_append, nI_add, nI_addL, nI_Ladd, pk_mul, nI_mulL, nI_Lmul, nI_subL, pk_sub, nI_divL, sub_dm, nI_leE, nI_ltE, nI_eqE, nI_Lle, nI_leL, nI_Llt, nI_ltL, nI_eqL, va_up_self, va_up_ne, up_up, up_comm, nI_clamp, bI_eq0, not_true_eq_false, not_false_eq_true, Nat.reduceEqDiff, Nat.reduceLeDiff, Nat.reduceAdd, Nat.reduceMul, Nat.one_ne_zero, Nat.zero_ne_one, decide_eq_false_iff_not, decide_eq_true_eq, Bool.false_eq_true, decide_true, decide_false, bI_true, bI_false, one_ne, Nat.le_refl, Nat.lt_irrefl, cleT, cleF, cltT, cltF, ceqT, ceqF, ↓reduceIte, r234_7, r234_10, r234_13, r234_14, r234_17, r234_18, r234_19, r234_22, r234_23, r234_26, r234_29, r234_30, r234_33, zO81_27, zS93, e4]
      exact hr
    · rw [if_neg c] at e4
      simp (disch := first | omega | assumption | exact Or.inl rfl | exact Or.inr rfl | exact bI_or _ | exact zC81 | exact zC47 | exact zC65 | exact zC0 | exact zC1 | exact zC32 | exact zC70 | exact zC73 | exact ztc (by assumption) | exact zdc (by assumption) | exact zpc (by assumption) | decide) only [Option.some.injEq, exists_eq_left', ex2, Option.toList, List.singleton_append, List.append_nil, List.cons_append, List.nil_append, nI_add, nI_addL, nI_Ladd, pk_mul, nI_mulL, nI_Lmul, nI_subL, pk_sub, nI_divL, sub_dm, nI_leE, nI_ltE, nI_eqE, nI_Lle, nI_leL, nI_Llt, nI_ltL, nI_eqL, va_up_self, va_up_ne, up_up, up_comm, nI_clamp, bI_eq0, not_true_eq_false, not_false_eq_true, Nat.reduceEqDiff, Nat.reduceLeDiff, Nat.reduceAdd, Nat.reduceMul, Nat.one_ne_zero, Nat.zero_ne_one, decide_eq_false_iff_not, decide_eq_true_eq, Bool.false_eq_true, decide_true, decide_false, bI_true, bI_false, one_ne, Nat.le_refl, Nat.lt_irrefl, cleT, cleF, cltT, cltF, ceqT, ceqF, ↓reduceIte, r234_7, r234_10, r234_13, r234_14, r234_17, r234_18, r234_19, r234_22, r234_23, r234_26, r234_29, r234_30, r234_33, zO81_27, zS93, e4]
      exact hr
  · rw [r234_6]
    simp (disch := first | omega | assumption | exact Or.inl rfl | exact Or.inr rfl | exact bI_or _ | exact zC81 | exact zC47 | exact zC65 | exact zC0 | exact zC1 | exact zC32 | exact zC70 | exact zC73 | exact ztc (by assumption) | exact zdc (by assumption) | exact zpc (by assumption) | decide) only [Option.some.injEq, exists_eq_left', ex2, Option.toList, List.singleton_append, List.append_nil, List.cons_append, List.nil_append, nI_add, nI_addL, nI_Ladd, pk_mul, nI_mulL, nI_Lmul, nI_subL, pk_sub, nI_divL, sub_dm, nI_leE, nI_ltE, nI_eqE, nI_Lle, nI_leL, nI_Llt, nI_ltL, nI_eqL, va_up_self, va_up_ne, up_up, up_comm, nI_clamp, bI_eq0, not_true_eq_false, not_false_eq_true, Nat.reduceEqDiff, Nat.reduceLeDiff, Nat.reduceAdd, Nat.reduceMul, Nat.one_ne_zero, Nat.zero_ne_one, decide_eq_false_iff_not, decide_eq_true_eq, Bool.false_eq_true, decide_true, decide_false, bI_true, bI_false, one_ne, Nat.le_refl, Nat.lt_irrefl, cleT, cleF, cltT, cltF, ceqT, ceqF, ↓reduceIte, r234_7, r234_10, r234_36, r234_37]
    rw [hs0]
    refine q3 _ ?_ none none none none
    intro l3 l4 l5 l6
    rw [r234_38]
    simp (disch := first | omega | assumption | exact Or.inl rfl | exact Or.inr rfl | exact bI_or _ | exact zC81 | exact zC47 | exact zC65 | exact zC0 | exact zC1 | exact zC32 | exact zC70 | exact zC73 | exact ztc (by assumption) | exact zdc (by assumption) | exact zpc (by assumption) | decide) only [Option.some.injEq, exists_eq_left', ex2, Option.toList, List.singleton_append, List.append_nil, List.cons_append, List.nil_append, nI_add, nI_addL, nI_Ladd, pk_mul, nI_mulL, nI_Lmul, nI_subL, pk_sub, nI_divL, sub_dm, nI_leE, nI_ltE, nI_eqE, nI_Lle, nI_leL, nI_Llt, nI_ltL, nI_eqL, va_up_self, va_up_ne, up_up, up_comm, nI_clamp, bI_eq0, not_true_eq_false, not_false_eq_true, Nat.reduceEqDiff, Nat.reduceLeDiff, Nat.reduceAdd, Nat.reduceMul, Nat.one_ne_zero, Nat.zero_ne_one, decide_eq_false_iff_not, decide_eq_true_eq, Bool.false_eq_true, decide_true, decide_false, bI_true, bI_false, one_ne, Nat.le_refl, Nat.lt_irrefl, cleT, cleF, cltT, cltF, ceqT, ceqF, ↓reduceIte, r234_39, r234_40, r234_43, r234_205, zO81_14, g14]
theorem rf_shareLoop {L w t : Nat} {l1 : Option Value} (hL : s 81 23 = nI L) (hL8 : L ≤ 8) (hw : w < 3) : Runs xs sl (d+1) 233 34 [some (.ref (81)), l1, some (.int ( nI t)), some (.int ( nI w)), none, none, none] [] (hp J (s) g) (some (.int (if w = 0 then grR (s 93) (2 ^ L) else match fwF (fun v => !decide (s 93 v ≤ 0)) (2 ^ L) with
    | none => -1
    | some k => if w = 2 then nI k else nI (bc k))), hp J s g) := by
  have p8 := pw8 hL8
  simp (disch := first | omega | assumption | exact Or.inl rfl | exact Or.inr rfl | exact bI_or _ | exact zC81 | exact zC47 | exact zC65 | exact zC0 | exact zC1 | exact zC32 | exact zC70 | exact zC73 | exact ztc (by assumption) | exact zdc (by assumption) | exact zpc (by assumption) | decide) only [Option.some.injEq, exists_eq_left', ex2, Option.toList, List.singleton_append, List.append_nil, List.cons_append, List.nil_append, nI_add, nI_addL, nI_Ladd, pk_mul, nI_mulL, nI_Lmul, nI_subL, pk_sub, nI_divL, sub_dm, nI_leE, nI_ltE, nI_eqE, nI_Lle, nI_leL, nI_Llt, nI_ltL, nI_eqL, va_up_self, va_up_ne, up_up, up_comm, nI_clamp, bI_eq0, not_true_eq_false, not_false_eq_true, Nat.reduceEqDiff, Nat.reduceLeDiff, Nat.reduceAdd, Nat.reduceMul, Nat.one_ne_zero, Nat.zero_ne_one, decide_eq_false_iff_not, decide_eq_true_eq, Bool.false_eq_true, decide_true, decide_false, bI_true, bI_false, one_ne, Nat.le_refl, Nat.lt_irrefl, cleT, cleF, cltT, cltF, ceqT, ceqF, ↓reduceIte, r233_34, r233_37, r233_39, r233_40, r233_42, r233_43]
  refine dn_loop (P := fun i => Runs xs sl (d+1) 233 45 [some (.ref (81)), l1, some (.int ( nI t)), some (.int ( nI w)), some (.int ( it (fun v a => if s 93 v ≤ a then a else s 93 v) i (-1000))), some (.int ( oI (it (fwS (fun v => !decide (s 93 v ≤ 0))) i none))), some (.int ( nI i))] [] (hp J (s) g) _) (2 ^ L) ?_ ?_
  · intro i hi hr
    rw [r233_45]
    have bk := fw_lt (P := fun v => !decide (s 93 v ≤ 0)) (N := 2 ^ L) i (by omega)
    rw [it, it] at hr
    generalize it (fwS (fun v => !decide (s 93 v ≤ 0))) i none = o at *
    generalize it (fun v a => if s 93 v ≤ a then a else s 93 v) i (-1000) = am at *
    unfold fwS at hr
    have key : ∀ am', (if s 93 i ≤ am then am else s 93 i) = am' → Runs xs sl (d+1) 233 82 [some (.ref (81)), l1, some (.int ( nI t)), some (.int ( nI w)), some (.int ( am')), some (.int ( oI o)), some (.int ( nI i))] [] (hp J (s) g) (some (.int (if w = 0 then grR (s 93) (2 ^ L) else match fwF (fun v => !decide (s 93 v ≤ 0)) (2 ^ L) with
        | none => -1
        | some k => if w = 2 then nI k else nI (bc k))), hp J s g) := by
      intro am' he
      rw [he] at hr
      cases o with
      | none =>
        by_cases c : s 93 i ≤ 0
        · simp only [c, decide_true, Bool.not_true, Bool.false_eq_true, ↓reduceIte, oI] at hr
          simp (disch := first | omega | assumption) only [r233_82, r233_83, r233_86, r233_88, r233_89, r233_92, r233_94, r233_95, r233_98, r233_100, r233_103, r233_105, r233_108, r233_111, r233_113, r233_115, r233_118, zO81_27, zA93, oI, c, nI_1, Option.some.injEq, exists_eq_left', ↓reduceIte]
          exact hr
        · simp only [c, decide_false, Bool.not_false, ↓reduceIte, oI] at hr
          simp (disch := first | omega | assumption) only [r233_82, r233_83, r233_86, r233_88, r233_89, r233_92, r233_94, r233_95, r233_98, r233_100, r233_103, r233_105, r233_108, r233_111, r233_113, r233_115, r233_118, zO81_27, zA93, oI, c, nI_1, Option.some.injEq, exists_eq_left', ↓reduceIte]
          exact hr
      | some k =>
        have k8 := bk k rfl
        have b1 := @rf_bitsOf xs sl d J s g i (by omega)
        have b2 := @rf_bitsOf xs sl d J s g k (by omega)
        have l1' := @bc_le i
        have l2 := @bc_le k
        have nm : ¬ nI k = -1 := by
          intro z
          have h0 := nI_pos (n := k) (by omega)
          rw [z] at h0
          exact h0 (by decide)
        by_cases c : s 93 i ≤ 0
        · simp only [c, decide_true, Bool.not_true, Bool.false_and, Bool.false_eq_true, ↓reduceIte, oI] at hr
          simp (disch := first | omega | assumption) only [r233_82, r233_83, r233_86, r233_88, r233_89, r233_92, r233_94, r233_95, r233_98, r233_100, r233_103, r233_105, r233_108, r233_111, r233_113, r233_115, r233_118, zO81_27, zA93, oI, c, nI_1, Option.some.injEq, exists_eq_left', ↓reduceIte]
          exact hr
        · by_cases c2 : bc i < bc k
          · simp only [c, c2, decide_false, decide_true, Bool.not_false, Bool.and_self, ↓reduceIte, oI] at hr
            simp (disch := first | omega | assumption) only [r233_82, r233_83, r233_86, r233_88, r233_89, r233_92, r233_94, r233_95, r233_98, r233_100, r233_103, r233_105, r233_108, r233_111, r233_113, r233_115, r233_118, zO81_27, zA93, oI, c, nm, b1, b2, nI_leE, cleF, nI_1, Option.some.injEq, exists_eq_left', ex2, Option.toList, List.singleton_append, List.append_nil, List.cons_append, List.nil_append, ↓reduceIte]
            exact hr
          · simp only [c, c2, decide_false, Bool.not_false, Bool.and_false, Bool.false_eq_true, ↓reduceIte, oI] at hr
            simp (disch := first | omega | assumption) only [r233_82, r233_83, r233_86, r233_88, r233_89, r233_92, r233_94, r233_95, r233_98, r233_100, r233_103, r233_105, r233_108, r233_111, r233_113, r233_115, r233_118, zO81_27, zA93, oI, c, nm, b1, b2, nI_leE, cleT, nI_1, Option.some.injEq, exists_eq_left', ex2, Option.toList, List.singleton_append, List.append_nil, List.cons_append, List.nil_append, ↓reduceIte]
            exact hr
    by_cases c0 : s 93 i ≤ am
    · have kk := key am (if_pos c0)
      simp (disch := first | omega | assumption | exact Or.inl rfl | exact Or.inr rfl | exact bI_or _ | exact zC81 | exact zC47 | exact zC65 | exact zC0 | exact zC1 | exact zC32 | exact zC70 | exact zC73 | exact ztc (by assumption) | exact zdc (by assumption) | exact zpc (by assumption) | decide) only [Option.some.injEq, exists_eq_left', ex2, Option.toList, List.singleton_append, List.append_nil, List.cons_append, List.nil_append, nI_add, nI_addL, nI_Ladd, pk_mul, nI_mulL, nI_Lmul, nI_subL, pk_sub, nI_divL, sub_dm, nI_leE, nI_ltE, nI_eqE, nI_Lle, nI_leL, nI_Llt, nI_ltL, nI_eqL, va_up_self, va_up_ne, up_up, up_comm, nI_clamp, bI_eq0, not_true_eq_false, not_false_eq_true, Nat.reduceEqDiff, Nat.reduceLeDiff, Nat.reduceAdd, Nat.reduceMul, Nat.one_ne_zero, Nat.zero_ne_one, decide_eq_false_iff_not, decide_eq_true_eq, Bool.false_eq_true, decide_true, decide_false, bI_true, bI_false, one_ne, Nat.le_refl, Nat.lt_irrefl, cleT, cleF, cltT, cltF, ceqT, ceqF, ↓reduceIte, r233_47, r233_48, r233_49, r233_52, r233_53, r233_56, r233_57, r233_60, r233_62, r233_63, r233_65, r233_68, r233_69, r233_72, r233_74, r233_75, r233_78, r233_80, zO81_23, zO81_27, hL, sh1, zA93, c0]
      exact kk
    · have kk := key (s 93 i) (if_neg c0)
      simp (disch := first | omega | assumption | exact Or.inl rfl | exact Or.inr rfl | exact bI_or _ | exact zC81 | exact zC47 | exact zC65 | exact zC0 | exact zC1 | exact zC32 | exact zC70 | exact zC73 | exact ztc (by assumption) | exact zdc (by assumption) | exact zpc (by assumption) | decide) only [Option.some.injEq, exists_eq_left', ex2, Option.toList, List.singleton_append, List.append_nil, List.cons_append, List.nil_append, nI_add, nI_addL, nI_Ladd, pk_mul, nI_mulL, nI_Lmul, nI_subL, pk_sub, nI_divL, sub_dm, nI_leE, nI_ltE, nI_eqE, nI_Lle, nI_leL, nI_Llt, nI_ltL, nI_eqL, va_up_self, va_up_ne, up_up, up_comm, nI_clamp, bI_eq0, not_true_eq_false, not_false_eq_true, Nat.reduceEqDiff, Nat.reduceLeDiff, Nat.reduceAdd, Nat.reduceMul, Nat.one_ne_zero, Nat.zero_ne_one, decide_eq_false_iff_not, decide_eq_true_eq, Bool.false_eq_true, decide_true, decide_false, bI_true, bI_false, one_ne, Nat.le_refl, Nat.lt_irrefl, cleT, cleF, cltT, cltF, ceqT, ceqF, ↓reduceIte, r233_47, r233_48, r233_49, r233_52, r233_53, r233_56, r233_57, r233_60, r233_62, r233_63, r233_65, r233_68, r233_69, r233_72, r233_74, r233_75, r233_78, r233_80, zO81_23, zO81_27, hL, sh1, zA93, c0]
      exact kk
  · rw [r233_45]
    have bk := fw_lt (P := fun v => !decide (s 93 v ≤ 0)) (N := 2 ^ L) (2 ^ L) (Nat.le_refl _)
    unfold grR fwF
    generalize it (fwS (fun v => !decide (s 93 v ≤ 0))) (2 ^ L) none = o at *
    generalize it (fun v a => if s 93 v ≤ a then a else s 93 v) (2 ^ L) (-1000) = am at *
    by_cases w0 : w = 0
    · subst w0
      simp (disch := first | omega | assumption | exact Or.inl rfl | exact Or.inr rfl | exact bI_or _ | exact zC81 | exact zC47 | exact zC65 | exact zC0 | exact zC1 | exact zC32 | exact zC70 | exact zC73 | exact ztc (by assumption) | exact zdc (by assumption) | exact zpc (by assumption) | decide) only [Option.some.injEq, exists_eq_left', ex2, Option.toList, List.singleton_append, List.append_nil, List.cons_append, List.nil_append, nI_add, nI_addL, nI_Ladd, pk_mul, nI_mulL, nI_Lmul, nI_subL, pk_sub, nI_divL, sub_dm, nI_leE, nI_ltE, nI_eqE, nI_Lle, nI_leL, nI_Llt, nI_ltL, nI_eqL, va_up_self, va_up_ne, up_up, up_comm, nI_clamp, bI_eq0, not_true_eq_false, not_false_eq_true, Nat.reduceEqDiff, Nat.reduceLeDiff, Nat.reduceAdd, Nat.reduceMul, Nat.one_ne_zero, Nat.zero_ne_one, decide_eq_false_iff_not, decide_eq_true_eq, Bool.false_eq_true, decide_true, decide_false, bI_true, bI_false, one_ne, Nat.le_refl, Nat.lt_irrefl, cleT, cleF, cltT, cltF, ceqT, ceqF, ↓reduceIte, r233_47, r233_48, r233_49, r233_52, r233_53, r233_121, r233_122, r233_125, r233_127, r233_130, r233_132, r233_133, r233_136, r233_137, r233_138, r233_141, r233_143, r233_146, r233_148, r233_151, zO81_23, hL, sh1]
    · cases o with
      | none =>
        simp (disch := first | omega | assumption | exact Or.inl rfl | exact Or.inr rfl | exact bI_or _ | exact zC81 | exact zC47 | exact zC65 | exact zC0 | exact zC1 | exact zC32 | exact zC70 | exact zC73 | exact ztc (by assumption) | exact zdc (by assumption) | exact zpc (by assumption) | decide) only [Option.some.injEq, exists_eq_left', ex2, Option.toList, List.singleton_append, List.append_nil, List.cons_append, List.nil_append, nI_add, nI_addL, nI_Ladd, pk_mul, nI_mulL, nI_Lmul, nI_subL, pk_sub, nI_divL, sub_dm, nI_leE, nI_ltE, nI_eqE, nI_Lle, nI_leL, nI_Llt, nI_ltL, nI_eqL, va_up_self, va_up_ne, up_up, up_comm, nI_clamp, bI_eq0, not_true_eq_false, not_false_eq_true, Nat.reduceEqDiff, Nat.reduceLeDiff, Nat.reduceAdd, Nat.reduceMul, Nat.one_ne_zero, Nat.zero_ne_one, decide_eq_false_iff_not, decide_eq_true_eq, Bool.false_eq_true, decide_true, decide_false, bI_true, bI_false, one_ne, Nat.le_refl, Nat.lt_irrefl, cleT, cleF, cltT, cltF, ceqT, ceqF, ↓reduceIte, r233_47, r233_48, r233_49, r233_52, r233_53, r233_121, r233_122, r233_125, r233_127, r233_130, r233_132, r233_133, r233_136, r233_137, r233_138, r233_141, r233_143, r233_146, r233_148, r233_151, zO81_23, hL, sh1, oI, w0]
      | some k =>
        have k8 := bk k rfl
        have b2 := @rf_bitsOf xs sl d J s g k (by omega)
        have nm : ¬ nI k = -1 := by
          intro z
          have h0 := nI_pos (n := k) (by omega)
          rw [z] at h0
          exact h0 (by decide)
        by_cases w2 : w = 2
        · simp (disch := first | omega | assumption | exact Or.inl rfl | exact Or.inr rfl | exact bI_or _ | exact zC81 | exact zC47 | exact zC65 | exact zC0 | exact zC1 | exact zC32 | exact zC70 | exact zC73 | exact ztc (by assumption) | exact zdc (by assumption) | exact zpc (by assumption) | decide) only [Option.some.injEq, exists_eq_left', ex2, Option.toList, List.singleton_append, List.append_nil, List.cons_append, List.nil_append, nI_add, nI_addL, nI_Ladd, pk_mul, nI_mulL, nI_Lmul, nI_subL, pk_sub, nI_divL, sub_dm, nI_leE, nI_ltE, nI_eqE, nI_Lle, nI_leL, nI_Llt, nI_ltL, nI_eqL, va_up_self, va_up_ne, up_up, up_comm, nI_clamp, bI_eq0, not_true_eq_false, not_false_eq_true, Nat.reduceEqDiff, Nat.reduceLeDiff, Nat.reduceAdd, Nat.reduceMul, Nat.one_ne_zero, Nat.zero_ne_one, decide_eq_false_iff_not, decide_eq_true_eq, Bool.false_eq_true, decide_true, decide_false, bI_true, bI_false, one_ne, Nat.le_refl, Nat.lt_irrefl, cleT, cleF, cltT, cltF, ceqT, ceqF, ↓reduceIte, r233_47, r233_48, r233_49, r233_52, r233_53, r233_121, r233_122, r233_125, r233_127, r233_130, r233_132, r233_133, r233_136, r233_137, r233_138, r233_141, r233_143, r233_146, r233_148, r233_151, zO81_23, hL, sh1, oI, w0, w2, nm]
        · simp (disch := first | omega | assumption | exact Or.inl rfl | exact Or.inr rfl | exact bI_or _ | exact zC81 | exact zC47 | exact zC65 | exact zC0 | exact zC1 | exact zC32 | exact zC70 | exact zC73 | exact ztc (by assumption) | exact zdc (by assumption) | exact zpc (by assumption) | decide) only [Option.some.injEq, exists_eq_left', ex2, Option.toList, List.singleton_append, List.append_nil, List.cons_append, List.nil_append, nI_add, nI_addL, nI_Ladd, pk_mul, nI_mulL, nI_Lmul, nI_subL, pk_sub, nI_divL, sub_dm, nI_leE, nI_ltE, nI_eqE, nI_Lle, nI_leL, nI_Llt, nI_ltL, nI_eqL, va_up_self, va_up_ne, up_up, up_comm, nI_clamp, bI_eq0, not_true_eq_false, not_false_eq_true, Nat.reduceEqDiff, Nat.reduceLeDiff, Nat.reduceAdd, Nat.reduceMul, Nat.one_ne_zero, Nat.zero_ne_one, decide_eq_false_iff_not, decide_eq_true_eq, Bool.false_eq_true, decide_true, decide_false, bI_true, bI_false, one_ne, Nat.le_refl, Nat.lt_irrefl, cleT, cleF, cltT, cltF, ceqT, ceqF, ↓reduceIte, r233_47, r233_48, r233_49, r233_52, r233_53, r233_121, r233_122, r233_125, r233_127, r233_130, r233_132, r233_133, r233_136, r233_137, r233_138, r233_141, r233_143, r233_146, r233_148, r233_151, zO81_23, hL, sh1, oI, w0, w2, nm, b2]
end SH2
