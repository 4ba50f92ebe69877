/-! SHARES: the reference's tables -/
section GVN
variable {xs : Nat → Int32} {sl d : Nat} {J : hJk} {s x y : hS} {g : hG}
set_option maxHeartbeats 1000000 in
theorem rf_laysSigns {t0 n h L u t : Nat} (hT : rT s t0 n h) (hL : s 81 23 = nI L) (hL8 : L ≤ 8) (hu : u < h) (ht : t < n) : ∃ s' : hS, Runs xs sl (d+2) 235 0 [some (.ref (81)), some (.int ( nI u)), some (.int ( nI t)), none, none] [] (hp J (s) g) (none, hp J s' g) ∧ (∀ c, c ≠ 92 → c ≠ 95 → s' c = s c) ∧ ∀ set, set < 2 ^ L → s' 95 set = sg (eaF n (fun l t => s 88 (6 * l + t)) (s 82 (t0 + 13 + u)) set L (fun t => s 82 (t0 + 29 + 6 * u + t)) t) * s 82 (t0 + 5 + u) := by
  have hT' := hT
  obtain ⟨h12, ht0, h13, hn6, h14, hh8⟩ := hT'
  have p8 := pw8 hL8
  have u8 : u < 8 := by omega
  generalize hst : s 82 (t0 + 13 + u) = st
  generalize hV : (fun l t => s 88 (6 * l + t)) = V
  generalize hm0 : (fun t => s 82 (t0 + 29 + 6 * u + t)) = m0
  generalize hvo : s 82 (t0 + 5 + u) = vo
  have eV : ∀ l t, s 88 (6 * l + t) = V l t := fun l t => by rw [← hV]
  obtain ⟨s1, ⟨q1, q2⟩, q3⟩ := up_loop (Q := fun i (s1 : hS) => (∀ c, c ≠ 92 → c ≠ 95 → s1 c = s c) ∧ ∀ set, set < i → s1 95 set = sg (eaF n V st set L m0 t) * vo) (P := fun i (s1 : hS) (z : Option Value × mH) => ∀ l4, Runs xs sl (d+2) 235 2 [some (.ref (81)), some (.int ( nI u)), some (.int ( nI t)), some (.int ( nI i)), l4] [] (hp J (s1) g) z) (2 ^ L) (by
    intro set s1 hset hQ
    obtain ⟨i1, i2⟩ := hQ
    have f81 : s1 81 = s 81 := i1 81 (by decide) (by decide)
    have f82 : s1 82 = s 82 := i1 82 (by decide) (by decide)
    have hT1 : rT s1 t0 n h := rT_fr hT (by rw [f81]) (by rw [f81]) (by rw [f81])
    have g23 : s1 81 23 = nI L := by rw [f81]; exact hL
    have mf := @rf_mindsAtFirst xs sl (d + 1) J s1 g t0 n h u hT1 u8
    generalize hs2 : va_up s1 92 (va_cpy (fun t => s1 82 (t0 + 29 + 6 * u + t)) (s1 92) 0 (6 * u) 6) = s2 at mf
    have b0 : ∀ c, c ≠ 92 → s2 c = s1 c := fun c hc => by rw [← hs2, va_up_ne _ _ hc]
    have b1 : ∀ t, t < n → s2 92 (6 * u + t) = m0 t := by
      intro t ht
      rw [← hs2, va_up_self, pk_cpy_in (by omega) (by omega), show 0 + (6 * u + t - 6 * u) = t by omega, ← hm0, f82]
    obtain ⟨s3, ⟨w1, w2⟩, w3⟩ := up_loop (Q := fun l (s3 : hS) => (∀ c, c ≠ 92 → s3 c = s1 c) ∧ ∀ t, t < n → s3 92 (6 * u + t) = it (eaS n V st set) l m0 t) (P := fun l (s3 : hS) (z : Option Value × mH) => Runs xs sl (d+2) 235 20 [some (.ref (81)), some (.int ( nI u)), some (.int ( nI t)), some (.int ( nI set)), some (.int ( nI l))] [] (hp J (s3) g) z) L (by
      intro l s3 hl hQ2
      obtain ⟨k1, k2⟩ := hQ2
      have z81 : s3 81 = s 81 := (k1 81 (by decide)).trans f81
      have z82 : s3 82 = s 82 := (k1 82 (by decide)).trans f82
      have z88 : s3 88 = s 88 := (k1 88 (by decide)).trans (i1 88 (by decide) (by decide))
      have hT3 : rT s3 t0 n h := rT_fr hT (by rw [z81]) (by rw [z81]) (by rw [z81])
      have g3 : s3 81 23 = nI L := by rw [z81]; exact hL
      have l16 : l < 16 := by omega
      have ag := @rf_agrees xs sl (d + 1) J s3 g t0 n h u l hT3 u8 l16
      have eA : rAg s3 t0 n u l = agF n (it (eaS n V st set) l m0) (V l) st := by
        unfold rAg
        rw [z82, hst]
        exact agF_eq (fun t ht => k2 t ht) (fun t ht => by rw [z88]; exact eV l t)
      rw [eA] at ag
      have es : it (eaS n V st set) (l + 1) m0 = eaS n V st set l (it (eaS n V st set) l m0) := rfl
      have s31 : set < 2 ^ 31 := by omega
      cases c1 : set.testBit l
      · have e1 := tb0 c1
        refine ⟨s3, ⟨k1, fun t ht => ?_⟩, fun z hz => ?_⟩
        · rw [es, eaS, c1, Bool.false_and]
          exact k2 t ht
        · rw [r235_20]
          simp (disch := first | omega | assumption | exact Or.inl rfl | exact Or.inr rfl | exact bI_or _ | exact zC81 | exact zC47 | exact zC65 | exact zC0 | exact zC1 | exact zC32 | exact zC70 | exact zC73 | exact ztc (by assumption) | exact zdc (by assumption) | exact zpc (by assumption) | decide) only [Option.some.injEq, exists_eq_left', ex2, Option.toList, List.singleton_append, List.append_nil, List.cons_append, List.nil_append, nI_add, nI_addL, nI_Ladd, pk_mul, nI_mulL, nI_Lmul, nI_subL, pk_sub, nI_divL, sub_dm, nI_leE, nI_ltE, nI_eqE, nI_Lle, nI_leL, nI_Llt, nI_ltL, nI_eqL, va_up_self, va_up_ne, up_up, up_comm, nI_clamp, bI_eq0, not_true_eq_false, not_false_eq_true, Nat.reduceEqDiff, Nat.reduceLeDiff, Nat.reduceAdd, Nat.reduceMul, Nat.one_ne_zero, Nat.zero_ne_one, decide_eq_false_iff_not, decide_eq_true_eq, Bool.false_eq_true, decide_true, decide_false, bI_true, bI_false, one_ne, Nat.le_refl, Nat.lt_irrefl, cleT, cleF, cltT, cltF, ceqT, ceqF, ↓reduceIte, r235_22, r235_23, r235_26, r235_29, r235_30, r235_32, r235_33, r235_34, r235_35, r235_36, r235_39, r235_40, r235_41, r235_43, r235_46, r235_49, r235_50, r235_51, r235_53, r235_54, r235_57, r235_60, zO81_23, g3, bit_nI, e1]
          exact hz
      · have e1 := tb1 c1
        cases c2 : agF n (it (eaS n V st set) l m0) (V l) st
        · rw [c2] at ag
          refine ⟨s3, ⟨k1, fun t ht => ?_⟩, fun z hz => ?_⟩
          · rw [es, eaS, c1, c2, Bool.and_false]
            exact k2 t ht
          · rw [r235_20]
            simp (disch := first | omega | assumption | exact Or.inl rfl | exact Or.inr rfl | exact bI_or _ | exact zC81 | exact zC47 | exact zC65 | exact zC0 | exact zC1 | exact zC32 | exact zC70 | exact zC73 | exact ztc (by assumption) | exact zdc (by assumption) | exact zpc (by assumption) | decide) only [Option.some.injEq, exists_eq_left', ex2, Option.toList, List.singleton_append, List.append_nil, List.cons_append, List.nil_append, nI_add, nI_addL, nI_Ladd, pk_mul, nI_mulL, nI_Lmul, nI_subL, pk_sub, nI_divL, sub_dm, nI_leE, nI_ltE, nI_eqE, nI_Lle, nI_leL, nI_Llt, nI_ltL, nI_eqL, va_up_self, va_up_ne, up_up, up_comm, nI_clamp, bI_eq0, not_true_eq_false, not_false_eq_true, Nat.reduceEqDiff, Nat.reduceLeDiff, Nat.reduceAdd, Nat.reduceMul, Nat.one_ne_zero, Nat.zero_ne_one, decide_eq_false_iff_not, decide_eq_true_eq, Bool.false_eq_true, decide_true, decide_false, bI_true, bI_false, one_ne, Nat.le_refl, Nat.lt_irrefl, cleT, cleF, cltT, cltF, ceqT, ceqF, ↓reduceIte, r235_22, r235_23, r235_26, r235_29, r235_30, r235_32, r235_33, r235_34, r235_35, r235_36, r235_39, r235_40, r235_41, r235_43, r235_46, r235_49, r235_50, r235_51, r235_53, r235_54, r235_57, r235_60, zO81_23, g3, bit_nI, e1, ag]
            exact hz
        · rw [c2] at ag
          have ea := @rf_eats xs sl (d + 1) J s3 g t0 n h u l 1 hT3 u8 l16
          refine ⟨va_up s3 92 (va_cpy (fun t => nmF 1 (s3 92 (6 * u + t)) (s3 88 (6 * l + t))) (s3 92) 0 (6 * u) n), ⟨fun c hc => by rw [va_up_ne _ _ hc]; exact k1 c hc, fun t ht => ?_⟩, fun z hz => ?_⟩
          · rw [es, eaS, c1, c2, Bool.and_self, if_pos rfl, va_up_self, pk_cpy_in (by omega) (by omega), show 0 + (6 * u + t - 6 * u) = t by omega, k2 t ht, z88, eV]
          · rw [r235_20]
            simp (disch := first | omega | assumption | exact Or.inl rfl | exact Or.inr rfl | exact bI_or _ | exact zC81 | exact zC47 | exact zC65 | exact zC0 | exact zC1 | exact zC32 | exact zC70 | exact zC73 | exact ztc (by assumption) | exact zdc (by assumption) | exact zpc (by assumption) | decide) only [Option.some.injEq, exists_eq_left', ex2, Option.toList, List.singleton_append, List.append_nil, List.cons_append, List.nil_append, nI_add, nI_addL, nI_Ladd, pk_mul, nI_mulL, nI_Lmul, nI_subL, pk_sub, nI_divL, sub_dm, nI_leE, nI_ltE, nI_eqE, nI_Lle, nI_leL, nI_Llt, nI_ltL, nI_eqL, va_up_self, va_up_ne, up_up, up_comm, nI_clamp, bI_eq0, not_true_eq_false, not_false_eq_true, Nat.reduceEqDiff, Nat.reduceLeDiff, Nat.reduceAdd, Nat.reduceMul, Nat.one_ne_zero, Nat.zero_ne_one, decide_eq_false_iff_not, decide_eq_true_eq, Bool.false_eq_true, decide_true, decide_false, bI_true, bI_false, one_ne, Nat.le_refl, Nat.lt_irrefl, cleT, cleF, cltT, cltF, ceqT, ceqF, ↓reduceIte, r235_22, r235_23, r235_26, r235_29, r235_30, r235_32, r235_33, r235_34, r235_35, r235_36, r235_39, r235_40, r235_41, r235_43, r235_46, r235_49, r235_50, r235_51, r235_53, r235_54, r235_57, r235_60, zO81_23, g3, bit_nI, e1, ag, ea, Bool.true_eq_false]
            exact hz) s2 ⟨b0, b1⟩
    have x81 : s3 81 = s 81 := (w1 81 (by decide)).trans f81
    have x82 : s3 82 = s 82 := (w1 82 (by decide)).trans f82
    have hT3 : rT s3 t0 n h := rT_fr hT (by rw [x81]) (by rw [x81]) (by rw [x81])
    have g3 : s3 81 23 = nI L := by rw [x81]; exact hL
    have vo' := @rf_votes xs sl (d + 1) J s3 g t0 n h u hT3 u8
    rw [x82, hvo] at vo'
    have wt := w2 t ht
    refine ⟨va_up s3 95 (va_up (s3 95) set (sg (eaF n V st set L m0 t) * vo)), ⟨fun c h1 h2 => by rw [va_up_ne _ _ h2, w1 c h1]; exact i1 c h1 h2, fun set' hs' => ?_⟩, fun z hz l4 => ?_⟩
    · rw [va_up_self]
      by_cases e : set' = set
      · subst e
        rw [va_up_self]
      · rw [va_up_ne _ _ e, w1 95 (by decide)]
        exact i2 set' (by omega)
    · rw [r235_2]
      simp (disch := first | omega | assumption | exact Or.inl rfl | exact Or.inr rfl | exact bI_or _ | exact zC81 | exact zC47 | exact zC65 | exact zC0 | exact zC1 | exact zC32 | exact zC70 | exact zC73 | exact ztc (by assumption) | exact zdc (by assumption) | exact zpc (by assumption) | decide) only [Option.some.injEq, exists_eq_left', ex2, Option.toList, List.singleton_append, List.append_nil, List.cons_append, List.nil_append, nI_add, nI_addL, nI_Ladd, pk_mul, nI_mulL, nI_Lmul, nI_subL, pk_sub, nI_divL, sub_dm, nI_leE, nI_ltE, nI_eqE, nI_Lle, nI_leL, nI_Llt, nI_ltL, nI_eqL, va_up_self, va_up_ne, up_up, up_comm, nI_clamp, bI_eq0, not_true_eq_false, not_false_eq_true, Nat.reduceEqDiff, Nat.reduceLeDiff, Nat.reduceAdd, Nat.reduceMul, Nat.one_ne_zero, Nat.zero_ne_one, decide_eq_false_iff_not, decide_eq_true_eq, Bool.false_eq_true, decide_true, decide_false, bI_true, bI_false, one_ne, Nat.le_refl, Nat.lt_irrefl, cleT, cleF, cltT, cltF, ceqT, ceqF, ↓reduceIte, r235_3, r235_4, r235_5, r235_8, r235_9, r235_12, r235_13, r235_14, r235_17, r235_18, zO81_23, g23, sh1, mf]
      refine w3 z ?_
      rw [r235_20]
      simp (disch := first | omega | assumption | exact Or.inl rfl | exact Or.inr rfl | exact bI_or _ | exact zC81 | exact zC47 | exact zC65 | exact zC0 | exact zC1 | exact zC32 | exact zC70 | exact zC73 | exact ztc (by assumption) | exact zdc (by assumption) | exact zpc (by assumption) | decide) only [Option.some.injEq, exists_eq_left', ex2, Option.toList, List.singleton_append, List.append_nil, List.cons_append, List.nil_append, nI_add, nI_addL, nI_Ladd, pk_mul, nI_mulL, nI_Lmul, nI_subL, pk_sub, nI_divL, sub_dm, nI_leE, nI_ltE, nI_eqE, nI_Lle, nI_leL, nI_Llt, nI_ltL, nI_eqL, va_up_self, va_up_ne, up_up, up_comm, nI_clamp, bI_eq0, not_true_eq_false, not_false_eq_true, Nat.reduceEqDiff, Nat.reduceLeDiff, Nat.reduceAdd, Nat.reduceMul, Nat.one_ne_zero, Nat.zero_ne_one, decide_eq_false_iff_not, decide_eq_true_eq, Bool.false_eq_true, decide_true, decide_false, bI_true, bI_false, one_ne, Nat.le_refl, Nat.lt_irrefl, cleT, cleF, cltT, cltF, ceqT, ceqF, ↓reduceIte, r235_22, r235_23, r235_26, r235_63, r235_64, r235_67, r235_68, r235_69, r235_72, r235_74, r235_75, r235_76, r235_77, r235_78, r235_79, r235_82, r235_83, r235_84, r235_87, r235_88, r235_89, r235_92, zO81_22, zO81_23, zO81_29, g3, zL92, zA92, zS92, zL95, zA95, zS95, rf_signOf, vo', wt]
      exact hz _) s ⟨fun c _ _ => rfl, fun set hs => absurd hs (by omega)⟩
  refine ⟨s1, ?_, q1, q2⟩
  simp (disch := first | omega | assumption | exact Or.inl rfl | exact Or.inr rfl | exact bI_or _ | exact zC81 | exact zC47 | exact zC65 | exact zC0 | exact zC1 | exact zC32 | exact zC70 | exact zC73 | exact ztc (by assumption) | exact zdc (by assumption) | exact zpc (by assumption) | decide) only [Option.some.injEq, exists_eq_left', ex2, Option.toList, List.singleton_append, List.append_nil, List.cons_append, List.nil_append, nI_add, nI_addL, nI_Ladd, pk_mul, nI_mulL, nI_Lmul, nI_subL, pk_sub, nI_divL, sub_dm, nI_leE, nI_ltE, nI_eqE, nI_Lle, nI_leL, nI_Llt, nI_ltL, nI_eqL, va_up_self, va_up_ne, up_up, up_comm, nI_clamp, bI_eq0, not_true_eq_false, not_false_eq_true, Nat.reduceEqDiff, Nat.reduceLeDiff, Nat.reduceAdd, Nat.reduceMul, Nat.one_ne_zero, Nat.zero_ne_one, decide_eq_false_iff_not, decide_eq_true_eq, Bool.false_eq_true, decide_true, decide_false, bI_true, bI_false, one_ne, Nat.le_refl, Nat.lt_irrefl, cleT, cleF, cltT, cltF, ceqT, ceqF, ↓reduceIte, r235_0, r235_1]
  refine q3 _ ?_ none
  intro l4
  have g23 : s1 81 23 = nI L := by rw [q1 81 (by decide) (by decide)]; exact hL
  rw [r235_2]
  simp (disch := first | omega | assumption | exact Or.inl rfl | exact Or.inr rfl | exact bI_or _ | exact zC81 | exact zC47 | exact zC65 | exact zC0 | exact zC1 | exact zC32 | exact zC70 | exact zC73 | exact ztc (by assumption) | exact zdc (by assumption) | exact zpc (by assumption) | decide) only [Option.some.injEq, exists_eq_left', ex2, Option.toList, List.singleton_append, List.append_nil, List.cons_append, List.nil_append, nI_add, nI_addL, nI_Ladd, pk_mul, nI_mulL, nI_Lmul, nI_subL, pk_sub, nI_divL, sub_dm, nI_leE, nI_ltE, nI_eqE, nI_Lle, nI_leL, nI_Llt, nI_ltL, nI_eqL, va_up_self, va_up_ne, up_up, up_comm, nI_clamp, bI_eq0, not_true_eq_false, not_false_eq_true, Nat.reduceEqDiff, Nat.reduceLeDiff, Nat.reduceAdd, Nat.reduceMul, Nat.one_ne_zero, Nat.zero_ne_one, decide_eq_false_iff_not, decide_eq_true_eq, Bool.false_eq_true, decide_true, decide_false, bI_true, bI_false, one_ne, Nat.le_refl, Nat.lt_irrefl, cleT, cleF, cltT, cltF, ceqT, ceqF, ↓reduceIte, r235_3, r235_4, r235_5, r235_8, r235_9, r235_95, zO81_23, g23, sh1]
theorem rf_gInner {t0 n h set : Nat} {l1 l2 : Option Value} {z : Option Value × mH} (hset : set < 256) : ∀ k p am, p < k → p ≤ set → p &&& set = p → (∀ l4 l6, Runs xs sl (d) 234 163 [some (.ref (81)), l1, l2, some (.int ( nI set)), l4, some (.int ( 0)), l6] [] (hp J (va_up s 94 (va_up (s 94) set (subF (fR (s 93) (s 95) set) set k p am))) g) z) → ∀ l6, Runs xs sl (d) 234 79 [some (.ref (81)), l1, l2, some (.int ( nI set)), some (.int ( nI p)), some (.int ( 1)), l6] [] (hp J (va_up s 94 (va_up (s 94) set am)) g) z := by
  intro k
  induction k with
  | zero => exact fun p am hk => absurd hk (by omega)
  | succ k ih =>
    intro p am hk hps hsub hz l6
    rw [r234_79]
    have e := not_sub0 set hset p (by omega) hsub
    have hz' : ∀ l4 l6, Runs xs sl (d) 234 163 [some (.ref (81)), l1, l2, some (.int ( nI set)), l4, some (.int ( 0)), l6] [] (hp J (va_up s 94 (va_up (s 94) set (if p = 0 then fR (s 93) (s 95) set am 0 else subF (fR (s 93) (s 95) set) set k ((p - 1) &&& set) (fR (s 93) (s 95) set am p)))) g) z := hz
    have key : ∀ (am' : Int32), fR (s 93) (s 95) set am p = am' → (∀ l6, Runs xs sl (d) 234 140 [some (.ref (81)), l1, l2, some (.int ( nI set)), some (.int ( nI p)), some (.int ( 1)), l6] [] (hp J (va_up s 94 (va_up (s 94) set am')) g) z) := by
      intro am' he l6
      by_cases c : p = 0
      · subst c
        rw [if_pos rfl, he] at hz'
        simp (disch := first | omega | assumption) only [r234_140, r234_142, r234_145, r234_146, r234_149, r234_150, r234_152, r234_154, r234_155, r234_156, r234_157, r234_158, r234_160, nI_eqL, ceqT, ↓reduceIte]
        rw [r234_79]
        simp (disch := first | omega | assumption) only [r234_81, ↓reduceIte]
        exact hz' _ _
      · rw [if_neg c, he] at hz'
        have nx := ih ((p - 1) &&& set) am' (Nat.lt_of_le_of_lt Nat.and_le_left (by omega)) Nat.and_le_right (by rw [Nat.and_assoc, Nat.and_self]) hz'
        simp (disch := first | omega | assumption) only [r234_140, r234_142, r234_145, r234_146, r234_149, r234_150, r234_152, r234_154, r234_155, r234_156, r234_157, r234_158, r234_160, nI_eqL, ceqF, nI_subL, and_nI, ↓reduceIte]
        exact nx _
    by_cases c1 : s 93 (set - p) = -1000
    · have k1 := key am (by unfold fR; rw [if_pos c1])
      have c1' := eq_true c1
      simp (disch := first | omega | assumption | exact zC81) only [r234_81, r234_84, r234_85, r234_88, r234_89, r234_91, r234_92, r234_93, r234_94, r234_95, r234_97, r234_99, r234_102, zO81_27, e, zA93, va_up_ne, ne_eq, Nat.reduceEqDiff, not_false_eq_true, c1', one_ne, Option.some.injEq, exists_eq_left', ↓reduceIte]
      exact k1 _
    · by_cases c2 : s 93 (set - p) + s 95 p ≤ am
      · have k1 := key am (by unfold fR; rw [if_neg c1, if_pos c2])
        simp (disch := first | omega | assumption | exact zC81) only [r234_81, r234_84, r234_85, r234_88, r234_89, r234_91, r234_92, r234_93, r234_94, r234_95, r234_97, r234_99, r234_102, r234_105, r234_107, r234_108, r234_111, r234_113, r234_114, r234_115, r234_116, r234_119, r234_120, r234_121, zO81_27, zO81_28, zO81_29, e, zA93, zA94, zA95, va_up_self, va_up_ne, ne_eq, Nat.reduceEqDiff, not_false_eq_true, c1, c2, one_ne, Option.some.injEq, exists_eq_left', ↓reduceIte]
        exact k1 _
      · have k1 := key (s 93 (set - p) + s 95 p) (by unfold fR; rw [if_neg c1, if_neg c2])
        simp (disch := first | omega | assumption | exact zC81) only [r234_81, r234_84, r234_85, r234_88, r234_89, r234_91, r234_92, r234_93, r234_94, r234_95, r234_97, r234_99, r234_102, r234_105, r234_107, r234_108, r234_111, r234_113, r234_114, r234_115, r234_116, r234_119, r234_120, r234_121, r234_124, r234_125, r234_128, r234_129, r234_131, r234_132, r234_135, r234_137, r234_138, r234_139, zO81_27, zO81_28, zO81_29, e, zA93, zA94, zA95, zS94, va_up_self, va_up_ne, up_up, ne_eq, Nat.reduceEqDiff, not_false_eq_true, c1, c2, one_ne, Option.some.injEq, exists_eq_left', ↓reduceIte]
        exact k1 _
end GVN
