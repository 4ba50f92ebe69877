/-! END and FEED, alike; what is told stays when other cells change -/
section TAP
variable {xs : Nat → Int32} {sl d : Nat} {J : hJk} {s x y : hS} {g : hG}
theorem TownQ_fr {C C' : hS} {R R' : Nat → Int32} {a t0 n li h sa c : Nat} (h1 : ∀ j, j < 8 → C' (a + j) = C (a + j)) (h2 : ∀ i, i < 129 → R' (t0 + i) = R (t0 + i)) (hQ : TownQ C R a t0 n li h sa c) : TownQ C' R' a t0 n li h sa c := by
  obtain ⟨⟨a1, a2, a3, a4⟩, ⟨b1, b2, b3⟩, ⟨d1, d2, d3⟩, ⟨e1, e2, e3⟩, ⟨f1, f2, f3⟩, g1, g2, g3, g4, g5, g6⟩ := hQ
  have k0 : C' a = C a := h1 0 (by omega)
  refine ⟨⟨by rw [k0]; exact a1, (h2 0 (by omega)).trans a2, a3, a4⟩, ⟨by rw [k0]; exact b1, (h2 1 (by omega)).trans b2, b3⟩, ⟨by rw [k0]; exact d1, (h2 2 (by omega)).trans d2, d3⟩, ⟨by rw [k0]; exact e1, (h2 3 (by omega)).trans e2, e3⟩, ⟨by rw [k0]; exact f1, (h2 4 (by omega)).trans f2, f3⟩, fun u hu => ?_, fun u hu => ?_, fun u hu => ?_, fun i hi => ?_, fun i hi => ?_, fun i hi => ?_⟩
  · obtain ⟨k, q1, q2, q3, q4⟩ := g1 u hu
    refine ⟨k, q1, q2, by rw [h1 1 (by omega)]; exact q3, ?_⟩
    rw [Nat.add_assoc, h2 (5 + u) (by omega), ← Nat.add_assoc]
    exact q4
  · obtain ⟨k, q1, q3, q4⟩ := g2 u hu
    refine ⟨k, q1, by rw [h1 2 (by omega)]; exact q3, ?_⟩
    rw [Nat.add_assoc, h2 (13 + u) (by omega), ← Nat.add_assoc]
    exact q4
  · obtain ⟨k, q1, q3, q4⟩ := g3 u hu
    refine ⟨k, q1, by rw [h1 3 (by omega)]; exact q3, ?_⟩
    rw [Nat.add_assoc, h2 (21 + u) (by omega), ← Nat.add_assoc]
    exact q4
  · obtain ⟨q1, q2⟩ := g4 i hi
    rw [h1 4 (by omega), Nat.add_assoc, h2 (29 + i) (by omega), ← Nat.add_assoc]
    exact ⟨q1, q2⟩
  · obtain ⟨o, t, q1, q2, q3, q4, q5, q6, q7, q8⟩ := g5 i hi
    have r0 := h2 (77 + 3 * i) (by omega)
    have r1 := h2 (77 + 3 * i + 1) (by omega)
    have r2 := h2 (77 + 3 * i + 2) (by omega)
    rw [← Nat.add_assoc] at r0
    rw [← Nat.add_assoc, ← Nat.add_assoc] at r1 r2
    refine ⟨o, t, q1, q2, ?_⟩
    rw [h1 5 (by omega), r0, r1, r2]
    exact ⟨q3, q4, q5, q6, q7, q8⟩
  · obtain ⟨k, o, q1, q2, q3, q4, q5, q6⟩ := g6 i hi
    have r0 := h2 (113 + 2 * i) (by omega)
    have r1 := h2 (113 + 2 * i + 1) (by omega)
    rw [← Nat.add_assoc] at r0
    rw [← Nat.add_assoc, ← Nat.add_assoc] at r1
    refine ⟨k, o, q1, q2, ?_⟩
    rw [h1 6 (by omega), h1 7 (by omega), r0, r1]
    exact ⟨q3, q4, q5, q6⟩
theorem DaysQ_fr {C C' : hS} {R R' : Nat → Int32} {e d0 D : Nat} (h1 : C' e = C e) (h2 : C' (e + 1) = C (e + 1)) (h3 : ∀ i, i < 161 → R' (d0 + i) = R (d0 + i)) (hD : DaysQ C R e d0 D) : DaysQ C' R' e d0 D := by
  obtain ⟨⟨a1, a2, a3⟩, b, c⟩ := hD
  refine ⟨⟨by rw [h1]; exact a1, (h3 0 (by omega)).trans a2, a3⟩, fun i hi => ?_, by rw [h2]; exact c⟩
  rw [h2, Nat.add_assoc, h3 (1 + i) (by omega), ← Nat.add_assoc]
  exact b i hi
theorem PlateQ_fr {C C' : hS} {R R' : Nat → Int32} {p c0 n li c : Nat} (h1 : C' p = C p) (h2 : C' (p + 1) = C (p + 1)) (h3 : ∀ i, i < 39 → R' (c0 + i) = R (c0 + i)) (hP : PlateQ C R p c0 n li c) : PlateQ C' R' p c0 n li c := by
  obtain ⟨⟨a1, a2, a3⟩, ⟨b1, b2, b3⟩, ⟨d1, d2, d3⟩, e, f⟩ := hP
  refine ⟨⟨by rw [h1]; exact a1, (h3 0 (by omega)).trans a2, a3⟩, ⟨by rw [h1]; exact b1, (h3 1 (by omega)).trans b2, b3⟩, ⟨by rw [h1]; exact d1, (h3 2 (by omega)).trans d2, d3⟩, fun i hi => ?_, by rw [h2]; exact f⟩
  rw [h2, Nat.add_assoc, h3 (3 + i) (by omega), ← Nat.add_assoc]
  exact e i hi
/-- counts, towns, days, plates stay; the tape and the fault are new -/
theorem ToldR_fr {C C' : hS} {R R' : Nat → Int32} (h : ToldR C R) (h1 : ∀ c, c = 5 ∨ 7 ≤ c ∧ c < 31 → C' c = C c) (h2 : ∀ i, i < 3 ∨ 610 ≤ i ∧ i < 1268 → R' i = R i) {len : Nat} (e1 : C' 1 5 = nI len) (e2 : R' 4 = nI len) (e3 : len ≤ 600) (e4 : C' 1 6 = R' 5) (e5 : C' 1 7 = R' 6) (e6 : ∀ i, i < len → byR (C' 6 i) (R' (10 + i))) : ToldR C' R' := by
  obtain ⟨c0, c1, c2, l0, ⟨q0, q0', q0''⟩, ⟨r0, r0', r0''⟩, ⟨p0, p0', p0''⟩, -, -, -, hT, hD, hP⟩ := h
  have k5 := h1 5 (Or.inl rfl)
  refine ⟨c0, c1, c2, len, ⟨by rw [k5]; exact q0, (h2 0 (by omega)).trans q0', q0''⟩, ⟨by rw [k5]; exact r0, (h2 1 (by omega)).trans r0', r0''⟩, ⟨by rw [k5]; exact p0, (h2 2 (by omega)).trans p0', p0''⟩, ⟨e1, e2, e3⟩, ⟨e4, e5⟩, e6, fun k hk => ?_, fun k hk => ?_, fun k hk => ?_⟩
  · obtain ⟨n, li, h, sa, c, hQ⟩ := hT k hk
    exact ⟨n, li, h, sa, c, TownQ_fr (fun j hj => h1 _ (by omega)) (fun i hi => h2 _ (by omega)) hQ⟩
  · obtain ⟨D, hQ⟩ := hD k hk
    exact ⟨D, DaysQ_fr (h1 _ (by omega)) (h1 _ (by omega)) (fun i hi => h2 _ (by omega)) hQ⟩
  · obtain ⟨n, li, c, hQ⟩ := hP k hk
    exact ⟨n, li, c, PlateQ_fr (h1 _ (by omega)) (h1 _ (by omega)) (fun i hi => h2 _ (by omega)) hQ⟩
/-- the whole tape is bytes -/
def BY (s : hS) : Prop := ∀ i, i < 600 → fits .byte (.int (s 6 i)) = true
/-- both answer alike, and what is told is told anew -/
def StepT (xs : Nat → Int32) (sl : Nat) (J : hJk) (s : hS) (g : hG) (M M' : Nat) (L L' : mL) : Prop := ∃ (v : Value) (x y : hS) (g' : hG), Runs xs sl 999 M 0 L [] (hp J s g) (some v, hp J x g) ∧ Runs xs sl 999 M' 0 L' [] (hp J x g) (some v, hp J y g') ∧ ToldR y (y 82) ∧ (∀ i, 1268 ≤ i → y 82 i = s 82 i) ∧ y 83 = s 83 ∧ y 99 = s 99 ∧ y 81 34 = s 81 34 ∧ y 73 = s 73 ∧ (BY s → BY y)
theorem pm_end (hI : ToldR s (s 82)) (n : Int32) : StepT xs sl J s g 3 171 [some (.ref 0), some (.int n)] [some (.ref 81), some (.int n)] := by
  have hI' := hI
  obtain ⟨c0, c1, c2, len, -, -, -, ⟨l1, l2, l3⟩, ⟨f1, f2⟩, hB, -⟩ := hI'
  rcases has_cases n (n := len + 1) (by omega) with h | ⟨N, hN, rfl⟩
  · refine ⟨.int (-1), s, s, g, ?_, ?_, hI, fun i _ => rfl, rfl, rfl, rfl, rfl, id⟩
    · rcases has_none h with q | ⟨q1, q2⟩
      · simp (disch := first | omega | assumption | exact Or.inl rfl | exact Or.inr rfl | exact bI_or _ | exact zC81 | exact zC47 | exact zC65 | exact zC0 | exact zC1 | exact zC32 | exact zC70 | exact zC73 | exact ztc (by assumption) | exact zdc (by assumption) | exact zpc (by assumption) | decide) only [Option.some.injEq, exists_eq_left', ex2, Option.toList, List.singleton_append, List.append_nil, List.cons_append, List.nil_append, nI_add, nI_addL, nI_Ladd, pk_mul, nI_mulL, nI_Lmul, nI_subL, pk_sub, nI_divL, sub_dm, nI_leE, nI_ltE, nI_eqE, nI_Lle, nI_leL, nI_Llt, nI_ltL, nI_eqL, va_up_self, va_up_ne, up_up, up_comm, nI_clamp, bI_eq0, not_true_eq_false, not_false_eq_true, Nat.reduceEqDiff, Nat.reduceLeDiff, Nat.reduceAdd, Nat.reduceMul, Nat.one_ne_zero, Nat.zero_ne_one, decide_eq_false_iff_not, decide_eq_true_eq, Bool.false_eq_true, decide_true, decide_false, bI_true, bI_false, one_ne, Nat.le_refl, Nat.lt_irrefl, cleT, cleF, cltT, cltF, ceqT, ceqF, ↓reduceIte, r3_0, r3_1, r3_4, r3_5, r3_6, r3_9, r3_12, r3_15, r3_16, r3_17, r3_18, r3_21, r3_22, r3_25, r3_26, q]
      · have q3 : ¬ n ≤ nI len := by
          rw [Int32.le_iff_toInt_le, nI_toInt (by omega)] at q2 ⊢
          omega
        simp (disch := first | omega | assumption | exact Or.inl rfl | exact Or.inr rfl | exact bI_or _ | exact zC81 | exact zC47 | exact zC65 | exact zC0 | exact zC1 | exact zC32 | exact zC70 | exact zC73 | exact ztc (by assumption) | exact zdc (by assumption) | exact zpc (by assumption) | decide) only [Option.some.injEq, exists_eq_left', ex2, Option.toList, List.singleton_append, List.append_nil, List.cons_append, List.nil_append, nI_add, nI_addL, nI_Ladd, pk_mul, nI_mulL, nI_Lmul, nI_subL, pk_sub, nI_divL, sub_dm, nI_leE, nI_ltE, nI_eqE, nI_Lle, nI_leL, nI_Llt, nI_ltL, nI_eqL, va_up_self, va_up_ne, up_up, up_comm, nI_clamp, bI_eq0, not_true_eq_false, not_false_eq_true, Nat.reduceEqDiff, Nat.reduceLeDiff, Nat.reduceAdd, Nat.reduceMul, Nat.one_ne_zero, Nat.zero_ne_one, decide_eq_false_iff_not, decide_eq_true_eq, Bool.false_eq_true, decide_true, decide_false, bI_true, bI_false, one_ne, Nat.le_refl, Nat.lt_irrefl, cleT, cleF, cltT, cltF, ceqT, ceqF, ↓reduceIte, r3_0, r3_1, r3_4, r3_5, r3_6, r3_9, r3_12, r3_15, r3_16, r3_17, r3_18, r3_21, r3_22, r3_25, r3_26, zO0_0, zO1_5, l1, q1, q3]
    · rcases has_none h with q | ⟨q1, q2⟩
      · simp (disch := first | omega | assumption | exact Or.inl rfl | exact Or.inr rfl | exact bI_or _ | exact zC81 | exact zC47 | exact zC65 | exact zC0 | exact zC1 | exact zC32 | exact zC70 | exact zC73 | exact ztc (by assumption) | exact zdc (by assumption) | exact zpc (by assumption) | decide) only [Option.some.injEq, exists_eq_left', ex2, Option.toList, List.singleton_append, List.append_nil, List.cons_append, List.nil_append, nI_add, nI_addL, nI_Ladd, pk_mul, nI_mulL, nI_Lmul, nI_subL, pk_sub, nI_divL, sub_dm, nI_leE, nI_ltE, nI_eqE, nI_Lle, nI_leL, nI_Llt, nI_ltL, nI_eqL, va_up_self, va_up_ne, up_up, up_comm, nI_clamp, bI_eq0, not_true_eq_false, not_false_eq_true, Nat.reduceEqDiff, Nat.reduceLeDiff, Nat.reduceAdd, Nat.reduceMul, Nat.one_ne_zero, Nat.zero_ne_one, decide_eq_false_iff_not, decide_eq_true_eq, Bool.false_eq_true, decide_true, decide_false, bI_true, bI_false, one_ne, Nat.le_refl, Nat.lt_irrefl, cleT, cleF, cltT, cltF, ceqT, ceqF, ↓reduceIte, r171_0, r171_1, r171_4, r171_5, r171_6, r171_9, r171_10, r171_11, r171_14, r171_15, r171_16, r171_17, r171_20, r171_21, r171_22, r171_23, r171_24, q]
      · have q3 : ¬ n ≤ nI len := by
          rw [Int32.le_iff_toInt_le, nI_toInt (by omega)] at q2 ⊢
          omega
        simp (disch := first | omega | assumption | exact Or.inl rfl | exact Or.inr rfl | exact bI_or _ | exact zC81 | exact zC47 | exact zC65 | exact zC0 | exact zC1 | exact zC32 | exact zC70 | exact zC73 | exact ztc (by assumption) | exact zdc (by assumption) | exact zpc (by assumption) | decide) only [Option.some.injEq, exists_eq_left', ex2, Option.toList, List.singleton_append, List.append_nil, List.cons_append, List.nil_append, nI_add, nI_addL, nI_Ladd, pk_mul, nI_mulL, nI_Lmul, nI_subL, pk_sub, nI_divL, sub_dm, nI_leE, nI_ltE, nI_eqE, nI_Lle, nI_leL, nI_Llt, nI_ltL, nI_eqL, va_up_self, va_up_ne, up_up, up_comm, nI_clamp, bI_eq0, not_true_eq_false, not_false_eq_true, Nat.reduceEqDiff, Nat.reduceLeDiff, Nat.reduceAdd, Nat.reduceMul, Nat.one_ne_zero, Nat.zero_ne_one, decide_eq_false_iff_not, decide_eq_true_eq, Bool.false_eq_true, decide_true, decide_false, bI_true, bI_false, one_ne, Nat.le_refl, Nat.lt_irrefl, cleT, cleF, cltT, cltF, ceqT, ceqF, ↓reduceIte, r171_0, r171_1, r171_4, r171_5, r171_6, r171_9, r171_10, r171_11, r171_14, r171_15, r171_16, r171_17, r171_20, r171_21, r171_22, r171_23, r171_24, zO81_0, zA82L, l2, q1, q3]
  · refine ⟨.int (nI N), va_up s 1 (va_up (s 1) 5 (nI N)), va_up (va_up s 1 (va_up (s 1) 5 (nI N))) 82 (va_up (s 82) 4 (nI N)), g, ?_, ?_, ?_, fun i hi => ?_, ?_, ?_, ?_, ?_, fun hb i hi => by rw [va_up_ne _ _ (by decide), va_up_ne _ _ (by decide)]; exact hb i hi⟩
    · simp (disch := first | omega | assumption | exact Or.inl rfl | exact Or.inr rfl | exact bI_or _ | exact zC81 | exact zC47 | exact zC65 | exact zC0 | exact zC1 | exact zC32 | exact zC70 | exact zC73 | exact ztc (by assumption) | exact zdc (by assumption) | exact zpc (by assumption) | decide) only [Option.some.injEq, exists_eq_left', ex2, Option.toList, List.singleton_append, List.append_nil, List.cons_append, List.nil_append, nI_add, nI_addL, nI_Ladd, pk_mul, nI_mulL, nI_Lmul, nI_subL, pk_sub, nI_divL, sub_dm, nI_leE, nI_ltE, nI_eqE, nI_Lle, nI_leL, nI_Llt, nI_ltL, nI_eqL, va_up_self, va_up_ne, up_up, up_comm, nI_clamp, bI_eq0, not_true_eq_false, not_false_eq_true, Nat.reduceEqDiff, Nat.reduceLeDiff, Nat.reduceAdd, Nat.reduceMul, Nat.one_ne_zero, Nat.zero_ne_one, decide_eq_false_iff_not, decide_eq_true_eq, Bool.false_eq_true, decide_true, decide_false, bI_true, bI_false, one_ne, Nat.le_refl, Nat.lt_irrefl, cleT, cleF, cltT, cltF, ceqT, ceqF, ↓reduceIte, r3_0, r3_1, r3_4, r3_5, r3_6, r3_9, r3_12, r3_15, r3_16, r3_17, r3_18, r3_21, r3_22, r3_25, r3_26, zO0_0, zO1_5, zW1_5, l1]
    · simp (disch := first | omega | assumption | exact Or.inl rfl | exact Or.inr rfl | exact bI_or _ | exact zC81 | exact zC47 | exact zC65 | exact zC0 | exact zC1 | exact zC32 | exact zC70 | exact zC73 | exact ztc (by assumption) | exact zdc (by assumption) | exact zpc (by assumption) | decide) only [Option.some.injEq, exists_eq_left', ex2, Option.toList, List.singleton_append, List.append_nil, List.cons_append, List.nil_append, nI_add, nI_addL, nI_Ladd, pk_mul, nI_mulL, nI_Lmul, nI_subL, pk_sub, nI_divL, sub_dm, nI_leE, nI_ltE, nI_eqE, nI_Lle, nI_leL, nI_Llt, nI_ltL, nI_eqL, va_up_self, va_up_ne, up_up, up_comm, nI_clamp, bI_eq0, not_true_eq_false, not_false_eq_true, Nat.reduceEqDiff, Nat.reduceLeDiff, Nat.reduceAdd, Nat.reduceMul, Nat.one_ne_zero, Nat.zero_ne_one, decide_eq_false_iff_not, decide_eq_true_eq, Bool.false_eq_true, decide_true, decide_false, bI_true, bI_false, one_ne, Nat.le_refl, Nat.lt_irrefl, cleT, cleF, cltT, cltF, ceqT, ceqF, ↓reduceIte, r171_0, r171_1, r171_4, r171_5, r171_6, r171_9, r171_10, r171_11, r171_14, r171_15, r171_16, r171_17, r171_20, r171_21, r171_22, r171_23, r171_24, zO81_0, zA82L, zS82L, l2]
    · refine ToldR_fr (len := N) hI (fun c hc => ?_) (fun i hi => ?_) ?_ ?_ (by omega) ?_ ?_ (fun i hi => ?_)
      · simp (disch := first | omega | assumption | exact Or.inl rfl | exact Or.inr rfl | exact bI_or _ | exact zC81 | exact zC47 | exact zC65 | exact zC0 | exact zC1 | exact zC32 | exact zC70 | exact zC73 | exact ztc (by assumption) | exact zdc (by assumption) | exact zpc (by assumption) | decide) only [Option.some.injEq, exists_eq_left', ex2, Option.toList, List.singleton_append, List.append_nil, List.cons_append, List.nil_append, nI_add, nI_addL, nI_Ladd, pk_mul, nI_mulL, nI_Lmul, nI_subL, pk_sub, nI_divL, sub_dm, nI_leE, nI_ltE, nI_eqE, nI_Lle, nI_leL, nI_Llt, nI_ltL, nI_eqL, va_up_self, va_up_ne, up_up, up_comm, nI_clamp, bI_eq0, not_true_eq_false, not_false_eq_true, Nat.reduceEqDiff, Nat.reduceLeDiff, Nat.reduceAdd, Nat.reduceMul, Nat.one_ne_zero, Nat.zero_ne_one, decide_eq_false_iff_not, decide_eq_true_eq, Bool.false_eq_true, decide_true, decide_false, bI_true, bI_false, one_ne, Nat.le_refl, Nat.lt_irrefl, cleT, cleF, cltT, cltF, ceqT, ceqF, ↓reduceIte]
      · simp (disch := first | omega | assumption | exact Or.inl rfl | exact Or.inr rfl | exact bI_or _ | exact zC81 | exact zC47 | exact zC65 | exact zC0 | exact zC1 | exact zC32 | exact zC70 | exact zC73 | exact ztc (by assumption) | exact zdc (by assumption) | exact zpc (by assumption) | decide) only [Option.some.injEq, exists_eq_left', ex2, Option.toList, List.singleton_append, List.append_nil, List.cons_append, List.nil_append, nI_add, nI_addL, nI_Ladd, pk_mul, nI_mulL, nI_Lmul, nI_subL, pk_sub, nI_divL, sub_dm, nI_leE, nI_ltE, nI_eqE, nI_Lle, nI_leL, nI_Llt, nI_ltL, nI_eqL, va_up_self, va_up_ne, up_up, up_comm, nI_clamp, bI_eq0, not_true_eq_false, not_false_eq_true, Nat.reduceEqDiff, Nat.reduceLeDiff, Nat.reduceAdd, Nat.reduceMul, Nat.one_ne_zero, Nat.zero_ne_one, decide_eq_false_iff_not, decide_eq_true_eq, Bool.false_eq_true, decide_true, decide_false, bI_true, bI_false, one_ne, Nat.le_refl, Nat.lt_irrefl, cleT, cleF, cltT, cltF, ceqT, ceqF, ↓reduceIte]
      · simp (disch := first | omega | assumption | exact Or.inl rfl | exact Or.inr rfl | exact bI_or _ | exact zC81 | exact zC47 | exact zC65 | exact zC0 | exact zC1 | exact zC32 | exact zC70 | exact zC73 | exact ztc (by assumption) | exact zdc (by assumption) | exact zpc (by assumption) | decide) only [Option.some.injEq, exists_eq_left', ex2, Option.toList, List.singleton_append, List.append_nil, List.cons_append, List.nil_append, nI_add, nI_addL, nI_Ladd, pk_mul, nI_mulL, nI_Lmul, nI_subL, pk_sub, nI_divL, sub_dm, nI_leE, nI_ltE, nI_eqE, nI_Lle, nI_leL, nI_Llt, nI_ltL, nI_eqL, va_up_self, va_up_ne, up_up, up_comm, nI_clamp, bI_eq0, not_true_eq_false, not_false_eq_true, Nat.reduceEqDiff, Nat.reduceLeDiff, Nat.reduceAdd, Nat.reduceMul, Nat.one_ne_zero, Nat.zero_ne_one, decide_eq_false_iff_not, decide_eq_true_eq, Bool.false_eq_true, decide_true, decide_false, bI_true, bI_false, one_ne, Nat.le_refl, Nat.lt_irrefl, cleT, cleF, cltT, cltF, ceqT, ceqF, ↓reduceIte]
      · simp (disch := first | omega | assumption | exact Or.inl rfl | exact Or.inr rfl | exact bI_or _ | exact zC81 | exact zC47 | exact zC65 | exact zC0 | exact zC1 | exact zC32 | exact zC70 | exact zC73 | exact ztc (by assumption) | exact zdc (by assumption) | exact zpc (by assumption) | decide) only [Option.some.injEq, exists_eq_left', ex2, Option.toList, List.singleton_append, List.append_nil, List.cons_append, List.nil_append, nI_add, nI_addL, nI_Ladd, pk_mul, nI_mulL, nI_Lmul, nI_subL, pk_sub, nI_divL, sub_dm, nI_leE, nI_ltE, nI_eqE, nI_Lle, nI_leL, nI_Llt, nI_ltL, nI_eqL, va_up_self, va_up_ne, up_up, up_comm, nI_clamp, bI_eq0, not_true_eq_false, not_false_eq_true, Nat.reduceEqDiff, Nat.reduceLeDiff, Nat.reduceAdd, Nat.reduceMul, Nat.one_ne_zero, Nat.zero_ne_one, decide_eq_false_iff_not, decide_eq_true_eq, Bool.false_eq_true, decide_true, decide_false, bI_true, bI_false, one_ne, Nat.le_refl, Nat.lt_irrefl, cleT, cleF, cltT, cltF, ceqT, ceqF, ↓reduceIte]
      · simp (disch := first | omega | assumption | exact Or.inl rfl | exact Or.inr rfl | exact bI_or _ | exact zC81 | exact zC47 | exact zC65 | exact zC0 | exact zC1 | exact zC32 | exact zC70 | exact zC73 | exact ztc (by assumption) | exact zdc (by assumption) | exact zpc (by assumption) | decide) only [Option.some.injEq, exists_eq_left', ex2, Option.toList, List.singleton_append, List.append_nil, List.cons_append, List.nil_append, nI_add, nI_addL, nI_Ladd, pk_mul, nI_mulL, nI_Lmul, nI_subL, pk_sub, nI_divL, sub_dm, nI_leE, nI_ltE, nI_eqE, nI_Lle, nI_leL, nI_Llt, nI_ltL, nI_eqL, va_up_self, va_up_ne, up_up, up_comm, nI_clamp, bI_eq0, not_true_eq_false, not_false_eq_true, Nat.reduceEqDiff, Nat.reduceLeDiff, Nat.reduceAdd, Nat.reduceMul, Nat.one_ne_zero, Nat.zero_ne_one, decide_eq_false_iff_not, decide_eq_true_eq, Bool.false_eq_true, decide_true, decide_false, bI_true, bI_false, one_ne, Nat.le_refl, Nat.lt_irrefl, cleT, cleF, cltT, cltF, ceqT, ceqF, ↓reduceIte, f1]
      · simp (disch := first | omega | assumption | exact Or.inl rfl | exact Or.inr rfl | exact bI_or _ | exact zC81 | exact zC47 | exact zC65 | exact zC0 | exact zC1 | exact zC32 | exact zC70 | exact zC73 | exact ztc (by assumption) | exact zdc (by assumption) | exact zpc (by assumption) | decide) only [Option.some.injEq, exists_eq_left', ex2, Option.toList, List.singleton_append, List.append_nil, List.cons_append, List.nil_append, nI_add, nI_addL, nI_Ladd, pk_mul, nI_mulL, nI_Lmul, nI_subL, pk_sub, nI_divL, sub_dm, nI_leE, nI_ltE, nI_eqE, nI_Lle, nI_leL, nI_Llt, nI_ltL, nI_eqL, va_up_self, va_up_ne, up_up, up_comm, nI_clamp, bI_eq0, not_true_eq_false, not_false_eq_true, Nat.reduceEqDiff, Nat.reduceLeDiff, Nat.reduceAdd, Nat.reduceMul, Nat.one_ne_zero, Nat.zero_ne_one, decide_eq_false_iff_not, decide_eq_true_eq, Bool.false_eq_true, decide_true, decide_false, bI_true, bI_false, one_ne, Nat.le_refl, Nat.lt_irrefl, cleT, cleF, cltT, cltF, ceqT, ceqF, ↓reduceIte, f2]
      · simp (disch := first | omega | assumption | exact Or.inl rfl | exact Or.inr rfl | exact bI_or _ | exact zC81 | exact zC47 | exact zC65 | exact zC0 | exact zC1 | exact zC32 | exact zC70 | exact zC73 | exact ztc (by assumption) | exact zdc (by assumption) | exact zpc (by assumption) | decide) only [Option.some.injEq, exists_eq_left', ex2, Option.toList, List.singleton_append, List.append_nil, List.cons_append, List.nil_append, nI_add, nI_addL, nI_Ladd, pk_mul, nI_mulL, nI_Lmul, nI_subL, pk_sub, nI_divL, sub_dm, nI_leE, nI_ltE, nI_eqE, nI_Lle, nI_leL, nI_Llt, nI_ltL, nI_eqL, va_up_self, va_up_ne, up_up, up_comm, nI_clamp, bI_eq0, not_true_eq_false, not_false_eq_true, Nat.reduceEqDiff, Nat.reduceLeDiff, Nat.reduceAdd, Nat.reduceMul, Nat.one_ne_zero, Nat.zero_ne_one, decide_eq_false_iff_not, decide_eq_true_eq, Bool.false_eq_true, decide_true, decide_false, bI_true, bI_false, one_ne, Nat.le_refl, Nat.lt_irrefl, cleT, cleF, cltT, cltF, ceqT, ceqF, ↓reduceIte]
        exact hB i (by omega)
    · simp (disch := first | omega | assumption | exact Or.inl rfl | exact Or.inr rfl | exact bI_or _ | exact zC81 | exact zC47 | exact zC65 | exact zC0 | exact zC1 | exact zC32 | exact zC70 | exact zC73 | exact ztc (by assumption) | exact zdc (by assumption) | exact zpc (by assumption) | decide) only [Option.some.injEq, exists_eq_left', ex2, Option.toList, List.singleton_append, List.append_nil, List.cons_append, List.nil_append, nI_add, nI_addL, nI_Ladd, pk_mul, nI_mulL, nI_Lmul, nI_subL, pk_sub, nI_divL, sub_dm, nI_leE, nI_ltE, nI_eqE, nI_Lle, nI_leL, nI_Llt, nI_ltL, nI_eqL, va_up_self, va_up_ne, up_up, up_comm, nI_clamp, bI_eq0, not_true_eq_false, not_false_eq_true, Nat.reduceEqDiff, Nat.reduceLeDiff, Nat.reduceAdd, Nat.reduceMul, Nat.one_ne_zero, Nat.zero_ne_one, decide_eq_false_iff_not, decide_eq_true_eq, Bool.false_eq_true, decide_true, decide_false, bI_true, bI_false, one_ne, Nat.le_refl, Nat.lt_irrefl, cleT, cleF, cltT, cltF, ceqT, ceqF, ↓reduceIte]
    · simp (disch := first | omega | assumption | exact Or.inl rfl | exact Or.inr rfl | exact bI_or _ | exact zC81 | exact zC47 | exact zC65 | exact zC0 | exact zC1 | exact zC32 | exact zC70 | exact zC73 | exact ztc (by assumption) | exact zdc (by assumption) | exact zpc (by assumption) | decide) only [Option.some.injEq, exists_eq_left', ex2, Option.toList, List.singleton_append, List.append_nil, List.cons_append, List.nil_append, nI_add, nI_addL, nI_Ladd, pk_mul, nI_mulL, nI_Lmul, nI_subL, pk_sub, nI_divL, sub_dm, nI_leE, nI_ltE, nI_eqE, nI_Lle, nI_leL, nI_Llt, nI_ltL, nI_eqL, va_up_self, va_up_ne, up_up, up_comm, nI_clamp, bI_eq0, not_true_eq_false, not_false_eq_true, Nat.reduceEqDiff, Nat.reduceLeDiff, Nat.reduceAdd, Nat.reduceMul, Nat.one_ne_zero, Nat.zero_ne_one, decide_eq_false_iff_not, decide_eq_true_eq, Bool.false_eq_true, decide_true, decide_false, bI_true, bI_false, one_ne, Nat.le_refl, Nat.lt_irrefl, cleT, cleF, cltT, cltF, ceqT, ceqF, ↓reduceIte]
    · simp (disch := first | omega | assumption | exact Or.inl rfl | exact Or.inr rfl | exact bI_or _ | exact zC81 | exact zC47 | exact zC65 | exact zC0 | exact zC1 | exact zC32 | exact zC70 | exact zC73 | exact ztc (by assumption) | exact zdc (by assumption) | exact zpc (by assumption) | decide) only [Option.some.injEq, exists_eq_left', ex2, Option.toList, List.singleton_append, List.append_nil, List.cons_append, List.nil_append, nI_add, nI_addL, nI_Ladd, pk_mul, nI_mulL, nI_Lmul, nI_subL, pk_sub, nI_divL, sub_dm, nI_leE, nI_ltE, nI_eqE, nI_Lle, nI_leL, nI_Llt, nI_ltL, nI_eqL, va_up_self, va_up_ne, up_up, up_comm, nI_clamp, bI_eq0, not_true_eq_false, not_false_eq_true, Nat.reduceEqDiff, Nat.reduceLeDiff, Nat.reduceAdd, Nat.reduceMul, Nat.one_ne_zero, Nat.zero_ne_one, decide_eq_false_iff_not, decide_eq_true_eq, Bool.false_eq_true, decide_true, decide_false, bI_true, bI_false, one_ne, Nat.le_refl, Nat.lt_irrefl, cleT, cleF, cltT, cltF, ceqT, ceqF, ↓reduceIte]
    · simp (disch := first | omega | assumption | exact Or.inl rfl | exact Or.inr rfl | exact bI_or _ | exact zC81 | exact zC47 | exact zC65 | exact zC0 | exact zC1 | exact zC32 | exact zC70 | exact zC73 | exact ztc (by assumption) | exact zdc (by assumption) | exact zpc (by assumption) | decide) only [Option.some.injEq, exists_eq_left', ex2, Option.toList, List.singleton_append, List.append_nil, List.cons_append, List.nil_append, nI_add, nI_addL, nI_Ladd, pk_mul, nI_mulL, nI_Lmul, nI_subL, pk_sub, nI_divL, sub_dm, nI_leE, nI_ltE, nI_eqE, nI_Lle, nI_leL, nI_Llt, nI_ltL, nI_eqL, va_up_self, va_up_ne, up_up, up_comm, nI_clamp, bI_eq0, not_true_eq_false, not_false_eq_true, Nat.reduceEqDiff, Nat.reduceLeDiff, Nat.reduceAdd, Nat.reduceMul, Nat.one_ne_zero, Nat.zero_ne_one, decide_eq_false_iff_not, decide_eq_true_eq, Bool.false_eq_true, decide_true, decide_false, bI_true, bI_false, one_ne, Nat.le_refl, Nat.lt_irrefl, cleT, cleF, cltT, cltF, ceqT, ceqF, ↓reduceIte]
    · simp (disch := first | omega | assumption | exact Or.inl rfl | exact Or.inr rfl | exact bI_or _ | exact zC81 | exact zC47 | exact zC65 | exact zC0 | exact zC1 | exact zC32 | exact zC70 | exact zC73 | exact ztc (by assumption) | exact zdc (by assumption) | exact zpc (by assumption) | decide) only [Option.some.injEq, exists_eq_left', ex2, Option.toList, List.singleton_append, List.append_nil, List.cons_append, List.nil_append, nI_add, nI_addL, nI_Ladd, pk_mul, nI_mulL, nI_Lmul, nI_subL, pk_sub, nI_divL, sub_dm, nI_leE, nI_ltE, nI_eqE, nI_Lle, nI_leL, nI_Llt, nI_ltL, nI_eqL, va_up_self, va_up_ne, up_up, up_comm, nI_clamp, bI_eq0, not_true_eq_false, not_false_eq_true, Nat.reduceEqDiff, Nat.reduceLeDiff, Nat.reduceAdd, Nat.reduceMul, Nat.one_ne_zero, Nat.zero_ne_one, decide_eq_false_iff_not, decide_eq_true_eq, Bool.false_eq_true, decide_true, decide_false, bI_true, bI_false, one_ne, Nat.le_refl, Nat.lt_irrefl, cleT, cleF, cltT, cltF, ceqT, ceqF, ↓reduceIte]
/-- a byte -/
def byt (y : Int32) : Int32 := vp_nar .byte (y.toInt8.toInt32)
theorem byt_and (y : Int32) : (y &&& 255).toInt8 = y.toInt8 := by
  apply Int8.toBitVec_inj.mp
  rw [Int32.toBitVec_toInt8, Int32.toBitVec_toInt8, Int32.toBitVec_and]
  apply BitVec.eq_of_getLsbD_eq
  intro i hi
  have hm : ∀ i, i < 8 → (255 : Int32).toBitVec.getLsbD i = true := by decide
  have hi32 : i < 32 := by omega
  rw [BitVec.getLsbD_signExtend, BitVec.getLsbD_signExtend, if_pos hi32, if_pos hi32, BitVec.getLsbD_and, hm i hi, Bool.and_true]
theorem byR_of (y : Int32) : byR (byt y) (y &&& 255) := by
  have h0 : (y &&& 255).toBitVec.toNat < 256 := by
    rw [Int32.toBitVec_and, BitVec.toNat_and]
    exact Nat.lt_of_le_of_lt Nat.and_le_right (by decide)
  have e : y &&& 255 = nI (y &&& 255).toBitVec.toNat := by
    apply Int32.toBitVec_inj.mp
    show (y &&& 255).toBitVec = BitVec.ofNat 32 (y &&& 255).toBitVec.toNat
    simp
  refine ⟨(y &&& 255).toBitVec.toNat, h0, e, ?_⟩
  rw [← e, byt_and]
  show (y.toInt8.toInt32).toInt8.toInt32 = _
  rw [Int8.toInt8_toInt32]
def put4 (f : Nat → Int32) (l : Nat) (x : Int32) : Nat → Int32 := va_up (va_up (va_up (va_up f l (byt (x >>> ((24 : Int32) &&& 31)))) (l + 1) (byt (x >>> ((16 : Int32) &&& 31)))) (l + 2) (byt (x >>> ((8 : Int32) &&& 31)))) (l + 3) (byt (x >>> ((0 : Int32) &&& 31)))
theorem br_putNumber {l : Nat} {x : Int32} (hl : s 1 5 = nI l) (hl4 : l + 4 ≤ 600) {r : Option Value × mH} : Runs xs sl (d) 146 0 [some (.ref (1)), some (.int (x)), none] [] (hp J (s) g) r ↔ r = (none, hp J (va_up (va_up s 1 (va_up (s 1) 5 (nI (l + 4)))) 6 (put4 (s 6) l x)) g) := by
  refine Runs.iff ?_
  have n0 : ¬ (24 : Int32) < 0 := by decide
  have n1 : ¬ (16 : Int32) < 0 := by decide
  have n2 : ¬ (8 : Int32) < 0 := by decide
  have n3 : ¬ (0 : Int32) < 0 := by decide
  have n4 : (-8 : Int32) < 0 := by decide
  have a0 : (24 : Int32) + (-8) = 16 := by decide
  have a1 : (16 : Int32) + (-8) = 8 := by decide
  have a2 : (8 : Int32) + (-8) = 0 := by decide
  have a3 : (0 : Int32) + (-8) = -8 := by decide
  unfold put4 byt
  simp (disch := first | omega | assumption | exact zC1) only [r146_0, r146_2, r146_3, r146_4, r146_7, r146_8, r146_11, r146_14, r146_17, r146_18, r146_21, r146_22, r146_25, r146_26, r146_27, r146_28, r146_29, r146_30, r146_31, r146_32, r146_35, r146_36, r146_37, r146_40, r146_43, r146_46, zO1_5, zO1_4, zW1_5, zT6, hl, n0, n1, n2, n3, n4, a0, a1, a2, a3, nI_1, nI_Lle, cleF, va_up_self, va_up_ne, ne_eq, Nat.reduceEqDiff, not_false_eq_true, up_up, up_comm, Nat.add_assoc, Nat.reduceAdd, Option.some.injEq, exists_eq_left', ↓reduceIte]
def fd (a b c d e : Int32) (q : Nat) : Int32 := if q = 0 then a else if q = 1 then b else if q = 2 then c else if q = 3 then d else e
def fdB (w : Nat → Int32) (i : Nat) : Int32 := w (i / 4) >>> ((24 - nI (8 * (i % 4))) &&& 31)
theorem ref_feed_loop {l : Nat} {a b c d' e : Int32} (hl : s 82 4 = nI l) (hl20 : l + 20 ≤ 600) : Runs xs sl (d) 170 20 [some (.ref (81)), some (.int (a)), some (.int (b)), some (.int (c)), some (.int (d')), some (.int (e)), some (.int ( nI 0)), none] [] (hp J (s) g) (some (.int (nI (l + 20))), hp J (va_up s 82 (va_up (va_cpy (fun i => fdB (fd a b c d' e) i &&& 255) (s 82) 0 (10 + l) 20) 4 (nI (l + 20)))) g) := by
  refine Runs.tgt ?_
  intro z hz
  generalize hv : (fun i => fdB (fd a b c d' e) i &&& 255) = v at hz
  have e0 : hp J s g = hp J (va_up s 82 (va_up (va_cpy v (s 82) 0 (10 + l) 0) 4 (nI (l + 0)))) g := by rw [cpy_zero, Nat.add_zero, ← hl, up_id, up_id]
  rw [e0]
  have z4 : ¬ (4 : Int32) = 0 := by decide
  refine dn_loop (P := fun i => ∀ l7, Runs xs sl (d) 170 20 [some (.ref (81)), some (.int (a)), some (.int (b)), some (.int (c)), some (.int (d')), some (.int (e)), some (.int ( nI i)), l7] [] (hp J (va_up s 82 (va_up (va_cpy v (s 82) 0 (10 + l) i) 4 (nI (l + i)))) g) z) 20 ?_ ?_ none
  · intro i hi hr l7
    rw [r170_20]
    have e4 := cpy_snoc v (s 82) (10 + l) i
    have ev : v i = fdB (fd a b c d' e) i &&& 255 := by rw [← hv]
    unfold fdB fd at ev
    have c5 : i < 4 ∨ (4 ≤ i ∧ i < 8) ∨ (8 ≤ i ∧ i < 12) ∨ (12 ≤ i ∧ i < 16) ∨ 16 ≤ i := by omega
    have nx : va_up (va_up (va_cpy v (s 82) 0 (10 + l) i) (10 + (l + i)) (v i)) 4 (nI (l + i + 1)) = va_up (va_cpy v (s 82) 0 (10 + l) (i + 1)) 4 (nI (l + (i + 1))) := by
      rw [← e4, Nat.add_assoc, Nat.add_assoc]
    have nx2 : ∀ w, va_up (va_up (va_cpy v (s 82) 0 (10 + l) i) 4 w) (10 + (l + i)) (v i) = va_up (va_up (va_cpy v (s 82) 0 (10 + l) i) (10 + (l + i)) (v i)) 4 w := fun w => (up_comm (by omega)).symm
    rcases c5 with c | ⟨c, c'⟩ | ⟨c, c'⟩ | ⟨c, c'⟩ | c
    · rw [show i / 4 = 0 by omega] at ev
      simp only [↓reduceIte] at ev
      simp (disch := first | omega | assumption) only [r170_22, r170_24, r170_27, r170_29, r170_30, r170_33, r170_34, r170_37, r170_39, r170_41, r170_44, r170_45, r170_48, r170_50, r170_52, r170_55, r170_56, r170_59, r170_61, r170_63, r170_66, r170_68, r170_71, r170_73, r170_75, r170_76, r170_79, r170_81, r170_82, r170_85, r170_86, r170_87, r170_88, r170_90, r170_92, r170_94, r170_96, r170_97, r170_98, r170_99, r170_100, r170_101, r170_104, r170_105, r170_106, r170_107, r170_110, r170_111, r170_112, r170_113, r170_114, r170_115, r170_116, r170_119, zO81_0, zA82L, zA82, zS82, zS82L, va_up_self, va_up_ne, up_up, nI_leE, nI_Lle, cleT, cleF, nI_divL, nI_mulL, pk_sub, sub_dm, nI_Lmul, nI_Ladd, nI_1, ← ev, nx2, nx, Option.some.injEq, exists_eq_left', ↓reduceIte]
      exact hr _
    · rw [show i / 4 = 1 by omega] at ev
      simp only [Nat.one_ne_zero, ↓reduceIte] at ev
      simp (disch := first | omega | assumption) only [r170_22, r170_24, r170_27, r170_29, r170_30, r170_33, r170_34, r170_37, r170_39, r170_41, r170_44, r170_45, r170_48, r170_50, r170_52, r170_55, r170_56, r170_59, r170_61, r170_63, r170_66, r170_68, r170_71, r170_73, r170_75, r170_76, r170_79, r170_81, r170_82, r170_85, r170_86, r170_87, r170_88, r170_90, r170_92, r170_94, r170_96, r170_97, r170_98, r170_99, r170_100, r170_101, r170_104, r170_105, r170_106, r170_107, r170_110, r170_111, r170_112, r170_113, r170_114, r170_115, r170_116, r170_119, zO81_0, zA82L, zA82, zS82, zS82L, va_up_self, va_up_ne, up_up, nI_leE, nI_Lle, cleT, cleF, nI_divL, nI_mulL, pk_sub, sub_dm, nI_Lmul, nI_Ladd, nI_1, ← ev, nx2, nx, Option.some.injEq, exists_eq_left', ↓reduceIte]
      exact hr _
    · rw [show i / 4 = 2 by omega] at ev
      simp (disch := omega) only [ceqT, ceqF, ↓reduceIte] at ev
      simp (disch := first | omega | assumption) only [r170_22, r170_24, r170_27, r170_29, r170_30, r170_33, r170_34, r170_37, r170_39, r170_41, r170_44, r170_45, r170_48, r170_50, r170_52, r170_55, r170_56, r170_59, r170_61, r170_63, r170_66, r170_68, r170_71, r170_73, r170_75, r170_76, r170_79, r170_81, r170_82, r170_85, r170_86, r170_87, r170_88, r170_90, r170_92, r170_94, r170_96, r170_97, r170_98, r170_99, r170_100, r170_101, r170_104, r170_105, r170_106, r170_107, r170_110, r170_111, r170_112, r170_113, r170_114, r170_115, r170_116, r170_119, zO81_0, zA82L, zA82, zS82, zS82L, va_up_self, va_up_ne, up_up, nI_leE, nI_Lle, cleT, cleF, nI_divL, nI_mulL, pk_sub, sub_dm, nI_Lmul, nI_Ladd, nI_1, ← ev, nx2, nx, Option.some.injEq, exists_eq_left', ↓reduceIte]
      exact hr _
    · rw [show i / 4 = 3 by omega] at ev
      simp (disch := omega) only [ceqT, ceqF, ↓reduceIte] at ev
      simp (disch := first | omega | assumption) only [r170_22, r170_24, r170_27, r170_29, r170_30, r170_33, r170_34, r170_37, r170_39, r170_41, r170_44, r170_45, r170_48, r170_50, r170_52, r170_55, r170_56, r170_59, r170_61, r170_63, r170_66, r170_68, r170_71, r170_73, r170_75, r170_76, r170_79, r170_81, r170_82, r170_85, r170_86, r170_87, r170_88, r170_90, r170_92, r170_94, r170_96, r170_97, r170_98, r170_99, r170_100, r170_101, r170_104, r170_105, r170_106, r170_107, r170_110, r170_111, r170_112, r170_113, r170_114, r170_115, r170_116, r170_119, zO81_0, zA82L, zA82, zS82, zS82L, va_up_self, va_up_ne, up_up, nI_leE, nI_Lle, cleT, cleF, nI_divL, nI_mulL, pk_sub, sub_dm, nI_Lmul, nI_Ladd, nI_1, ← ev, nx2, nx, Option.some.injEq, exists_eq_left', ↓reduceIte]
      exact hr _
    · rw [show i / 4 = 4 by omega] at ev
      simp (disch := omega) only [ceqT, ceqF, ↓reduceIte] at ev
      simp (disch := first | omega | assumption) only [r170_22, r170_24, r170_27, r170_29, r170_30, r170_33, r170_34, r170_37, r170_39, r170_41, r170_44, r170_45, r170_48, r170_50, r170_52, r170_55, r170_56, r170_59, r170_61, r170_63, r170_66, r170_68, r170_71, r170_73, r170_75, r170_76, r170_79, r170_81, r170_82, r170_85, r170_86, r170_87, r170_88, r170_90, r170_92, r170_94, r170_96, r170_97, r170_98, r170_99, r170_100, r170_101, r170_104, r170_105, r170_106, r170_107, r170_110, r170_111, r170_112, r170_113, r170_114, r170_115, r170_116, r170_119, zO81_0, zA82L, zA82, zS82, zS82L, va_up_self, va_up_ne, up_up, nI_leE, nI_Lle, cleT, cleF, nI_divL, nI_mulL, pk_sub, sub_dm, nI_Lmul, nI_Ladd, nI_1, ← ev, nx2, nx, Option.some.injEq, exists_eq_left', ↓reduceIte]
      exact hr _
  · intro l7
    rw [r170_20]
    simp (disch := first | omega | assumption | exact Or.inl rfl | exact Or.inr rfl | exact bI_or _ | exact zC81 | exact zC47 | exact zC65 | exact zC0 | exact zC1 | exact zC32 | exact zC70 | exact zC73 | exact ztc (by assumption) | exact zdc (by assumption) | exact zpc (by assumption) | decide) only [Option.some.injEq, exists_eq_left', ex2, Option.toList, List.singleton_append, List.append_nil, List.cons_append, List.nil_append, nI_add, nI_addL, nI_Ladd, pk_mul, nI_mulL, nI_Lmul, nI_subL, pk_sub, nI_divL, sub_dm, nI_leE, nI_ltE, nI_eqE, nI_Lle, nI_leL, nI_Llt, nI_ltL, nI_eqL, va_up_self, va_up_ne, up_up, up_comm, nI_clamp, bI_eq0, not_true_eq_false, not_false_eq_true, Nat.reduceEqDiff, Nat.reduceLeDiff, Nat.reduceAdd, Nat.reduceMul, Nat.one_ne_zero, Nat.zero_ne_one, decide_eq_false_iff_not, decide_eq_true_eq, Bool.false_eq_true, decide_true, decide_false, bI_true, bI_false, one_ne, Nat.le_refl, Nat.lt_irrefl, cleT, cleF, cltT, cltF, ceqT, ceqF, ↓reduceIte, r170_22, r170_24, r170_122, r170_123, r170_126, r170_127, r170_128, zO81_0, zA82L, hz]
end TAP
