/-! SWAY: the reference -/
section SWR
variable {xs : Nat → Int32} {sl d : Nat} {J : hJk} {s x y : hS} {g : hG}
def swP (n : Nat) (V : Nat → Nat → Int32) (st : Int32) (t : Nat) (m : Nat → Int32) (o : List Nat) : Bool := (eL n V st o (m, true)).2 && decide (0 < (eL n V st o (m, true)).1 t)
theorem rf_swLoop {t0 n h u t N : Nat} {st : Int32} {V : Nat → Nat → Int32} {m0 : Nat → Int32} {l3 : Option Value} (hT : rT s t0 n h) (hu : u < 8) (ht : t < n) (hN : N ≤ 8) (hst : s 82 (t0 + 13 + u) = st) (hV : ∀ l t, s 88 (6 * l + t) = V l t) (hm0 : ∀ t, s 82 (t0 + 29 + 6 * u + t) = m0 t) : ∀ (r : List (List Nat)) (o : List Nat) (s3 : hS), chnL N (o :: r) = true → (∀ q ∈ o :: r, q.length = N ∧ ∀ l ∈ q, l < 8) → (∀ c, c ≠ 92 → c ≠ 96 → s3 c = s c) → (∀ j, j < N → s3 96 j = nI (gN o j)) → ∃ s' : hS, (∀ c, c ≠ 92 → c ≠ 96 → s' c = s c) ∧ ∀ z, (∀ l6, Runs xs sl (d+1+1) 243 79 [some (.ref (81)), some (.int ( nI u)), some (.int ( nI t)), l3, some (.int ( nI N)), some (.int ( bI ((o :: r).any (swP n V st t m0)))), l6] [] (hp J (s') g) z) → Runs xs sl (d+1+1) 243 13 [some (.ref (81)), some (.int ( nI u)), some (.int ( nI t)), l3, some (.int ( nI N)), some (.int ( 0)), some (.int ( 1))] [] (hp J (s3) g) z := by
  have n6 : n ≤ 6 := hT.2.2.2.1
  have em : (fun t => s 82 (t0 + 29 + 6 * u + t)) = m0 := funext hm0
  intro r
  induction r with
  | nil =>
    intro o s3 hc hq h1 h96
    obtain ⟨hlen, hl⟩ := hq o List.mem_cons_self
    have hp0 : pvF (gN o) (N - 1) = 0 := Nat.eq_of_beq_eq_true hc
    have z81 : s3 81 = s 81 := h1 81 (by decide) (by decide)
    have z82 : s3 82 = s 82 := h1 82 (by decide) (by decide)
    have hT3 : rT s3 t0 n h := rT_fr hT (by rw [z81]) (by rw [z81]) (by rw [z81])
    subst hlen
    obtain ⟨s4, c', q1, q2, q3, q4, q5⟩ := @rf_leaves xs sl d J s3 g t0 n h u st V o hT3 hu hN (by rw [z82]; exact hst) (fun l t => by rw [h1 88 (by decide) (by decide)]; exact hV l t) h96 (fun l hl' => by have := hl l hl'; omega)
    rw [z82, em] at q3 q5
    have ea : [o].any (swP n V st t m0) = swP n V st t m0 o := by rw [List.any_cons, List.any_nil, Bool.or_false]
    rw [ea]
    unfold swP
    have e1 := q5 t ht
    generalize eL n V st o (m0, true) = P at *
    obtain ⟨m, b⟩ := P
    dsimp only at q3 e1 ⊢
    refine ⟨s4, fun c h2 h3 => (q4 c h2).trans (h1 c h2 h3), fun z hz => ?_⟩
    rw [r243_13]
    have fin : ∀ (b5 : Bool), b5 = (b && decide (0 < m t)) → Runs xs sl (d+1+1) 243 54 [some (.ref (81)), some (.int ( nI u)), some (.int ( nI t)), l3, some (.int ( nI o.length)), some (.int ( bI b5)), some (.int ( 1))] [] (hp J (s4) g) z := by
      intro b5 e5
      rw [← e5] at hz
      by_cases c : o.length ≤ 1
      · simp (disch := first | omega | assumption | exact Or.inl rfl | exact Or.inr rfl | exact bI_or _ | exact zC81 | exact zC47 | exact zC65 | exact zC0 | exact zC1 | exact zC32 | exact zC70 | exact zC73 | exact ztc (by assumption) | exact zdc (by assumption) | exact zpc (by assumption) | decide) only [Option.some.injEq, exists_eq_left', ex2, Option.toList, List.singleton_append, List.append_nil, List.cons_append, List.nil_append, nI_add, nI_addL, nI_Ladd, pk_mul, nI_mulL, nI_Lmul, nI_subL, pk_sub, nI_divL, sub_dm, nI_leE, nI_ltE, nI_eqE, nI_Lle, nI_leL, nI_Llt, nI_ltL, nI_eqL, va_up_self, va_up_ne, up_up, up_comm, nI_clamp, bI_eq0, not_true_eq_false, not_false_eq_true, Nat.reduceEqDiff, Nat.reduceLeDiff, Nat.reduceAdd, Nat.reduceMul, Nat.one_ne_zero, Nat.zero_ne_one, decide_eq_false_iff_not, decide_eq_true_eq, Bool.false_eq_true, decide_true, decide_false, bI_true, bI_false, one_ne, Nat.le_refl, Nat.lt_irrefl, cleT, cleF, cltT, cltF, ceqT, ceqF, ↓reduceIte, r243_54, r243_56, r243_57, r243_73, r243_74, r243_76, c]
        rw [r243_13]
        simp (disch := first | omega | assumption | exact Or.inl rfl | exact Or.inr rfl | exact bI_or _ | exact zC81 | exact zC47 | exact zC65 | exact zC0 | exact zC1 | exact zC32 | exact zC70 | exact zC73 | exact ztc (by assumption) | exact zdc (by assumption) | exact zpc (by assumption) | decide) only [Option.some.injEq, exists_eq_left', ex2, Option.toList, List.singleton_append, List.append_nil, List.cons_append, List.nil_append, nI_add, nI_addL, nI_Ladd, pk_mul, nI_mulL, nI_Lmul, nI_subL, pk_sub, nI_divL, sub_dm, nI_leE, nI_ltE, nI_eqE, nI_Lle, nI_leL, nI_Llt, nI_ltL, nI_eqL, va_up_self, va_up_ne, up_up, up_comm, nI_clamp, bI_eq0, not_true_eq_false, not_false_eq_true, Nat.reduceEqDiff, Nat.reduceLeDiff, Nat.reduceAdd, Nat.reduceMul, Nat.one_ne_zero, Nat.zero_ne_one, decide_eq_false_iff_not, decide_eq_true_eq, Bool.false_eq_true, decide_true, decide_false, bI_true, bI_false, one_ne, Nat.le_refl, Nat.lt_irrefl, cleT, cleF, cltT, cltF, ceqT, ceqF, ↓reduceIte, r243_15]
        exact hz _
      · have go0 := @rf_goesOn0 xs sl d J s4 g o.length (gN o) hN (by omega) (fun i hi => ⟨by rw [q4 96 (by decide)]; exact h96 i hi, hl _ (gN_mem o i hi)⟩) hp0
        simp (disch := first | omega | assumption | exact Or.inl rfl | exact Or.inr rfl | exact bI_or _ | exact zC81 | exact zC47 | exact zC65 | exact zC0 | exact zC1 | exact zC32 | exact zC70 | exact zC73 | exact ztc (by assumption) | exact zdc (by assumption) | exact zpc (by assumption) | decide) only [Option.some.injEq, exists_eq_left', ex2, Option.toList, List.singleton_append, List.append_nil, List.cons_append, List.nil_append, nI_add, nI_addL, nI_Ladd, pk_mul, nI_mulL, nI_Lmul, nI_subL, pk_sub, nI_divL, sub_dm, nI_leE, nI_ltE, nI_eqE, nI_Lle, nI_leL, nI_Llt, nI_ltL, nI_eqL, va_up_self, va_up_ne, up_up, up_comm, nI_clamp, bI_eq0, not_true_eq_false, not_false_eq_true, Nat.reduceEqDiff, Nat.reduceLeDiff, Nat.reduceAdd, Nat.reduceMul, Nat.one_ne_zero, Nat.zero_ne_one, decide_eq_false_iff_not, decide_eq_true_eq, Bool.false_eq_true, decide_true, decide_false, bI_true, bI_false, one_ne, Nat.le_refl, Nat.lt_irrefl, cleT, cleF, cltT, cltF, ceqT, ceqF, ↓reduceIte, r243_54, r243_56, r243_57, r243_60, r243_61, r243_63, r243_66, r243_69, r243_70, r243_73, r243_74, r243_76, c, go0.iff]
        rw [r243_13]
        simp (disch := first | omega | assumption | exact Or.inl rfl | exact Or.inr rfl | exact bI_or _ | exact zC81 | exact zC47 | exact zC65 | exact zC0 | exact zC1 | exact zC32 | exact zC70 | exact zC73 | exact ztc (by assumption) | exact zdc (by assumption) | exact zpc (by assumption) | decide) only [Option.some.injEq, exists_eq_left', ex2, Option.toList, List.singleton_append, List.append_nil, List.cons_append, List.nil_append, nI_add, nI_addL, nI_Ladd, pk_mul, nI_mulL, nI_Lmul, nI_subL, pk_sub, nI_divL, sub_dm, nI_leE, nI_ltE, nI_eqE, nI_Lle, nI_leL, nI_Llt, nI_ltL, nI_eqL, va_up_self, va_up_ne, up_up, up_comm, nI_clamp, bI_eq0, not_true_eq_false, not_false_eq_true, Nat.reduceEqDiff, Nat.reduceLeDiff, Nat.reduceAdd, Nat.reduceMul, Nat.one_ne_zero, Nat.zero_ne_one, decide_eq_false_iff_not, decide_eq_true_eq, Bool.false_eq_true, decide_true, decide_false, bI_true, bI_false, one_ne, Nat.le_refl, Nat.lt_irrefl, cleT, cleF, cltT, cltF, ceqT, ceqF, ↓reduceIte, r243_15]
        exact hz _
    cases b
    · have c3 : ¬ c' = 0 := fun z => absurd (q3.mp z) (by decide)
      have f0 := fin false rfl
      simp (disch := first | omega | assumption | exact Or.inl rfl | exact Or.inr rfl | exact bI_or _ | exact zC81 | exact zC47 | exact zC65 | exact zC0 | exact zC1 | exact zC32 | exact zC70 | exact zC73 | exact ztc (by assumption) | exact zdc (by assumption) | exact zpc (by assumption) | decide) only [Option.some.injEq, exists_eq_left', ex2, Option.toList, List.singleton_append, List.append_nil, List.cons_append, List.nil_append, nI_add, nI_addL, nI_Ladd, pk_mul, nI_mulL, nI_Lmul, nI_subL, pk_sub, nI_divL, sub_dm, nI_leE, nI_ltE, nI_eqE, nI_Lle, nI_leL, nI_Llt, nI_ltL, nI_eqL, va_up_self, va_up_ne, up_up, up_comm, nI_clamp, bI_eq0, not_true_eq_false, not_false_eq_true, Nat.reduceEqDiff, Nat.reduceLeDiff, Nat.reduceAdd, Nat.reduceMul, Nat.one_ne_zero, Nat.zero_ne_one, decide_eq_false_iff_not, decide_eq_true_eq, Bool.false_eq_true, decide_true, decide_false, bI_true, bI_false, one_ne, Nat.le_refl, Nat.lt_irrefl, cleT, cleF, cltT, cltF, ceqT, ceqF, ↓reduceIte, r243_15, r243_18, r243_20, r243_23, r243_24, r243_25, r243_27, r243_30, r243_33, r243_34, r243_37, r243_39, r243_40, r243_41, r243_42, r243_43, r243_44, r243_47, r243_48, r243_51, r243_52, q1.iff, c3]
      exact f0
    · have c3 : c' = 0 := q3.mpr rfl
      by_cases c4 : 0 < m t
      · have f1 := fin true (by rw [decide_eq_true c4]; rfl)
        have c5 : ¬ m t ≤ 0 := Int32.not_le.mpr c4
        simp (disch := first | omega | assumption | exact Or.inl rfl | exact Or.inr rfl | exact bI_or _ | exact zC81 | exact zC47 | exact zC65 | exact zC0 | exact zC1 | exact zC32 | exact zC70 | exact zC73 | exact ztc (by assumption) | exact zdc (by assumption) | exact zpc (by assumption) | decide) only [Option.some.injEq, exists_eq_left', ex2, Option.toList, List.singleton_append, List.append_nil, List.cons_append, List.nil_append, nI_add, nI_addL, nI_Ladd, pk_mul, nI_mulL, nI_Lmul, nI_subL, pk_sub, nI_divL, sub_dm, nI_leE, nI_ltE, nI_eqE, nI_Lle, nI_leL, nI_Llt, nI_ltL, nI_eqL, va_up_self, va_up_ne, up_up, up_comm, nI_clamp, bI_eq0, not_true_eq_false, not_false_eq_true, Nat.reduceEqDiff, Nat.reduceLeDiff, Nat.reduceAdd, Nat.reduceMul, Nat.one_ne_zero, Nat.zero_ne_one, decide_eq_false_iff_not, decide_eq_true_eq, Bool.false_eq_true, decide_true, decide_false, bI_true, bI_false, one_ne, Nat.le_refl, Nat.lt_irrefl, cleT, cleF, cltT, cltF, ceqT, ceqF, ↓reduceIte, r243_15, r243_18, r243_20, r243_23, r243_24, r243_25, r243_27, r243_30, r243_33, r243_34, r243_37, r243_39, r243_40, r243_41, r243_42, r243_43, r243_44, r243_47, r243_48, r243_51, r243_52, q1.iff, c3, zO81_22, zA92, e1, c5]
        exact f1
      · have f1 := fin false (by rw [decide_eq_false c4]; rfl)
        have c5 : m t ≤ 0 := Int32.not_lt.mp c4
        simp (disch := first | omega | assumption | exact Or.inl rfl | exact Or.inr rfl | exact bI_or _ | exact zC81 | exact zC47 | exact zC65 | exact zC0 | exact zC1 | exact zC32 | exact zC70 | exact zC73 | exact ztc (by assumption) | exact zdc (by assumption) | exact zpc (by assumption) | decide) only [Option.some.injEq, exists_eq_left', ex2, Option.toList, List.singleton_append, List.append_nil, List.cons_append, List.nil_append, nI_add, nI_addL, nI_Ladd, pk_mul, nI_mulL, nI_Lmul, nI_subL, pk_sub, nI_divL, sub_dm, nI_leE, nI_ltE, nI_eqE, nI_Lle, nI_leL, nI_Llt, nI_ltL, nI_eqL, va_up_self, va_up_ne, up_up, up_comm, nI_clamp, bI_eq0, not_true_eq_false, not_false_eq_true, Nat.reduceEqDiff, Nat.reduceLeDiff, Nat.reduceAdd, Nat.reduceMul, Nat.one_ne_zero, Nat.zero_ne_one, decide_eq_false_iff_not, decide_eq_true_eq, Bool.false_eq_true, decide_true, decide_false, bI_true, bI_false, one_ne, Nat.le_refl, Nat.lt_irrefl, cleT, cleF, cltT, cltF, ceqT, ceqF, ↓reduceIte, r243_15, r243_18, r243_20, r243_23, r243_24, r243_25, r243_27, r243_30, r243_33, r243_34, r243_37, r243_39, r243_40, r243_41, r243_42, r243_43, r243_44, r243_47, r243_48, r243_51, r243_52, q1.iff, c3, zO81_22, zA92, e1, c5]
        exact f1
  | cons o2 r ih =>
    intro o s3 hc hq h1 h96
    obtain ⟨hlen, hl⟩ := hq o List.mem_cons_self
    have hc' := Bool.and_eq_true_iff.mp (show (nxB N (gN o) (gN o2) && chnL N (o2 :: r)) = true from hc)
    obtain ⟨p, p1, p2⟩ := nxB_at hc'.1
    have z81 : s3 81 = s 81 := h1 81 (by decide) (by decide)
    have z82 : s3 82 = s 82 := h1 82 (by decide) (by decide)
    have hT3 : rT s3 t0 n h := rT_fr hT (by rw [z81]) (by rw [z81]) (by rw [z81])
    subst hlen
    obtain ⟨s4, c', q1, q2, q3, q4, q5⟩ := @rf_leaves xs sl d J s3 g t0 n h u st V o hT3 hu hN (by rw [z82]; exact hst) (fun l t => by rw [h1 88 (by decide) (by decide)]; exact hV l t) h96 (fun l hl' => by have := hl l hl'; omega)
    rw [z82, em] at q3 q5
    have le := pvF_le (gN o) (o.length - 1)
    obtain ⟨s5, g1, g2, g3⟩ := @rf_goesOn1 xs sl d J s4 g o.length p (gN o) hN (fun i hi => ⟨by rw [q4 96 (by decide)]; exact h96 i hi, hl _ (gN_mem o i hi)⟩) p1
    have f5 : ∀ c, c ≠ 92 → c ≠ 96 → s5 c = s c := fun c h2 h3 => by rw [g2 c h3, q4 c h2]; exact h1 c h2 h3
    obtain ⟨s', i1, i2⟩ := ih o2 s5 hc'.2 (fun q hq' => hq q (List.mem_cons_of_mem _ hq')) f5 (fun j hj => by rw [g3 j hj, p2 j hj])
    have ea : (o :: o2 :: r).any (swP n V st t m0) = (swP n V st t m0 o || (o2 :: r).any (swP n V st t m0)) := List.any_cons
    rw [ea]
    have c : ¬ o.length ≤ 1 := by omega
    have e1 := q5 t ht
    have eb : swP n V st t m0 o = ((eL n V st o (m0, true)).2 && decide (0 < (eL n V st o (m0, true)).1 t)) := rfl
    cases cw : swP n V st t m0 o
    · rw [Bool.false_or]
      rw [cw] at eb
      refine ⟨s', i1, fun z hz => ?_⟩
      have i3 := i2 z hz
      generalize eL n V st o (m0, true) = P at *
      obtain ⟨m, b⟩ := P
      dsimp only at q3 e1 eb
      rw [r243_13]
      cases b
      · have c3 : ¬ c' = 0 := fun z => absurd (q3.mp z) (by decide)
        simp (disch := first | omega | assumption | exact Or.inl rfl | exact Or.inr rfl | exact bI_or _ | exact zC81 | exact zC47 | exact zC65 | exact zC0 | exact zC1 | exact zC32 | exact zC70 | exact zC73 | exact ztc (by assumption) | exact zdc (by assumption) | exact zpc (by assumption) | decide) only [Option.some.injEq, exists_eq_left', ex2, Option.toList, List.singleton_append, List.append_nil, List.cons_append, List.nil_append, nI_add, nI_addL, nI_Ladd, pk_mul, nI_mulL, nI_Lmul, nI_subL, pk_sub, nI_divL, sub_dm, nI_leE, nI_ltE, nI_eqE, nI_Lle, nI_leL, nI_Llt, nI_ltL, nI_eqL, va_up_self, va_up_ne, up_up, up_comm, nI_clamp, bI_eq0, not_true_eq_false, not_false_eq_true, Nat.reduceEqDiff, Nat.reduceLeDiff, Nat.reduceAdd, Nat.reduceMul, Nat.one_ne_zero, Nat.zero_ne_one, decide_eq_false_iff_not, decide_eq_true_eq, Bool.false_eq_true, decide_true, decide_false, bI_true, bI_false, one_ne, Nat.le_refl, Nat.lt_irrefl, cleT, cleF, cltT, cltF, ceqT, ceqF, ↓reduceIte, r243_15, r243_18, r243_20, r243_23, r243_24, r243_25, r243_27, r243_30, r243_33, r243_34, r243_37, r243_39, r243_40, r243_41, r243_42, r243_43, r243_44, r243_47, r243_48, r243_51, r243_52, r243_54, r243_56, r243_57, r243_60, r243_61, r243_63, r243_66, r243_69, r243_70, r243_73, r243_74, r243_76, q1.iff, c3, c, g1.iff]
        exact i3
      · have c3 : c' = 0 := q3.mpr rfl
        have c4 : ¬ 0 < m t := of_decide_eq_false (by rw [Bool.true_and] at eb; exact eb.symm)
        have c5 : m t ≤ 0 := Int32.not_lt.mp c4
        simp (disch := first | omega | assumption | exact Or.inl rfl | exact Or.inr rfl | exact bI_or _ | exact zC81 | exact zC47 | exact zC65 | exact zC0 | exact zC1 | exact zC32 | exact zC70 | exact zC73 | exact ztc (by assumption) | exact zdc (by assumption) | exact zpc (by assumption) | decide) only [Option.some.injEq, exists_eq_left', ex2, Option.toList, List.singleton_append, List.append_nil, List.cons_append, List.nil_append, nI_add, nI_addL, nI_Ladd, pk_mul, nI_mulL, nI_Lmul, nI_subL, pk_sub, nI_divL, sub_dm, nI_leE, nI_ltE, nI_eqE, nI_Lle, nI_leL, nI_Llt, nI_ltL, nI_eqL, va_up_self, va_up_ne, up_up, up_comm, nI_clamp, bI_eq0, not_true_eq_false, not_false_eq_true, Nat.reduceEqDiff, Nat.reduceLeDiff, Nat.reduceAdd, Nat.reduceMul, Nat.one_ne_zero, Nat.zero_ne_one, decide_eq_false_iff_not, decide_eq_true_eq, Bool.false_eq_true, decide_true, decide_false, bI_true, bI_false, one_ne, Nat.le_refl, Nat.lt_irrefl, cleT, cleF, cltT, cltF, ceqT, ceqF, ↓reduceIte, r243_15, r243_18, r243_20, r243_23, r243_24, r243_25, r243_27, r243_30, r243_33, r243_34, r243_37, r243_39, r243_40, r243_41, r243_42, r243_43, r243_44, r243_47, r243_48, r243_51, r243_52, r243_54, r243_56, r243_57, r243_60, r243_61, r243_63, r243_66, r243_69, r243_70, r243_73, r243_74, r243_76, q1.iff, c3, zO81_22, zA92, e1, c5, c, g1.iff]
        exact i3
    · rw [Bool.true_or]
      rw [cw] at eb
      refine ⟨s5, f5, fun z hz => ?_⟩
      generalize eL n V st o (m0, true) = P at *
      obtain ⟨m, b⟩ := P
      dsimp only at q3 e1 eb
      have eb' := Bool.and_eq_true_iff.mp eb.symm
      have c3 : c' = 0 := q3.mpr eb'.1
      have c5 : ¬ m t ≤ 0 := Int32.not_le.mpr (of_decide_eq_true eb'.2)
      rw [bI_true] at hz
      rw [r243_13]
      simp (disch := first | omega | assumption | exact Or.inl rfl | exact Or.inr rfl | exact bI_or _ | exact zC81 | exact zC47 | exact zC65 | exact zC0 | exact zC1 | exact zC32 | exact zC70 | exact zC73 | exact ztc (by assumption) | exact zdc (by assumption) | exact zpc (by assumption) | decide) only [Option.some.injEq, exists_eq_left', ex2, Option.toList, List.singleton_append, List.append_nil, List.cons_append, List.nil_append, nI_add, nI_addL, nI_Ladd, pk_mul, nI_mulL, nI_Lmul, nI_subL, pk_sub, nI_divL, sub_dm, nI_leE, nI_ltE, nI_eqE, nI_Lle, nI_leL, nI_Llt, nI_ltL, nI_eqL, va_up_self, va_up_ne, up_up, up_comm, nI_clamp, bI_eq0, not_true_eq_false, not_false_eq_true, Nat.reduceEqDiff, Nat.reduceLeDiff, Nat.reduceAdd, Nat.reduceMul, Nat.one_ne_zero, Nat.zero_ne_one, decide_eq_false_iff_not, decide_eq_true_eq, Bool.false_eq_true, decide_true, decide_false, bI_true, bI_false, one_ne, Nat.le_refl, Nat.lt_irrefl, cleT, cleF, cltT, cltF, ceqT, ceqF, ↓reduceIte, r243_15, r243_18, r243_20, r243_23, r243_24, r243_25, r243_27, r243_30, r243_33, r243_34, r243_37, r243_39, r243_40, r243_41, r243_42, r243_43, r243_44, r243_47, r243_48, r243_51, r243_52, r243_54, r243_56, r243_57, r243_60, r243_61, r243_63, r243_66, r243_69, r243_70, r243_73, r243_74, r243_76, q1.iff, c3, zO81_22, zA92, e1, c5, c, g1.iff]
      rw [r243_13]
      simp (disch := first | omega | assumption | exact Or.inl rfl | exact Or.inr rfl | exact bI_or _ | exact zC81 | exact zC47 | exact zC65 | exact zC0 | exact zC1 | exact zC32 | exact zC70 | exact zC73 | exact ztc (by assumption) | exact zdc (by assumption) | exact zpc (by assumption) | decide) only [Option.some.injEq, exists_eq_left', ex2, Option.toList, List.singleton_append, List.append_nil, List.cons_append, List.nil_append, nI_add, nI_addL, nI_Ladd, pk_mul, nI_mulL, nI_Lmul, nI_subL, pk_sub, nI_divL, sub_dm, nI_leE, nI_ltE, nI_eqE, nI_Lle, nI_leL, nI_Llt, nI_ltL, nI_eqL, va_up_self, va_up_ne, up_up, up_comm, nI_clamp, bI_eq0, not_true_eq_false, not_false_eq_true, Nat.reduceEqDiff, Nat.reduceLeDiff, Nat.reduceAdd, Nat.reduceMul, Nat.one_ne_zero, Nat.zero_ne_one, decide_eq_false_iff_not, decide_eq_true_eq, Bool.false_eq_true, decide_true, decide_false, bI_true, bI_false, one_ne, Nat.le_refl, Nat.lt_irrefl, cleT, cleF, cltT, cltF, ceqT, ceqF, ↓reduceIte, r243_15, r243_18, r243_20]
      exact hz _
/-- a set sways -/
noncomputable def swW (n : Nat) (V : Nat → Nat → Int32) (st : Int32) (t : Nat) (m : Nat → Int32) (set : Nat) : Bool := (ordL 8 set).any (swP n V st t m)
theorem rf_isSwayed {t0 n h u t set : Nat} {st : Int32} {V : Nat → Nat → Int32} {m0 : Nat → Int32} (hT : rT s t0 n h) (hu : u < 8) (ht : t < n) (hset : set < 256) (hst : s 82 (t0 + 13 + u) = st) (hV : ∀ l t, s 88 (6 * l + t) = V l t) (hm0 : ∀ t, s 82 (t0 + 29 + 6 * u + t) = m0 t) : ∃ s' : hS, Runs xs sl (d+1+1) 243 0 [some (.ref (81)), some (.int ( nI u)), some (.int ( nI t)), some (.int ( nI set)), none, none, none] [] (hp J (s) g) (some (.int (bI (swW n V st t m0 set))), hp J s' g) ∧ ∀ c, c ≠ 92 → c ≠ 96 → s' c = s c := by
  obtain ⟨y2, l1, l2, l3⟩ := @rf_laysOrder xs sl (d + 1) J s g set hset
  rw [bcB_8 set hset] at l1
  obtain ⟨o, r, ho, hch, hasc⟩ := ord_chain8 hset
  have b8 : bcN set ≤ 8 := bc_le
  have mem := ord_mem 8 set hset b8
  rw [ho] at mem
  have y81 : y2 81 = s 81 := l2 81 (by decide)
  have y82 : y2 82 = s 82 := l2 82 (by decide)
  have hTy : rT y2 t0 n h := rT_fr hT (by rw [y81]) (by rw [y81]) (by rw [y81])
  obtain ⟨y3, w1, w2⟩ := @rf_swLoop xs sl d J y2 g t0 n h u t (bcN set) st V m0 (some (.int (nI set))) hTy hu ht b8 (by rw [y82]; exact hst) (fun l t => by rw [l2 88 (by decide)]; exact hV l t) (fun t => by rw [y82]; exact hm0 t) r o y2 hch (fun q hq => ⟨(mem q hq).1, fun l hl => ((mem q hq).2.1 l hl).1⟩) (fun _ _ _ => rfl) (fun j hj => by
    obtain ⟨l, a1, a2, a3⟩ := bcB_on set hset j hj
    have a4 := l3 l a1 a2
    have a5 := hasc l a1 a2
    rw [a3] at a4 a5
    rw [a4, a5])
  refine ⟨y3, ?_, fun c h1 h2 => (w1 c h1 h2).trans (l2 c h2)⟩
  unfold swW
  rw [ho]
  simp (disch := first | omega | assumption | exact Or.inl rfl | exact Or.inr rfl | exact bI_or _ | exact zC81 | exact zC47 | exact zC65 | exact zC0 | exact zC1 | exact zC32 | exact zC70 | exact zC73 | exact ztc (by assumption) | exact zdc (by assumption) | exact zpc (by assumption) | decide) only [Option.some.injEq, exists_eq_left', ex2, Option.toList, List.singleton_append, List.append_nil, List.cons_append, List.nil_append, nI_add, nI_addL, nI_Ladd, pk_mul, nI_mulL, nI_Lmul, nI_subL, pk_sub, nI_divL, sub_dm, nI_leE, nI_ltE, nI_eqE, nI_Lle, nI_leL, nI_Llt, nI_ltL, nI_eqL, va_up_self, va_up_ne, up_up, up_comm, nI_clamp, bI_eq0, not_true_eq_false, not_false_eq_true, Nat.reduceEqDiff, Nat.reduceLeDiff, Nat.reduceAdd, Nat.reduceMul, Nat.one_ne_zero, Nat.zero_ne_one, decide_eq_false_iff_not, decide_eq_true_eq, Bool.false_eq_true, decide_true, decide_false, bI_true, bI_false, one_ne, Nat.le_refl, Nat.lt_irrefl, cleT, cleF, cltT, cltF, ceqT, ceqF, ↓reduceIte, r243_0, r243_1, r243_2, r243_5, r243_7, r243_8, r243_10, r243_11, l1.iff]
  refine w2 _ (fun l6 => ?_)
  simp (disch := first | omega | assumption | exact Or.inl rfl | exact Or.inr rfl | exact bI_or _ | exact zC81 | exact zC47 | exact zC65 | exact zC0 | exact zC1 | exact zC32 | exact zC70 | exact zC73 | exact ztc (by assumption) | exact zdc (by assumption) | exact zpc (by assumption) | decide) only [Option.some.injEq, exists_eq_left', ex2, Option.toList, List.singleton_append, List.append_nil, List.cons_append, List.nil_append, nI_add, nI_addL, nI_Ladd, pk_mul, nI_mulL, nI_Lmul, nI_subL, pk_sub, nI_divL, sub_dm, nI_leE, nI_ltE, nI_eqE, nI_Lle, nI_leL, nI_Llt, nI_ltL, nI_eqL, va_up_self, va_up_ne, up_up, up_comm, nI_clamp, bI_eq0, not_true_eq_false, not_false_eq_true, Nat.reduceEqDiff, Nat.reduceLeDiff, Nat.reduceAdd, Nat.reduceMul, Nat.one_ne_zero, Nat.zero_ne_one, decide_eq_false_iff_not, decide_eq_true_eq, Bool.false_eq_true, decide_true, decide_false, bI_true, bI_false, one_ne, Nat.le_refl, Nat.lt_irrefl, cleT, cleF, cltT, cltF, ceqT, ceqF, ↓reduceIte, r243_79, r243_81]
/-- the least set of the fewest loaves: of k loaves, from a set on -/
def fsF (W : Nat → Bool) (N k : Nat) : Option Nat := (List.range N).find? (fun v => decide (bcN v = k) && W v)
theorem rf_sets {t0 n h u t L k : Nat} {st : Int32} {V : Nat → Nat → Int32} {m0 : Nat → Int32} {b : Int32} {l1 : Option Value} (hT : rT s t0 n h) (hL : s 81 23 = nI L) (hL8 : L ≤ 8) (hu : u < 8) (ht : t < n) (hk : k ≤ 8) (hst : s 82 (t0 + 13 + u) = st) (hV : ∀ l t, s 88 (6 * l + t) = V l t) (hm0 : ∀ t, s 82 (t0 + 29 + 6 * u + t) = m0 t) : ∀ i v s3, v + i = 2 ^ L → (∀ c, c ≠ 92 → c ≠ 96 → s3 c = s c) → ∃ s' : hS, (∀ c, c ≠ 92 → c ≠ 96 → s' c = s c) ∧ match (List.range' v i).find? (fun v => decide (bcN v = k) && swW n V st t m0 v) with
    | some w => Runs xs sl (d+1+1+1) 242 45 [some (.ref (81)), l1, some (.int ( nI u)), some (.int ( nI t)), some (.int (b)), some (.int ( nI k)), some (.int ( nI v))] [] (hp J (s3) g) (some (.int (if b = 0 then nI k else nI w)), hp J s' g)
    | none => ∀ z, (∀ l6, Runs xs sl (d+1+1+1) 242 33 [some (.ref (81)), l1, some (.int ( nI u)), some (.int ( nI t)), some (.int (b)), some (.int ( nI (k + 1))), l6] [] (hp J (s') g) z) → Runs xs sl (d+1+1+1) 242 45 [some (.ref (81)), l1, some (.int ( nI u)), some (.int ( nI t)), some (.int (b)), some (.int ( nI k)), some (.int ( nI v))] [] (hp J (s3) g) z := by
  have p8 := pw8 hL8
  intro i
  induction i with
  | zero =>
    intro v s3 hv h1
    refine ⟨s3, h1, ?_⟩
    show ∀ z, _ → _
    intro z hz
    have g23 : s3 81 23 = nI L := by rw [h1 81 (by decide) (by decide)]; exact hL
    have hv' : v = 2 ^ L := by omega
    subst hv'
    rw [r242_45]
    simp (disch := first | omega | assumption | exact Or.inl rfl | exact Or.inr rfl | exact bI_or _ | exact zC81 | exact zC47 | exact zC65 | exact zC0 | exact zC1 | exact zC32 | exact zC70 | exact zC73 | exact ztc (by assumption) | exact zdc (by assumption) | exact zpc (by assumption) | decide) only [Option.some.injEq, exists_eq_left', ex2, Option.toList, List.singleton_append, List.append_nil, List.cons_append, List.nil_append, nI_add, nI_addL, nI_Ladd, pk_mul, nI_mulL, nI_Lmul, nI_subL, pk_sub, nI_divL, sub_dm, nI_leE, nI_ltE, nI_eqE, nI_Lle, nI_leL, nI_Llt, nI_ltL, nI_eqL, va_up_self, va_up_ne, up_up, up_comm, nI_clamp, bI_eq0, not_true_eq_false, not_false_eq_true, Nat.reduceEqDiff, Nat.reduceLeDiff, Nat.reduceAdd, Nat.reduceMul, Nat.one_ne_zero, Nat.zero_ne_one, decide_eq_false_iff_not, decide_eq_true_eq, Bool.false_eq_true, decide_true, decide_false, bI_true, bI_false, one_ne, Nat.le_refl, Nat.lt_irrefl, cleT, cleF, cltT, cltF, ceqT, ceqF, ↓reduceIte, r242_47, r242_48, r242_49, r242_52, r242_53, r242_96, r242_99, zO81_23, g23, sh1]
    exact hz _
  | succ i ih =>
    intro v s3 hv h1
    have z81 : s3 81 = s 81 := h1 81 (by decide) (by decide)
    have z82 : s3 82 = s 82 := h1 82 (by decide) (by decide)
    have g23 : s3 81 23 = nI L := by rw [z81]; exact hL
    have hT3 : rT s3 t0 n h := rT_fr hT (by rw [z81]) (by rw [z81]) (by rw [z81])
    have vL : v < 2 ^ L := by omega
    have v8 : v < 256 := by omega
    have bv : bcN v ≤ 8 := bc_le
    have bo := @rf_bitsOf xs sl (d + 1 + 1) J s3 g v v8
    have bo' : ∀ {r : Option Value × mH}, Runs xs sl (d+1+1) 236 0 [some (.int ( nI v)), none, none] [] (hp J (s3) g) r ↔ r = (some (.int (nI (bcN v))), hp J s3 g) := bo
    have er : List.range' v (i + 1) = v :: List.range' (v + 1) i := rfl
    rw [er, List.find?_cons]
    by_cases ck : bcN v = k
    · obtain ⟨s4, w1, w2⟩ := @rf_isSwayed xs sl d J s3 g t0 n h u t v st V m0 hT3 hu ht v8 (by rw [z82]; exact hst) (fun l t => by rw [h1 88 (by decide) (by decide)]; exact hV l t) (fun t => by rw [z82]; exact hm0 t)
      have f4 : ∀ c, c ≠ 92 → c ≠ 96 → s4 c = s c := fun c h2 h3 => (w2 c h2 h3).trans (h1 c h2 h3)
      cases cw : swW n V st t m0 v
      · rw [cw] at w1
        rw [Bool.and_false]
        obtain ⟨s', i1, i2⟩ := ih (v + 1) s4 (by omega) f4
        refine ⟨s', i1, ?_⟩
        cases e : (List.range' (v + 1) i).find? (fun v => decide (bcN v = k) && swW n V st t m0 v) with
        | none =>
          rw [e] at i2
          dsimp only at i2 ⊢
          intro z hz
          rw [r242_45]
          simp (disch := first | omega | assumption | exact Or.inl rfl | exact Or.inr rfl | exact bI_or _ | exact zC81 | exact zC47 | exact zC65 | exact zC0 | exact zC1 | exact zC32 | exact zC70 | exact zC73 | exact ztc (by assumption) | exact zdc (by assumption) | exact zpc (by assumption) | decide) only [Option.some.injEq, exists_eq_left', ex2, Option.toList, List.singleton_append, List.append_nil, List.cons_append, List.nil_append, nI_add, nI_addL, nI_Ladd, pk_mul, nI_mulL, nI_Lmul, nI_subL, pk_sub, nI_divL, sub_dm, nI_leE, nI_ltE, nI_eqE, nI_Lle, nI_leL, nI_Llt, nI_ltL, nI_eqL, va_up_self, va_up_ne, up_up, up_comm, nI_clamp, bI_eq0, not_true_eq_false, not_false_eq_true, Nat.reduceEqDiff, Nat.reduceLeDiff, Nat.reduceAdd, Nat.reduceMul, Nat.one_ne_zero, Nat.zero_ne_one, decide_eq_false_iff_not, decide_eq_true_eq, Bool.false_eq_true, decide_true, decide_false, bI_true, bI_false, one_ne, Nat.le_refl, Nat.lt_irrefl, cleT, cleF, cltT, cltF, ceqT, ceqF, ↓reduceIte, r242_47, r242_48, r242_49, r242_52, r242_53, r242_56, r242_58, r242_61, r242_63, r242_66, r242_67, r242_68, r242_69, r242_71, r242_74, r242_77, r242_79, r242_82, r242_84, r242_87, r242_89, r242_90, r242_93, zO81_23, g23, sh1, bo', ck, w1.iff]
          exact i2 z hz
        | some w =>
          rw [e] at i2
          dsimp only at i2 ⊢
          rw [r242_45]
          simp (disch := first | omega | assumption | exact Or.inl rfl | exact Or.inr rfl | exact bI_or _ | exact zC81 | exact zC47 | exact zC65 | exact zC0 | exact zC1 | exact zC32 | exact zC70 | exact zC73 | exact ztc (by assumption) | exact zdc (by assumption) | exact zpc (by assumption) | decide) only [Option.some.injEq, exists_eq_left', ex2, Option.toList, List.singleton_append, List.append_nil, List.cons_append, List.nil_append, nI_add, nI_addL, nI_Ladd, pk_mul, nI_mulL, nI_Lmul, nI_subL, pk_sub, nI_divL, sub_dm, nI_leE, nI_ltE, nI_eqE, nI_Lle, nI_leL, nI_Llt, nI_ltL, nI_eqL, va_up_self, va_up_ne, up_up, up_comm, nI_clamp, bI_eq0, not_true_eq_false, not_false_eq_true, Nat.reduceEqDiff, Nat.reduceLeDiff, Nat.reduceAdd, Nat.reduceMul, Nat.one_ne_zero, Nat.zero_ne_one, decide_eq_false_iff_not, decide_eq_true_eq, Bool.false_eq_true, decide_true, decide_false, bI_true, bI_false, one_ne, Nat.le_refl, Nat.lt_irrefl, cleT, cleF, cltT, cltF, ceqT, ceqF, ↓reduceIte, r242_47, r242_48, r242_49, r242_52, r242_53, r242_56, r242_58, r242_61, r242_63, r242_66, r242_67, r242_68, r242_69, r242_71, r242_74, r242_77, r242_79, r242_82, r242_84, r242_87, r242_89, r242_90, r242_93, zO81_23, g23, sh1, bo', ck, w1.iff]
          exact i2
      · rw [cw] at w1
        rw [decide_eq_true ck, Bool.and_self]
        refine ⟨s4, f4, ?_⟩
        dsimp only
        rw [r242_45]
        by_cases cb : b = 0
        · have cb' := eq_true cb
          simp (disch := first | omega | assumption | exact Or.inl rfl | exact Or.inr rfl | exact bI_or _ | exact zC81 | exact zC47 | exact zC65 | exact zC0 | exact zC1 | exact zC32 | exact zC70 | exact zC73 | exact ztc (by assumption) | exact zdc (by assumption) | exact zpc (by assumption) | decide) only [Option.some.injEq, exists_eq_left', ex2, Option.toList, List.singleton_append, List.append_nil, List.cons_append, List.nil_append, nI_add, nI_addL, nI_Ladd, pk_mul, nI_mulL, nI_Lmul, nI_subL, pk_sub, nI_divL, sub_dm, nI_leE, nI_ltE, nI_eqE, nI_Lle, nI_leL, nI_Llt, nI_ltL, nI_eqL, va_up_self, va_up_ne, up_up, up_comm, nI_clamp, bI_eq0, not_true_eq_false, not_false_eq_true, Nat.reduceEqDiff, Nat.reduceLeDiff, Nat.reduceAdd, Nat.reduceMul, Nat.one_ne_zero, Nat.zero_ne_one, decide_eq_false_iff_not, decide_eq_true_eq, Bool.false_eq_true, decide_true, decide_false, bI_true, bI_false, one_ne, Nat.le_refl, Nat.lt_irrefl, cleT, cleF, cltT, cltF, ceqT, ceqF, ↓reduceIte, r242_47, r242_48, r242_49, r242_52, r242_53, r242_56, r242_58, r242_61, r242_63, r242_66, r242_67, r242_68, r242_69, r242_71, r242_74, r242_77, r242_79, r242_82, r242_84, r242_87, r242_89, r242_90, r242_93, zO81_23, g23, sh1, bo', ck, w1.iff, cb']
        · simp (disch := first | omega | assumption | exact Or.inl rfl | exact Or.inr rfl | exact bI_or _ | exact zC81 | exact zC47 | exact zC65 | exact zC0 | exact zC1 | exact zC32 | exact zC70 | exact zC73 | exact ztc (by assumption) | exact zdc (by assumption) | exact zpc (by assumption) | decide) only [Option.some.injEq, exists_eq_left', ex2, Option.toList, List.singleton_append, List.append_nil, List.cons_append, List.nil_append, nI_add, nI_addL, nI_Ladd, pk_mul, nI_mulL, nI_Lmul, nI_subL, pk_sub, nI_divL, sub_dm, nI_leE, nI_ltE, nI_eqE, nI_Lle, nI_leL, nI_Llt, nI_ltL, nI_eqL, va_up_self, va_up_ne, up_up, up_comm, nI_clamp, bI_eq0, not_true_eq_false, not_false_eq_true, Nat.reduceEqDiff, Nat.reduceLeDiff, Nat.reduceAdd, Nat.reduceMul, Nat.one_ne_zero, Nat.zero_ne_one, decide_eq_false_iff_not, decide_eq_true_eq, Bool.false_eq_true, decide_true, decide_false, bI_true, bI_false, one_ne, Nat.le_refl, Nat.lt_irrefl, cleT, cleF, cltT, cltF, ceqT, ceqF, ↓reduceIte, r242_47, r242_48, r242_49, r242_52, r242_53, r242_56, r242_58, r242_61, r242_63, r242_66, r242_67, r242_68, r242_69, r242_71, r242_74, r242_77, r242_79, r242_82, r242_84, r242_87, r242_89, r242_90, r242_93, zO81_23, g23, sh1, bo', ck, w1.iff, cb]
    · rw [decide_eq_false ck, Bool.false_and]
      obtain ⟨s', i1, i2⟩ := ih (v + 1) s3 (by omega) h1
      refine ⟨s', i1, ?_⟩
      cases e : (List.range' (v + 1) i).find? (fun v => decide (bcN v = k) && swW n V st t m0 v) with
      | none =>
        rw [e] at i2
        dsimp only at i2 ⊢
        intro z hz
        rw [r242_45]
        simp (disch := first | omega | assumption | exact Or.inl rfl | exact Or.inr rfl | exact bI_or _ | exact zC81 | exact zC47 | exact zC65 | exact zC0 | exact zC1 | exact zC32 | exact zC70 | exact zC73 | exact ztc (by assumption) | exact zdc (by assumption) | exact zpc (by assumption) | decide) only [Option.some.injEq, exists_eq_left', ex2, Option.toList, List.singleton_append, List.append_nil, List.cons_append, List.nil_append, nI_add, nI_addL, nI_Ladd, pk_mul, nI_mulL, nI_Lmul, nI_subL, pk_sub, nI_divL, sub_dm, nI_leE, nI_ltE, nI_eqE, nI_Lle, nI_leL, nI_Llt, nI_ltL, nI_eqL, va_up_self, va_up_ne, up_up, up_comm, nI_clamp, bI_eq0, not_true_eq_false, not_false_eq_true, Nat.reduceEqDiff, Nat.reduceLeDiff, Nat.reduceAdd, Nat.reduceMul, Nat.one_ne_zero, Nat.zero_ne_one, decide_eq_false_iff_not, decide_eq_true_eq, Bool.false_eq_true, decide_true, decide_false, bI_true, bI_false, one_ne, Nat.le_refl, Nat.lt_irrefl, cleT, cleF, cltT, cltF, ceqT, ceqF, ↓reduceIte, r242_47, r242_48, r242_49, r242_52, r242_53, r242_56, r242_58, r242_61, r242_63, r242_66, r242_67, r242_68, r242_69, r242_71, r242_74, r242_77, r242_79, r242_82, r242_84, r242_87, r242_89, r242_90, r242_93, zO81_23, g23, sh1, bo', ck]
        exact i2 z hz
      | some w =>
        rw [e] at i2
        dsimp only at i2 ⊢
        rw [r242_45]
        simp (disch := first | omega | assumption | exact Or.inl rfl | exact Or.inr rfl | exact bI_or _ | exact zC81 | exact zC47 | exact zC65 | exact zC0 | exact zC1 | exact zC32 | exact zC70 | exact zC73 | exact ztc (by assumption) | exact zdc (by assumption) | exact zpc (by assumption) | decide) only [Option.some.injEq, exists_eq_left', ex2, Option.toList, List.singleton_append, List.append_nil, List.cons_append, List.nil_append, nI_add, nI_addL, nI_Ladd, pk_mul, nI_mulL, nI_Lmul, nI_subL, pk_sub, nI_divL, sub_dm, nI_leE, nI_ltE, nI_eqE, nI_Lle, nI_leL, nI_Llt, nI_ltL, nI_eqL, va_up_self, va_up_ne, up_up, up_comm, nI_clamp, bI_eq0, not_true_eq_false, not_false_eq_true, Nat.reduceEqDiff, Nat.reduceLeDiff, Nat.reduceAdd, Nat.reduceMul, Nat.one_ne_zero, Nat.zero_ne_one, decide_eq_false_iff_not, decide_eq_true_eq, Bool.false_eq_true, decide_true, decide_false, bI_true, bI_false, one_ne, Nat.le_refl, Nat.lt_irrefl, cleT, cleF, cltT, cltF, ceqT, ceqF, ↓reduceIte, r242_47, r242_48, r242_49, r242_52, r242_53, r242_56, r242_58, r242_61, r242_63, r242_66, r242_67, r242_68, r242_69, r242_71, r242_74, r242_77, r242_79, r242_82, r242_84, r242_87, r242_89, r242_90, r242_93, zO81_23, g23, sh1, bo', ck]
        exact i2
end SWR
