/-! FEAST: the reference's walk over the orders -/
section ORW
variable {xs : Nat → Int32} {sl d : Nat} {J : hJk} {s x y : hS} {g : hG}
theorem gN_mem : ∀ (o : List Nat) (i : Nat), i < o.length → gN o i ∈ o := by
  intro o
  induction o with
  | nil => exact fun i h => absurd h (Nat.not_lt_zero i)
  | cons l r ih =>
    intro i hi
    cases i with
    | zero => exact List.mem_cons_self
    | succ i => exact List.mem_cons_of_mem _ (ih i (Nat.lt_of_succ_lt_succ hi))
theorem rf_lvLoop {t0 n h u N : Nat} {st : Int32} {V : Nat → Nat → Int32} (hT : rT s t0 n h) (hu : u < 8) (hN : N ≤ 8) (hst : s 82 (t0 + 13 + u) = st) (hV : ∀ l t, s 88 (6 * l + t) = V l t) : ∀ (r : List Nat) (i c : Nat) (s3 : hS) (m : Nat → Int32) (b : Bool), i + r.length = N → (∀ j, j < r.length → s 96 (i + j) = nI (gN r j)) → (∀ l ∈ r, l < 16) → c ≤ i → (c = 0 ↔ b = true) → (∀ c, c ≠ 92 → s3 c = s c) → (∀ t, t < n → s3 92 (6 * u + t) = m t) → ∃ (s' : hS) (c' : Nat), Runs xs sl (d+1) 239 10 [some (.ref (81)), some (.int ( nI u)), some (.int ( nI N)), some (.int ( nI c)), some (.int ( nI i))] [] (hp J (s3) g) (some (.int (nI c')), hp J s' g) ∧ c' ≤ N ∧ (c' = 0 ↔ (eL n V st r (m, b)).2 = true) ∧ (∀ c, c ≠ 92 → s' c = s c) ∧ ∀ t, t < n → s' 92 (6 * u + t) = (eL n V st r (m, b)).1 t := by
  have n6 : n ≤ 6 := hT.2.2.2.1
  intro r
  induction r with
  | nil =>
    intro i c s3 m b hi _ _ hc hb h1 h2
    have e : i = N := hi
    subst e
    refine ⟨s3, c, ?_, hc, hb, h1, h2⟩
    rw [r239_10]
    simp (disch := first | omega | assumption | exact Or.inl rfl | exact Or.inr rfl | exact bI_or _ | exact zC81 | exact zC47 | exact zC65 | exact zC0 | exact zC1 | exact zC32 | exact zC70 | exact zC73 | exact ztc (by assumption) | exact zdc (by assumption) | exact zpc (by assumption) | decide) only [Option.some.injEq, exists_eq_left', ex2, Option.toList, List.singleton_append, List.append_nil, List.cons_append, List.nil_append, nI_add, nI_addL, nI_Ladd, pk_mul, nI_mulL, nI_Lmul, nI_subL, pk_sub, nI_divL, sub_dm, nI_leE, nI_ltE, nI_eqE, nI_Lle, nI_leL, nI_Llt, nI_ltL, nI_eqL, va_up_self, va_up_ne, up_up, up_comm, nI_clamp, bI_eq0, not_true_eq_false, not_false_eq_true, Nat.reduceEqDiff, Nat.reduceLeDiff, Nat.reduceAdd, Nat.reduceMul, Nat.one_ne_zero, Nat.zero_ne_one, decide_eq_false_iff_not, decide_eq_true_eq, Bool.false_eq_true, decide_true, decide_false, bI_true, bI_false, one_ne, Nat.le_refl, Nat.lt_irrefl, cleT, cleF, cltT, cltF, ceqT, ceqF, ↓reduceIte, r239_12, r239_13, r239_56, r239_57]
  | cons l r ih =>
    intro i c s3 m b hi h96 hl hc hb h1 h2
    have hi' : i + (r.length + 1) = N := hi
    have l16 := hl l List.mem_cons_self
    have z81 : s3 81 = s 81 := h1 81 (by decide)
    have hT3 : rT s3 t0 n h := rT_fr hT (by rw [z81]) (by rw [z81]) (by rw [z81])
    have e0 : s3 96 i = nI l := by rw [h1 96 (by decide)]; exact h96 0 (Nat.succ_pos _)
    have h96' : ∀ j, j < r.length → s 96 (i + 1 + j) = nI (gN r j) := fun j hj => by
      have := h96 (j + 1) (Nat.succ_lt_succ hj)
      rw [show i + 1 + j = i + (j + 1) by omega]
      exact this
    have ag := @rf_agrees xs sl d J s3 g t0 n h u l hT3 hu l16
    have eA : rAg s3 t0 n u l = agF n m (V l) st := by
      unfold rAg
      rw [h1 82 (by decide), hst]
      exact agF_eq h2 (fun t ht => by rw [h1 88 (by decide)]; exact hV l t)
    rw [eA] at ag
    have eL' : eL n V st (l :: r) (m, b) = eL n V st r (eS n V st l m, b && agF n m (V l) st) := rfl
    rw [eL']
    cases cA : agF n m (V l) st
    · rw [cA] at ag
      have eE : eS n V st l m = m := by unfold eS; rw [cA, if_neg (by decide)]
      rw [eE, Bool.and_false]
      obtain ⟨s', c', q1, q2, q3, q4, q5⟩ := ih (i + 1) (c + 1) s3 m false (by omega) h96' (fun l hl' => hl l (List.mem_cons_of_mem _ hl')) (by omega) ⟨fun z => absurd z (by omega), fun z => absurd z (by decide)⟩ h1 h2
      refine ⟨s', c', ?_, q2, q3, q4, q5⟩
      rw [r239_10]
      simp (disch := first | omega | assumption | exact Or.inl rfl | exact Or.inr rfl | exact bI_or _ | exact zC81 | exact zC47 | exact zC65 | exact zC0 | exact zC1 | exact zC32 | exact zC70 | exact zC73 | exact ztc (by assumption) | exact zdc (by assumption) | exact zpc (by assumption) | decide) only [Option.some.injEq, exists_eq_left', ex2, Option.toList, List.singleton_append, List.append_nil, List.cons_append, List.nil_append, nI_add, nI_addL, nI_Ladd, pk_mul, nI_mulL, nI_Lmul, nI_subL, pk_sub, nI_divL, sub_dm, nI_leE, nI_ltE, nI_eqE, nI_Lle, nI_leL, nI_Llt, nI_ltL, nI_eqL, va_up_self, va_up_ne, up_up, up_comm, nI_clamp, bI_eq0, not_true_eq_false, not_false_eq_true, Nat.reduceEqDiff, Nat.reduceLeDiff, Nat.reduceAdd, Nat.reduceMul, Nat.one_ne_zero, Nat.zero_ne_one, decide_eq_false_iff_not, decide_eq_true_eq, Bool.false_eq_true, decide_true, decide_false, bI_true, bI_false, one_ne, Nat.le_refl, Nat.lt_irrefl, cleT, cleF, cltT, cltF, ceqT, ceqF, ↓reduceIte, r239_12, r239_13, r239_16, r239_17, r239_18, r239_19, r239_22, r239_24, r239_25, r239_28, r239_31, r239_32, r239_33, r239_34, r239_37, r239_39, r239_40, r239_41, r239_44, r239_47, r239_50, r239_53, zO81_30, zA96, e0, ag]
      exact q1
    · rw [cA] at ag
      have eE : ∀ t, eS n V st l m t = nmF 1 (m t) (V l t) := fun t => by unfold eS; rw [if_pos cA]
      rw [Bool.and_true]
      have ea := @rf_eats xs sl d J s3 g t0 n h u l 1 hT3 hu l16
      generalize hs4 : va_up s3 92 (va_cpy (fun t => nmF 1 (s3 92 (6 * u + t)) (s3 88 (6 * l + t))) (s3 92) 0 (6 * u) n) = s4 at ea
      obtain ⟨s', c', q1, q2, q3, q4, q5⟩ := ih (i + 1) c s4 (eS n V st l m) b (by omega) h96' (fun l hl' => hl l (List.mem_cons_of_mem _ hl')) (by omega) hb (fun c hc => by rw [← hs4, va_up_ne _ _ hc]; exact h1 c hc) (fun t ht => by rw [← hs4, va_up_self, pk_cpy_in (by omega) (by omega), show 0 + (6 * u + t - 6 * u) = t by omega, h2 t ht, h1 88 (by decide), hV, eE])
      refine ⟨s', c', ?_, q2, q3, q4, q5⟩
      rw [r239_10]
      simp (disch := first | omega | assumption | exact Or.inl rfl | exact Or.inr rfl | exact bI_or _ | exact zC81 | exact zC47 | exact zC65 | exact zC0 | exact zC1 | exact zC32 | exact zC70 | exact zC73 | exact ztc (by assumption) | exact zdc (by assumption) | exact zpc (by assumption) | decide) only [Option.some.injEq, exists_eq_left', ex2, Option.toList, List.singleton_append, List.append_nil, List.cons_append, List.nil_append, nI_add, nI_addL, nI_Ladd, pk_mul, nI_mulL, nI_Lmul, nI_subL, pk_sub, nI_divL, sub_dm, nI_leE, nI_ltE, nI_eqE, nI_Lle, nI_leL, nI_Llt, nI_ltL, nI_eqL, va_up_self, va_up_ne, up_up, up_comm, nI_clamp, bI_eq0, not_true_eq_false, not_false_eq_true, Nat.reduceEqDiff, Nat.reduceLeDiff, Nat.reduceAdd, Nat.reduceMul, Nat.one_ne_zero, Nat.zero_ne_one, decide_eq_false_iff_not, decide_eq_true_eq, Bool.false_eq_true, decide_true, decide_false, bI_true, bI_false, one_ne, Nat.le_refl, Nat.lt_irrefl, cleT, cleF, cltT, cltF, ceqT, ceqF, ↓reduceIte, r239_12, r239_13, r239_16, r239_17, r239_18, r239_19, r239_22, r239_24, r239_25, r239_28, r239_31, r239_32, r239_33, r239_34, r239_37, r239_39, r239_40, r239_41, r239_44, r239_47, r239_50, r239_53, zO81_30, zA96, e0, ag, ea, Bool.true_eq_false]
      exact q1
theorem rf_leaves {t0 n h u : Nat} {st : Int32} {V : Nat → Nat → Int32} {o : List Nat} (hT : rT s t0 n h) (hu : u < 8) (hN : o.length ≤ 8) (hst : s 82 (t0 + 13 + u) = st) (hV : ∀ l t, s 88 (6 * l + t) = V l t) (h96 : ∀ j, j < o.length → s 96 j = nI (gN o j)) (hl : ∀ l ∈ o, l < 16) : ∃ (s' : hS) (c' : Nat), Runs xs sl (d+1) 239 0 [some (.ref (81)), some (.int ( nI u)), some (.int ( nI o.length)), none, none] [] (hp J (s) g) (some (.int (nI c')), hp J s' g) ∧ c' ≤ 8 ∧ (c' = 0 ↔ (eL n V st o (fun t => s 82 (t0 + 29 + 6 * u + t), true)).2 = true) ∧ (∀ c, c ≠ 92 → s' c = s c) ∧ ∀ t, t < n → s' 92 (6 * u + t) = (eL n V st o (fun t => s 82 (t0 + 29 + 6 * u + t), true)).1 t := by
  have n6 : n ≤ 6 := hT.2.2.2.1
  have mf := @rf_mindsAtFirst xs sl d J s g t0 n h u hT hu
  generalize hs2 : va_up s 92 (va_cpy (fun t => s 82 (t0 + 29 + 6 * u + t)) (s 92) 0 (6 * u) 6) = s2 at mf
  obtain ⟨s', c', q1, q2, q3, q4, q5⟩ := @rf_lvLoop xs sl d J s g t0 n h u o.length st V hT hu hN hst hV o 0 0 s2 (fun t => s 82 (t0 + 29 + 6 * u + t)) true (Nat.zero_add _) (fun j hj => by rw [Nat.zero_add]; exact h96 j hj) hl (Nat.le_refl 0) ⟨fun _ => rfl, fun _ => rfl⟩ (fun c hc => by rw [← hs2, va_up_ne _ _ hc]) (fun t ht => by rw [← hs2, va_up_self, pk_cpy_in (by omega) (by omega), show 0 + (6 * u + t - 6 * u) = t by omega])
  refine ⟨s', c', ?_, by omega, q3, q4, q5⟩
  simp (disch := first | omega | assumption | exact Or.inl rfl | exact Or.inr rfl | exact bI_or _ | exact zC81 | exact zC47 | exact zC65 | exact zC0 | exact zC1 | exact zC32 | exact zC70 | exact zC73 | exact ztc (by assumption) | exact zdc (by assumption) | exact zpc (by assumption) | decide) only [Option.some.injEq, exists_eq_left', ex2, Option.toList, List.singleton_append, List.append_nil, List.cons_append, List.nil_append, nI_add, nI_addL, nI_Ladd, pk_mul, nI_mulL, nI_Lmul, nI_subL, pk_sub, nI_divL, sub_dm, nI_leE, nI_ltE, nI_eqE, nI_Lle, nI_leL, nI_Llt, nI_ltL, nI_eqL, va_up_self, va_up_ne, up_up, up_comm, nI_clamp, bI_eq0, not_true_eq_false, not_false_eq_true, Nat.reduceEqDiff, Nat.reduceLeDiff, Nat.reduceAdd, Nat.reduceMul, Nat.one_ne_zero, Nat.zero_ne_one, decide_eq_false_iff_not, decide_eq_true_eq, Bool.false_eq_true, decide_true, decide_false, bI_true, bI_false, one_ne, Nat.le_refl, Nat.lt_irrefl, cleT, cleF, cltT, cltF, ceqT, ceqF, ↓reduceIte, r239_0, r239_1, r239_2, r239_3, r239_4, r239_7, r239_8, mf]
  exact q1
theorem mxI (v G : Int32) : (if v ≤ G then G else v) = if G < v then v else G := by
  by_cases c : G < v
  · rw [if_pos c, if_neg (Int32.not_le.mpr c)]
  · rw [if_neg c, if_pos (Int32.not_lt.mp c)]
theorem mnI (v G : Int32) : (if G ≤ v then G else v) = if v < G then v else G := by
  by_cases c : v < G
  · rw [if_pos c, if_neg (Int32.not_le.mpr c)]
  · rw [if_neg c, if_pos (Int32.not_lt.mp c)]
/-- one order walked, up to the question for the next -/
theorem rf_ftBody {t0 n h u t : Nat} {st G Lo O : Int32} {V : Nat → Nat → Int32} {o : List Nat} {l1 l3 l5 : Option Value} (hT : rT s t0 n h) (hu : u < 8) (ht : t < n) (hN : o.length ≤ 8) (hst : s 82 (t0 + 13 + u) = st) (hV : ∀ l t, s 88 (6 * l + t) = V l t) (h96 : ∀ j, j < o.length → s 96 j = nI (gN o j)) (hl : ∀ l ∈ o, l < 16) : ∃ s' : hS, (∀ c, c ≠ 92 → s' c = s c) ∧ ∀ z, (∀ l11, Runs xs sl (d+1+1) 237 168 [some (.ref (81)), l1, some (.int ( nI u)), l3, some (.int ( nI t)), l5, some (.int ( nI o.length)), some (.int ( (lfF t (eL n V st o (fun t => s 82 (t0 + 29 + 6 * u + t), true)) (G, Lo, O)).1)), some (.int ( (lfF t (eL n V st o (fun t => s 82 (t0 + 29 + 6 * u + t), true)) (G, Lo, O)).2.1)), some (.int ( (lfF t (eL n V st o (fun t => s 82 (t0 + 29 + 6 * u + t), true)) (G, Lo, O)).2.2)), some (.int ( 1)), l11] [] (hp J (s') g) z) → ∀ l11, Runs xs sl (d+1+1) 237 97 [some (.ref (81)), l1, some (.int ( nI u)), l3, some (.int ( nI t)), l5, some (.int ( nI o.length)), some (.int (G)), some (.int (Lo)), some (.int (O)), some (.int ( 1)), l11] [] (hp J (s) g) z := by
  have n6 : n ≤ 6 := hT.2.2.2.1
  obtain ⟨s', c', q1, q2, q3, q4, q5⟩ := @rf_leaves xs sl d J s g t0 n h u st V o hT hu hN hst hV h96 hl
  generalize eL n V st o (fun t => s 82 (t0 + 29 + 6 * u + t), true) = P at *
  refine ⟨s', q4, fun z hz l11 => ?_⟩
  have e1 := q5 t ht
  unfold lfF at hz
  rw [← mxI, ← mnI] at hz
  dsimp only at hz
  have hz := hz (some (.int (P.1 t)))
  obtain ⟨m, b⟩ := P
  dsimp only at hz e1 q3
  rw [r237_97]
  have eb : (if c' = 0 then (1 : Int32) else 0) = bI b := by
    cases b
    · rw [if_neg (fun z => absurd (q3.mp z) (by decide))]
      rfl
    · rw [if_pos (q3.mpr rfl)]
      rfl
  by_cases c1 : m t ≤ G
  · rw [if_pos c1] at hz
    by_cases c2 : Lo ≤ m t
    · rw [if_pos c2] at hz
      by_cases c3 : c' = 0
      · rw [if_pos c3] at eb
        rw [← eb] at hz
        simp (disch := first | omega | assumption | exact Or.inl rfl | exact Or.inr rfl | exact bI_or _ | exact zC81 | exact zC47 | exact zC65 | exact zC0 | exact zC1 | exact zC32 | exact zC70 | exact zC73 | exact ztc (by assumption) | exact zdc (by assumption) | exact zpc (by assumption) | decide) only [Option.some.injEq, exists_eq_left', ex2, Option.toList, List.singleton_append, List.append_nil, List.cons_append, List.nil_append, nI_add, nI_addL, nI_Ladd, pk_mul, nI_mulL, nI_Lmul, nI_subL, pk_sub, nI_divL, sub_dm, nI_leE, nI_ltE, nI_eqE, nI_Lle, nI_leL, nI_Llt, nI_ltL, nI_eqL, va_up_self, va_up_ne, up_up, up_comm, nI_clamp, bI_eq0, not_true_eq_false, not_false_eq_true, Nat.reduceEqDiff, Nat.reduceLeDiff, Nat.reduceAdd, Nat.reduceMul, Nat.one_ne_zero, Nat.zero_ne_one, decide_eq_false_iff_not, decide_eq_true_eq, Bool.false_eq_true, decide_true, decide_false, bI_true, bI_false, one_ne, Nat.le_refl, Nat.lt_irrefl, cleT, cleF, cltT, cltF, ceqT, ceqF, ↓reduceIte, r237_99, r237_102, r237_104, r237_105, r237_106, r237_108, r237_111, r237_114, r237_115, r237_118, r237_119, r237_120, r237_122, r237_123, r237_126, r237_128, r237_129, r237_130, r237_132, r237_133, r237_134, r237_136, r237_138, r237_140, r237_143, r237_145, r237_148, r237_150, r237_152, r237_154, r237_156, r237_159, r237_161, r237_164, r237_166, q1.iff, c3, zO81_22, zA92, e1, c1, c2]
        exact hz
      · rw [if_neg c3] at eb
        rw [← eb] at hz
        simp (disch := first | omega | assumption | exact Or.inl rfl | exact Or.inr rfl | exact bI_or _ | exact zC81 | exact zC47 | exact zC65 | exact zC0 | exact zC1 | exact zC32 | exact zC70 | exact zC73 | exact ztc (by assumption) | exact zdc (by assumption) | exact zpc (by assumption) | decide) only [Option.some.injEq, exists_eq_left', ex2, Option.toList, List.singleton_append, List.append_nil, List.cons_append, List.nil_append, nI_add, nI_addL, nI_Ladd, pk_mul, nI_mulL, nI_Lmul, nI_subL, pk_sub, nI_divL, sub_dm, nI_leE, nI_ltE, nI_eqE, nI_Lle, nI_leL, nI_Llt, nI_ltL, nI_eqL, va_up_self, va_up_ne, up_up, up_comm, nI_clamp, bI_eq0, not_true_eq_false, not_false_eq_true, Nat.reduceEqDiff, Nat.reduceLeDiff, Nat.reduceAdd, Nat.reduceMul, Nat.one_ne_zero, Nat.zero_ne_one, decide_eq_false_iff_not, decide_eq_true_eq, Bool.false_eq_true, decide_true, decide_false, bI_true, bI_false, one_ne, Nat.le_refl, Nat.lt_irrefl, cleT, cleF, cltT, cltF, ceqT, ceqF, ↓reduceIte, r237_99, r237_102, r237_104, r237_105, r237_106, r237_108, r237_111, r237_114, r237_115, r237_118, r237_119, r237_120, r237_122, r237_123, r237_126, r237_128, r237_129, r237_130, r237_132, r237_133, r237_134, r237_136, r237_138, r237_140, r237_143, r237_145, r237_148, r237_150, r237_152, r237_154, r237_156, r237_159, r237_161, r237_164, r237_166, q1.iff, c3, zO81_22, zA92, e1, c1, c2]
        exact hz
    · rw [if_neg c2] at hz
      by_cases c3 : c' = 0
      · rw [if_pos c3] at eb
        rw [← eb] at hz
        simp (disch := first | omega | assumption | exact Or.inl rfl | exact Or.inr rfl | exact bI_or _ | exact zC81 | exact zC47 | exact zC65 | exact zC0 | exact zC1 | exact zC32 | exact zC70 | exact zC73 | exact ztc (by assumption) | exact zdc (by assumption) | exact zpc (by assumption) | decide) only [Option.some.injEq, exists_eq_left', ex2, Option.toList, List.singleton_append, List.append_nil, List.cons_append, List.nil_append, nI_add, nI_addL, nI_Ladd, pk_mul, nI_mulL, nI_Lmul, nI_subL, pk_sub, nI_divL, sub_dm, nI_leE, nI_ltE, nI_eqE, nI_Lle, nI_leL, nI_Llt, nI_ltL, nI_eqL, va_up_self, va_up_ne, up_up, up_comm, nI_clamp, bI_eq0, not_true_eq_false, not_false_eq_true, Nat.reduceEqDiff, Nat.reduceLeDiff, Nat.reduceAdd, Nat.reduceMul, Nat.one_ne_zero, Nat.zero_ne_one, decide_eq_false_iff_not, decide_eq_true_eq, Bool.false_eq_true, decide_true, decide_false, bI_true, bI_false, one_ne, Nat.le_refl, Nat.lt_irrefl, cleT, cleF, cltT, cltF, ceqT, ceqF, ↓reduceIte, r237_99, r237_102, r237_104, r237_105, r237_106, r237_108, r237_111, r237_114, r237_115, r237_118, r237_119, r237_120, r237_122, r237_123, r237_126, r237_128, r237_129, r237_130, r237_132, r237_133, r237_134, r237_136, r237_138, r237_140, r237_143, r237_145, r237_148, r237_150, r237_152, r237_154, r237_156, r237_159, r237_161, r237_164, r237_166, q1.iff, c3, zO81_22, zA92, e1, c1, c2]
        exact hz
      · rw [if_neg c3] at eb
        rw [← eb] at hz
        simp (disch := first | omega | assumption | exact Or.inl rfl | exact Or.inr rfl | exact bI_or _ | exact zC81 | exact zC47 | exact zC65 | exact zC0 | exact zC1 | exact zC32 | exact zC70 | exact zC73 | exact ztc (by assumption) | exact zdc (by assumption) | exact zpc (by assumption) | decide) only [Option.some.injEq, exists_eq_left', ex2, Option.toList, List.singleton_append, List.append_nil, List.cons_append, List.nil_append, nI_add, nI_addL, nI_Ladd, pk_mul, nI_mulL, nI_Lmul, nI_subL, pk_sub, nI_divL, sub_dm, nI_leE, nI_ltE, nI_eqE, nI_Lle, nI_leL, nI_Llt, nI_ltL, nI_eqL, va_up_self, va_up_ne, up_up, up_comm, nI_clamp, bI_eq0, not_true_eq_false, not_false_eq_true, Nat.reduceEqDiff, Nat.reduceLeDiff, Nat.reduceAdd, Nat.reduceMul, Nat.one_ne_zero, Nat.zero_ne_one, decide_eq_false_iff_not, decide_eq_true_eq, Bool.false_eq_true, decide_true, decide_false, bI_true, bI_false, one_ne, Nat.le_refl, Nat.lt_irrefl, cleT, cleF, cltT, cltF, ceqT, ceqF, ↓reduceIte, r237_99, r237_102, r237_104, r237_105, r237_106, r237_108, r237_111, r237_114, r237_115, r237_118, r237_119, r237_120, r237_122, r237_123, r237_126, r237_128, r237_129, r237_130, r237_132, r237_133, r237_134, r237_136, r237_138, r237_140, r237_143, r237_145, r237_148, r237_150, r237_152, r237_154, r237_156, r237_159, r237_161, r237_164, r237_166, q1.iff, c3, zO81_22, zA92, e1, c1, c2]
        exact hz
  · rw [if_neg c1] at hz
    by_cases c2 : Lo ≤ m t
    · rw [if_pos c2] at hz
      by_cases c3 : c' = 0
      · rw [if_pos c3] at eb
        rw [← eb] at hz
        simp (disch := first | omega | assumption | exact Or.inl rfl | exact Or.inr rfl | exact bI_or _ | exact zC81 | exact zC47 | exact zC65 | exact zC0 | exact zC1 | exact zC32 | exact zC70 | exact zC73 | exact ztc (by assumption) | exact zdc (by assumption) | exact zpc (by assumption) | decide) only [Option.some.injEq, exists_eq_left', ex2, Option.toList, List.singleton_append, List.append_nil, List.cons_append, List.nil_append, nI_add, nI_addL, nI_Ladd, pk_mul, nI_mulL, nI_Lmul, nI_subL, pk_sub, nI_divL, sub_dm, nI_leE, nI_ltE, nI_eqE, nI_Lle, nI_leL, nI_Llt, nI_ltL, nI_eqL, va_up_self, va_up_ne, up_up, up_comm, nI_clamp, bI_eq0, not_true_eq_false, not_false_eq_true, Nat.reduceEqDiff, Nat.reduceLeDiff, Nat.reduceAdd, Nat.reduceMul, Nat.one_ne_zero, Nat.zero_ne_one, decide_eq_false_iff_not, decide_eq_true_eq, Bool.false_eq_true, decide_true, decide_false, bI_true, bI_false, one_ne, Nat.le_refl, Nat.lt_irrefl, cleT, cleF, cltT, cltF, ceqT, ceqF, ↓reduceIte, r237_99, r237_102, r237_104, r237_105, r237_106, r237_108, r237_111, r237_114, r237_115, r237_118, r237_119, r237_120, r237_122, r237_123, r237_126, r237_128, r237_129, r237_130, r237_132, r237_133, r237_134, r237_136, r237_138, r237_140, r237_143, r237_145, r237_148, r237_150, r237_152, r237_154, r237_156, r237_159, r237_161, r237_164, r237_166, q1.iff, c3, zO81_22, zA92, e1, c1, c2]
        exact hz
      · rw [if_neg c3] at eb
        rw [← eb] at hz
        simp (disch := first | omega | assumption | exact Or.inl rfl | exact Or.inr rfl | exact bI_or _ | exact zC81 | exact zC47 | exact zC65 | exact zC0 | exact zC1 | exact zC32 | exact zC70 | exact zC73 | exact ztc (by assumption) | exact zdc (by assumption) | exact zpc (by assumption) | decide) only [Option.some.injEq, exists_eq_left', ex2, Option.toList, List.singleton_append, List.append_nil, List.cons_append, List.nil_append, nI_add, nI_addL, nI_Ladd, pk_mul, nI_mulL, nI_Lmul, nI_subL, pk_sub, nI_divL, sub_dm, nI_leE, nI_ltE, nI_eqE, nI_Lle, nI_leL, nI_Llt, nI_ltL, nI_eqL, va_up_self, va_up_ne, up_up, up_comm, nI_clamp, bI_eq0, not_true_eq_false, not_false_eq_true, Nat.reduceEqDiff, Nat.reduceLeDiff, Nat.reduceAdd, Nat.reduceMul, Nat.one_ne_zero, Nat.zero_ne_one, decide_eq_false_iff_not, decide_eq_true_eq, Bool.false_eq_true, decide_true, decide_false, bI_true, bI_false, one_ne, Nat.le_refl, Nat.lt_irrefl, cleT, cleF, cltT, cltF, ceqT, ceqF, ↓reduceIte, r237_99, r237_102, r237_104, r237_105, r237_106, r237_108, r237_111, r237_114, r237_115, r237_118, r237_119, r237_120, r237_122, r237_123, r237_126, r237_128, r237_129, r237_130, r237_132, r237_133, r237_134, r237_136, r237_138, r237_140, r237_143, r237_145, r237_148, r237_150, r237_152, r237_154, r237_156, r237_159, r237_161, r237_164, r237_166, q1.iff, c3, zO81_22, zA92, e1, c1, c2]
        exact hz
    · rw [if_neg c2] at hz
      by_cases c3 : c' = 0
      · rw [if_pos c3] at eb
        rw [← eb] at hz
        simp (disch := first | omega | assumption | exact Or.inl rfl | exact Or.inr rfl | exact bI_or _ | exact zC81 | exact zC47 | exact zC65 | exact zC0 | exact zC1 | exact zC32 | exact zC70 | exact zC73 | exact ztc (by assumption) | exact zdc (by assumption) | exact zpc (by assumption) | decide) only [Option.some.injEq, exists_eq_left', ex2, Option.toList, List.singleton_append, List.append_nil, List.cons_append, List.nil_append, nI_add, nI_addL, nI_Ladd, pk_mul, nI_mulL, nI_Lmul, nI_subL, pk_sub, nI_divL, sub_dm, nI_leE, nI_ltE, nI_eqE, nI_Lle, nI_leL, nI_Llt, nI_ltL, nI_eqL, va_up_self, va_up_ne, up_up, up_comm, nI_clamp, bI_eq0, not_true_eq_false, not_false_eq_true, Nat.reduceEqDiff, Nat.reduceLeDiff, Nat.reduceAdd, Nat.reduceMul, Nat.one_ne_zero, Nat.zero_ne_one, decide_eq_false_iff_not, decide_eq_true_eq, Bool.false_eq_true, decide_true, decide_false, bI_true, bI_false, one_ne, Nat.le_refl, Nat.lt_irrefl, cleT, cleF, cltT, cltF, ceqT, ceqF, ↓reduceIte, r237_99, r237_102, r237_104, r237_105, r237_106, r237_108, r237_111, r237_114, r237_115, r237_118, r237_119, r237_120, r237_122, r237_123, r237_126, r237_128, r237_129, r237_130, r237_132, r237_133, r237_134, r237_136, r237_138, r237_140, r237_143, r237_145, r237_148, r237_150, r237_152, r237_154, r237_156, r237_159, r237_161, r237_164, r237_166, q1.iff, c3, zO81_22, zA92, e1, c1, c2]
        exact hz
      · rw [if_neg c3] at eb
        rw [← eb] at hz
        simp (disch := first | omega | assumption | exact Or.inl rfl | exact Or.inr rfl | exact bI_or _ | exact zC81 | exact zC47 | exact zC65 | exact zC0 | exact zC1 | exact zC32 | exact zC70 | exact zC73 | exact ztc (by assumption) | exact zdc (by assumption) | exact zpc (by assumption) | decide) only [Option.some.injEq, exists_eq_left', ex2, Option.toList, List.singleton_append, List.append_nil, List.cons_append, List.nil_append, nI_add, nI_addL, nI_Ladd, pk_mul, nI_mulL, nI_Lmul, nI_subL, pk_sub, nI_divL, sub_dm, nI_leE, nI_ltE, nI_eqE, nI_Lle, nI_leL, nI_Llt, nI_ltL, nI_eqL, va_up_self, va_up_ne, up_up, up_comm, nI_clamp, bI_eq0, not_true_eq_false, not_false_eq_true, Nat.reduceEqDiff, Nat.reduceLeDiff, Nat.reduceAdd, Nat.reduceMul, Nat.one_ne_zero, Nat.zero_ne_one, decide_eq_false_iff_not, decide_eq_true_eq, Bool.false_eq_true, decide_true, decide_false, bI_true, bI_false, one_ne, Nat.le_refl, Nat.lt_irrefl, cleT, cleF, cltT, cltF, ceqT, ceqF, ↓reduceIte, r237_99, r237_102, r237_104, r237_105, r237_106, r237_108, r237_111, r237_114, r237_115, r237_118, r237_119, r237_120, r237_122, r237_123, r237_126, r237_128, r237_129, r237_130, r237_132, r237_133, r237_134, r237_136, r237_138, r237_140, r237_143, r237_145, r237_148, r237_150, r237_152, r237_154, r237_156, r237_159, r237_161, r237_164, r237_166, q1.iff, c3, zO81_22, zA92, e1, c1, c2]
        exact hz
theorem nxB_at {n : Nat} {a b : Nat → Nat} (h : nxB n a b = true) : ∃ p, pvF a (n - 1) = p + 1 ∧ ∀ q, q < n → b q = swF a p (lgF a (a p) (n - 1)) (if q ≤ p then q else p + n - q) := by
  unfold nxB at h
  dsimp only at h
  cases e : pvF a (n - 1) with
  | zero =>
    rw [e] at h
    exact absurd h (by simp)
  | succ p =>
    rw [e, beq_f (Nat.succ_ne_zero p), cond_false, Nat.add_sub_cancel] at h
    refine ⟨p, rfl, ?_⟩
    generalize lgF a (a p) (n - 1) = j at *
    have key : ∀ k, (Nat.rec true (fun k ih => and (Nat.beq (b k) (swF a p j (cond (Nat.ble (k + 1) (p + 1)) k (p + n - k)))) ih) k : Bool) = true → ∀ q, q < k → b q = swF a p j (if q ≤ p then q else p + n - q) := by
      intro k
      induction k with
      | zero => exact fun _ q hq => absurd hq (by omega)
      | succ k ih =>
        intro hk q hq
        have hk' := Bool.and_eq_true_iff.mp hk
        by_cases c : q = k
        · subst c
          have h1 := Nat.eq_of_beq_eq_true hk'.1
          rw [h1]
          by_cases c2 : q ≤ p
          · rw [if_pos c2, show Nat.ble (q + 1) (p + 1) = true from Nat.ble_eq.mpr (by omega), cond_true]
          · have b2 : Nat.ble (q + 1) (p + 1) = false := by
              cases e2 : Nat.ble (q + 1) (p + 1) with
              | true => exact absurd (Nat.ble_eq.mp e2) (by omega)
              | false => rfl
            rw [if_neg c2, b2, cond_false]
        · exact ih hk'.2 q (by omega)
    exact key n h
/-- all orders walked -/
theorem rf_ftLoop {t0 n h u t N : Nat} {st : Int32} {V : Nat → Nat → Int32} {m0 : Nat → Int32} {l1 l3 l5 : Option Value} (hT : rT s t0 n h) (hu : u < 8) (ht : t < n) (hN : N ≤ 8) (hst : s 82 (t0 + 13 + u) = st) (hV : ∀ l t, s 88 (6 * l + t) = V l t) (hm0 : ∀ t, s 82 (t0 + 29 + 6 * u + t) = m0 t) : ∀ (r : List (List Nat)) (o : List Nat) (a : Int32 × Int32 × Int32) (s3 : hS), chnL N (o :: r) = true → (∀ q ∈ o :: r, q.length = N ∧ ∀ l ∈ q, l < 8) → (∀ c, c ≠ 92 → c ≠ 96 → s3 c = s c) → (∀ j, j < N → s3 96 j = nI (gN o j)) → ∃ s' : hS, (∀ c, c ≠ 92 → c ≠ 96 → s' c = s c) ∧ ∀ z, (∀ l11, Runs xs sl (d+1+1) 237 193 [some (.ref (81)), l1, some (.int ( nI u)), l3, some (.int ( nI t)), l5, some (.int ( nI N)), some (.int ( (feF n V st t (m0, true) (o :: r) a).1)), some (.int ( (feF n V st t (m0, true) (o :: r) a).2.1)), some (.int ( (feF n V st t (m0, true) (o :: r) a).2.2)), some (.int ( 0)), l11] [] (hp J (s') g) z) → ∀ l11, Runs xs sl (d+1+1) 237 97 [some (.ref (81)), l1, some (.int ( nI u)), l3, some (.int ( nI t)), l5, some (.int ( nI N)), some (.int ( a.1)), some (.int ( a.2.1)), some (.int ( a.2.2)), some (.int ( 1)), l11] [] (hp J (s3) g) z := by
  have em : (fun t => s 82 (t0 + 29 + 6 * u + t)) = m0 := funext hm0
  intro r
  induction r with
  | nil =>
    intro o a s3 hc hq h1 h96
    obtain ⟨hlen, hl⟩ := hq o List.mem_cons_self
    have hp0 : pvF (gN o) (N - 1) = 0 := Nat.eq_of_beq_eq_true hc
    have z81 : s3 81 = s 81 := h1 81 (by decide) (by decide)
    have z82 : s3 82 = s 82 := h1 82 (by decide) (by decide)
    have hT3 : rT s3 t0 n h := rT_fr hT (by rw [z81]) (by rw [z81]) (by rw [z81])
    subst hlen
    obtain ⟨s4, w1, w2⟩ := @rf_ftBody xs sl d J s3 g t0 n h u t st a.1 a.2.1 a.2.2 V o l1 l3 l5 hT3 hu ht hN (by rw [z82]; exact hst) (fun l t => by rw [h1 88 (by decide) (by decide)]; exact hV l t) h96 (fun l hl' => by have := hl l hl'; omega)
    rw [z82, em] at w2
    have ef : feF n V st t (m0, true) [o] a = lfF t (eL n V st o (m0, true)) (a.1, a.2.1, a.2.2) := rfl
    rw [ef]
    generalize lfF t (eL n V st o (m0, true)) (a.1, a.2.1, a.2.2) = a' at *
    refine ⟨s4, fun c h2 h3 => (w1 c h2).trans (h1 c h2 h3), fun z hz l11 => w2 z (fun l11 => ?_) l11⟩
    by_cases c : o.length ≤ 1
    · simp (disch := first | omega | assumption | exact Or.inl rfl | exact Or.inr rfl | exact bI_or _ | exact zC81 | exact zC47 | exact zC65 | exact zC0 | exact zC1 | exact zC32 | exact zC70 | exact zC73 | exact ztc (by assumption) | exact zdc (by assumption) | exact zpc (by assumption) | decide) only [Option.some.injEq, exists_eq_left', ex2, Option.toList, List.singleton_append, List.append_nil, List.cons_append, List.nil_append, nI_add, nI_addL, nI_Ladd, pk_mul, nI_mulL, nI_Lmul, nI_subL, pk_sub, nI_divL, sub_dm, nI_leE, nI_ltE, nI_eqE, nI_Lle, nI_leL, nI_Llt, nI_ltL, nI_eqL, va_up_self, va_up_ne, up_up, up_comm, nI_clamp, bI_eq0, not_true_eq_false, not_false_eq_true, Nat.reduceEqDiff, Nat.reduceLeDiff, Nat.reduceAdd, Nat.reduceMul, Nat.one_ne_zero, Nat.zero_ne_one, decide_eq_false_iff_not, decide_eq_true_eq, Bool.false_eq_true, decide_true, decide_false, bI_true, bI_false, one_ne, Nat.le_refl, Nat.lt_irrefl, cleT, cleF, cltT, cltF, ceqT, ceqF, ↓reduceIte, r237_168, r237_170, r237_171, r237_187, r237_188, r237_190, c]
      rw [r237_97]
      simp (disch := first | omega | assumption | exact Or.inl rfl | exact Or.inr rfl | exact bI_or _ | exact zC81 | exact zC47 | exact zC65 | exact zC0 | exact zC1 | exact zC32 | exact zC70 | exact zC73 | exact ztc (by assumption) | exact zdc (by assumption) | exact zpc (by assumption) | decide) only [Option.some.injEq, exists_eq_left', ex2, Option.toList, List.singleton_append, List.append_nil, List.cons_append, List.nil_append, nI_add, nI_addL, nI_Ladd, pk_mul, nI_mulL, nI_Lmul, nI_subL, pk_sub, nI_divL, sub_dm, nI_leE, nI_ltE, nI_eqE, nI_Lle, nI_leL, nI_Llt, nI_ltL, nI_eqL, va_up_self, va_up_ne, up_up, up_comm, nI_clamp, bI_eq0, not_true_eq_false, not_false_eq_true, Nat.reduceEqDiff, Nat.reduceLeDiff, Nat.reduceAdd, Nat.reduceMul, Nat.one_ne_zero, Nat.zero_ne_one, decide_eq_false_iff_not, decide_eq_true_eq, Bool.false_eq_true, decide_true, decide_false, bI_true, bI_false, one_ne, Nat.le_refl, Nat.lt_irrefl, cleT, cleF, cltT, cltF, ceqT, ceqF, ↓reduceIte, r237_99]
      exact hz _
    · have go0 := @rf_goesOn0 xs sl d J s4 g o.length (gN o) hN (by omega) (fun i hi => ⟨by rw [w1 96 (by decide)]; exact h96 i hi, hl _ (gN_mem o i hi)⟩) hp0
      simp (disch := first | omega | assumption | exact Or.inl rfl | exact Or.inr rfl | exact bI_or _ | exact zC81 | exact zC47 | exact zC65 | exact zC0 | exact zC1 | exact zC32 | exact zC70 | exact zC73 | exact ztc (by assumption) | exact zdc (by assumption) | exact zpc (by assumption) | decide) only [Option.some.injEq, exists_eq_left', ex2, Option.toList, List.singleton_append, List.append_nil, List.cons_append, List.nil_append, nI_add, nI_addL, nI_Ladd, pk_mul, nI_mulL, nI_Lmul, nI_subL, pk_sub, nI_divL, sub_dm, nI_leE, nI_ltE, nI_eqE, nI_Lle, nI_leL, nI_Llt, nI_ltL, nI_eqL, va_up_self, va_up_ne, up_up, up_comm, nI_clamp, bI_eq0, not_true_eq_false, not_false_eq_true, Nat.reduceEqDiff, Nat.reduceLeDiff, Nat.reduceAdd, Nat.reduceMul, Nat.one_ne_zero, Nat.zero_ne_one, decide_eq_false_iff_not, decide_eq_true_eq, Bool.false_eq_true, decide_true, decide_false, bI_true, bI_false, one_ne, Nat.le_refl, Nat.lt_irrefl, cleT, cleF, cltT, cltF, ceqT, ceqF, ↓reduceIte, r237_168, r237_170, r237_171, r237_174, r237_175, r237_177, r237_180, r237_183, r237_184, r237_187, r237_188, r237_190, c, go0.iff]
      rw [r237_97]
      simp (disch := first | omega | assumption | exact Or.inl rfl | exact Or.inr rfl | exact bI_or _ | exact zC81 | exact zC47 | exact zC65 | exact zC0 | exact zC1 | exact zC32 | exact zC70 | exact zC73 | exact ztc (by assumption) | exact zdc (by assumption) | exact zpc (by assumption) | decide) only [Option.some.injEq, exists_eq_left', ex2, Option.toList, List.singleton_append, List.append_nil, List.cons_append, List.nil_append, nI_add, nI_addL, nI_Ladd, pk_mul, nI_mulL, nI_Lmul, nI_subL, pk_sub, nI_divL, sub_dm, nI_leE, nI_ltE, nI_eqE, nI_Lle, nI_leL, nI_Llt, nI_ltL, nI_eqL, va_up_self, va_up_ne, up_up, up_comm, nI_clamp, bI_eq0, not_true_eq_false, not_false_eq_true, Nat.reduceEqDiff, Nat.reduceLeDiff, Nat.reduceAdd, Nat.reduceMul, Nat.one_ne_zero, Nat.zero_ne_one, decide_eq_false_iff_not, decide_eq_true_eq, Bool.false_eq_true, decide_true, decide_false, bI_true, bI_false, one_ne, Nat.le_refl, Nat.lt_irrefl, cleT, cleF, cltT, cltF, ceqT, ceqF, ↓reduceIte, r237_99]
      exact hz _
  | cons o2 r ih =>
    intro o a s3 hc hq h1 h96
    obtain ⟨hlen, hl⟩ := hq o List.mem_cons_self
    have hc' := Bool.and_eq_true_iff.mp (show (nxB N (gN o) (gN o2) && chnL N (o2 :: r)) = true from hc)
    obtain ⟨p, p1, p2⟩ := nxB_at hc'.1
    have z81 : s3 81 = s 81 := h1 81 (by decide) (by decide)
    have z82 : s3 82 = s 82 := h1 82 (by decide) (by decide)
    have hT3 : rT s3 t0 n h := rT_fr hT (by rw [z81]) (by rw [z81]) (by rw [z81])
    subst hlen
    obtain ⟨s4, w1, w2⟩ := @rf_ftBody xs sl d J s3 g t0 n h u t st a.1 a.2.1 a.2.2 V o l1 l3 l5 hT3 hu ht hN (by rw [z82]; exact hst) (fun l t => by rw [h1 88 (by decide) (by decide)]; exact hV l t) h96 (fun l hl' => by have := hl l hl'; omega)
    rw [z82, em] at w2
    have ef : feF n V st t (m0, true) (o :: o2 :: r) a = feF n V st t (m0, true) (o2 :: r) (lfF t (eL n V st o (m0, true)) (a.1, a.2.1, a.2.2)) := rfl
    rw [ef]
    generalize lfF t (eL n V st o (m0, true)) (a.1, a.2.1, a.2.2) = a' at *
    have le := pvF_le (gN o) (o.length - 1)
    obtain ⟨s5, g1, g2, g3⟩ := @rf_goesOn1 xs sl d J s4 g o.length p (gN o) hN (fun i hi => ⟨by rw [w1 96 (by decide)]; exact h96 i hi, hl _ (gN_mem o i hi)⟩) p1
    obtain ⟨s', i1, i2⟩ := ih o2 a' s5 hc'.2 (fun q hq' => hq q (List.mem_cons_of_mem _ hq')) (fun c h2 h3 => by rw [g2 c h3, w1 c h2]; exact h1 c h2 h3) (fun j hj => by rw [g3 j hj, p2 j hj])
    refine ⟨s', i1, fun z hz l11 => w2 z (fun l11 => ?_) l11⟩
    have c : ¬ o.length ≤ 1 := by omega
    simp (disch := first | omega | assumption | exact Or.inl rfl | exact Or.inr rfl | exact bI_or _ | exact zC81 | exact zC47 | exact zC65 | exact zC0 | exact zC1 | exact zC32 | exact zC70 | exact zC73 | exact ztc (by assumption) | exact zdc (by assumption) | exact zpc (by assumption) | decide) only [Option.some.injEq, exists_eq_left', ex2, Option.toList, List.singleton_append, List.append_nil, List.cons_append, List.nil_append, nI_add, nI_addL, nI_Ladd, pk_mul, nI_mulL, nI_Lmul, nI_subL, pk_sub, nI_divL, sub_dm, nI_leE, nI_ltE, nI_eqE, nI_Lle, nI_leL, nI_Llt, nI_ltL, nI_eqL, va_up_self, va_up_ne, up_up, up_comm, nI_clamp, bI_eq0, not_true_eq_false, not_false_eq_true, Nat.reduceEqDiff, Nat.reduceLeDiff, Nat.reduceAdd, Nat.reduceMul, Nat.one_ne_zero, Nat.zero_ne_one, decide_eq_false_iff_not, decide_eq_true_eq, Bool.false_eq_true, decide_true, decide_false, bI_true, bI_false, one_ne, Nat.le_refl, Nat.lt_irrefl, cleT, cleF, cltT, cltF, ceqT, ceqF, ↓reduceIte, r237_168, r237_170, r237_171, r237_174, r237_175, r237_177, r237_180, r237_183, r237_184, r237_187, r237_188, r237_190, c, g1.iff]
    exact i2 z hz _
end ORW
