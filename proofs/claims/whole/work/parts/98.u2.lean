/-! FITS: the reference's rows -/
section RWS
variable {xs : Nat → Int32} {sl d : Nat} {J : hJk} {s x y : hS} {g : hG}
def rwS (m : Nat → Nat → Nat) (sk : Nat → Nat → Bool) (t : Nat) (f : Nat → Nat) (k : Nat) : Nat := sumN (fun v => if sk t v = true then 0 else shf (m t v) f k) 7
def rwF (m : Nat → Nat → Nat) (sk : Nat → Nat → Bool) (n : Nat) : Nat → Nat := it (rwS m sk) n dl0
def GK (g g' : hG) : Prop := ∀ c, c ≠ 100 → c ≠ 101 → g' c = g c
theorem rw_start {a1 a2 : Int32} : ∃ g1 : hG, GK g g1 ∧ (∀ k, k < 13 → g1 100 k = lN (dl0 k)) ∧ ∀ z, (∀ l4 l5 l6, Runs xs sl d 269 31 [some (.ref 81), some (.int a1), some (.int a2), some (.int (nI 0)), l4, l5, l6] [] (hp J s g1) z) → Runs xs sl d 269 0 [some (.ref 81), some (.int a1), some (.int a2), none, none, none, none] [] (hp J s g) z := by
  obtain ⟨g1, ⟨q1, q2⟩, q3⟩ := up_loop (Q := fun i (g1 : hG) => GK g g1 ∧ ∀ k, k < i → g1 100 k = lN (dl0 k)) (P := fun i (g1 : hG) (z : Option Value × mH) => Runs xs sl d 269 2 [some (.ref 81), some (.int a1), some (.int a2), some (.int (nI i)), none, none, none] [] (hp J s g1) z) 13 (by
    intro i g1 hi hQ
    refine ⟨va_up g1 100 (va_up (g1 100) i (lN (dl0 i))), ⟨fun c h1 h2 => by rw [va_up_ne _ _ h1]; exact hQ.1 c h1 h2, fun k hk => ?_⟩, fun z hz => ?_⟩
    · rw [va_up_self]
      by_cases c : k = i
      · subst c
        rw [va_up_self]
      · rw [va_up_ne _ _ c]
        exact hQ.2 k (by omega)
    · rw [r269_2]
      unfold dl0 at hz
      by_cases c : i = 0
      · subst c
        rw [if_pos rfl] at hz
        simp (disch := first | omega | assumption | exact Or.inl rfl | exact Or.inr rfl | exact bI_or _ | exact zC81 | exact zC47 | exact zC65 | exact zC0 | exact zC1 | exact zC32 | exact zC70 | exact zC73 | exact ztc (by assumption) | exact zdc (by assumption) | exact zpc (by assumption) | decide) only [Option.some.injEq, exists_eq_left', ex2, Option.toList, List.singleton_append, List.append_nil, List.cons_append, List.nil_append, nI_add, nI_addL, nI_Ladd, pk_mul, nI_mulL, nI_Lmul, nI_subL, pk_sub, nI_divL, sub_dm, nI_leE, nI_ltE, nI_eqE, nI_Lle, nI_leL, nI_Llt, nI_ltL, nI_eqL, va_up_self, va_up_ne, up_up, up_comm, nI_clamp, bI_eq0, not_true_eq_false, not_false_eq_true, Nat.reduceEqDiff, Nat.reduceLeDiff, Nat.reduceAdd, Nat.reduceMul, Nat.one_ne_zero, Nat.zero_ne_one, decide_eq_false_iff_not, decide_eq_true_eq, Bool.false_eq_true, decide_true, decide_false, bI_true, bI_false, one_ne, Nat.le_refl, Nat.lt_irrefl, cleT, cleF, cltT, cltF, ceqT, ceqF, ↓reduceIte, r269_3, r269_5, r269_8, r269_9, r269_12, r269_13, r269_14, r269_17, r269_18, r269_21, r269_22, r269_23, r269_26, zO81_38, zK100]
        exact hz
      · rw [if_neg c] at hz
        simp (disch := first | omega | assumption | exact Or.inl rfl | exact Or.inr rfl | exact bI_or _ | exact zC81 | exact zC47 | exact zC65 | exact zC0 | exact zC1 | exact zC32 | exact zC70 | exact zC73 | exact ztc (by assumption) | exact zdc (by assumption) | exact zpc (by assumption) | decide) only [Option.some.injEq, exists_eq_left', ex2, Option.toList, List.singleton_append, List.append_nil, List.cons_append, List.nil_append, nI_add, nI_addL, nI_Ladd, pk_mul, nI_mulL, nI_Lmul, nI_subL, pk_sub, nI_divL, sub_dm, nI_leE, nI_ltE, nI_eqE, nI_Lle, nI_leL, nI_Llt, nI_ltL, nI_eqL, va_up_self, va_up_ne, up_up, up_comm, nI_clamp, bI_eq0, not_true_eq_false, not_false_eq_true, Nat.reduceEqDiff, Nat.reduceLeDiff, Nat.reduceAdd, Nat.reduceMul, Nat.one_ne_zero, Nat.zero_ne_one, decide_eq_false_iff_not, decide_eq_true_eq, Bool.false_eq_true, decide_true, decide_false, bI_true, bI_false, one_ne, Nat.le_refl, Nat.lt_irrefl, cleT, cleF, cltT, cltF, ceqT, ceqF, ↓reduceIte, r269_3, r269_5, r269_8, r269_9, r269_12, r269_13, r269_14, r269_17, r269_18, r269_21, r269_22, r269_23, r269_26, zO81_38, zK100, c]
        exact hz) g ⟨fun _ _ _ => rfl, fun k h => absurd h (by omega)⟩
  refine ⟨g1, q1, q2, fun z hz => ?_⟩
  simp (disch := first | omega | assumption | exact Or.inl rfl | exact Or.inr rfl | exact bI_or _ | exact zC81 | exact zC47 | exact zC65 | exact zC0 | exact zC1 | exact zC32 | exact zC70 | exact zC73 | exact ztc (by assumption) | exact zdc (by assumption) | exact zpc (by assumption) | decide) only [Option.some.injEq, exists_eq_left', ex2, Option.toList, List.singleton_append, List.append_nil, List.cons_append, List.nil_append, nI_add, nI_addL, nI_Ladd, pk_mul, nI_mulL, nI_Lmul, nI_subL, pk_sub, nI_divL, sub_dm, nI_leE, nI_ltE, nI_eqE, nI_Lle, nI_leL, nI_Llt, nI_ltL, nI_eqL, va_up_self, va_up_ne, up_up, up_comm, nI_clamp, bI_eq0, not_true_eq_false, not_false_eq_true, Nat.reduceEqDiff, Nat.reduceLeDiff, Nat.reduceAdd, Nat.reduceMul, Nat.one_ne_zero, Nat.zero_ne_one, decide_eq_false_iff_not, decide_eq_true_eq, Bool.false_eq_true, decide_true, decide_false, bI_true, bI_false, one_ne, Nat.le_refl, Nat.lt_irrefl, cleT, cleF, cltT, cltF, ceqT, ceqF, ↓reduceIte, r269_0, r269_1]
  refine q3 z ?_
  rw [r269_2]
  simp (disch := first | omega | assumption | exact Or.inl rfl | exact Or.inr rfl | exact bI_or _ | exact zC81 | exact zC47 | exact zC65 | exact zC0 | exact zC1 | exact zC32 | exact zC70 | exact zC73 | exact ztc (by assumption) | exact zdc (by assumption) | exact zpc (by assumption) | decide) only [Option.some.injEq, exists_eq_left', ex2, Option.toList, List.singleton_append, List.append_nil, List.cons_append, List.nil_append, nI_add, nI_addL, nI_Ladd, pk_mul, nI_mulL, nI_Lmul, nI_subL, pk_sub, nI_divL, sub_dm, nI_leE, nI_ltE, nI_eqE, nI_Lle, nI_leL, nI_Llt, nI_ltL, nI_eqL, va_up_self, va_up_ne, up_up, up_comm, nI_clamp, bI_eq0, not_true_eq_false, not_false_eq_true, Nat.reduceEqDiff, Nat.reduceLeDiff, Nat.reduceAdd, Nat.reduceMul, Nat.one_ne_zero, Nat.zero_ne_one, decide_eq_false_iff_not, decide_eq_true_eq, Bool.false_eq_true, decide_true, decide_false, bI_true, bI_false, one_ne, Nat.le_refl, Nat.lt_irrefl, cleT, cleF, cltT, cltF, ceqT, ceqF, ↓reduceIte, r269_3, r269_5, r269_29, r269_30]
  exact hz _ _ _
/-- one topic -/
theorem rw_topic {c0 n li c t : Nat} {kd tp : Nat → Nat} {vv : Nat → Int32} {a1 a2 : Int32} {sk : Nat → Nat → Bool} {f : Nat → Nat} (hP : rP s c0 n li c kd tp vv) (ht : t < n) (hsk : ∀ v, v < 7 → sk t v = (decide (nI t = a1) && !decide (nI v - 3 = a2))) (hf : ∀ k, k < 13 → g 100 k = lN (f k)) : ∃ g1 : hG, GK g g1 ∧ (∀ k, k < 13 → g1 100 k = lN (rwS (msF kd tp vv c) sk t f k)) ∧ ∀ z, (∀ l4 l5 l6, Runs xs sl (d + 3) 269 31 [some (.ref 81), some (.int a1), some (.int a2), some (.int (nI (t + 1))), l4, l5, l6] [] (hp J s g1) z) → ∀ l4 l5 l6, Runs xs sl (d + 3) 269 31 [some (.ref 81), some (.int a1), some (.int a2), some (.int (nI t)), l4, l5, l6] [] (hp J s g) z := by
  have hP' := hP
  obtain ⟨p1, p2, p2', p3, p4, p5, p6, p7, p8, p9⟩ := hP'
  obtain ⟨g1, ⟨q1, q2⟩, q3⟩ := up_loop (Q := fun i (g1 : hG) => (∀ c, c ≠ 101 → g1 c = g c) ∧ ∀ k, k < i → g1 101 k = lN 0) (P := fun i (g1 : hG) (z : Option Value × mH) => ∀ l5 l6, Runs xs sl (d + 3) 269 47 [some (.ref 81), some (.int a1), some (.int a2), some (.int (nI t)), some (.int (nI i)), l5, l6] [] (hp J s g1) z) 13 (by
    intro i g1 hi hQ
    refine ⟨va_up g1 101 (va_up (g1 101) i (lN 0)), ⟨fun c h1 => by rw [va_up_ne _ _ h1]; exact hQ.1 c h1, fun k hk => ?_⟩, fun z hz l5 l6 => ?_⟩
    · rw [va_up_self]
      by_cases c : k = i
      · subst c
        rw [va_up_self]
      · rw [va_up_ne _ _ c]
        exact hQ.2 k (by omega)
    · rw [r269_47]
      simp (disch := first | omega | assumption | exact Or.inl rfl | exact Or.inr rfl | exact bI_or _ | exact zC81 | exact zC47 | exact zC65 | exact zC0 | exact zC1 | exact zC32 | exact zC70 | exact zC73 | exact ztc (by assumption) | exact zdc (by assumption) | exact zpc (by assumption) | decide) only [Option.some.injEq, exists_eq_left', ex2, Option.toList, List.singleton_append, List.append_nil, List.cons_append, List.nil_append, nI_add, nI_addL, nI_Ladd, pk_mul, nI_mulL, nI_Lmul, nI_subL, pk_sub, nI_divL, sub_dm, nI_leE, nI_ltE, nI_eqE, nI_Lle, nI_leL, nI_Llt, nI_ltL, nI_eqL, va_up_self, va_up_ne, up_up, up_comm, nI_clamp, bI_eq0, not_true_eq_false, not_false_eq_true, Nat.reduceEqDiff, Nat.reduceLeDiff, Nat.reduceAdd, Nat.reduceMul, Nat.one_ne_zero, Nat.zero_ne_one, decide_eq_false_iff_not, decide_eq_true_eq, Bool.false_eq_true, decide_true, decide_false, bI_true, bI_false, one_ne, Nat.le_refl, Nat.lt_irrefl, cleT, cleF, cltT, cltF, ceqT, ceqF, ↓reduceIte, r269_49, r269_51, r269_54, r269_55, r269_58, r269_60, r269_61, r269_62, r269_65, zO81_39, zK101]
      exact hz _ _) g ⟨fun _ _ => rfl, fun k h => absurd h (by omega)⟩
  have hm : ∀ v, msF kd tp vv c t v ≤ 12 := fun v => by
    have q := msF_le (kd := kd) (tp := tp) (vv := vv) (c := c) (t := t) (v := v)
    omega
  have lied := fun (g : hG) (v : Nat) => @rf_lied xs sl d J s g c0 n li c t v kd tp vv hP (by omega)
  generalize hmm : msF kd tp vv c = m at *
  obtain ⟨g2, ⟨u1, u2⟩, u3⟩ := up_loop (Q := fun v (g2 : hG) => (∀ c, c ≠ 101 → g2 c = g c) ∧ ∀ k, k < 13 → g2 101 k = lN (sumN (fun v => if sk t v = true then 0 else shf (m t v) f k) v)) (P := fun v (g2 : hG) (z : Option Value × mH) => ∀ l5 l6, Runs xs sl (d + 3) 269 72 [some (.ref 81), some (.int a1), some (.int a2), some (.int (nI t)), some (.int (nI v - 3)), l5, l6] [] (hp J s g2) z) 7 (by
    intro v g2 hv hQ
    obtain ⟨u1, u2⟩ := hQ
    have w1 := v_lt3 v (by omega)
    have w2 := v_inc v (by omega)
    have mv := hm v
    have es : ∀ k, sumN (fun v => if sk t v = true then 0 else shf (m t v) f k) (v + 1) = sumN (fun v => if sk t v = true then 0 else shf (m t v) f k) v + (if sk t v = true then 0 else shf (m t v) f k) := fun _ => rfl
    have sv := hsk v hv
    by_cases cs : sk t v = true
    · refine ⟨g2, ⟨u1, fun k hk => by rw [es, if_pos cs]; exact u2 k hk⟩, fun z hz l5 l6 => ?_⟩
      rw [cs] at sv
      have s1 : nI t = a1 := by
        by_cases c : nI t = a1
        · exact c
        · rw [decide_eq_false c, Bool.false_and] at sv
          exact absurd sv (by decide)
      have s2 : ¬ nI v - 3 = a2 := by
        intro c
        rw [decide_eq_true c, Bool.not_true, Bool.and_false] at sv
        exact absurd sv (by decide)
      have s1' := eq_true s1
      rw [r269_72]
      simp (disch := first | omega | assumption | exact Or.inl rfl | exact Or.inr rfl | exact bI_or _ | exact zC81 | exact zC47 | exact zC65 | exact zC0 | exact zC1 | exact zC32 | exact zC70 | exact zC73 | exact ztc (by assumption) | exact zdc (by assumption) | exact zpc (by assumption) | decide) only [Option.some.injEq, exists_eq_left', ex2, Option.toList, List.singleton_append, List.append_nil, List.cons_append, List.nil_append, nI_add, nI_addL, nI_Ladd, pk_mul, nI_mulL, nI_Lmul, nI_subL, pk_sub, nI_divL, sub_dm, nI_leE, nI_ltE, nI_eqE, nI_Lle, nI_leL, nI_Llt, nI_ltL, nI_eqL, va_up_self, va_up_ne, up_up, up_comm, nI_clamp, bI_eq0, not_true_eq_false, not_false_eq_true, Nat.reduceEqDiff, Nat.reduceLeDiff, Nat.reduceAdd, Nat.reduceMul, Nat.one_ne_zero, Nat.zero_ne_one, decide_eq_false_iff_not, decide_eq_true_eq, Bool.false_eq_true, decide_true, decide_false, bI_true, bI_false, one_ne, Nat.le_refl, Nat.lt_irrefl, cleT, cleF, cltT, cltF, ceqT, ceqF, ↓reduceIte, r269_74, r269_75, r269_78, r269_79, r269_80, r269_83, r269_85, r269_86, r269_89, r269_92, r269_93, r269_94, r269_96, r269_99, r269_101, r269_102, r269_104, r269_106, r269_108, r269_109, r269_111, r269_114, r269_115, r269_118, r269_120, r269_122, r269_123, r269_124, r269_125, r269_126, r269_129, r269_131, r269_132, r269_133, r269_134, r269_137, r269_140, r269_143, w1, w2, s1', s2]
      exact hz _ _
    · have cs' : sk t v = false := Bool.not_eq_true _ ▸ cs
      obtain ⟨g3, ⟨k1, k2⟩, k3⟩ := up_loop (Q := fun l (g3 : hG) => (∀ c, c ≠ 101 → g3 c = g c) ∧ ∀ k, k < 13 → g3 101 k = lN (sumN (fun v => if sk t v = true then 0 else shf (m t v) f k) v + (if m t v ≤ k ∧ k < m t v + l then f (k - m t v) else 0))) (P := fun l (g3 : hG) (z : Option Value × mH) => Runs xs sl (d + 3) 269 104 [some (.ref 81), some (.int a1), some (.int a2), some (.int (nI t)), some (.int (nI v - 3)), some (.int (nI (m t v))), some (.int (nI l))] [] (hp J s g3) z) (13 - m t v) (by
        intro l g3 hl hQ
        obtain ⟨j1, j2⟩ := hQ
        have old := j2 (l + m t v) (by omega)
        rw [if_neg (by omega), Nat.add_zero] at old
        have ef : g3 100 l = lN (f l) := by rw [j1 100 (by decide)]; exact hf l (by omega)
        refine ⟨va_up g3 101 (va_up (g3 101) (l + m t v) (lN (sumN (fun v' => if sk t v' = true then 0 else shf (m t v') f (l + m t v)) v + f l))), ⟨fun c hc => by rw [va_up_ne _ _ hc]; exact j1 c hc, fun k hk => ?_⟩, fun z hz => ?_⟩
        · rw [va_up_self]
          by_cases e : k = l + m t v
          · subst e
            rw [va_up_self, if_pos (by omega), show l + m t v - m t v = l by omega]
          · rw [va_up_ne _ _ e, j2 k hk]
            congr 2
            by_cases c : m t v ≤ k ∧ k < m t v + l
            · rw [if_pos c, if_pos (by omega)]
            · rw [if_neg c, if_neg (by omega)]
        · rw [r269_104]
          simp (disch := first | omega | assumption | exact Or.inl rfl | exact Or.inr rfl | exact bI_or _ | exact zC81 | exact zC47 | exact zC65 | exact zC0 | exact zC1 | exact zC32 | exact zC70 | exact zC73 | exact ztc (by assumption) | exact zdc (by assumption) | exact zpc (by assumption) | decide) only [Option.some.injEq, exists_eq_left', ex2, Option.toList, List.singleton_append, List.append_nil, List.cons_append, List.nil_append, nI_add, nI_addL, nI_Ladd, pk_mul, nI_mulL, nI_Lmul, nI_subL, pk_sub, nI_divL, sub_dm, nI_leE, nI_ltE, nI_eqE, nI_Lle, nI_leL, nI_Llt, nI_ltL, nI_eqL, va_up_self, va_up_ne, up_up, up_comm, nI_clamp, bI_eq0, not_true_eq_false, not_false_eq_true, Nat.reduceEqDiff, Nat.reduceLeDiff, Nat.reduceAdd, Nat.reduceMul, Nat.one_ne_zero, Nat.zero_ne_one, decide_eq_false_iff_not, decide_eq_true_eq, Bool.false_eq_true, decide_true, decide_false, bI_true, bI_false, one_ne, Nat.le_refl, Nat.lt_irrefl, cleT, cleF, cltT, cltF, ceqT, ceqF, ↓reduceIte, r269_106, r269_108, r269_109, r269_111, r269_114, r269_115, r269_118, r269_120, r269_122, r269_123, r269_124, r269_125, r269_126, r269_129, r269_131, r269_132, r269_133, r269_134, r269_137, zO81_38, zO81_39, zJ100, zJ101, zK101, old, ef, lN_add]
          exact hz) g2 ⟨u1, fun k hk => by rw [if_neg (by omega), Nat.add_zero]; exact u2 k hk⟩
      refine ⟨g3, ⟨k1, fun k hk => ?_⟩, fun z hz l5 l6 => ?_⟩
      · rw [k2 k hk, es, if_neg cs]
        congr 2
        unfold shf
        by_cases c : m t v ≤ k
        · rw [if_pos c, if_pos (by omega)]
        · rw [if_neg c, if_neg (by omega)]
      · have fin : Runs xs sl (d + 3) 269 104 [some (.ref 81), some (.int a1), some (.int a2), some (.int (nI t)), some (.int (nI v - 3)), some (.int (nI (m t v))), some (.int (nI 0))] [] (hp J s g2) z := by
          refine k3 z ?_
          have e13 : 13 - m t v + m t v = 13 := by omega
          rw [r269_104]
          simp (disch := first | omega | assumption | exact Or.inl rfl | exact Or.inr rfl | exact bI_or _ | exact zC81 | exact zC47 | exact zC65 | exact zC0 | exact zC1 | exact zC32 | exact zC70 | exact zC73 | exact ztc (by assumption) | exact zdc (by assumption) | exact zpc (by assumption) | decide) only [Option.some.injEq, exists_eq_left', ex2, Option.toList, List.singleton_append, List.append_nil, List.cons_append, List.nil_append, nI_add, nI_addL, nI_Ladd, pk_mul, nI_mulL, nI_Lmul, nI_subL, pk_sub, nI_divL, sub_dm, nI_leE, nI_ltE, nI_eqE, nI_Lle, nI_leL, nI_Llt, nI_ltL, nI_eqL, va_up_self, va_up_ne, up_up, up_comm, nI_clamp, bI_eq0, not_true_eq_false, not_false_eq_true, Nat.reduceEqDiff, Nat.reduceLeDiff, Nat.reduceAdd, Nat.reduceMul, Nat.one_ne_zero, Nat.zero_ne_one, decide_eq_false_iff_not, decide_eq_true_eq, Bool.false_eq_true, decide_true, decide_false, bI_true, bI_false, one_ne, Nat.le_refl, Nat.lt_irrefl, cleT, cleF, cltT, cltF, ceqT, ceqF, ↓reduceIte, r269_106, r269_108, r269_109, r269_111, r269_140, r269_143, w2, e13]
          exact hz _ _
        rw [r269_72]
        rw [cs'] at sv
        by_cases s1 : nI t = a1
        · have s1' := eq_true s1
          have s2 : nI v - 3 = a2 := by
            by_cases c : nI v - 3 = a2
            · exact c
            · rw [decide_eq_true s1, decide_eq_false c] at sv
              exact absurd sv (by decide)
          have s2' := eq_true s2
          simp (disch := first | omega | assumption | exact Or.inl rfl | exact Or.inr rfl | exact bI_or _ | exact zC81 | exact zC47 | exact zC65 | exact zC0 | exact zC1 | exact zC32 | exact zC70 | exact zC73 | exact ztc (by assumption) | exact zdc (by assumption) | exact zpc (by assumption) | decide) only [Option.some.injEq, exists_eq_left', ex2, Option.toList, List.singleton_append, List.append_nil, List.cons_append, List.nil_append, nI_add, nI_addL, nI_Ladd, pk_mul, nI_mulL, nI_Lmul, nI_subL, pk_sub, nI_divL, sub_dm, nI_leE, nI_ltE, nI_eqE, nI_Lle, nI_leL, nI_Llt, nI_ltL, nI_eqL, va_up_self, va_up_ne, up_up, up_comm, nI_clamp, bI_eq0, not_true_eq_false, not_false_eq_true, Nat.reduceEqDiff, Nat.reduceLeDiff, Nat.reduceAdd, Nat.reduceMul, Nat.one_ne_zero, Nat.zero_ne_one, decide_eq_false_iff_not, decide_eq_true_eq, Bool.false_eq_true, decide_true, decide_false, bI_true, bI_false, one_ne, Nat.le_refl, Nat.lt_irrefl, cleT, cleF, cltT, cltF, ceqT, ceqF, ↓reduceIte, r269_74, r269_75, r269_78, r269_79, r269_80, r269_83, r269_85, r269_86, r269_89, r269_92, r269_93, r269_94, r269_96, r269_99, r269_101, r269_102, w1, s1', s2', lied]
          exact fin
        · simp (disch := first | omega | assumption | exact Or.inl rfl | exact Or.inr rfl | exact bI_or _ | exact zC81 | exact zC47 | exact zC65 | exact zC0 | exact zC1 | exact zC32 | exact zC70 | exact zC73 | exact ztc (by assumption) | exact zdc (by assumption) | exact zpc (by assumption) | decide) only [Option.some.injEq, exists_eq_left', ex2, Option.toList, List.singleton_append, List.append_nil, List.cons_append, List.nil_append, nI_add, nI_addL, nI_Ladd, pk_mul, nI_mulL, nI_Lmul, nI_subL, pk_sub, nI_divL, sub_dm, nI_leE, nI_ltE, nI_eqE, nI_Lle, nI_leL, nI_Llt, nI_ltL, nI_eqL, va_up_self, va_up_ne, up_up, up_comm, nI_clamp, bI_eq0, not_true_eq_false, not_false_eq_true, Nat.reduceEqDiff, Nat.reduceLeDiff, Nat.reduceAdd, Nat.reduceMul, Nat.one_ne_zero, Nat.zero_ne_one, decide_eq_false_iff_not, decide_eq_true_eq, Bool.false_eq_true, decide_true, decide_false, bI_true, bI_false, one_ne, Nat.le_refl, Nat.lt_irrefl, cleT, cleF, cltT, cltF, ceqT, ceqF, ↓reduceIte, r269_74, r269_75, r269_78, r269_79, r269_80, r269_83, r269_85, r269_86, r269_89, r269_92, r269_93, r269_94, r269_96, r269_99, r269_101, r269_102, w1, s1, lied]
          exact fin) g1 ⟨q1, fun k hk => q2 k hk⟩
  obtain ⟨g4, ⟨y1, y2⟩, y3⟩ := up_loop (Q := fun i (g4 : hG) => (∀ c, c ≠ 100 → g4 c = g2 c) ∧ ∀ k, k < i → g4 100 k = g2 101 k) (P := fun i (g4 : hG) (z : Option Value × mH) => ∀ l5 l6, Runs xs sl (d + 3) 269 149 [some (.ref 81), some (.int a1), some (.int a2), some (.int (nI t)), some (.int (nI i)), l5, l6] [] (hp J s g4) z) 13 (by
    intro i g4 hi hQ
    obtain ⟨y1, y2⟩ := hQ
    refine ⟨va_up g4 100 (va_up (g4 100) i (g2 101 i)), ⟨fun c h1 => by rw [va_up_ne _ _ h1]; exact y1 c h1, fun k hk => ?_⟩, fun z hz l5 l6 => ?_⟩
    · rw [va_up_self]
      by_cases c : k = i
      · subst c
        rw [va_up_self]
      · rw [va_up_ne _ _ c]
        exact y2 k (by omega)
    · have e : g4 101 = g2 101 := y1 101 (by decide)
      rw [r269_149]
      simp (disch := first | omega | assumption | exact Or.inl rfl | exact Or.inr rfl | exact bI_or _ | exact zC81 | exact zC47 | exact zC65 | exact zC0 | exact zC1 | exact zC32 | exact zC70 | exact zC73 | exact ztc (by assumption) | exact zdc (by assumption) | exact zpc (by assumption) | decide) only [Option.some.injEq, exists_eq_left', ex2, Option.toList, List.singleton_append, List.append_nil, List.cons_append, List.nil_append, nI_add, nI_addL, nI_Ladd, pk_mul, nI_mulL, nI_Lmul, nI_subL, pk_sub, nI_divL, sub_dm, nI_leE, nI_ltE, nI_eqE, nI_Lle, nI_leL, nI_Llt, nI_ltL, nI_eqL, va_up_self, va_up_ne, up_up, up_comm, nI_clamp, bI_eq0, not_true_eq_false, not_false_eq_true, Nat.reduceEqDiff, Nat.reduceLeDiff, Nat.reduceAdd, Nat.reduceMul, Nat.one_ne_zero, Nat.zero_ne_one, decide_eq_false_iff_not, decide_eq_true_eq, Bool.false_eq_true, decide_true, decide_false, bI_true, bI_false, one_ne, Nat.le_refl, Nat.lt_irrefl, cleT, cleF, cltT, cltF, ceqT, ceqF, ↓reduceIte, r269_151, r269_153, r269_156, r269_157, r269_160, r269_162, r269_163, r269_166, r269_168, r269_169, r269_170, r269_173, zO81_38, zO81_39, zJ101, zK100, e]
      exact hz _ _) g2 ⟨fun _ _ => rfl, fun k h => absurd h (by omega)⟩
  refine ⟨g4, fun c h1 h2 => by rw [y1 c h1]; exact u1 c h2, fun k hk => ?_, fun z hz l4 l5 l6 => ?_⟩
  · rw [y2 k hk]
    exact u2 k hk
  · rw [r269_31]
    simp (disch := first | omega | assumption | exact Or.inl rfl | exact Or.inr rfl | exact bI_or _ | exact zC81 | exact zC47 | exact zC65 | exact zC0 | exact zC1 | exact zC32 | exact zC70 | exact zC73 | exact ztc (by assumption) | exact zdc (by assumption) | exact zpc (by assumption) | decide) only [Option.some.injEq, exists_eq_left', ex2, Option.toList, List.singleton_append, List.append_nil, List.cons_append, List.nil_append, nI_add, nI_addL, nI_Ladd, pk_mul, nI_mulL, nI_Lmul, nI_subL, pk_sub, nI_divL, sub_dm, nI_leE, nI_ltE, nI_eqE, nI_Lle, nI_leL, nI_Llt, nI_ltL, nI_eqL, va_up_self, va_up_ne, up_up, up_comm, nI_clamp, bI_eq0, not_true_eq_false, not_false_eq_true, Nat.reduceEqDiff, Nat.reduceLeDiff, Nat.reduceAdd, Nat.reduceMul, Nat.one_ne_zero, Nat.zero_ne_one, decide_eq_false_iff_not, decide_eq_true_eq, Bool.false_eq_true, decide_true, decide_false, bI_true, bI_false, one_ne, Nat.le_refl, Nat.lt_irrefl, cleT, cleF, cltT, cltF, ceqT, ceqF, ↓reduceIte, r269_32, r269_33, r269_36, r269_37, r269_40, r269_41, r269_44, r269_45, zO81_0, zO81_37, p1, zA82, p3]
    refine q3 z ?_ _ _
    intro l5 l6
    rw [r269_47]
    simp (disch := first | omega | assumption | exact Or.inl rfl | exact Or.inr rfl | exact bI_or _ | exact zC81 | exact zC47 | exact zC65 | exact zC0 | exact zC1 | exact zC32 | exact zC70 | exact zC73 | exact ztc (by assumption) | exact zdc (by assumption) | exact zpc (by assumption) | decide) only [Option.some.injEq, exists_eq_left', ex2, Option.toList, List.singleton_append, List.append_nil, List.cons_append, List.nil_append, nI_add, nI_addL, nI_Ladd, pk_mul, nI_mulL, nI_Lmul, nI_subL, pk_sub, nI_divL, sub_dm, nI_leE, nI_ltE, nI_eqE, nI_Lle, nI_leL, nI_Llt, nI_ltL, nI_eqL, va_up_self, va_up_ne, up_up, up_comm, nI_clamp, bI_eq0, not_true_eq_false, not_false_eq_true, Nat.reduceEqDiff, Nat.reduceLeDiff, Nat.reduceAdd, Nat.reduceMul, Nat.one_ne_zero, Nat.zero_ne_one, decide_eq_false_iff_not, decide_eq_true_eq, Bool.false_eq_true, decide_true, decide_false, bI_true, bI_false, one_ne, Nat.le_refl, Nat.lt_irrefl, cleT, cleF, cltT, cltF, ceqT, ceqF, ↓reduceIte, r269_49, r269_51, r269_68, r269_70]
    refine u3 z ?_ _ _
    intro l5 l6
    rw [r269_72]
    have w1 := v_lt3 7 (by omega)
    simp (disch := first | omega | assumption | exact Or.inl rfl | exact Or.inr rfl | exact bI_or _ | exact zC81 | exact zC47 | exact zC65 | exact zC0 | exact zC1 | exact zC32 | exact zC70 | exact zC73 | exact ztc (by assumption) | exact zdc (by assumption) | exact zpc (by assumption) | decide) only [Option.some.injEq, exists_eq_left', ex2, Option.toList, List.singleton_append, List.append_nil, List.cons_append, List.nil_append, nI_add, nI_addL, nI_Ladd, pk_mul, nI_mulL, nI_Lmul, nI_subL, pk_sub, nI_divL, sub_dm, nI_leE, nI_ltE, nI_eqE, nI_Lle, nI_leL, nI_Llt, nI_ltL, nI_eqL, va_up_self, va_up_ne, up_up, up_comm, nI_clamp, bI_eq0, not_true_eq_false, not_false_eq_true, Nat.reduceEqDiff, Nat.reduceLeDiff, Nat.reduceAdd, Nat.reduceMul, Nat.one_ne_zero, Nat.zero_ne_one, decide_eq_false_iff_not, decide_eq_true_eq, Bool.false_eq_true, decide_true, decide_false, bI_true, bI_false, one_ne, Nat.le_refl, Nat.lt_irrefl, cleT, cleF, cltT, cltF, ceqT, ceqF, ↓reduceIte, r269_74, r269_75, r269_146, r269_147, w1]
    refine y3 z ?_ _ _
    intro l5 l6
    rw [r269_149]
    simp (disch := first | omega | assumption | exact Or.inl rfl | exact Or.inr rfl | exact bI_or _ | exact zC81 | exact zC47 | exact zC65 | exact zC0 | exact zC1 | exact zC32 | exact zC70 | exact zC73 | exact ztc (by assumption) | exact zdc (by assumption) | exact zpc (by assumption) | decide) only [Option.some.injEq, exists_eq_left', ex2, Option.toList, List.singleton_append, List.append_nil, List.cons_append, List.nil_append, nI_add, nI_addL, nI_Ladd, pk_mul, nI_mulL, nI_Lmul, nI_subL, pk_sub, nI_divL, sub_dm, nI_leE, nI_ltE, nI_eqE, nI_Lle, nI_leL, nI_Llt, nI_ltL, nI_eqL, va_up_self, va_up_ne, up_up, up_comm, nI_clamp, bI_eq0, not_true_eq_false, not_false_eq_true, Nat.reduceEqDiff, Nat.reduceLeDiff, Nat.reduceAdd, Nat.reduceMul, Nat.one_ne_zero, Nat.zero_ne_one, decide_eq_false_iff_not, decide_eq_true_eq, Bool.false_eq_true, decide_true, decide_false, bI_true, bI_false, one_ne, Nat.le_refl, Nat.lt_irrefl, cleT, cleF, cltT, cltF, ceqT, ceqF, ↓reduceIte, r269_151, r269_153, r269_176, r269_179]
    exact hz _ _ _
end RWS
