/-! TEXT: what the class keeps of a good line -/
section TXZ
variable {xs : Nat → Int32} {sl d : Nat} {J : hJk} {s x y : hS} {g : hG}
def KF (s s4 : hS) : Prop := (∀ c, c < 32 ∨ 44 < c → s4 c = s c) ∧ (∀ j, j ≠ 13 → j ≠ 14 → s4 32 j = s 32 j)
/-- a slot is as it should be -/
def okSl (c s0 v : Nat) : Prop := (if isWk c = true then okW c v else okN c s0 v) = true
theorem kw_119 {s0 v : Nat} (h : okSl 119 s0 v) : v < 22 := by
  have h : (decide (v = 20) || decide (v = 21)) = true := h
  rw [Bool.or_eq_true, decide_eq_true_eq, decide_eq_true_eq] at h
  omega
theorem kw_107 {s0 v : Nat} (h : okSl 107 s0 v) : v < 5 := by
  have h : decide (v ≤ 4) = true := h
  rw [decide_eq_true_eq] at h
  omega
theorem kw_98 {s0 v : Nat} (h : okSl 98 s0 v) : v = 1 ∨ v = 3 ∨ v = 4 := by
  have h : (decide (v = 1) || decide (v = 3) || decide (v = 4)) = true := h
  rw [Bool.or_eq_true, Bool.or_eq_true, decide_eq_true_eq, decide_eq_true_eq, decide_eq_true_eq] at h
  omega
theorem kn_99 {s0 v : Nat} (h : okSl 99 s0 v) : 1 ≤ v ∧ v ≤ 6 := by
  have h : (decide (1 ≤ v) && decide (v ≤ 6)) = true := h
  rw [Bool.and_eq_true, decide_eq_true_eq, decide_eq_true_eq] at h
  exact h
theorem kn_110 {s0 v : Nat} (h : okSl 110 s0 v) : 1 ≤ v ∧ v ≤ 9 := by
  have h : (decide (1 ≤ v) && decide (v ≤ 9)) = true := h
  rw [Bool.and_eq_true, decide_eq_true_eq, decide_eq_true_eq] at h
  exact h
theorem kn_97 {s0 v : Nat} (h : okSl 97 s0 v) : v < 8 := by
  have h : (decide (v < 8) && !decide (v = s0)) = true := h
  rw [Bool.and_eq_true, decide_eq_true_eq] at h
  exact h.1
theorem kn_122 {s0 v : Nat} (h : okSl 122 s0 v) : v ≤ 9 := of_decide_eq_true h
theorem kn_104 {s0 v : Nat} (h : okSl 104 s0 v) : v < 8 := of_decide_eq_true h
theorem kn_116 {s0 v : Nat} (h : okSl 116 s0 v) : v < 6 := of_decide_eq_true h
theorem kn_111 {s0 v : Nat} (h : okSl 111 s0 v) : v < 4 := of_decide_eq_true h
theorem kn_108 {s0 v : Nat} (h : okSl 108 s0 v) : v < 16 := of_decide_eq_true h
theorem kn_118 {s0 v : Nat} (h : okSl 118 s0 v) : v ≤ 3 := of_decide_eq_true h
theorem stI_good {b : Nat → Nat} {N k : Nat} {σ : TxS} : ∀ n, (stI b N k σ n).1 = false → (stI b N k σ n).2.2.1 = 0 → σ.1 = false ∧ σ.2.2.1 = 0 ∧ ∀ i, i < n → okSl (shc k i) (slV b N σ) (slV b N (stI b N k σ i)) := by
  intro n
  induction n with
  | zero => exact fun h h0 => ⟨h, h0, fun i hi => by omega⟩
  | succ n ih =>
    intro h h0
    obtain ⟨w, F, o⟩ := slS_ok (c := shc k n) h h0
    obtain ⟨q1, q2, q3⟩ := ih w F
    refine ⟨q1, q2, fun i hi => ?_⟩
    by_cases c : i = n
    · subst c; exact o
    · exact q3 i (by omega)
theorem keep_town {R : Nat → Int32} {v n li h sa c G T D cr : Nat} {a : Nat → Nat} {x9 x10 : Int32} (hv : v = 11 ∨ v = 12 ∨ v = 13 ∨ v = 14 ∨ v = 15 ∨ v = 16 ∨ v = 17) (hSl : ∀ j, j < (shL (shW v)).length → s 45 j = nI (a j) ∧ okSl (shc (shW v) j) (a 0) (a j)) (h8 : s 32 8 = 0) (hW : TownW s R n li h sa c G T) (eG : s 32 13 = nI G - 1) (eT : s 32 14 = nI T - 1) (hfu : fuW 0 v h sa c D cr = false) (f9 : x9 = nI G - 1) (f10 : x10 = nI T - 1) : ∃ (s4 : hS) (n' li' h' sa' c' G' T' : Nat), Runs xs sl (d+4) 102 0 [some (.ref (32)), some (.int ( nI v))] [] (hp J (s) g) (none, hp J s4 g) ∧ TownW s4 (rwT v h sa c a R) n' li' h' sa' c' G' T' ∧ s4 32 13 = nI G' - 1 ∧ s4 32 14 = nI T' - 1 ∧ g9T v a x9 = nI G' - 1 ∧ g10T v a x10 = nI T' - 1 ∧ KF s s4 ∧ s4 41 = s 41 ∧ s4 43 = s 43 := by
  have hW' := hW
  obtain ⟨⟨x1, x2, x3⟩, ⟨b1, b2, b3⟩, ⟨d1, d2, d3⟩, ⟨e1, e2, e3⟩, ⟨q1, q2, q3⟩, -, -, -, -, -, -, hG, hT⟩ := hW'
  rcases hv with rfl | rfl | rfl | rfl | rfl | rfl | rfl
  · obtain ⟨z0, o0⟩ := hSl 0 (by decide)
    have r := @kp_topics0 xs sl d J s g h8
    rw [z0] at r
    refine ⟨_, a 0, li, h, sa, c, G, T, r, TW_topics hW (kn_99 o0) (va_up_self _ _ _) (fun c h1 h2 => va_up_ne _ _ (by omega)), ?_, ?_, f9, f10, ⟨fun c hc => va_up_ne _ _ (by omega), fun j _ _ => by rw [va_up_ne _ _ (by decide)]⟩, va_up_ne _ _ (by decide), va_up_ne _ _ (by decide)⟩
    · rw [va_up_ne _ _ (by decide)]; exact eG
    · rw [va_up_ne _ _ (by decide)]; exact eT
  · obtain ⟨z0, o0⟩ := hSl 0 (by decide)
    have r := @kp_life xs sl d J s g
    rw [z0] at r
    refine ⟨_, n, a 0, h, sa, c, G, T, r, TW_life hW (kn_110 o0) (va_up_self _ _ _) (fun c h1 h2 => va_up_ne _ _ (by omega)), ?_, ?_, f9, f10, ⟨fun c hc => va_up_ne _ _ (by omega), fun j _ _ => by rw [va_up_ne _ _ (by decide)]⟩, va_up_ne _ _ (by decide), va_up_ne _ _ (by decide)⟩
    · rw [va_up_ne _ _ (by decide)]; exact eG
    · rw [va_up_ne _ _ (by decide)]; exact eT
  · obtain ⟨z0, o0⟩ := hSl 0 (by decide)
    obtain ⟨z1, o1⟩ := hSl 1 (by decide)
    have hh : h < 8 := by
      have := of_decide_eq_false (show decide (8 ≤ h) = false from hfu)
      omega
    have r := @kp_house xs sl d J s g h d1 hh
    rw [z0, z1] at r
    refine ⟨_, n, li, h + 1, sa, c, G, T, r, TW_house hW (kn_110 o0) (kn_122 o1) hh (by simp (disch := first | omega | assumption | exact Or.inl rfl | exact Or.inr rfl | exact bI_or _ | exact zC81 | exact zC47 | exact zC65 | exact zC0 | exact zC1 | exact zC32 | exact zC70 | exact zC73 | exact ztc (by assumption) | exact zdc (by assumption) | exact zpc (by assumption) | decide) only [Option.some.injEq, exists_eq_left', ex2, Option.toList, List.singleton_append, List.append_nil, List.cons_append, List.nil_append, nI_add, nI_addL, nI_Ladd, pk_mul, nI_mulL, nI_Lmul, nI_subL, pk_sub, nI_divL, sub_dm, nI_leE, nI_ltE, nI_eqE, nI_Lle, nI_leL, nI_Llt, nI_ltL, nI_eqL, va_up_self, va_up_ne, up_up, up_comm, nI_clamp, bI_eq0, not_true_eq_false, not_false_eq_true, Nat.reduceEqDiff, Nat.reduceLeDiff, Nat.reduceAdd, Nat.reduceMul, Nat.one_ne_zero, Nat.zero_ne_one, decide_eq_false_iff_not, decide_eq_true_eq, Bool.false_eq_true, decide_true, decide_false, bI_true, bI_false, one_ne, Nat.le_refl, Nat.lt_irrefl, cleT, cleF, cltT, cltF, ceqT, ceqF, ↓reduceIte]) (by simp (disch := first | omega | assumption | exact Or.inl rfl | exact Or.inr rfl | exact bI_or _ | exact zC81 | exact zC47 | exact zC65 | exact zC0 | exact zC1 | exact zC32 | exact zC70 | exact zC73 | exact ztc (by assumption) | exact zdc (by assumption) | exact zpc (by assumption) | decide) only [Option.some.injEq, exists_eq_left', ex2, Option.toList, List.singleton_append, List.append_nil, List.cons_append, List.nil_append, nI_add, nI_addL, nI_Ladd, pk_mul, nI_mulL, nI_Lmul, nI_subL, pk_sub, nI_divL, sub_dm, nI_leE, nI_ltE, nI_eqE, nI_Lle, nI_leL, nI_Llt, nI_ltL, nI_eqL, va_up_self, va_up_ne, up_up, up_comm, nI_clamp, bI_eq0, not_true_eq_false, not_false_eq_true, Nat.reduceEqDiff, Nat.reduceLeDiff, Nat.reduceAdd, Nat.reduceMul, Nat.one_ne_zero, Nat.zero_ne_one, decide_eq_false_iff_not, decide_eq_true_eq, Bool.false_eq_true, decide_true, decide_false, bI_true, bI_false, one_ne, Nat.le_refl, Nat.lt_irrefl, cleT, cleF, cltT, cltF, ceqT, ceqF, ↓reduceIte]) (by simp (disch := first | omega | assumption | exact Or.inl rfl | exact Or.inr rfl | exact bI_or _ | exact zC81 | exact zC47 | exact zC65 | exact zC0 | exact zC1 | exact zC32 | exact zC70 | exact zC73 | exact ztc (by assumption) | exact zdc (by assumption) | exact zpc (by assumption) | decide) only [Option.some.injEq, exists_eq_left', ex2, Option.toList, List.singleton_append, List.append_nil, List.cons_append, List.nil_append, nI_add, nI_addL, nI_Ladd, pk_mul, nI_mulL, nI_Lmul, nI_subL, pk_sub, nI_divL, sub_dm, nI_leE, nI_ltE, nI_eqE, nI_Lle, nI_leL, nI_Llt, nI_ltL, nI_eqL, va_up_self, va_up_ne, up_up, up_comm, nI_clamp, bI_eq0, not_true_eq_false, not_false_eq_true, Nat.reduceEqDiff, Nat.reduceLeDiff, Nat.reduceAdd, Nat.reduceMul, Nat.one_ne_zero, Nat.zero_ne_one, decide_eq_false_iff_not, decide_eq_true_eq, Bool.false_eq_true, decide_true, decide_false, bI_true, bI_false, one_ne, Nat.le_refl, Nat.lt_irrefl, cleT, cleF, cltT, cltF, ceqT, ceqF, ↓reduceIte]) (fun c h1 h2 => by rw [va_up_ne _ _ (by omega), va_up_ne _ _ (by omega), va_up_ne _ _ (by omega)]), ?_, ?_, f9, f10, ⟨fun c hc => by rw [va_up_ne _ _ (by omega), va_up_ne _ _ (by omega), va_up_ne _ _ (by omega)], fun j _ _ => by simp (disch := first | omega | assumption | exact Or.inl rfl | exact Or.inr rfl | exact bI_or _ | exact zC81 | exact zC47 | exact zC65 | exact zC0 | exact zC1 | exact zC32 | exact zC70 | exact zC73 | exact ztc (by assumption) | exact zdc (by assumption) | exact zpc (by assumption) | decide) only [Option.some.injEq, exists_eq_left', ex2, Option.toList, List.singleton_append, List.append_nil, List.cons_append, List.nil_append, nI_add, nI_addL, nI_Ladd, pk_mul, nI_mulL, nI_Lmul, nI_subL, pk_sub, nI_divL, sub_dm, nI_leE, nI_ltE, nI_eqE, nI_Lle, nI_leL, nI_Llt, nI_ltL, nI_eqL, va_up_self, va_up_ne, up_up, up_comm, nI_clamp, bI_eq0, not_true_eq_false, not_false_eq_true, Nat.reduceEqDiff, Nat.reduceLeDiff, Nat.reduceAdd, Nat.reduceMul, Nat.one_ne_zero, Nat.zero_ne_one, decide_eq_false_iff_not, decide_eq_true_eq, Bool.false_eq_true, decide_true, decide_false, bI_true, bI_false, one_ne, Nat.le_refl, Nat.lt_irrefl, cleT, cleF, cltT, cltF, ceqT, ceqF, ↓reduceIte]⟩, by simp (disch := first | omega | assumption | exact Or.inl rfl | exact Or.inr rfl | exact bI_or _ | exact zC81 | exact zC47 | exact zC65 | exact zC0 | exact zC1 | exact zC32 | exact zC70 | exact zC73 | exact ztc (by assumption) | exact zdc (by assumption) | exact zpc (by assumption) | decide) only [Option.some.injEq, exists_eq_left', ex2, Option.toList, List.singleton_append, List.append_nil, List.cons_append, List.nil_append, nI_add, nI_addL, nI_Ladd, pk_mul, nI_mulL, nI_Lmul, nI_subL, pk_sub, nI_divL, sub_dm, nI_leE, nI_ltE, nI_eqE, nI_Lle, nI_leL, nI_Llt, nI_ltL, nI_eqL, va_up_self, va_up_ne, up_up, up_comm, nI_clamp, bI_eq0, not_true_eq_false, not_false_eq_true, Nat.reduceEqDiff, Nat.reduceLeDiff, Nat.reduceAdd, Nat.reduceMul, Nat.one_ne_zero, Nat.zero_ne_one, decide_eq_false_iff_not, decide_eq_true_eq, Bool.false_eq_true, decide_true, decide_false, bI_true, bI_false, one_ne, Nat.le_refl, Nat.lt_irrefl, cleT, cleF, cltT, cltF, ceqT, ceqF, ↓reduceIte], by simp (disch := first | omega | assumption | exact Or.inl rfl | exact Or.inr rfl | exact bI_or _ | exact zC81 | exact zC47 | exact zC65 | exact zC0 | exact zC1 | exact zC32 | exact zC70 | exact zC73 | exact ztc (by assumption) | exact zdc (by assumption) | exact zpc (by assumption) | decide) only [Option.some.injEq, exists_eq_left', ex2, Option.toList, List.singleton_append, List.append_nil, List.cons_append, List.nil_append, nI_add, nI_addL, nI_Ladd, pk_mul, nI_mulL, nI_Lmul, nI_subL, pk_sub, nI_divL, sub_dm, nI_leE, nI_ltE, nI_eqE, nI_Lle, nI_leL, nI_Llt, nI_ltL, nI_eqL, va_up_self, va_up_ne, up_up, up_comm, nI_clamp, bI_eq0, not_true_eq_false, not_false_eq_true, Nat.reduceEqDiff, Nat.reduceLeDiff, Nat.reduceAdd, Nat.reduceMul, Nat.one_ne_zero, Nat.zero_ne_one, decide_eq_false_iff_not, decide_eq_true_eq, Bool.false_eq_true, decide_true, decide_false, bI_true, bI_false, one_ne, Nat.le_refl, Nat.lt_irrefl, cleT, cleF, cltT, cltF, ceqT, ceqF, ↓reduceIte]⟩
    · rw [va_up_ne _ _ (by decide), va_up_ne _ _ (by decide), va_up_ne _ _ (by decide)]; exact eG
    · rw [va_up_ne _ _ (by decide), va_up_ne _ _ (by decide), va_up_ne _ _ (by decide)]; exact eT
  · obtain ⟨z0, o0⟩ := hSl 0 (by decide)
    obtain ⟨z1, o1⟩ := hSl 1 (by decide)
    have l0 := kn_104 o0
    have l1 := kn_97 o1
    have r := @kp_visit xs sl d J s g G (a 0) (a 1) (by omega) eG l0 l1 z0 z1
    refine ⟨_, n, li, h, sa, c, max (max G (a 0 + 1)) (a 1 + 1), T, r, TW_visit hW l0 l1 (by rw [va_up_ne _ _ (by decide), va_up_ne _ _ (by decide)]) (by rw [va_up_self]) (fun c h1 h2 h3 => by rw [va_up_ne _ _ h3, va_up_ne _ _ (by omega)]), ?_, ?_, ?_, f10, ⟨fun c hc => by rw [va_up_ne _ _ (by omega), va_up_ne _ _ (by omega)], fun j hj _ => by rw [va_up_ne _ _ (by decide), va_up_self, va_up_ne _ _ hj]⟩, by rw [va_up_ne _ _ (by decide), va_up_ne _ _ (by decide)], by rw [va_up_ne _ _ (by decide), va_up_ne _ _ (by decide)]⟩
    · rw [va_up_ne _ _ (by decide), va_up_self, va_up_self]
    · rw [va_up_ne _ _ (by decide), va_up_self, va_up_ne _ _ (by decide)]; exact eT
    · rw [f9]
      show mxA (mxA (nI G - 1) (a 0)) (a 1) = _
      unfold mxA
      rw [mxG G (by omega) (a 0) l0, mxG _ (by omega) (a 1) l1]
  · obtain ⟨z0, o0⟩ := hSl 0 (by decide)
    obtain ⟨z1, o1⟩ := hSl 1 (by decide)
    obtain ⟨z2, o2⟩ := hSl 2 (by decide)
    obtain ⟨z3, o3⟩ := hSl 3 (by decide)
    have l0 := kn_104 o0
    have l1 := kn_116 o1
    have l2 := kw_119 o2
    have l3 := kn_118 o3
    have r := @kp_mind xs sl d J s g G T (a 0) (a 1) (a 2) (a 3) (by omega) eG (by omega) eT l0 l1 (by omega) z0 z1 z2 z3
    refine ⟨_, n, li, h, sa, c, max G (a 0 + 1), max T (a 1 + 1), r, TW_mind hW l0 l1 l2 l3 (by rw [va_up_ne _ _ (by decide), va_up_ne _ _ (by decide)]) (by rw [va_up_self]) (fun c h1 h2 h3 => by rw [va_up_ne _ _ h3, va_up_ne _ _ (by omega)]), ?_, ?_, ?_, ?_, ⟨fun c hc => by rw [va_up_ne _ _ (by omega), va_up_ne _ _ (by omega)], fun j hj hj' => by rw [va_up_ne _ _ (by decide), va_up_self, va_up_ne _ _ hj', va_up_ne _ _ hj]⟩, by rw [va_up_ne _ _ (by decide), va_up_ne _ _ (by decide)], by rw [va_up_ne _ _ (by decide), va_up_ne _ _ (by decide)]⟩
    · rw [va_up_ne _ _ (by decide), va_up_self, va_up_ne _ _ (by decide), va_up_self]
    · rw [va_up_ne _ _ (by decide), va_up_self, va_up_self]
    · rw [f9]
      exact mxG G (by omega) (a 0) l0
    · rw [f10]
      exact mxG T (by omega) (a 1) (by omega)
  · obtain ⟨z0, o0⟩ := hSl 0 (by decide)
    obtain ⟨z1, o1⟩ := hSl 1 (by decide)
    obtain ⟨z2, o2⟩ := hSl 2 (by decide)
    obtain ⟨z3, o3⟩ := hSl 3 (by decide)
    have l0 := kn_111 o0
    have l1 := kn_116 o1
    have l2 := kw_119 o2
    have l3 := kn_118 o3
    have hh : sa < 12 := by
      have := of_decide_eq_false (show decide (12 ≤ sa) = false from hfu)
      omega
    have r := @kp_said xs sl d J s g T sa (a 1) (a 2) (a 3) (by omega) eT e1 hh l1 (by omega) z1 z2 z3
    rw [z0] at r
    refine ⟨_, n, li, h, sa + 1, c, G, max T (a 1 + 1), r, TW_said hW l0 l1 l2 l3 hh (by rw [va_up_self]) (by rw [va_up_ne _ _ (by decide), va_up_self]) (fun c h1 h2 h3 => by rw [va_up_ne _ _ (by omega), va_up_ne _ _ h3, va_up_ne _ _ (by omega)]), ?_, ?_, f9, ?_, ⟨fun c hc => by rw [va_up_ne _ _ (by omega), va_up_ne _ _ (by omega), va_up_ne _ _ (by omega)], fun j hj hj' => by rw [va_up_ne _ _ (by decide), va_up_ne _ _ (by decide), va_up_self, va_up_ne _ _ hj']⟩, by rw [va_up_ne _ _ (by decide), va_up_ne _ _ (by decide), va_up_ne _ _ (by decide)], by rw [va_up_ne _ _ (by decide), va_up_ne _ _ (by decide), va_up_ne _ _ (by decide)]⟩
    · rw [va_up_ne _ _ (by decide), va_up_ne _ _ (by decide), va_up_self, va_up_ne _ _ (by decide)]; exact eG
    · rw [va_up_ne _ _ (by decide), va_up_ne _ _ (by decide), va_up_self, va_up_self]
    · rw [f10]
      exact mxG T (by omega) (a 1) (by omega)
  · obtain ⟨z0, o0⟩ := hSl 0 (by decide)
    obtain ⟨z1, o1⟩ := hSl 1 (by decide)
    have hh : c < 8 := by
      have := of_decide_eq_false (show decide (8 ≤ c) = false from hfu)
      omega
    have r := @kp_loaf xs sl d J s g c q1 hh
    rw [z0, z1] at r
    refine ⟨_, n, li, h, sa, c + 1, G, T, r, TW_loaf hW (kw_107 o0) (kn_111 o1) hh (by simp (disch := first | omega | assumption | exact Or.inl rfl | exact Or.inr rfl | exact bI_or _ | exact zC81 | exact zC47 | exact zC65 | exact zC0 | exact zC1 | exact zC32 | exact zC70 | exact zC73 | exact ztc (by assumption) | exact zdc (by assumption) | exact zpc (by assumption) | decide) only [Option.some.injEq, exists_eq_left', ex2, Option.toList, List.singleton_append, List.append_nil, List.cons_append, List.nil_append, nI_add, nI_addL, nI_Ladd, pk_mul, nI_mulL, nI_Lmul, nI_subL, pk_sub, nI_divL, sub_dm, nI_leE, nI_ltE, nI_eqE, nI_Lle, nI_leL, nI_Llt, nI_ltL, nI_eqL, va_up_self, va_up_ne, up_up, up_comm, nI_clamp, bI_eq0, not_true_eq_false, not_false_eq_true, Nat.reduceEqDiff, Nat.reduceLeDiff, Nat.reduceAdd, Nat.reduceMul, Nat.one_ne_zero, Nat.zero_ne_one, decide_eq_false_iff_not, decide_eq_true_eq, Bool.false_eq_true, decide_true, decide_false, bI_true, bI_false, one_ne, Nat.le_refl, Nat.lt_irrefl, cleT, cleF, cltT, cltF, ceqT, ceqF, ↓reduceIte]) (by simp (disch := first | omega | assumption | exact Or.inl rfl | exact Or.inr rfl | exact bI_or _ | exact zC81 | exact zC47 | exact zC65 | exact zC0 | exact zC1 | exact zC32 | exact zC70 | exact zC73 | exact ztc (by assumption) | exact zdc (by assumption) | exact zpc (by assumption) | decide) only [Option.some.injEq, exists_eq_left', ex2, Option.toList, List.singleton_append, List.append_nil, List.cons_append, List.nil_append, nI_add, nI_addL, nI_Ladd, pk_mul, nI_mulL, nI_Lmul, nI_subL, pk_sub, nI_divL, sub_dm, nI_leE, nI_ltE, nI_eqE, nI_Lle, nI_leL, nI_Llt, nI_ltL, nI_eqL, va_up_self, va_up_ne, up_up, up_comm, nI_clamp, bI_eq0, not_true_eq_false, not_false_eq_true, Nat.reduceEqDiff, Nat.reduceLeDiff, Nat.reduceAdd, Nat.reduceMul, Nat.one_ne_zero, Nat.zero_ne_one, decide_eq_false_iff_not, decide_eq_true_eq, Bool.false_eq_true, decide_true, decide_false, bI_true, bI_false, one_ne, Nat.le_refl, Nat.lt_irrefl, cleT, cleF, cltT, cltF, ceqT, ceqF, ↓reduceIte]) (by simp (disch := first | omega | assumption | exact Or.inl rfl | exact Or.inr rfl | exact bI_or _ | exact zC81 | exact zC47 | exact zC65 | exact zC0 | exact zC1 | exact zC32 | exact zC70 | exact zC73 | exact ztc (by assumption) | exact zdc (by assumption) | exact zpc (by assumption) | decide) only [Option.some.injEq, exists_eq_left', ex2, Option.toList, List.singleton_append, List.append_nil, List.cons_append, List.nil_append, nI_add, nI_addL, nI_Ladd, pk_mul, nI_mulL, nI_Lmul, nI_subL, pk_sub, nI_divL, sub_dm, nI_leE, nI_ltE, nI_eqE, nI_Lle, nI_leL, nI_Llt, nI_ltL, nI_eqL, va_up_self, va_up_ne, up_up, up_comm, nI_clamp, bI_eq0, not_true_eq_false, not_false_eq_true, Nat.reduceEqDiff, Nat.reduceLeDiff, Nat.reduceAdd, Nat.reduceMul, Nat.one_ne_zero, Nat.zero_ne_one, decide_eq_false_iff_not, decide_eq_true_eq, Bool.false_eq_true, decide_true, decide_false, bI_true, bI_false, one_ne, Nat.le_refl, Nat.lt_irrefl, cleT, cleF, cltT, cltF, ceqT, ceqF, ↓reduceIte]) (fun c h1 h2 => by rw [va_up_ne _ _ (by omega), va_up_ne _ _ (by omega), va_up_ne _ _ (by omega)]), ?_, ?_, f9, f10, ⟨fun c hc => by rw [va_up_ne _ _ (by omega), va_up_ne _ _ (by omega), va_up_ne _ _ (by omega)], fun j _ _ => by simp (disch := first | omega | assumption | exact Or.inl rfl | exact Or.inr rfl | exact bI_or _ | exact zC81 | exact zC47 | exact zC65 | exact zC0 | exact zC1 | exact zC32 | exact zC70 | exact zC73 | exact ztc (by assumption) | exact zdc (by assumption) | exact zpc (by assumption) | decide) only [Option.some.injEq, exists_eq_left', ex2, Option.toList, List.singleton_append, List.append_nil, List.cons_append, List.nil_append, nI_add, nI_addL, nI_Ladd, pk_mul, nI_mulL, nI_Lmul, nI_subL, pk_sub, nI_divL, sub_dm, nI_leE, nI_ltE, nI_eqE, nI_Lle, nI_leL, nI_Llt, nI_ltL, nI_eqL, va_up_self, va_up_ne, up_up, up_comm, nI_clamp, bI_eq0, not_true_eq_false, not_false_eq_true, Nat.reduceEqDiff, Nat.reduceLeDiff, Nat.reduceAdd, Nat.reduceMul, Nat.one_ne_zero, Nat.zero_ne_one, decide_eq_false_iff_not, decide_eq_true_eq, Bool.false_eq_true, decide_true, decide_false, bI_true, bI_false, one_ne, Nat.le_refl, Nat.lt_irrefl, cleT, cleF, cltT, cltF, ceqT, ceqF, ↓reduceIte]⟩, by simp (disch := first | omega | assumption | exact Or.inl rfl | exact Or.inr rfl | exact bI_or _ | exact zC81 | exact zC47 | exact zC65 | exact zC0 | exact zC1 | exact zC32 | exact zC70 | exact zC73 | exact ztc (by assumption) | exact zdc (by assumption) | exact zpc (by assumption) | decide) only [Option.some.injEq, exists_eq_left', ex2, Option.toList, List.singleton_append, List.append_nil, List.cons_append, List.nil_append, nI_add, nI_addL, nI_Ladd, pk_mul, nI_mulL, nI_Lmul, nI_subL, pk_sub, nI_divL, sub_dm, nI_leE, nI_ltE, nI_eqE, nI_Lle, nI_leL, nI_Llt, nI_ltL, nI_eqL, va_up_self, va_up_ne, up_up, up_comm, nI_clamp, bI_eq0, not_true_eq_false, not_false_eq_true, Nat.reduceEqDiff, Nat.reduceLeDiff, Nat.reduceAdd, Nat.reduceMul, Nat.one_ne_zero, Nat.zero_ne_one, decide_eq_false_iff_not, decide_eq_true_eq, Bool.false_eq_true, decide_true, decide_false, bI_true, bI_false, one_ne, Nat.le_refl, Nat.lt_irrefl, cleT, cleF, cltT, cltF, ceqT, ceqF, ↓reduceIte], by simp (disch := first | omega | assumption | exact Or.inl rfl | exact Or.inr rfl | exact bI_or _ | exact zC81 | exact zC47 | exact zC65 | exact zC0 | exact zC1 | exact zC32 | exact zC70 | exact zC73 | exact ztc (by assumption) | exact zdc (by assumption) | exact zpc (by assumption) | decide) only [Option.some.injEq, exists_eq_left', ex2, Option.toList, List.singleton_append, List.append_nil, List.cons_append, List.nil_append, nI_add, nI_addL, nI_Ladd, pk_mul, nI_mulL, nI_Lmul, nI_subL, pk_sub, nI_divL, sub_dm, nI_leE, nI_ltE, nI_eqE, nI_Lle, nI_leL, nI_Llt, nI_ltL, nI_eqL, va_up_self, va_up_ne, up_up, up_comm, nI_clamp, bI_eq0, not_true_eq_false, not_false_eq_true, Nat.reduceEqDiff, Nat.reduceLeDiff, Nat.reduceAdd, Nat.reduceMul, Nat.one_ne_zero, Nat.zero_ne_one, decide_eq_false_iff_not, decide_eq_true_eq, Bool.false_eq_true, decide_true, decide_false, bI_true, bI_false, one_ne, Nat.le_refl, Nat.lt_irrefl, cleT, cleF, cltT, cltF, ceqT, ceqF, ↓reduceIte]⟩
    · rw [va_up_ne _ _ (by decide), va_up_ne _ _ (by decide), va_up_ne _ _ (by decide)]; exact eG
    · rw [va_up_ne _ _ (by decide), va_up_ne _ _ (by decide), va_up_ne _ _ (by decide)]; exact eT
end TXZ
