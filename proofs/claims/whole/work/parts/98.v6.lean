/-! FEAST: the reference turns the rest round -/
section OR6
variable {xs : Nat → Int32} {sl d : Nat} {J : hJk} {s x y : hS} {g : hG}
theorem rf_turn {n i : Nat} {F : Nat → Int32} {l2 : Option Value} {u3 : Int32} (hn : n ≤ 8) (hi : i + 1 < n) (hf : ∀ q, q < n → s 96 q = F q) : ∃ s' : hS, Runs xs sl (d + 1) 240 78 [some (.ref 81), some (.int (nI n)), l2, some (.int u3), some (.int (nI (i + 1))), some (.int (nI (n - 1)))] [] (hp J s g) (some (.int 1), hp J s' g) ∧ (∀ c, c ≠ 96 → s' c = s c) ∧ ∀ q, q < n → s' 96 q = F (if q ≤ i then q else i + n - q) := by
  obtain ⟨s1, ⟨q1, q2⟩, q3⟩ := up_loop (Q := fun t (s1 : hS) => (∀ c, c ≠ 96 → s1 c = s c) ∧ ∀ q, q < n → s1 96 q = F (if (i < q ∧ q < i + 1 + t) ∨ (n - 1 < q + t) then i + n - q else q)) (P := fun t (s1 : hS) (z : Option Value × mH) => Runs xs sl (d + 1) 240 78 [some (.ref 81), some (.int (nI n)), l2, some (.int u3), some (.int (nI (i + 1 + t))), some (.int (nI (n - 1 - t)))] [] (hp J s1 g) z) ((n - 1 - i) / 2) (by
    intro t s1 ht hQ
    obtain ⟨q1, q2⟩ := hQ
    have sw := @rf_swaps xs sl d J s1 g (i + 1 + t) (n - 1 - t) (by omega) (by omega)
    have ea := q2 (i + 1 + t) (by omega)
    have eb := q2 (n - 1 - t) (by omega)
    rw [if_neg (by omega)] at ea eb
    refine ⟨swS s1 (i + 1 + t) (n - 1 - t), ⟨fun c hc => by rw [swS, va_up_ne _ _ hc]; exact q1 c hc, fun q hq => ?_⟩, fun z hz => ?_⟩
    · rw [swS, va_up_self]
      by_cases c1 : q = n - 1 - t
      · rw [c1, va_up_self, ea, if_pos (by omega)]
        congr 1
        omega
      · rw [va_up_ne _ _ c1]
        by_cases c2 : q = i + 1 + t
        · rw [c2, va_up_self, eb, if_pos (by omega)]
          congr 1
          omega
        · rw [va_up_ne _ _ c2, q2 q hq]
          congr 1
          by_cases c3 : (i < q ∧ q < i + 1 + t) ∨ (n - 1 < q + t)
          · rw [if_pos c3, if_pos (by omega)]
          · rw [if_neg c3, if_neg (by omega)]
    · have dl : nI (n - 1 - t) + -1 = nI (n - 1 - (t + 1)) := by
        have e : n - 1 - t = (n - 1 - (t + 1)) + 1 := by omega
        rw [e]
        exact nI_dec _
      rw [r240_78]
      simp (disch := first | omega | assumption | exact Or.inl rfl | exact Or.inr rfl | exact bI_or _ | exact zC81 | exact zC47 | exact zC65 | exact zC0 | exact zC1 | exact zC32 | exact zC70 | exact zC73 | exact ztc (by assumption) | exact zdc (by assumption) | exact zpc (by assumption) | decide) only [Option.some.injEq, exists_eq_left', ex2, Option.toList, List.singleton_append, List.append_nil, List.cons_append, List.nil_append, nI_add, nI_addL, nI_Ladd, pk_mul, nI_mulL, nI_Lmul, nI_subL, pk_sub, nI_divL, sub_dm, nI_leE, nI_ltE, nI_eqE, nI_Lle, nI_leL, nI_Llt, nI_ltL, nI_eqL, va_up_self, va_up_ne, up_up, up_comm, nI_clamp, bI_eq0, not_true_eq_false, not_false_eq_true, Nat.reduceEqDiff, Nat.reduceLeDiff, Nat.reduceAdd, Nat.reduceMul, Nat.one_ne_zero, Nat.zero_ne_one, decide_eq_false_iff_not, decide_eq_true_eq, Bool.false_eq_true, decide_true, decide_false, bI_true, bI_false, one_ne, Nat.le_refl, Nat.lt_irrefl, cleT, cleF, cltT, cltF, ceqT, ceqF, ↓reduceIte, r240_80, r240_82, r240_85, r240_86, r240_88, r240_90, r240_93, r240_96, r240_99, sw.iff, dl]
      exact hz) s ⟨fun _ _ => rfl, fun q hq => by rw [if_neg (by omega)]; exact hf q hq⟩
  refine ⟨s1, ?_, q1, fun q hq => ?_⟩
  · refine q3 _ ?_
    rw [r240_78]
    simp (disch := first | omega | assumption | exact Or.inl rfl | exact Or.inr rfl | exact bI_or _ | exact zC81 | exact zC47 | exact zC65 | exact zC0 | exact zC1 | exact zC32 | exact zC70 | exact zC73 | exact ztc (by assumption) | exact zdc (by assumption) | exact zpc (by assumption) | decide) only [Option.some.injEq, exists_eq_left', ex2, Option.toList, List.singleton_append, List.append_nil, List.cons_append, List.nil_append, nI_add, nI_addL, nI_Ladd, pk_mul, nI_mulL, nI_Lmul, nI_subL, pk_sub, nI_divL, sub_dm, nI_leE, nI_ltE, nI_eqE, nI_Lle, nI_leL, nI_Llt, nI_ltL, nI_eqL, va_up_self, va_up_ne, up_up, up_comm, nI_clamp, bI_eq0, not_true_eq_false, not_false_eq_true, Nat.reduceEqDiff, Nat.reduceLeDiff, Nat.reduceAdd, Nat.reduceMul, Nat.one_ne_zero, Nat.zero_ne_one, decide_eq_false_iff_not, decide_eq_true_eq, Bool.false_eq_true, decide_true, decide_false, bI_true, bI_false, one_ne, Nat.le_refl, Nat.lt_irrefl, cleT, cleF, cltT, cltF, ceqT, ceqF, ↓reduceIte, r240_80, r240_82, r240_102, r240_103]
  · rw [q2 q hq]
    congr 1
    by_cases c : q ≤ i
    · rw [if_pos c, if_neg (by omega)]
    · rw [if_neg c]
      split <;> omega
end OR6
