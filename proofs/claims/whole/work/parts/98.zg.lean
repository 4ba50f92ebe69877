/-! TEXT: lines as both read them; the class's slots -/
section TXG
variable {xs : Nat → Int32} {sl d : Nat} {J : hJk} {s x y : hS} {g : hG}
theorem vQ_num {b : Nat → Nat} {N q : Nat} (h : kQ b N q = 1) : vQ b N q < 100 ∧ q < N := by
  unfold kQ at h
  by_cases c0 : N ≤ q
  · rw [if_pos c0] at h; omega
  rw [if_neg c0] at h
  by_cases c1 : b q = 59
  · rw [if_pos c1] at h; omega
  rw [if_neg c1] at h
  by_cases c2 : isDg (b q) = true
  · obtain ⟨z1, z2, z3, z4⟩ := rn_prop (P := isDg) (b := b) (N := N) (N - q) q (by omega)
    have z5 : q + 1 ≤ rn isDg b N q := by
      rw [rn_go (by omega) c2]
      exact (rn_prop (P := isDg) (b := b) (N := N) (N - (q + 1)) (q + 1) (by omega)).1
    have l1 := dg_nI c2
    have l2 := dg_nI (z4 (rn isDg b N q - 1) (by omega) (by omega))
    unfold vQ numV
    rw [if_pos c2]
    refine ⟨?_, by omega⟩
    by_cases c3 : rn isDg b N q - q = 2
    · rw [if_pos c3]; omega
    · rw [if_neg c3]; omega
  · rw [if_neg c2] at h
    by_cases c3 : isLt (b q) = true
    · rw [if_pos c3] at h
      by_cases c4 : (wix b q (rn isLt b N q)).isSome = true
      · rw [if_pos c4] at h; omega
      · rw [if_neg c4] at h; omega
    · rw [if_neg c3] at h; omega
theorem vQ_word {b : Nat → Nat} {N q : Nat} (h : kQ b N q = 3) : vQ b N q < 22 ∧ q < N := by
  unfold kQ at h
  by_cases c0 : N ≤ q
  · rw [if_pos c0] at h; omega
  rw [if_neg c0] at h
  by_cases c1 : b q = 59
  · rw [if_pos c1] at h; omega
  rw [if_neg c1] at h
  by_cases c2 : isDg (b q) = true
  · rw [if_pos c2] at h
    by_cases c4 : rn isDg b N q - q ≤ 2
    · rw [if_pos c4] at h; omega
    · rw [if_neg c4] at h; omega
  · rw [if_neg c2] at h
    by_cases c3 : isLt (b q) = true
    · rw [if_pos c3] at h
      cases c4 : wix b q (rn isLt b N q) with
      | none => rw [c4] at h; exact absurd h (by decide)
      | some j =>
        unfold vQ
        rw [if_neg c2, c4]
        exact ⟨(wix_lt c4).1, by omega⟩
    · rw [if_neg c3] at h; omega
theorem eQ_gt {b : Nat → Nat} {N q : Nat} (h : kQ b N q = 1 ∨ kQ b N q = 2 ∨ kQ b N q = 3) : q < eQ b N q ∧ eQ b N q ≤ N := by
  unfold kQ at h
  by_cases c0 : N ≤ q
  · rw [if_pos c0] at h; omega
  rw [if_neg c0] at h
  unfold eQ
  by_cases c1 : b q = 59
  · rw [if_pos c1]; omega
  rw [if_neg c1] at h ⊢
  by_cases c2 : isDg (b q) = true
  · rw [if_pos c2, rn_go (by omega) c2]
    obtain ⟨z1, z2, -⟩ := rn_prop (P := isDg) (b := b) (N := N) (N - (q + 1)) (q + 1) (by omega)
    omega
  rw [if_neg c2] at h ⊢
  by_cases c3 : isLt (b q) = true
  · rw [rn_go (by omega) c3]
    obtain ⟨z1, z2, -⟩ := rn_prop (P := isLt) (b := b) (N := N) (N - (q + 1)) (q + 1) (by omega)
    omega
  · rw [if_neg c3] at h; omega
/-- how far a text is read: wrong, at, fault, place -/
abbrev TxS := Bool × Nat × Nat × Nat
def slV (b : Nat → Nat) (N : Nat) (σ : TxS) : Nat := vQ b N (rn isBl b N σ.2.1)
def noS (k q : Nat) (σ : TxS) : TxS := if σ.2.2.1 = 0 then (σ.1, σ.2.1, k, q) else σ
/-- a number, a word, a semicolon is read -/
def nuS (b : Nat → Nat) (N : Nat) (ok : Bool) (σ : TxS) : TxS := if σ.1 = true then σ else if kQ b N (rn isBl b N σ.2.1) = 1 then (false, eQ b N (rn isBl b N σ.2.1), (if ok = true then σ else noS 2 (rn isBl b N σ.2.1) σ).2.2) else (true, rn isBl b N σ.2.1, 0, 0)
def woS (b : Nat → Nat) (N : Nat) (ok : Bool) (σ : TxS) : TxS := if σ.1 = true then σ else if kQ b N (rn isBl b N σ.2.1) = 3 ∧ ok = true then (false, eQ b N (rn isBl b N σ.2.1), σ.2.2) else (true, rn isBl b N σ.2.1, 0, 0)
def smS (b : Nat → Nat) (N : Nat) (σ : TxS) : TxS := if σ.1 = true then σ else if kQ b N (rn isBl b N σ.2.1) = 2 then (false, eQ b N (rn isBl b N σ.2.1), σ.2.2) else (true, rn isBl b N σ.2.1, 0, 0)
def isWk (c : Nat) : Bool := decide (c = 107) || decide (c = 98) || decide (c = 119)
def okW (c v : Nat) : Bool := if c = 107 then decide (v ≤ 4) else if c = 98 then decide (v = 1) || decide (v = 3) || decide (v = 4) else decide (v = 20) || decide (v = 21)
def okN (c s0 v : Nat) : Bool := if c = 99 then decide (1 ≤ v) && decide (v ≤ 6) else if c = 110 then decide (1 ≤ v) && decide (v ≤ 9) else if c = 122 then decide (v ≤ 9) else if c = 104 then decide (v < 8) else if c = 97 then decide (v < 8) && !decide (v = s0) else if c = 116 then decide (v < 6) else if c = 111 then decide (v < 4) else if c = 108 then decide (v < 16) else decide (v ≤ 3)
def slS (b : Nat → Nat) (N c s0 : Nat) (σ : TxS) : TxS := if isWk c = true then woS b N (okW c (slV b N σ)) σ else nuS b N (okN c s0 (slV b N σ)) σ
/-- what comes before 'wrong' stays -/
theorem nuS_w {b : Nat → Nat} {N : Nat} {ok : Bool} {σ : TxS} (h : σ.1 = true) : nuS b N ok σ = σ := by unfold nuS; rw [if_pos h]
theorem woS_w {b : Nat → Nat} {N : Nat} {ok : Bool} {σ : TxS} (h : σ.1 = true) : woS b N ok σ = σ := by unfold woS; rw [if_pos h]
theorem seS_w {b : Nat → Nat} {N : Nat} {σ : TxS} (h : σ.1 = true) : smS b N σ = σ := by unfold smS; rw [if_pos h]
theorem slS_w {b : Nat → Nat} {N c s0 : Nat} {σ : TxS} (h : σ.1 = true) : slS b N c s0 σ = σ := by unfold slS; rw [woS_w h, nuS_w h, ite_self]
theorem nuS_ok {b : Nat → Nat} {N : Nat} {ok : Bool} {σ : TxS} (h : (nuS b N ok σ).1 = false) (h0 : (nuS b N ok σ).2.2.1 = 0) : σ.1 = false ∧ σ.2.2.1 = 0 ∧ ok = true := by
  cases c : σ.1
  case true => rw [nuS_w c, c] at h; cases h
  case false =>
  unfold nuS at h h0
  have c' : ¬ σ.1 = true := by rw [c]; decide
  rw [if_neg c'] at h h0
  by_cases k : kQ b N (rn isBl b N σ.2.1) = 1
  · rw [if_pos k] at h0
    cases ok
    · unfold noS at h0
      dsimp only at h0
      rw [if_neg (by decide)] at h0
      by_cases z : σ.2.2.1 = 0
      · rw [if_pos z] at h0; exact absurd (show (2 : Nat) = 0 from h0) (by decide)
      · rw [if_neg z] at h0; exact absurd h0 z
    · rw [if_pos rfl] at h0
      exact ⟨rfl, h0, rfl⟩
  · rw [if_neg k] at h; cases h
theorem woS_ok {b : Nat → Nat} {N : Nat} {ok : Bool} {σ : TxS} (h : (woS b N ok σ).1 = false) : σ.1 = false ∧ (woS b N ok σ).2.2 = σ.2.2 ∧ ok = true := by
  cases c : σ.1
  case true => rw [woS_w c, c] at h; cases h
  case false =>
  have c' : ¬ σ.1 = true := by rw [c]; decide
  unfold woS at h ⊢
  rw [if_neg c'] at h ⊢
  by_cases k : kQ b N (rn isBl b N σ.2.1) = 3 ∧ ok = true
  · rw [if_pos k]; exact ⟨rfl, rfl, k.2⟩
  · rw [if_neg k] at h; cases h
theorem seS_ok {b : Nat → Nat} {N : Nat} {σ : TxS} (h : (smS b N σ).1 = false) : σ.1 = false ∧ (smS b N σ).2.2 = σ.2.2 := by
  cases c : σ.1
  case true => rw [seS_w c, c] at h; cases h
  case false =>
  have c' : ¬ σ.1 = true := by rw [c]; decide
  unfold smS at h ⊢
  rw [if_neg c'] at h ⊢
  by_cases k : kQ b N (rn isBl b N σ.2.1) = 2
  · rw [if_pos k]; exact ⟨rfl, rfl⟩
  · rw [if_neg k] at h; cases h
theorem slS_ok {b : Nat → Nat} {N c s0 : Nat} {σ : TxS} (h : (slS b N c s0 σ).1 = false) (h0 : (slS b N c s0 σ).2.2.1 = 0) : σ.1 = false ∧ σ.2.2.1 = 0 ∧ (if isWk c = true then okW c (slV b N σ) else okN c s0 (slV b N σ)) = true := by
  unfold slS at h h0
  by_cases k : isWk c = true
  · rw [if_pos k] at h h0 ⊢
    obtain ⟨e1, e2, e3⟩ := woS_ok h
    rw [e2] at h0
    exact ⟨e1, h0, e3⟩
  · rw [if_neg k] at h h0 ⊢
    exact nuS_ok h h0
/-- the class's tests -/
theorem cl_note {k q : Int32} {r : Option Value × mH} : Runs xs sl (d) 97 0 [some (.ref (32)), some (.int ( k)), some (.int ( q))] [] (hp J (s) g) r ↔ r = (none, hp J (if s 32 3 = 0 then va_up s 32 (va_up (va_up (s 32) 3 k) 4 q) else s) g) := by
  refine Runs.iff ?_
  by_cases c : s 32 3 = 0
  · have c' := eq_true c
    simp (disch := first | omega | assumption | exact Or.inl rfl | exact Or.inr rfl | exact bI_or _ | exact zC81 | exact zC47 | exact zC65 | exact zC0 | exact zC1 | exact zC32 | exact zC70 | exact zC73 | exact ztc (by assumption) | exact zdc (by assumption) | exact zpc (by assumption) | decide) only [Option.some.injEq, exists_eq_left', ex2, Option.toList, List.singleton_append, List.append_nil, List.cons_append, List.nil_append, nI_add, nI_addL, nI_Ladd, pk_mul, nI_mulL, nI_Lmul, nI_subL, pk_sub, nI_divL, sub_dm, nI_leE, nI_ltE, nI_eqE, nI_Lle, nI_leL, nI_Llt, nI_ltL, nI_eqL, va_up_self, va_up_ne, up_up, up_comm, nI_clamp, bI_eq0, not_true_eq_false, not_false_eq_true, Nat.reduceEqDiff, Nat.reduceLeDiff, Nat.reduceAdd, Nat.reduceMul, Nat.one_ne_zero, Nat.zero_ne_one, decide_eq_false_iff_not, decide_eq_true_eq, Bool.false_eq_true, decide_true, decide_false, bI_true, bI_false, one_ne, Nat.le_refl, Nat.lt_irrefl, cleT, cleF, cltT, cltF, ceqT, ceqF, ↓reduceIte, r97_0, r97_1, r97_4, r97_7, r97_8, r97_9, r97_12, r97_13, r97_14, r97_17, zO32_3, zW32_3, zW32_4, c']
  · simp (disch := first | omega | assumption | exact Or.inl rfl | exact Or.inr rfl | exact bI_or _ | exact zC81 | exact zC47 | exact zC65 | exact zC0 | exact zC1 | exact zC32 | exact zC70 | exact zC73 | exact ztc (by assumption) | exact zdc (by assumption) | exact zpc (by assumption) | decide) only [Option.some.injEq, exists_eq_left', ex2, Option.toList, List.singleton_append, List.append_nil, List.cons_append, List.nil_append, nI_add, nI_addL, nI_Ladd, pk_mul, nI_mulL, nI_Lmul, nI_subL, pk_sub, nI_divL, sub_dm, nI_leE, nI_ltE, nI_eqE, nI_Lle, nI_leL, nI_Llt, nI_ltL, nI_eqL, va_up_self, va_up_ne, up_up, up_comm, nI_clamp, bI_eq0, not_true_eq_false, not_false_eq_true, Nat.reduceEqDiff, Nat.reduceLeDiff, Nat.reduceAdd, Nat.reduceMul, Nat.one_ne_zero, Nat.zero_ne_one, decide_eq_false_iff_not, decide_eq_true_eq, Bool.false_eq_true, decide_true, decide_false, bI_true, bI_false, one_ne, Nat.le_refl, Nat.lt_irrefl, cleT, cleF, cltT, cltF, ceqT, ceqF, ↓reduceIte, r97_0, r97_1, r97_4, r97_7, r97_8, r97_9, r97_12, r97_13, r97_14, r97_17, zO32_3, c]
theorem cl_isWordOf {c v : Nat} (hc : c = 107 ∨ c = 98 ∨ c = 119) (hv : v < 100) {H : mH} {r : Option Value × mH} : Runs xs sl d 100 0 [some (.int (nI c)), some (.int (nI v))] [] H r ↔ r = (some (.int (bI (okW c v))), H) := by
  refine Runs.iff ?_
  rcases hc with rfl | rfl | rfl
  · rw [show nI 107 = (107 : Int32) from rfl]
    show _
    by_cases c1 : v ≤ 4
    · have e : okW 107 v = true := decide_eq_true c1
      rw [e]
      simp (disch := first | omega | assumption | exact Or.inl rfl | exact Or.inr rfl | exact bI_or _ | exact zC81 | exact zC47 | exact zC65 | exact zC0 | exact zC1 | exact zC32 | exact zC70 | exact zC73 | exact ztc (by assumption) | exact zdc (by assumption) | exact zpc (by assumption) | decide) only [Option.some.injEq, exists_eq_left', ex2, Option.toList, List.singleton_append, List.append_nil, List.cons_append, List.nil_append, nI_add, nI_addL, nI_Ladd, pk_mul, nI_mulL, nI_Lmul, nI_subL, pk_sub, nI_divL, sub_dm, nI_leE, nI_ltE, nI_eqE, nI_Lle, nI_leL, nI_Llt, nI_ltL, nI_eqL, va_up_self, va_up_ne, up_up, up_comm, nI_clamp, bI_eq0, not_true_eq_false, not_false_eq_true, Nat.reduceEqDiff, Nat.reduceLeDiff, Nat.reduceAdd, Nat.reduceMul, Nat.one_ne_zero, Nat.zero_ne_one, decide_eq_false_iff_not, decide_eq_true_eq, Bool.false_eq_true, decide_true, decide_false, bI_true, bI_false, one_ne, Nat.le_refl, Nat.lt_irrefl, cleT, cleF, cltT, cltF, ceqT, ceqF, ↓reduceIte, r100_0, r100_1_c98, r100_1_c107, r100_1_d, r100_28, r100_29, r100_32, r100_33, r100_34, r100_37, r100_38, r100_41, r100_42, r100_43, r100_44, r100_45, r100_48, r100_49, r100_50, r100_53, r100_54, r100_55, r100_58, r100_59, r100_62, r100_63, r100_64, r100_65, r100_67, r100_70, r100_71, r100_73, r100_76, r100_77, r100_80, r100_81, c1]
    · have e : okW 107 v = false := decide_eq_false c1
      rw [e]
      simp (disch := first | omega | assumption | exact Or.inl rfl | exact Or.inr rfl | exact bI_or _ | exact zC81 | exact zC47 | exact zC65 | exact zC0 | exact zC1 | exact zC32 | exact zC70 | exact zC73 | exact ztc (by assumption) | exact zdc (by assumption) | exact zpc (by assumption) | decide) only [Option.some.injEq, exists_eq_left', ex2, Option.toList, List.singleton_append, List.append_nil, List.cons_append, List.nil_append, nI_add, nI_addL, nI_Ladd, pk_mul, nI_mulL, nI_Lmul, nI_subL, pk_sub, nI_divL, sub_dm, nI_leE, nI_ltE, nI_eqE, nI_Lle, nI_leL, nI_Llt, nI_ltL, nI_eqL, va_up_self, va_up_ne, up_up, up_comm, nI_clamp, bI_eq0, not_true_eq_false, not_false_eq_true, Nat.reduceEqDiff, Nat.reduceLeDiff, Nat.reduceAdd, Nat.reduceMul, Nat.one_ne_zero, Nat.zero_ne_one, decide_eq_false_iff_not, decide_eq_true_eq, Bool.false_eq_true, decide_true, decide_false, bI_true, bI_false, one_ne, Nat.le_refl, Nat.lt_irrefl, cleT, cleF, cltT, cltF, ceqT, ceqF, ↓reduceIte, r100_0, r100_1_c98, r100_1_c107, r100_1_d, r100_28, r100_29, r100_32, r100_33, r100_34, r100_37, r100_38, r100_41, r100_42, r100_43, r100_44, r100_45, r100_48, r100_49, r100_50, r100_53, r100_54, r100_55, r100_58, r100_59, r100_62, r100_63, r100_64, r100_65, r100_67, r100_70, r100_71, r100_73, r100_76, r100_77, r100_80, r100_81, c1]
  · rw [show nI 98 = (98 : Int32) from rfl]
    by_cases c1 : v = 1
    · subst c1
      rw [show okW 98 1 = true from rfl]
      simp (disch := first | omega | assumption | exact Or.inl rfl | exact Or.inr rfl | exact bI_or _ | exact zC81 | exact zC47 | exact zC65 | exact zC0 | exact zC1 | exact zC32 | exact zC70 | exact zC73 | exact ztc (by assumption) | exact zdc (by assumption) | exact zpc (by assumption) | decide) only [Option.some.injEq, exists_eq_left', ex2, Option.toList, List.singleton_append, List.append_nil, List.cons_append, List.nil_append, nI_add, nI_addL, nI_Ladd, pk_mul, nI_mulL, nI_Lmul, nI_subL, pk_sub, nI_divL, sub_dm, nI_leE, nI_ltE, nI_eqE, nI_Lle, nI_leL, nI_Llt, nI_ltL, nI_eqL, va_up_self, va_up_ne, up_up, up_comm, nI_clamp, bI_eq0, not_true_eq_false, not_false_eq_true, Nat.reduceEqDiff, Nat.reduceLeDiff, Nat.reduceAdd, Nat.reduceMul, Nat.one_ne_zero, Nat.zero_ne_one, decide_eq_false_iff_not, decide_eq_true_eq, Bool.false_eq_true, decide_true, decide_false, bI_true, bI_false, one_ne, Nat.le_refl, Nat.lt_irrefl, cleT, cleF, cltT, cltF, ceqT, ceqF, ↓reduceIte, r100_0, r100_1_c98, r100_1_c107, r100_1_d, r100_28, r100_29, r100_32, r100_33, r100_34, r100_37, r100_38, r100_41, r100_42, r100_43, r100_44, r100_45, r100_48, r100_49, r100_50, r100_53, r100_54, r100_55, r100_58, r100_59, r100_62, r100_63, r100_64, r100_65, r100_67, r100_70, r100_71, r100_73, r100_76, r100_77, r100_80, r100_81]
    by_cases c2 : v = 3
    · subst c2
      rw [show okW 98 3 = true from rfl]
      simp (disch := first | omega | assumption | exact Or.inl rfl | exact Or.inr rfl | exact bI_or _ | exact zC81 | exact zC47 | exact zC65 | exact zC0 | exact zC1 | exact zC32 | exact zC70 | exact zC73 | exact ztc (by assumption) | exact zdc (by assumption) | exact zpc (by assumption) | decide) only [Option.some.injEq, exists_eq_left', ex2, Option.toList, List.singleton_append, List.append_nil, List.cons_append, List.nil_append, nI_add, nI_addL, nI_Ladd, pk_mul, nI_mulL, nI_Lmul, nI_subL, pk_sub, nI_divL, sub_dm, nI_leE, nI_ltE, nI_eqE, nI_Lle, nI_leL, nI_Llt, nI_ltL, nI_eqL, va_up_self, va_up_ne, up_up, up_comm, nI_clamp, bI_eq0, not_true_eq_false, not_false_eq_true, Nat.reduceEqDiff, Nat.reduceLeDiff, Nat.reduceAdd, Nat.reduceMul, Nat.one_ne_zero, Nat.zero_ne_one, decide_eq_false_iff_not, decide_eq_true_eq, Bool.false_eq_true, decide_true, decide_false, bI_true, bI_false, one_ne, Nat.le_refl, Nat.lt_irrefl, cleT, cleF, cltT, cltF, ceqT, ceqF, ↓reduceIte, r100_0, r100_1_c98, r100_1_c107, r100_1_d, r100_28, r100_29, r100_32, r100_33, r100_34, r100_37, r100_38, r100_41, r100_42, r100_43, r100_44, r100_45, r100_48, r100_49, r100_50, r100_53, r100_54, r100_55, r100_58, r100_59, r100_62, r100_63, r100_64, r100_65, r100_67, r100_70, r100_71, r100_73, r100_76, r100_77, r100_80, r100_81]
    by_cases c3 : v = 4
    · subst c3
      rw [show okW 98 4 = true from rfl]
      simp (disch := first | omega | assumption | exact Or.inl rfl | exact Or.inr rfl | exact bI_or _ | exact zC81 | exact zC47 | exact zC65 | exact zC0 | exact zC1 | exact zC32 | exact zC70 | exact zC73 | exact ztc (by assumption) | exact zdc (by assumption) | exact zpc (by assumption) | decide) only [Option.some.injEq, exists_eq_left', ex2, Option.toList, List.singleton_append, List.append_nil, List.cons_append, List.nil_append, nI_add, nI_addL, nI_Ladd, pk_mul, nI_mulL, nI_Lmul, nI_subL, pk_sub, nI_divL, sub_dm, nI_leE, nI_ltE, nI_eqE, nI_Lle, nI_leL, nI_Llt, nI_ltL, nI_eqL, va_up_self, va_up_ne, up_up, up_comm, nI_clamp, bI_eq0, not_true_eq_false, not_false_eq_true, Nat.reduceEqDiff, Nat.reduceLeDiff, Nat.reduceAdd, Nat.reduceMul, Nat.one_ne_zero, Nat.zero_ne_one, decide_eq_false_iff_not, decide_eq_true_eq, Bool.false_eq_true, decide_true, decide_false, bI_true, bI_false, one_ne, Nat.le_refl, Nat.lt_irrefl, cleT, cleF, cltT, cltF, ceqT, ceqF, ↓reduceIte, r100_0, r100_1_c98, r100_1_c107, r100_1_d, r100_28, r100_29, r100_32, r100_33, r100_34, r100_37, r100_38, r100_41, r100_42, r100_43, r100_44, r100_45, r100_48, r100_49, r100_50, r100_53, r100_54, r100_55, r100_58, r100_59, r100_62, r100_63, r100_64, r100_65, r100_67, r100_70, r100_71, r100_73, r100_76, r100_77, r100_80, r100_81]
    have e : okW 98 v = false := by show (decide (v = 1) || decide (v = 3) || decide (v = 4)) = false; rw [decide_eq_false c1, decide_eq_false c2, decide_eq_false c3]; rfl
    rw [e]
    simp (disch := first | omega | assumption | exact Or.inl rfl | exact Or.inr rfl | exact bI_or _ | exact zC81 | exact zC47 | exact zC65 | exact zC0 | exact zC1 | exact zC32 | exact zC70 | exact zC73 | exact ztc (by assumption) | exact zdc (by assumption) | exact zpc (by assumption) | decide) only [Option.some.injEq, exists_eq_left', ex2, Option.toList, List.singleton_append, List.append_nil, List.cons_append, List.nil_append, nI_add, nI_addL, nI_Ladd, pk_mul, nI_mulL, nI_Lmul, nI_subL, pk_sub, nI_divL, sub_dm, nI_leE, nI_ltE, nI_eqE, nI_Lle, nI_leL, nI_Llt, nI_ltL, nI_eqL, va_up_self, va_up_ne, up_up, up_comm, nI_clamp, bI_eq0, not_true_eq_false, not_false_eq_true, Nat.reduceEqDiff, Nat.reduceLeDiff, Nat.reduceAdd, Nat.reduceMul, Nat.one_ne_zero, Nat.zero_ne_one, decide_eq_false_iff_not, decide_eq_true_eq, Bool.false_eq_true, decide_true, decide_false, bI_true, bI_false, one_ne, Nat.le_refl, Nat.lt_irrefl, cleT, cleF, cltT, cltF, ceqT, ceqF, ↓reduceIte, r100_0, r100_1_c98, r100_1_c107, r100_1_d, r100_28, r100_29, r100_32, r100_33, r100_34, r100_37, r100_38, r100_41, r100_42, r100_43, r100_44, r100_45, r100_48, r100_49, r100_50, r100_53, r100_54, r100_55, r100_58, r100_59, r100_62, r100_63, r100_64, r100_65, r100_67, r100_70, r100_71, r100_73, r100_76, r100_77, r100_80, r100_81, c1, c2, c3]
  · rw [show nI 119 = (119 : Int32) from rfl]
    by_cases c1 : v = 20
    · subst c1
      rw [show okW 119 20 = true from rfl]
      simp (disch := first | omega | assumption | exact Or.inl rfl | exact Or.inr rfl | exact bI_or _ | exact zC81 | exact zC47 | exact zC65 | exact zC0 | exact zC1 | exact zC32 | exact zC70 | exact zC73 | exact ztc (by assumption) | exact zdc (by assumption) | exact zpc (by assumption) | decide) only [Option.some.injEq, exists_eq_left', ex2, Option.toList, List.singleton_append, List.append_nil, List.cons_append, List.nil_append, nI_add, nI_addL, nI_Ladd, pk_mul, nI_mulL, nI_Lmul, nI_subL, pk_sub, nI_divL, sub_dm, nI_leE, nI_ltE, nI_eqE, nI_Lle, nI_leL, nI_Llt, nI_ltL, nI_eqL, va_up_self, va_up_ne, up_up, up_comm, nI_clamp, bI_eq0, not_true_eq_false, not_false_eq_true, Nat.reduceEqDiff, Nat.reduceLeDiff, Nat.reduceAdd, Nat.reduceMul, Nat.one_ne_zero, Nat.zero_ne_one, decide_eq_false_iff_not, decide_eq_true_eq, Bool.false_eq_true, decide_true, decide_false, bI_true, bI_false, one_ne, Nat.le_refl, Nat.lt_irrefl, cleT, cleF, cltT, cltF, ceqT, ceqF, ↓reduceIte, r100_0, r100_1_c98, r100_1_c107, r100_1_d, r100_28, r100_29, r100_32, r100_33, r100_34, r100_37, r100_38, r100_41, r100_42, r100_43, r100_44, r100_45, r100_48, r100_49, r100_50, r100_53, r100_54, r100_55, r100_58, r100_59, r100_62, r100_63, r100_64, r100_65, r100_67, r100_70, r100_71, r100_73, r100_76, r100_77, r100_80, r100_81]
    by_cases c2 : v = 21
    · subst c2
      rw [show okW 119 21 = true from rfl]
      simp (disch := first | omega | assumption | exact Or.inl rfl | exact Or.inr rfl | exact bI_or _ | exact zC81 | exact zC47 | exact zC65 | exact zC0 | exact zC1 | exact zC32 | exact zC70 | exact zC73 | exact ztc (by assumption) | exact zdc (by assumption) | exact zpc (by assumption) | decide) only [Option.some.injEq, exists_eq_left', ex2, Option.toList, List.singleton_append, List.append_nil, List.cons_append, List.nil_append, nI_add, nI_addL, nI_Ladd, pk_mul, nI_mulL, nI_Lmul, nI_subL, pk_sub, nI_divL, sub_dm, nI_leE, nI_ltE, nI_eqE, nI_Lle, nI_leL, nI_Llt, nI_ltL, nI_eqL, va_up_self, va_up_ne, up_up, up_comm, nI_clamp, bI_eq0, not_true_eq_false, not_false_eq_true, Nat.reduceEqDiff, Nat.reduceLeDiff, Nat.reduceAdd, Nat.reduceMul, Nat.one_ne_zero, Nat.zero_ne_one, decide_eq_false_iff_not, decide_eq_true_eq, Bool.false_eq_true, decide_true, decide_false, bI_true, bI_false, one_ne, Nat.le_refl, Nat.lt_irrefl, cleT, cleF, cltT, cltF, ceqT, ceqF, ↓reduceIte, r100_0, r100_1_c98, r100_1_c107, r100_1_d, r100_28, r100_29, r100_32, r100_33, r100_34, r100_37, r100_38, r100_41, r100_42, r100_43, r100_44, r100_45, r100_48, r100_49, r100_50, r100_53, r100_54, r100_55, r100_58, r100_59, r100_62, r100_63, r100_64, r100_65, r100_67, r100_70, r100_71, r100_73, r100_76, r100_77, r100_80, r100_81]
    have e : okW 119 v = false := by show (decide (v = 20) || decide (v = 21)) = false; rw [decide_eq_false c1, decide_eq_false c2]; rfl
    rw [e]
    simp (disch := first | omega | assumption | exact Or.inl rfl | exact Or.inr rfl | exact bI_or _ | exact zC81 | exact zC47 | exact zC65 | exact zC0 | exact zC1 | exact zC32 | exact zC70 | exact zC73 | exact ztc (by assumption) | exact zdc (by assumption) | exact zpc (by assumption) | decide) only [Option.some.injEq, exists_eq_left', ex2, Option.toList, List.singleton_append, List.append_nil, List.cons_append, List.nil_append, nI_add, nI_addL, nI_Ladd, pk_mul, nI_mulL, nI_Lmul, nI_subL, pk_sub, nI_divL, sub_dm, nI_leE, nI_ltE, nI_eqE, nI_Lle, nI_leL, nI_Llt, nI_ltL, nI_eqL, va_up_self, va_up_ne, up_up, up_comm, nI_clamp, bI_eq0, not_true_eq_false, not_false_eq_true, Nat.reduceEqDiff, Nat.reduceLeDiff, Nat.reduceAdd, Nat.reduceMul, Nat.one_ne_zero, Nat.zero_ne_one, decide_eq_false_iff_not, decide_eq_true_eq, Bool.false_eq_true, decide_true, decide_false, bI_true, bI_false, one_ne, Nat.le_refl, Nat.lt_irrefl, cleT, cleF, cltT, cltF, ceqT, ceqF, ↓reduceIte, r100_0, r100_1_c98, r100_1_c107, r100_1_d, r100_28, r100_29, r100_32, r100_33, r100_34, r100_37, r100_38, r100_41, r100_42, r100_43, r100_44, r100_45, r100_48, r100_49, r100_50, r100_53, r100_54, r100_55, r100_58, r100_59, r100_62, r100_63, r100_64, r100_65, r100_67, r100_70, r100_71, r100_73, r100_76, r100_77, r100_80, r100_81, c1, c2]
theorem cl_isWordOf_no {c : Nat} (hc : c = 107 ∨ c = 98 ∨ c = 119) {H : mH} {r : Option Value × mH} : Runs xs sl d 100 0 [some (.int (nI c)), some (.int (-1))] [] H r ↔ r = (some (.int 0), H) := by
  refine Runs.iff ?_
  have e0 : ((-1 : Int32) < 0) = True := eq_true (by decide)
  have e1 : ¬ (-1 : Int32) = 1 := by decide
  have e3 : ¬ (-1 : Int32) = 3 := by decide
  have e4 : ¬ (-1 : Int32) = 4 := by decide
  have e5 : ¬ (-1 : Int32) = 20 := by decide
  have e6 : ¬ (-1 : Int32) = 21 := by decide
  rcases hc with rfl | rfl | rfl
  · rw [show nI 107 = (107 : Int32) from rfl]
    simp (disch := first | omega | assumption | exact Or.inl rfl | exact Or.inr rfl | exact bI_or _ | exact zC81 | exact zC47 | exact zC65 | exact zC0 | exact zC1 | exact zC32 | exact zC70 | exact zC73 | exact ztc (by assumption) | exact zdc (by assumption) | exact zpc (by assumption) | decide) only [Option.some.injEq, exists_eq_left', ex2, Option.toList, List.singleton_append, List.append_nil, List.cons_append, List.nil_append, nI_add, nI_addL, nI_Ladd, pk_mul, nI_mulL, nI_Lmul, nI_subL, pk_sub, nI_divL, sub_dm, nI_leE, nI_ltE, nI_eqE, nI_Lle, nI_leL, nI_Llt, nI_ltL, nI_eqL, va_up_self, va_up_ne, up_up, up_comm, nI_clamp, bI_eq0, not_true_eq_false, not_false_eq_true, Nat.reduceEqDiff, Nat.reduceLeDiff, Nat.reduceAdd, Nat.reduceMul, Nat.one_ne_zero, Nat.zero_ne_one, decide_eq_false_iff_not, decide_eq_true_eq, Bool.false_eq_true, decide_true, decide_false, bI_true, bI_false, one_ne, Nat.le_refl, Nat.lt_irrefl, cleT, cleF, cltT, cltF, ceqT, ceqF, ↓reduceIte, r100_0, r100_1_c98, r100_1_c107, r100_1_d, r100_28, r100_29, r100_32, r100_33, r100_34, r100_37, r100_38, r100_41, r100_42, r100_43, r100_44, r100_45, r100_48, r100_49, r100_50, r100_53, r100_54, r100_55, r100_58, r100_59, r100_62, r100_63, r100_64, r100_65, r100_67, r100_70, r100_71, r100_73, r100_76, r100_77, r100_80, r100_81, e0]
  · rw [show nI 98 = (98 : Int32) from rfl]
    simp (disch := first | omega | assumption | exact Or.inl rfl | exact Or.inr rfl | exact bI_or _ | exact zC81 | exact zC47 | exact zC65 | exact zC0 | exact zC1 | exact zC32 | exact zC70 | exact zC73 | exact ztc (by assumption) | exact zdc (by assumption) | exact zpc (by assumption) | decide) only [Option.some.injEq, exists_eq_left', ex2, Option.toList, List.singleton_append, List.append_nil, List.cons_append, List.nil_append, nI_add, nI_addL, nI_Ladd, pk_mul, nI_mulL, nI_Lmul, nI_subL, pk_sub, nI_divL, sub_dm, nI_leE, nI_ltE, nI_eqE, nI_Lle, nI_leL, nI_Llt, nI_ltL, nI_eqL, va_up_self, va_up_ne, up_up, up_comm, nI_clamp, bI_eq0, not_true_eq_false, not_false_eq_true, Nat.reduceEqDiff, Nat.reduceLeDiff, Nat.reduceAdd, Nat.reduceMul, Nat.one_ne_zero, Nat.zero_ne_one, decide_eq_false_iff_not, decide_eq_true_eq, Bool.false_eq_true, decide_true, decide_false, bI_true, bI_false, one_ne, Nat.le_refl, Nat.lt_irrefl, cleT, cleF, cltT, cltF, ceqT, ceqF, ↓reduceIte, r100_0, r100_1_c98, r100_1_c107, r100_1_d, r100_28, r100_29, r100_32, r100_33, r100_34, r100_37, r100_38, r100_41, r100_42, r100_43, r100_44, r100_45, r100_48, r100_49, r100_50, r100_53, r100_54, r100_55, r100_58, r100_59, r100_62, r100_63, r100_64, r100_65, r100_67, r100_70, r100_71, r100_73, r100_76, r100_77, r100_80, r100_81, e1, e3, e4]
  · rw [show nI 119 = (119 : Int32) from rfl]
    simp (disch := first | omega | assumption | exact Or.inl rfl | exact Or.inr rfl | exact bI_or _ | exact zC81 | exact zC47 | exact zC65 | exact zC0 | exact zC1 | exact zC32 | exact zC70 | exact zC73 | exact ztc (by assumption) | exact zdc (by assumption) | exact zpc (by assumption) | decide) only [Option.some.injEq, exists_eq_left', ex2, Option.toList, List.singleton_append, List.append_nil, List.cons_append, List.nil_append, nI_add, nI_addL, nI_Ladd, pk_mul, nI_mulL, nI_Lmul, nI_subL, pk_sub, nI_divL, sub_dm, nI_leE, nI_ltE, nI_eqE, nI_Lle, nI_leL, nI_Llt, nI_ltL, nI_eqL, va_up_self, va_up_ne, up_up, up_comm, nI_clamp, bI_eq0, not_true_eq_false, not_false_eq_true, Nat.reduceEqDiff, Nat.reduceLeDiff, Nat.reduceAdd, Nat.reduceMul, Nat.one_ne_zero, Nat.zero_ne_one, decide_eq_false_iff_not, decide_eq_true_eq, Bool.false_eq_true, decide_true, decide_false, bI_true, bI_false, one_ne, Nat.le_refl, Nat.lt_irrefl, cleT, cleF, cltT, cltF, ceqT, ceqF, ↓reduceIte, r100_0, r100_1_c98, r100_1_c107, r100_1_d, r100_28, r100_29, r100_32, r100_33, r100_34, r100_37, r100_38, r100_41, r100_42, r100_43, r100_44, r100_45, r100_48, r100_49, r100_50, r100_53, r100_54, r100_55, r100_58, r100_59, r100_62, r100_63, r100_64, r100_65, r100_67, r100_70, r100_71, r100_73, r100_76, r100_77, r100_80, r100_81, e5, e6]
end TXG
