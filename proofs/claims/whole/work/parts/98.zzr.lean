/-! IMAGES: the class's rows; both alike -/
section IMH
variable {xs : Nat → Int32} {sl d : Nat} {J : hJk} {s : hS} {g : hG}
theorem hp_31 : (hp J s g).1 31 = some (mQ 7 3 J.2.2.1) := hp_4 (a := 31) rfl
theorem cl_image {k : Nat} (hk : k < 3) (hM : IMS J s) (hB : BY s) : ∃ (H2 : mH) (t : Nat) (τ2 : Told), Runs xs sl (d + 1 + 1 + 1) 38 0 [some (.ref 0), some (.int (nI k)), none] [] (hp J s g) (some (.int 1), H2) ∧ (∀ a, a < 103 → a ≠ 31 → H2.1 a = (hp J s g).1 a) ∧ H2.1 31 = some (mQ 7 3 (va_up J.2.2.1 k (some t))) ∧ isTold H2 t τ2 ∧ AGT τ2 (tz s) ∧ (103 ≤ t ∧ t + 30 ≤ H2.2.1) ∧ (∀ a, 103 ≤ a → a < J.2.2.2.2.1 → ¬ (t ≤ a ∧ a < t + 30) → H2.1 a = J.2.2.2.1 a) ∧ ((J.2.2.1 k = some t ∧ H2.2 = J.2.2.2.2) ∨ (J.2.2.1 k = none ∧ t = J.2.2.2.2.1 ∧ H2.2 = (t + 30, J.2.2.2.2.2 + 1293))) := by
  obtain ⟨m1, m2, m3⟩ := hM
  rcases m1 k hk with ⟨e1, -⟩ | ⟨t, τ, z, e1, -, ⟨e3, e3'⟩, e4, -⟩
  · obtain ⟨t, ht⟩ : ∃ t, t = (hp J s g).2.1 := ⟨_, rfl⟩
    have ht' : t = J.2.2.2.2.1 := ht
    have ht3 : 103 ≤ t := by rw [ht', m3]; show 103 ≤ 103 + 30 * imn J; omega
    obtain ⟨H1, r1, i1, z1, k1⟩ := new_told (xs := xs) (sl := sl) (d := d) (H := hp J s g) ht.symm
    obtain ⟨F, f1, -⟩ := i1.1
    have w2 := hQw_of (H := H1) (a := 31) (t := 7) (n := 3) (i := k) (v := t) (f := J.2.2.1) (ci := 7) ((k1 31 (by omega)).trans hp_31) f1 rfl hk (by decide)
    obtain ⟨H2, e2⟩ : ∃ X, X = mset H1 31 (mQ 7 3 (va_up J.2.2.1 k (some t))) := ⟨_, rfl⟩
    rw [← e2] at w2
    have k2 : ∀ j, j ≠ 31 → H2.1 j = H1.1 j := fun j hj => by rw [e2]; exact mset_ne hj
    have a2 : H2.1 31 = some (mQ 7 3 (va_up J.2.2.1 k (some t))) := by rw [e2]; exact mset_at
    have z2 : H2.2 = (t + 30, J.2.2.2.2.2 + 1293) := by rw [e2]; exact z1
    have i2 : isTold H2 t τ0 := i1.kept (fun j h1 h2 => k2 j (by omega))
    have j2 : isTold H2 1 (tz s) := (isTold_tz (J := J) (s := s) (g := g)).kept (fun j h1 h2 => (k2 j (by omega)).trans (k1 j (by omega)))
    obtain ⟨H3, τ2, r3, i3, A3, k3, z3⟩ := td_copy (xs := xs) (sl := sl) (d := d) i2 j2 (by omega) hB
    refine ⟨H3, t, τ2, ?_, fun a h1 h2 => ?_, ?_, i3, A3, ⟨ht3, by rw [z3, z2]; exact Nat.le_refl _⟩, fun a h1 h2 h3 => ?_, Or.inr ⟨e1, ht', by rw [z3, z2]⟩⟩
    · have g1 : hO H1 0 9 1 = some (.ref 31) := by
        have h : hO (hp J s g) 0 9 1 = some (.ref 31) := zO0_1
        unfold hO at h ⊢
        rw [k1 0 (by omega)]
        exact h
      have g0 : hO H2 0 9 0 = some (.ref 1) := by
        have h : hO (hp J s g) 0 9 0 = some (.ref 1) := zO0_0
        unfold hO at h ⊢
        rw [k2 0 (by decide), k1 0 (by omega)]
        exact h
      have q31 := zQ31 (J := J) (s := s) (g := g) hk
      rw [e1] at q31
      have q31' : hQ (hp J s g) 31 (nI k) = some .null := q31
      simp (disch := first | omega | assumption | exact Or.inl rfl | exact Or.inr rfl | exact bI_or _ | exact zC81 | exact zC47 | exact zC65 | exact zC0 | exact zC1 | exact zC32 | exact zC70 | exact zC73 | exact ztc (by assumption) | exact zdc (by assumption) | exact zpc (by assumption) | decide) only [Option.some.injEq, exists_eq_left', ex2, Option.toList, List.singleton_append, List.append_nil, List.cons_append, List.nil_append, nI_add, nI_addL, nI_Ladd, pk_mul, nI_mulL, nI_Lmul, nI_subL, pk_sub, nI_divL, sub_dm, nI_leE, nI_ltE, nI_eqE, nI_Lle, nI_leL, nI_Llt, nI_ltL, nI_eqL, va_up_self, va_up_ne, up_up, up_comm, nI_clamp, bI_eq0, not_true_eq_false, not_false_eq_true, Nat.reduceEqDiff, Nat.reduceLeDiff, Nat.reduceAdd, Nat.reduceMul, Nat.one_ne_zero, Nat.zero_ne_one, decide_eq_false_iff_not, decide_eq_true_eq, Bool.false_eq_true, decide_true, decide_false, bI_true, bI_false, one_ne, Nat.le_refl, Nat.lt_irrefl, cleT, cleF, cltT, cltF, ceqT, ceqF, ↓reduceIte, r38_0, r38_1, r38_4, r38_5, r38_6, r38_9, r38_10, r38_11, r38_12, r38_15, r38_16, r38_17, r38_17n, r38_18, r38_18n, r38_19, r38_19n, r38_22, r38_25, zO0_1, q31']
      rw [← ht, r38_26]
      refine r1.on ?_
      simp only [Option.toList, List.singleton_append, List.append_nil, List.cons_append, List.nil_append, r38_29, r38_29n, r38_30, r38_31, r38_34, r38_35, r38_35n, r38_36, r38_37, r38_37n, r38_38, r38_39, g1, w2, g0, Option.some.injEq, exists_eq_left']
      rw [r38_42 i2.1.cls]
      refine r3.on ?_
      simp (disch := first | omega | assumption | exact Or.inl rfl | exact Or.inr rfl | exact bI_or _ | exact zC81 | exact zC47 | exact zC65 | exact zC0 | exact zC1 | exact zC32 | exact zC70 | exact zC73 | exact ztc (by assumption) | exact zdc (by assumption) | exact zpc (by assumption) | decide) only [Option.some.injEq, exists_eq_left', ex2, Option.toList, List.singleton_append, List.append_nil, List.cons_append, List.nil_append, nI_add, nI_addL, nI_Ladd, pk_mul, nI_mulL, nI_Lmul, nI_subL, pk_sub, nI_divL, sub_dm, nI_leE, nI_ltE, nI_eqE, nI_Lle, nI_leL, nI_Llt, nI_ltL, nI_eqL, va_up_self, va_up_ne, up_up, up_comm, nI_clamp, bI_eq0, not_true_eq_false, not_false_eq_true, Nat.reduceEqDiff, Nat.reduceLeDiff, Nat.reduceAdd, Nat.reduceMul, Nat.one_ne_zero, Nat.zero_ne_one, decide_eq_false_iff_not, decide_eq_true_eq, Bool.false_eq_true, decide_true, decide_false, bI_true, bI_false, one_ne, Nat.le_refl, Nat.lt_irrefl, cleT, cleF, cltT, cltF, ceqT, ceqF, ↓reduceIte, r38_45, r38_46]
    · rw [k3 a (by omega), k2 a h2, k1 a (by omega)]
    · rw [k3 31 (by omega)]
      exact a2
    · rw [k3 a h3, k2 a (by omega), k1 a (by omega), hp_hi h1]
  · obtain ⟨H3, τ2, r3, i3, A3, k3, z3⟩ := td_copy (xs := xs) (sl := sl) (d := d) (H := hp J s g) (isTold_hi e4 e3) isTold_tz (by omega) hB
    refine ⟨H3, t, τ2, ?_, fun a h1 h2 => k3 a (by omega), ?_, i3, A3, ⟨e3, by rw [z3]; exact e3'⟩, fun a h1 h2 h3 => ?_, Or.inl ⟨e1, z3⟩⟩
    · have q31 := zQ31 (J := J) (s := s) (g := g) hk
      rw [e1] at q31
      have q31' : hQ (hp J s g) 31 (nI k) = some (.ref t) := q31
      simp (disch := first | omega | assumption | exact Or.inl rfl | exact Or.inr rfl | exact bI_or _ | exact zC81 | exact zC47 | exact zC65 | exact zC0 | exact zC1 | exact zC32 | exact zC70 | exact zC73 | exact ztc (by assumption) | exact zdc (by assumption) | exact zpc (by assumption) | decide) only [Option.some.injEq, exists_eq_left', ex2, Option.toList, List.singleton_append, List.append_nil, List.cons_append, List.nil_append, nI_add, nI_addL, nI_Ladd, pk_mul, nI_mulL, nI_Lmul, nI_subL, pk_sub, nI_divL, sub_dm, nI_leE, nI_ltE, nI_eqE, nI_Lle, nI_leL, nI_Llt, nI_ltL, nI_eqL, va_up_self, va_up_ne, up_up, up_comm, nI_clamp, bI_eq0, not_true_eq_false, not_false_eq_true, Nat.reduceEqDiff, Nat.reduceLeDiff, Nat.reduceAdd, Nat.reduceMul, Nat.one_ne_zero, Nat.zero_ne_one, decide_eq_false_iff_not, decide_eq_true_eq, Bool.false_eq_true, decide_true, decide_false, bI_true, bI_false, one_ne, Nat.le_refl, Nat.lt_irrefl, cleT, cleF, cltT, cltF, ceqT, ceqF, ↓reduceIte, r38_0, r38_1, r38_4, r38_5, r38_6, r38_9, r38_10, r38_11, r38_12, r38_15, r38_16, r38_17, r38_17n, r38_18, r38_18n, r38_19, r38_19n, r38_37, r38_37n, r38_38, r38_39, zO0_1, zO0_0, q31']
      rw [r38_42 (isTold_hi e4 e3).1.cls]
      refine r3.on ?_
      simp (disch := first | omega | assumption | exact Or.inl rfl | exact Or.inr rfl | exact bI_or _ | exact zC81 | exact zC47 | exact zC65 | exact zC0 | exact zC1 | exact zC32 | exact zC70 | exact zC73 | exact ztc (by assumption) | exact zdc (by assumption) | exact zpc (by assumption) | decide) only [Option.some.injEq, exists_eq_left', ex2, Option.toList, List.singleton_append, List.append_nil, List.cons_append, List.nil_append, nI_add, nI_addL, nI_Ladd, pk_mul, nI_mulL, nI_Lmul, nI_subL, pk_sub, nI_divL, sub_dm, nI_leE, nI_ltE, nI_eqE, nI_Lle, nI_leL, nI_Llt, nI_ltL, nI_eqL, va_up_self, va_up_ne, up_up, up_comm, nI_clamp, bI_eq0, not_true_eq_false, not_false_eq_true, Nat.reduceEqDiff, Nat.reduceLeDiff, Nat.reduceAdd, Nat.reduceMul, Nat.one_ne_zero, Nat.zero_ne_one, decide_eq_false_iff_not, decide_eq_true_eq, Bool.false_eq_true, decide_true, decide_false, bI_true, bI_false, one_ne, Nat.le_refl, Nat.lt_irrefl, cleT, cleF, cltT, cltF, ceqT, ceqF, ↓reduceIte, r38_45, r38_46]
    · rw [k3 31 (by omega), hp_31, ← e1]
      refine congrArg (fun F => some (mQ 7 3 F)) (funext fun j => ?_)
      by_cases c : j = k
      · subst c
        rw [va_up_self]
      · rw [va_up_ne _ _ c]
    · rw [k3 a h3, hp_hi h1]
theorem cl_again {k t : Nat} {τ : Told} (hk : k < 3) (e1 : J.2.2.1 k = some t) (e3 : 103 ≤ t) (e4 : isTold J.2.2.2 t τ) (hB : ∀ i, i < 600 → fits .byte (.int (tB τ i)) = true) : ∃ (H2 : mH) (τ2 : Told), Runs xs sl (d + 1 + 1 + 1) 39 0 [some (.ref 0), some (.int (nI k)), none] [] (hp J s g) (some (.int 1), H2) ∧ isTold H2 1 τ2 ∧ AGT τ2 τ ∧ (∀ a, ¬ (1 ≤ a ∧ a < 31) → H2.1 a = (hp J s g).1 a) ∧ H2.2 = J.2.2.2.2 := by
  obtain ⟨H3, τ2, r3, i3, A3, k3, z3⟩ := td_copy (xs := xs) (sl := sl) (d := d) (H := hp J s g) (t := 1) (t' := t) isTold_tz (isTold_hi e4 e3) (by omega) hB
  refine ⟨H3, τ2, ?_, i3, A3, fun a h => k3 a (by omega), z3⟩
  have q31 := zQ31 (J := J) (s := s) (g := g) hk
  rw [e1] at q31
  have q31' : hQ (hp J s g) 31 (nI k) = some (.ref t) := q31
  simp (disch := first | omega | assumption | exact Or.inl rfl | exact Or.inr rfl | exact bI_or _ | exact zC81 | exact zC47 | exact zC65 | exact zC0 | exact zC1 | exact zC32 | exact zC70 | exact zC73 | exact ztc (by assumption) | exact zdc (by assumption) | exact zpc (by assumption) | decide) only [Option.some.injEq, exists_eq_left', ex2, Option.toList, List.singleton_append, List.append_nil, List.cons_append, List.nil_append, nI_add, nI_addL, nI_Ladd, pk_mul, nI_mulL, nI_Lmul, nI_subL, pk_sub, nI_divL, sub_dm, nI_leE, nI_ltE, nI_eqE, nI_Lle, nI_leL, nI_Llt, nI_ltL, nI_eqL, va_up_self, va_up_ne, up_up, up_comm, nI_clamp, bI_eq0, not_true_eq_false, not_false_eq_true, Nat.reduceEqDiff, Nat.reduceLeDiff, Nat.reduceAdd, Nat.reduceMul, Nat.one_ne_zero, Nat.zero_ne_one, decide_eq_false_iff_not, decide_eq_true_eq, Bool.false_eq_true, decide_true, decide_false, bI_true, bI_false, one_ne, Nat.le_refl, Nat.lt_irrefl, cleT, cleF, cltT, cltF, ceqT, ceqF, ↓reduceIte, r39_0, r39_1, r39_4, r39_5, r39_6, r39_9, r39_10, r39_11, r39_12, r39_15, r39_16, r39_17, r39_17n, r39_18, r39_18n, r39_19, r39_19n, r39_24, r39_25, r39_28, r39_28n, zO0_1, zO0_0, q31']
  rw [r39_29 zC1]
  refine r3.on ?_
  simp (disch := first | omega | assumption | exact Or.inl rfl | exact Or.inr rfl | exact bI_or _ | exact zC81 | exact zC47 | exact zC65 | exact zC0 | exact zC1 | exact zC32 | exact zC70 | exact zC73 | exact ztc (by assumption) | exact zdc (by assumption) | exact zpc (by assumption) | decide) only [Option.some.injEq, exists_eq_left', ex2, Option.toList, List.singleton_append, List.append_nil, List.cons_append, List.nil_append, nI_add, nI_addL, nI_Ladd, pk_mul, nI_mulL, nI_Lmul, nI_subL, pk_sub, nI_divL, sub_dm, nI_leE, nI_ltE, nI_eqE, nI_Lle, nI_leL, nI_Llt, nI_ltL, nI_eqL, va_up_self, va_up_ne, up_up, up_comm, nI_clamp, bI_eq0, not_true_eq_false, not_false_eq_true, Nat.reduceEqDiff, Nat.reduceLeDiff, Nat.reduceAdd, Nat.reduceMul, Nat.one_ne_zero, Nat.zero_ne_one, decide_eq_false_iff_not, decide_eq_true_eq, Bool.false_eq_true, decide_true, decide_false, bI_true, bI_false, one_ne, Nat.le_refl, Nat.lt_irrefl, cleT, cleF, cltT, cltF, ceqT, ceqF, ↓reduceIte, r39_32, r39_33]
/-- both answer alike, and all holds again -/
def StepI (xs : Nat → Int32) (sl : Nat) (H : mH) (M M' : Nat) (L L' : mL) (K : Nat) : Prop := ∃ (v : Value) (H1 H2 : mH), hC H 0 = some 9 ∧ hC H1 81 = some 10 ∧ Runs xs sl 999 M 0 L [] H (some v, H1) ∧ Runs xs sl 999 M' 0 L' [] H1 (some v, H2) ∧ ∃ (J : hJk) (s : hS) (g : hG), H2 = hp J s g ∧ LI J s K
theorem ioN_up {im : Nat → Option Nat} {k t : Nat} (hk : k < 3) (e : im k = none) : ioN (va_up im k (some t) 0) + ioN (va_up im k (some t) 1) + ioN (va_up im k (some t) 2) = ioN (im 0) + ioN (im 1) + ioN (im 2) + 1 := by
  have h3 : k = 0 ∨ k = 1 ∨ k = 2 := by omega
  rcases h3 with rfl | rfl | rfl
  · rw [va_up_self, va_up_ne _ _ (by decide), va_up_ne _ _ (by decide), e]
    show 1 + _ + _ = 0 + _ + _ + 1
    omega
  · rw [va_up_self, va_up_ne _ _ (by decide), va_up_ne _ _ (by decide), e]
    show _ + 1 + _ = _ + 0 + _ + 1
    omega
  · rw [va_up_self, va_up_ne _ _ (by decide), va_up_ne _ _ (by decide), e]
    rfl
theorem up_same {im : Nat → Option Nat} {k t : Nat} (e : im k = some t) : va_up im k (some t) = im := by
  funext j
  by_cases c : j = k
  · subst c
    rw [va_up_self, e]
  · rw [va_up_ne _ _ c]
end IMH
