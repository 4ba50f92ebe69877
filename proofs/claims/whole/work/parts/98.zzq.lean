/-! IMAGES: image and again -/
section IMG
variable {xs : Nat → Int32} {sl d : Nat} {J : hJk} {s : hS} {g : hG}
theorem zQ31 {k : Nat} (h : k < 3) : hQ (hp J s g) 31 (nI k) = some (va_rf (J.2.2.1 k)) := hQ_of (hp_4 (a := 31) rfl) (by decide) h (by decide)
theorem hp_hi {a : Nat} (h : 103 ≤ a) : (hp J s g).1 a = J.2.2.2.1 a := hp_raw (lay_out h)
def ioN (o : Option Nat) : Nat := match o with
  | none => 0
  | some _ => 1
def imn (J : hJk) : Nat := ioN (J.2.2.1 0) + ioN (J.2.2.1 1) + ioN (J.2.2.1 2)
/-- image k as both hold it -/
def IMk (J : hJk) (s : hS) (k : Nat) : Prop := (J.2.2.1 k = none ∧ s 83 k = 0) ∨ ∃ (t : Nat) (τ : Told) (z : hS), J.2.2.1 k = some t ∧ s 83 k = 1 ∧ (103 ≤ t ∧ t + 30 ≤ J.2.2.2.2.1) ∧ isTold J.2.2.2 t τ ∧ AGT τ (tz z) ∧ ToldR z (fun i => s 82 (1268 * (k + 1) + i)) ∧ ∀ i, i < 600 → fits .byte (.int (tB τ i)) = true
def IMS (J : hJk) (s : hS) : Prop := (∀ k, k < 3 → IMk J s k) ∧ (∀ k k' t t', k < 3 → k' < 3 → k ≠ k' → J.2.2.1 k = some t → J.2.2.1 k' = some t' → t + 30 ≤ t' ∨ t' + 30 ≤ t) ∧ J.2.2.2.2 = (103 + 30 * imn J, 25658 + 1293 * imn J)
/-- all that holds between two calls -/
def LI (J : hJk) (s : hS) (K : Nat) : Prop := ToldR s (s 82) ∧ BY s ∧ GuessOK s ∧ StampOK s K ∧ IMS J s
theorem isTold_hi {t : Nat} {τ : Told} (h : isTold J.2.2.2 t τ) (ht : 103 ≤ t) : isTold (hp J s g) t τ := h.kept (fun k h1 _ => hp_hi (by omega))
theorem LI_told {y : hS} {R R' : Nat → Int32} (h : ∀ c, 1 ≤ c → c < 31 → y c = s c) (hR : ∀ j, j < 1268 → R' j = R j) (hI : ToldR s R) : ToldR y R' := ToldR_tr (AGT_of h) hR hI
theorem Guess_of {y : hS} (h : y 73 = s 73) (hG : GuessOK s) : GuessOK y := by
  obtain ⟨w, h1, h2, h3⟩ := hG
  exact ⟨w, h1, by rw [h]; exact h2, by rw [h]; exact h3⟩
theorem Stamp_of {y : hS} {K K' : Nat} (h1 : y 81 34 = s 81 34) (h2 : y 99 = s 99) (hK : K ≤ K') (hS' : StampOK s K) : StampOK y K' := by
  obtain ⟨k, q1, q2, q3⟩ := hS'
  exact ⟨k, by omega, by rw [h1]; exact q2, by rw [h2]; exact q3⟩
theorem BY_of {y : hS} (h : y 6 = s 6) (hB : BY s) : BY y := fun i hi => by
  rw [h]
  exact hB i hi
theorem IMS_of {y : hS} (h1 : y 83 = s 83) (h2 : ∀ i, 1268 ≤ i → y 82 i = s 82 i) (hM : IMS J s) : IMS J y := by
  obtain ⟨m1, m2, m3⟩ := hM
  refine ⟨fun k hk => ?_, m2, m3⟩
  rcases m1 k hk with ⟨e1, e2⟩ | ⟨t, τ, z, e1, e2, e3, e4, e5, e6, e7⟩
  · exact Or.inl ⟨e1, by rw [h1]; exact e2⟩
  · exact Or.inr ⟨t, τ, z, e1, by rw [h1]; exact e2, e3, e4, e5, ToldR_tr (AGT_refl _) (fun j _ => h2 _ (by omega)) e6, e7⟩
/-- the reference's rows -/
theorem rf_image {k : Nat} (hk : k < 3) : ∃ y : hS, Runs xs sl (d+1) 284 0 [some (.ref (81)), some (.int ( nI k)), none] [] (hp J (s) g) (some (.int 1), hp J y g) ∧ (∀ c, c ≠ 82 → c ≠ 83 → y c = s c) ∧ y 83 = va_up (s 83) k 1 ∧ (∀ j, j < 1268 * (k + 1) ∨ 1268 * (k + 1) + 1268 ≤ j → y 82 j = s 82 j) ∧ ∀ j, j < 1268 → y 82 (1268 * (k + 1) + j) = s 82 j := by
  have e : f_isIn (nI k) 0 2 = f_has (nI k) (nI 3) := isIn2 (n := 2) (by decide)
  rw [f_has_nI (by omega) (by decide), decide_eq_true hk] at e
  have w83 : hBw (hp J s g) 83 (nI k) 1 = some (hp J (va_up s 83 (va_up (s 83) k 1)) g) := by
    have h := hb_set2 (J := J) (s := s) (g := g) (a := 83) (i := k) (v := 1) rfl (by decide) hk
    have e1 : vp_nar .boolean 1 = 1 := by decide
    rw [e1] at h
    exact h
  obtain ⟨y, ⟨i1, i2, i3⟩, q⟩ := up_loop (Q := fun i (a : hS) => (∀ c, c ≠ 82 → a c = va_up s 83 (va_up (s 83) k 1) c) ∧ (∀ j, j < 1268 * (k + 1) ∨ 1268 * (k + 1) + i ≤ j → a 82 j = s 82 j) ∧ ∀ j, j < i → a 82 (1268 * (k + 1) + j) = s 82 j) (P := fun i (a : hS) (z : Option Value × mH) => Runs xs sl (d+1) 284 20 [some (.ref (81)), some (.int ( nI k)), some (.int ( nI i))] [] (hp J (a) g) z) 1268 (by
    intro i a hi ⟨h1, h2, h3⟩
    refine ⟨va_up a 82 (va_up (a 82) (1268 * (k + 1) + i) (a 82 i)), ⟨fun c hc => ?_, fun j hj => ?_, fun j hj => ?_⟩, fun z hz => ?_⟩
    · rw [va_up_ne _ _ hc]
      exact h1 c hc
    · rw [va_up_self, va_up_ne _ _ (by omega)]
      exact h2 j (by omega)
    · rw [va_up_self]
      by_cases c : j = i
      · subst c
        rw [va_up_self]
        exact h2 _ (by omega)
      · rw [va_up_ne _ _ (by omega)]
        exact h3 j (by omega)
    · rw [r284_20]
      simp (disch := first | omega | assumption | exact Or.inl rfl | exact Or.inr rfl | exact bI_or _ | exact zC81 | exact zC47 | exact zC65 | exact zC0 | exact zC1 | exact zC32 | exact zC70 | exact zC73 | exact ztc (by assumption) | exact zdc (by assumption) | exact zpc (by assumption) | decide) only [Option.some.injEq, exists_eq_left', ex2, Option.toList, List.singleton_append, List.append_nil, List.cons_append, List.nil_append, nI_add, nI_addL, nI_Ladd, pk_mul, nI_mulL, nI_Lmul, nI_subL, pk_sub, nI_divL, sub_dm, nI_leE, nI_ltE, nI_eqE, nI_Lle, nI_leL, nI_Llt, nI_ltL, nI_eqL, va_up_self, va_up_ne, up_up, up_comm, nI_clamp, bI_eq0, not_true_eq_false, not_false_eq_true, Nat.reduceEqDiff, Nat.reduceLeDiff, Nat.reduceAdd, Nat.reduceMul, Nat.one_ne_zero, Nat.zero_ne_one, decide_eq_false_iff_not, decide_eq_true_eq, Bool.false_eq_true, decide_true, decide_false, bI_true, bI_false, one_ne, Nat.le_refl, Nat.lt_irrefl, cleT, cleF, cltT, cltF, ceqT, ceqF, ↓reduceIte, r284_21, r284_24, r284_27, r284_28, r284_31, r284_34, r284_35, r284_36, r284_37, r284_38, r284_39, r284_40, r284_41, r284_44, r284_45, r284_46, r284_47, r284_50, zO81_0, zA82, zS82]
      exact hz) (va_up s 83 (va_up (s 83) k 1)) ⟨fun c _ => rfl, fun j _ => by rw [va_up_ne _ _ (by decide)], fun j hj => absurd hj (Nat.not_lt_zero _)⟩
  refine ⟨y, ?_, fun c h1 h2 => ?_, ?_, i2, i3⟩
  · simp (disch := first | omega | assumption | exact Or.inl rfl | exact Or.inr rfl | exact bI_or _ | exact zC81 | exact zC47 | exact zC65 | exact zC0 | exact zC1 | exact zC32 | exact zC70 | exact zC73 | exact ztc (by assumption) | exact zdc (by assumption) | exact zpc (by assumption) | decide) only [Option.some.injEq, exists_eq_left', ex2, Option.toList, List.singleton_append, List.append_nil, List.cons_append, List.nil_append, nI_add, nI_addL, nI_Ladd, pk_mul, nI_mulL, nI_Lmul, nI_subL, pk_sub, nI_divL, sub_dm, nI_leE, nI_ltE, nI_eqE, nI_Lle, nI_leL, nI_Llt, nI_ltL, nI_eqL, va_up_self, va_up_ne, up_up, up_comm, nI_clamp, bI_eq0, not_true_eq_false, not_false_eq_true, Nat.reduceEqDiff, Nat.reduceLeDiff, Nat.reduceAdd, Nat.reduceMul, Nat.one_ne_zero, Nat.zero_ne_one, decide_eq_false_iff_not, decide_eq_true_eq, Bool.false_eq_true, decide_true, decide_false, bI_true, bI_false, one_ne, Nat.le_refl, Nat.lt_irrefl, cleT, cleF, cltT, cltF, ceqT, ceqF, ↓reduceIte, r284_0, r284_1, r284_2, r284_3, r284_6, r284_9, r284_10, r284_11, r284_12, r284_15, r284_16, r284_17, r284_18, r284_19, rf_isInE, e, zO81_1, w83]
    refine q _ ?_
    rw [r284_20]
    simp (disch := first | omega | assumption | exact Or.inl rfl | exact Or.inr rfl | exact bI_or _ | exact zC81 | exact zC47 | exact zC65 | exact zC0 | exact zC1 | exact zC32 | exact zC70 | exact zC73 | exact ztc (by assumption) | exact zdc (by assumption) | exact zpc (by assumption) | decide) only [Option.some.injEq, exists_eq_left', ex2, Option.toList, List.singleton_append, List.append_nil, List.cons_append, List.nil_append, nI_add, nI_addL, nI_Ladd, pk_mul, nI_mulL, nI_Lmul, nI_subL, pk_sub, nI_divL, sub_dm, nI_leE, nI_ltE, nI_eqE, nI_Lle, nI_leL, nI_Llt, nI_ltL, nI_eqL, va_up_self, va_up_ne, up_up, up_comm, nI_clamp, bI_eq0, not_true_eq_false, not_false_eq_true, Nat.reduceEqDiff, Nat.reduceLeDiff, Nat.reduceAdd, Nat.reduceMul, Nat.one_ne_zero, Nat.zero_ne_one, decide_eq_false_iff_not, decide_eq_true_eq, Bool.false_eq_true, decide_true, decide_false, bI_true, bI_false, one_ne, Nat.le_refl, Nat.lt_irrefl, cleT, cleF, cltT, cltF, ceqT, ceqF, ↓reduceIte, r284_21, r284_24, r284_53, r284_54]
  · rw [i1 c h1, va_up_ne _ _ h2]
  · rw [i1 83 (by decide), va_up_self]
theorem rf_again {k : Nat} (hk : k < 3) (h83 : s 83 k = 1) : ∃ y : hS, Runs xs sl (d+1) 285 0 [some (.ref (81)), some (.int ( nI k)), none] [] (hp J (s) g) (some (.int 1), hp J y g) ∧ (∀ c, c ≠ 82 → y c = s c) ∧ (∀ j, 1268 ≤ j → y 82 j = s 82 j) ∧ ∀ j, j < 1268 → y 82 j = s 82 (1268 * (k + 1) + j) := by
  have e : f_isIn (nI k) 0 2 = f_has (nI k) (nI 3) := isIn2 (n := 2) (by decide)
  rw [f_has_nI (by omega) (by decide), decide_eq_true hk] at e
  obtain ⟨y, ⟨i1, i2, i3⟩, q⟩ := up_loop (Q := fun i (a : hS) => (∀ c, c ≠ 82 → a c = s c) ∧ (∀ j, i ≤ j → a 82 j = s 82 j) ∧ ∀ j, j < i → a 82 j = s 82 (1268 * (k + 1) + j)) (P := fun i (a : hS) (z : Option Value × mH) => Runs xs sl (d+1) 285 22 [some (.ref (81)), some (.int ( nI k)), some (.int ( nI i))] [] (hp J (a) g) z) 1268 (by
    intro i a hi ⟨h1, h2, h3⟩
    refine ⟨va_up a 82 (va_up (a 82) i (a 82 (1268 * (k + 1) + i))), ⟨fun c hc => ?_, fun j hj => ?_, fun j hj => ?_⟩, fun z hz => ?_⟩
    · rw [va_up_ne _ _ hc]
      exact h1 c hc
    · rw [va_up_self, va_up_ne _ _ (by omega)]
      exact h2 j (by omega)
    · rw [va_up_self]
      by_cases c : j = i
      · subst c
        rw [va_up_self]
        exact h2 _ (by omega)
      · rw [va_up_ne _ _ c]
        exact h3 j (by omega)
    · rw [r285_22]
      simp (disch := first | omega | assumption | exact Or.inl rfl | exact Or.inr rfl | exact bI_or _ | exact zC81 | exact zC47 | exact zC65 | exact zC0 | exact zC1 | exact zC32 | exact zC70 | exact zC73 | exact ztc (by assumption) | exact zdc (by assumption) | exact zpc (by assumption) | decide) only [Option.some.injEq, exists_eq_left', ex2, Option.toList, List.singleton_append, List.append_nil, List.cons_append, List.nil_append, nI_add, nI_addL, nI_Ladd, pk_mul, nI_mulL, nI_Lmul, nI_subL, pk_sub, nI_divL, sub_dm, nI_leE, nI_ltE, nI_eqE, nI_Lle, nI_leL, nI_Llt, nI_ltL, nI_eqL, va_up_self, va_up_ne, up_up, up_comm, nI_clamp, bI_eq0, not_true_eq_false, not_false_eq_true, Nat.reduceEqDiff, Nat.reduceLeDiff, Nat.reduceAdd, Nat.reduceMul, Nat.one_ne_zero, Nat.zero_ne_one, decide_eq_false_iff_not, decide_eq_true_eq, Bool.false_eq_true, decide_true, decide_false, bI_true, bI_false, one_ne, Nat.le_refl, Nat.lt_irrefl, cleT, cleF, cltT, cltF, ceqT, ceqF, ↓reduceIte, r285_23, r285_26, r285_29, r285_30, r285_33, r285_34, r285_35, r285_38, r285_41, r285_42, r285_43, r285_44, r285_45, r285_46, r285_47, r285_48, r285_49, r285_52, zO81_0, zA82, zS82]
      exact hz) s ⟨fun c _ => rfl, fun j _ => rfl, fun j hj => absurd hj (Nat.not_lt_zero _)⟩
  refine ⟨y, ?_, i1, i2, i3⟩
  simp (disch := first | omega | assumption | exact Or.inl rfl | exact Or.inr rfl | exact bI_or _ | exact zC81 | exact zC47 | exact zC65 | exact zC0 | exact zC1 | exact zC32 | exact zC70 | exact zC73 | exact ztc (by assumption) | exact zdc (by assumption) | exact zpc (by assumption) | decide) only [Option.some.injEq, exists_eq_left', ex2, Option.toList, List.singleton_append, List.append_nil, List.cons_append, List.nil_append, nI_add, nI_addL, nI_Ladd, pk_mul, nI_mulL, nI_Lmul, nI_subL, pk_sub, nI_divL, sub_dm, nI_leE, nI_ltE, nI_eqE, nI_Lle, nI_leL, nI_Llt, nI_ltL, nI_eqL, va_up_self, va_up_ne, up_up, up_comm, nI_clamp, bI_eq0, not_true_eq_false, not_false_eq_true, Nat.reduceEqDiff, Nat.reduceLeDiff, Nat.reduceAdd, Nat.reduceMul, Nat.one_ne_zero, Nat.zero_ne_one, decide_eq_false_iff_not, decide_eq_true_eq, Bool.false_eq_true, decide_true, decide_false, bI_true, bI_false, one_ne, Nat.le_refl, Nat.lt_irrefl, cleT, cleF, cltT, cltF, ceqT, ceqF, ↓reduceIte, r285_0, r285_1, r285_2, r285_3, r285_6, r285_9, r285_10, r285_13, r285_14, r285_15, r285_18, r285_19, r285_20, r285_21, rf_isInE, e, zO81_1, zB83, h83]
  refine q _ ?_
  rw [r285_22]
  simp (disch := first | omega | assumption | exact Or.inl rfl | exact Or.inr rfl | exact bI_or _ | exact zC81 | exact zC47 | exact zC65 | exact zC0 | exact zC1 | exact zC32 | exact zC70 | exact zC73 | exact ztc (by assumption) | exact zdc (by assumption) | exact zpc (by assumption) | decide) only [Option.some.injEq, exists_eq_left', ex2, Option.toList, List.singleton_append, List.append_nil, List.cons_append, List.nil_append, nI_add, nI_addL, nI_Ladd, pk_mul, nI_mulL, nI_Lmul, nI_subL, pk_sub, nI_divL, sub_dm, nI_leE, nI_ltE, nI_eqE, nI_Lle, nI_leL, nI_Llt, nI_ltL, nI_eqL, va_up_self, va_up_ne, up_up, up_comm, nI_clamp, bI_eq0, not_true_eq_false, not_false_eq_true, Nat.reduceEqDiff, Nat.reduceLeDiff, Nat.reduceAdd, Nat.reduceMul, Nat.one_ne_zero, Nat.zero_ne_one, decide_eq_false_iff_not, decide_eq_true_eq, Bool.false_eq_true, decide_true, decide_false, bI_true, bI_false, one_ne, Nat.le_refl, Nat.lt_irrefl, cleT, cleF, cltT, cltF, ceqT, ceqF, ↓reduceIte, r285_23, r285_26, r285_55, r285_56]
end IMG
