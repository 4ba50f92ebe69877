/-! IMAGES: image and again, alike -/
section IMI
variable {xs : Nat → Int32} {sl d : Nat} {J : hJk} {s : hS} {g : hG}
def pI (a : Nat) : Bool := decide (a = 31 ∨ 103 ≤ a)
def pU (a : Nat) : Bool := decide (1 ≤ a ∧ a < 31)
theorem mixS_no {P : Nat → Bool} {H : mH} {a : Nat} (h : P a = false) : mixS P H s a = s a := by
  unfold mixS
  rw [h]
  rfl
theorem mixS_yes {P : Nat → Bool} {H : mH} {a : Nat} (h : P a = true) : mixS P H s a = tabS H a := by
  unfold mixS
  rw [h]
  rfl
theorem pm_image {K : Nat} (hL : LI J s K) (x : Int32) : StepI xs sl (hp J s g) 38 284 [some (.ref 0), some (.int x), none] [some (.ref 81), some (.int x), none] K := by
  rcases has_cases x (n := 3) (by decide) with h | ⟨k, hk, rfl⟩
  · have e : f_isIn x 0 2 = f_has x (nI 3) := isIn2 (n := 2) (by decide)
    refine ⟨.int 0, hp J s g, hp J s g, zC0, zC81, ?_, ?_, J, s, g, rfl, hL⟩
    · rcases has_none h with q | ⟨q1, q2⟩
      · simp (disch := first | omega | assumption | exact Or.inl rfl | exact Or.inr rfl | exact bI_or _ | exact zC81 | exact zC47 | exact zC65 | exact zC0 | exact zC1 | exact zC32 | exact zC70 | exact zC73 | exact ztc (by assumption) | exact zdc (by assumption) | exact zpc (by assumption) | decide) only [Option.some.injEq, exists_eq_left', ex2, Option.toList, List.singleton_append, List.append_nil, List.cons_append, List.nil_append, nI_add, nI_addL, nI_Ladd, pk_mul, nI_mulL, nI_Lmul, nI_subL, pk_sub, nI_divL, sub_dm, nI_leE, nI_ltE, nI_eqE, nI_Lle, nI_leL, nI_Llt, nI_ltL, nI_eqL, va_up_self, va_up_ne, up_up, up_comm, nI_clamp, bI_eq0, not_true_eq_false, not_false_eq_true, Nat.reduceEqDiff, Nat.reduceLeDiff, Nat.reduceAdd, Nat.reduceMul, Nat.one_ne_zero, Nat.zero_ne_one, decide_eq_false_iff_not, decide_eq_true_eq, Bool.false_eq_true, decide_true, decide_false, bI_true, bI_false, one_ne, Nat.le_refl, Nat.lt_irrefl, cleT, cleF, cltT, cltF, ceqT, ceqF, ↓reduceIte, r38_0, r38_1, r38_4, r38_5, r38_6, r38_9, r38_10, q]
      · simp (disch := first | omega | assumption | exact Or.inl rfl | exact Or.inr rfl | exact bI_or _ | exact zC81 | exact zC47 | exact zC65 | exact zC0 | exact zC1 | exact zC32 | exact zC70 | exact zC73 | exact ztc (by assumption) | exact zdc (by assumption) | exact zpc (by assumption) | decide) only [Option.some.injEq, exists_eq_left', ex2, Option.toList, List.singleton_append, List.append_nil, List.cons_append, List.nil_append, nI_add, nI_addL, nI_Ladd, pk_mul, nI_mulL, nI_Lmul, nI_subL, pk_sub, nI_divL, sub_dm, nI_leE, nI_ltE, nI_eqE, nI_Lle, nI_leL, nI_Llt, nI_ltL, nI_eqL, va_up_self, va_up_ne, up_up, up_comm, nI_clamp, bI_eq0, not_true_eq_false, not_false_eq_true, Nat.reduceEqDiff, Nat.reduceLeDiff, Nat.reduceAdd, Nat.reduceMul, Nat.one_ne_zero, Nat.zero_ne_one, decide_eq_false_iff_not, decide_eq_true_eq, Bool.false_eq_true, decide_true, decide_false, bI_true, bI_false, one_ne, Nat.le_refl, Nat.lt_irrefl, cleT, cleF, cltT, cltF, ceqT, ceqF, ↓reduceIte, r38_0, r38_1, r38_4, r38_5, r38_6, r38_9, r38_10, q1, show ¬ x < (3 : Int32) from fun q3 => absurd q2 (Int32.not_le.mpr q3)]
    · simp (disch := first | omega | assumption | exact Or.inl rfl | exact Or.inr rfl | exact bI_or _ | exact zC81 | exact zC47 | exact zC65 | exact zC0 | exact zC1 | exact zC32 | exact zC70 | exact zC73 | exact ztc (by assumption) | exact zdc (by assumption) | exact zpc (by assumption) | decide) only [Option.some.injEq, exists_eq_left', ex2, Option.toList, List.singleton_append, List.append_nil, List.cons_append, List.nil_append, nI_add, nI_addL, nI_Ladd, pk_mul, nI_mulL, nI_Lmul, nI_subL, pk_sub, nI_divL, sub_dm, nI_leE, nI_ltE, nI_eqE, nI_Lle, nI_leL, nI_Llt, nI_ltL, nI_eqL, va_up_self, va_up_ne, up_up, up_comm, nI_clamp, bI_eq0, not_true_eq_false, not_false_eq_true, Nat.reduceEqDiff, Nat.reduceLeDiff, Nat.reduceAdd, Nat.reduceMul, Nat.one_ne_zero, Nat.zero_ne_one, decide_eq_false_iff_not, decide_eq_true_eq, Bool.false_eq_true, decide_true, decide_false, bI_true, bI_false, one_ne, Nat.le_refl, Nat.lt_irrefl, cleT, cleF, cltT, cltF, ceqT, ceqF, ↓reduceIte, r284_0, r284_1, r284_2, r284_3, r284_6, r284_9, r284_10, rf_isInE, e, h]
  · obtain ⟨hI, hB, hG, hK, hM⟩ := hL
    obtain ⟨H2, t, τ2, r1, k1, a31, i2, A2, ⟨t1, t2⟩, k2, hz⟩ := cl_image (xs := xs) (sl := sl) (d := 996) (g := g) hk hM hB
    have hP : hp (mixJ pI H2 J) (mixS pI H2 s) (mixG pI H2 g) = H2 := by
      refine hp_mix pI (fun a ha => ?_) (fun a ha => ?_)
      · have h := of_decide_eq_true ha
        rcases h with rfl | h
        · rw [a31]
          exact ⟨_, rfl⟩
        · rw [lay_out h]
          trivial
      · have h := of_decide_eq_false ha
        exact k1 a (by omega) (by omega)
    obtain ⟨y, ry, y1, y2, y3, y4⟩ := rf_image (xs := xs) (sl := sl) (d := 998) (J := mixJ pI H2 J) (s := mixS pI H2 s) (g := mixG pI H2 g) hk
    have e0 : ∀ c, c < 103 → c ≠ 31 → mixS pI H2 s c = s c := fun c h1 h2 => mixS_no (decide_eq_false (by omega))
    have y0 : ∀ c, c < 103 → c ≠ 31 → c ≠ 82 → c ≠ 83 → y c = s c := fun c h1 h2 h3 h4 => (y1 c h3 h4).trans (e0 c h1 h2)
    rw [e0 82 (by decide) (by decide)] at y3 y4
    rw [e0 83 (by decide) (by decide)] at y2
    have im : (mixJ pI H2 J).2.2.1 = va_up J.2.2.1 k (some t) := by
      show tcQ (H2.1 31) = _
      rw [a31]
      rfl
    have hH : (mixJ pI H2 J).2.2.2 = H2 := rfl
    obtain ⟨m1, m2, m3⟩ := hM
    have m3a : J.2.2.2.2.1 = 103 + 30 * imn J := congrArg (fun q => q.1) m3
    have m3b : J.2.2.2.2.2 = 25658 + 1293 * imn J := congrArg (fun q => q.2) m3
    have dis : ∀ k' t', k' < 3 → k' ≠ k → J.2.2.1 k' = some t' → t' + 30 ≤ J.2.2.2.2.1 → t + 30 ≤ t' ∨ t' + 30 ≤ t := by
      intro k' t' h1 h2 h3 h4
      rcases hz with ⟨z1, z2⟩ | ⟨z1, z2, z3⟩
      · exact m2 k k' t t' hk h1 (Ne.symm h2) z1 h3
      · exact Or.inr (by omega)
    have up : J.2.2.2.2.1 ≤ H2.2.1 := by
      rcases hz with ⟨z1, z2⟩ | ⟨z1, z2, z3⟩
      · rw [z2]
        exact Nat.le_refl _
      · rw [z3]
        show _ ≤ t + 30
        omega
    refine ⟨.int 1, H2, hp (mixJ pI H2 J) y (mixG pI H2 g), zC0, ?_, r1, ?_, mixJ pI H2 J, y, mixG pI H2 g, rfl, ?_, ?_, ?_, ?_, ?_⟩
    · rw [← hP]
      exact zC81
    · rw [hP] at ry
      exact ry
    · exact LI_told (s := s) (fun c h1 h2 => y0 c (by omega) (by omega) (by omega) (by omega)) (fun j hj => y3 j (by omega)) hI
    · exact BY_of (y0 6 (by decide) (by decide) (by decide) (by decide)) hB
    · exact Guess_of (y0 73 (by decide) (by decide) (by decide) (by decide)) hG
    · exact Stamp_of (congrFun (y0 81 (by decide) (by decide) (by decide) (by decide)) 34) (y0 99 (by decide) (by decide) (by decide) (by decide)) (Nat.le_refl K) hK
    · refine ⟨fun k' hk' => ?_, fun p q u u' hp' hq' hpq h1 h2 => ?_, ?_⟩
      · by_cases c : k' = k
        · subst c
          refine Or.inr ⟨t, τ2, s, by rw [im, va_up_self], by rw [y2, va_up_self], ⟨t1, t2⟩, i2, A2, ToldR_tr (AGT_refl _) (fun j hj => y4 j hj) hI, fun i hi => ?_⟩
          rw [A2.2.2.1 i hi]
          exact hB i hi
        · rcases m1 k' hk' with ⟨e1, e2⟩ | ⟨t', τ', z, e1, e2, ⟨e3, e3'⟩, e4, e5, e6, e7⟩
          · exact Or.inl ⟨by rw [im, va_up_ne _ _ c]; exact e1, by rw [y2, va_up_ne _ _ c]; exact e2⟩
          · have dd := dis k' t' hk' c e1 e3'
            refine Or.inr ⟨t', τ', z, by rw [im, va_up_ne _ _ c]; exact e1, by rw [y2, va_up_ne _ _ c]; exact e2, ⟨e3, Nat.le_trans e3' up⟩, e4.kept (fun j h1 h2 => k2 j (by omega) (by omega) (by omega)), e5, ToldR_tr (AGT_refl _) (fun j hj => y3 _ (by omega)) e6, e7⟩
      · rw [im] at h1 h2
        by_cases cp : p = k
        · subst cp
          rw [va_up_self] at h1
          rw [va_up_ne _ _ (Ne.symm hpq)] at h2
          have h1' : t = u := Option.some.inj h1
          rcases m1 q hq' with ⟨e1, e2⟩ | ⟨t', τ', z, e1, e2, ⟨e3, e3'⟩, -⟩
          · rw [e1] at h2
            cases h2
          · have e1' : t' = u' := Option.some.inj (e1.symm.trans h2)
            have dd := dis q t' hq' (Ne.symm hpq) e1 e3'
            omega
        · rw [va_up_ne _ _ cp] at h1
          by_cases cq : q = k
          · subst cq
            rw [va_up_self] at h2
            have h2' : t = u' := Option.some.inj h2
            rcases m1 p hp' with ⟨e1, e2⟩ | ⟨t', τ', z, e1, e2, ⟨e3, e3'⟩, -⟩
            · rw [e1] at h1
              cases h1
            · have e1' : t' = u := Option.some.inj (e1.symm.trans h1)
              have dd := dis p t' hp' cp e1 e3'
              omega
          · rw [va_up_ne _ _ cq] at h2
            exact m2 p q u u' hp' hq' hpq h1 h2
      · have hn : imn (mixJ pI H2 J) = ioN (va_up J.2.2.1 k (some t) 0) + ioN (va_up J.2.2.1 k (some t) 1) + ioN (va_up J.2.2.1 k (some t) 2) := by
          unfold imn
          rw [im]
        show H2.2 = _
        rw [hn]
        rcases hz with ⟨z1, z2⟩ | ⟨z1, z2, z3⟩
        · rw [up_same z1, z2]
          exact m3
        · rw [ioN_up hk z1, z3]
          refine Prod.ext ?_ ?_
          · show t + 30 = 103 + 30 * (imn J + 1)
            omega
          · show J.2.2.2.2.2 + 1293 = 25658 + 1293 * (imn J + 1)
            omega
theorem pm_again {K : Nat} (hL : LI J s K) (x : Int32) : StepI xs sl (hp J s g) 39 285 [some (.ref 0), some (.int x), none] [some (.ref 81), some (.int x), none] K := by
  have e : f_isIn x 0 2 = f_has x (nI 3) := isIn2 (n := 2) (by decide)
  rcases has_cases x (n := 3) (by decide) with h | ⟨k, hk, rfl⟩
  · refine ⟨.int 0, hp J s g, hp J s g, zC0, zC81, ?_, ?_, J, s, g, rfl, hL⟩
    · rcases has_none h with q | ⟨q1, q2⟩
      · simp (disch := first | omega | assumption | exact Or.inl rfl | exact Or.inr rfl | exact bI_or _ | exact zC81 | exact zC47 | exact zC65 | exact zC0 | exact zC1 | exact zC32 | exact zC70 | exact zC73 | exact ztc (by assumption) | exact zdc (by assumption) | exact zpc (by assumption) | decide) only [Option.some.injEq, exists_eq_left', ex2, Option.toList, List.singleton_append, List.append_nil, List.cons_append, List.nil_append, nI_add, nI_addL, nI_Ladd, pk_mul, nI_mulL, nI_Lmul, nI_subL, pk_sub, nI_divL, sub_dm, nI_leE, nI_ltE, nI_eqE, nI_Lle, nI_leL, nI_Llt, nI_ltL, nI_eqL, va_up_self, va_up_ne, up_up, up_comm, nI_clamp, bI_eq0, not_true_eq_false, not_false_eq_true, Nat.reduceEqDiff, Nat.reduceLeDiff, Nat.reduceAdd, Nat.reduceMul, Nat.one_ne_zero, Nat.zero_ne_one, decide_eq_false_iff_not, decide_eq_true_eq, Bool.false_eq_true, decide_true, decide_false, bI_true, bI_false, one_ne, Nat.le_refl, Nat.lt_irrefl, cleT, cleF, cltT, cltF, ceqT, ceqF, ↓reduceIte, r39_0, r39_1, r39_4, r39_5, r39_6, r39_9, r39_10, q]
      · simp (disch := first | omega | assumption | exact Or.inl rfl | exact Or.inr rfl | exact bI_or _ | exact zC81 | exact zC47 | exact zC65 | exact zC0 | exact zC1 | exact zC32 | exact zC70 | exact zC73 | exact ztc (by assumption) | exact zdc (by assumption) | exact zpc (by assumption) | decide) only [Option.some.injEq, exists_eq_left', ex2, Option.toList, List.singleton_append, List.append_nil, List.cons_append, List.nil_append, nI_add, nI_addL, nI_Ladd, pk_mul, nI_mulL, nI_Lmul, nI_subL, pk_sub, nI_divL, sub_dm, nI_leE, nI_ltE, nI_eqE, nI_Lle, nI_leL, nI_Llt, nI_ltL, nI_eqL, va_up_self, va_up_ne, up_up, up_comm, nI_clamp, bI_eq0, not_true_eq_false, not_false_eq_true, Nat.reduceEqDiff, Nat.reduceLeDiff, Nat.reduceAdd, Nat.reduceMul, Nat.one_ne_zero, Nat.zero_ne_one, decide_eq_false_iff_not, decide_eq_true_eq, Bool.false_eq_true, decide_true, decide_false, bI_true, bI_false, one_ne, Nat.le_refl, Nat.lt_irrefl, cleT, cleF, cltT, cltF, ceqT, ceqF, ↓reduceIte, r39_0, r39_1, r39_4, r39_5, r39_6, r39_9, r39_10, q1, show ¬ x < (3 : Int32) from fun q3 => absurd q2 (Int32.not_le.mpr q3)]
    · simp (disch := first | omega | assumption | exact Or.inl rfl | exact Or.inr rfl | exact bI_or _ | exact zC81 | exact zC47 | exact zC65 | exact zC0 | exact zC1 | exact zC32 | exact zC70 | exact zC73 | exact ztc (by assumption) | exact zdc (by assumption) | exact zpc (by assumption) | decide) only [Option.some.injEq, exists_eq_left', ex2, Option.toList, List.singleton_append, List.append_nil, List.cons_append, List.nil_append, nI_add, nI_addL, nI_Ladd, pk_mul, nI_mulL, nI_Lmul, nI_subL, pk_sub, nI_divL, sub_dm, nI_leE, nI_ltE, nI_eqE, nI_Lle, nI_leL, nI_Llt, nI_ltL, nI_eqL, va_up_self, va_up_ne, up_up, up_comm, nI_clamp, bI_eq0, not_true_eq_false, not_false_eq_true, Nat.reduceEqDiff, Nat.reduceLeDiff, Nat.reduceAdd, Nat.reduceMul, Nat.one_ne_zero, Nat.zero_ne_one, decide_eq_false_iff_not, decide_eq_true_eq, Bool.false_eq_true, decide_true, decide_false, bI_true, bI_false, one_ne, Nat.le_refl, Nat.lt_irrefl, cleT, cleF, cltT, cltF, ceqT, ceqF, ↓reduceIte, r285_0, r285_1, r285_2, r285_3, r285_6, r285_9, r285_10, r285_13, r285_14, r285_15, r285_18, r285_19, rf_isInE, e, h]
  · rw [f_has_nI (by omega) (by decide), decide_eq_true hk] at e
    have hL' := hL
    obtain ⟨hI, hB, hG, hK, hM⟩ := hL
    obtain ⟨m1, m2, m3⟩ := id hM
    rcases m1 k hk with ⟨e1, e2⟩ | ⟨t, τ, z, e1, e2, ⟨e3, e3'⟩, e4, e5, e6, e7⟩
    · refine ⟨.int 0, hp J s g, hp J s g, zC0, zC81, ?_, ?_, J, s, g, rfl, hL'⟩
      · have q31 := zQ31 (J := J) (s := s) (g := g) hk
        rw [e1] at q31
        have q31' : hQ (hp J s g) 31 (nI k) = some .null := q31
        simp (disch := first | omega | assumption | exact Or.inl rfl | exact Or.inr rfl | exact bI_or _ | exact zC81 | exact zC47 | exact zC65 | exact zC0 | exact zC1 | exact zC32 | exact zC70 | exact zC73 | exact ztc (by assumption) | exact zdc (by assumption) | exact zpc (by assumption) | decide) only [Option.some.injEq, exists_eq_left', ex2, Option.toList, List.singleton_append, List.append_nil, List.cons_append, List.nil_append, nI_add, nI_addL, nI_Ladd, pk_mul, nI_mulL, nI_Lmul, nI_subL, pk_sub, nI_divL, sub_dm, nI_leE, nI_ltE, nI_eqE, nI_Lle, nI_leL, nI_Llt, nI_ltL, nI_eqL, va_up_self, va_up_ne, up_up, up_comm, nI_clamp, bI_eq0, not_true_eq_false, not_false_eq_true, Nat.reduceEqDiff, Nat.reduceLeDiff, Nat.reduceAdd, Nat.reduceMul, Nat.one_ne_zero, Nat.zero_ne_one, decide_eq_false_iff_not, decide_eq_true_eq, Bool.false_eq_true, decide_true, decide_false, bI_true, bI_false, one_ne, Nat.le_refl, Nat.lt_irrefl, cleT, cleF, cltT, cltF, ceqT, ceqF, ↓reduceIte, r39_0, r39_1, r39_4, r39_5, r39_6, r39_9, r39_10, r39_11, r39_12, r39_15, r39_16, r39_17, r39_17n, r39_18, r39_18n, r39_19, r39_19n, r39_22, r39_23, zO0_1, q31']
      · simp (disch := first | omega | assumption | exact Or.inl rfl | exact Or.inr rfl | exact bI_or _ | exact zC81 | exact zC47 | exact zC65 | exact zC0 | exact zC1 | exact zC32 | exact zC70 | exact zC73 | exact ztc (by assumption) | exact zdc (by assumption) | exact zpc (by assumption) | decide) only [Option.some.injEq, exists_eq_left', ex2, Option.toList, List.singleton_append, List.append_nil, List.cons_append, List.nil_append, nI_add, nI_addL, nI_Ladd, pk_mul, nI_mulL, nI_Lmul, nI_subL, pk_sub, nI_divL, sub_dm, nI_leE, nI_ltE, nI_eqE, nI_Lle, nI_leL, nI_Llt, nI_ltL, nI_eqL, va_up_self, va_up_ne, up_up, up_comm, nI_clamp, bI_eq0, not_true_eq_false, not_false_eq_true, Nat.reduceEqDiff, Nat.reduceLeDiff, Nat.reduceAdd, Nat.reduceMul, Nat.one_ne_zero, Nat.zero_ne_one, decide_eq_false_iff_not, decide_eq_true_eq, Bool.false_eq_true, decide_true, decide_false, bI_true, bI_false, one_ne, Nat.le_refl, Nat.lt_irrefl, cleT, cleF, cltT, cltF, ceqT, ceqF, ↓reduceIte, r285_0, r285_1, r285_2, r285_3, r285_6, r285_9, r285_10, r285_13, r285_14, r285_15, r285_18, r285_19, rf_isInE, e, zO81_1, zB83, e2]
    · obtain ⟨H2, τ2, r1, i2, A2, k2, z2⟩ := cl_again (xs := xs) (sl := sl) (d := 996) (s := s) (g := g) hk e1 e3 e4 e7
      have hP : hp (mixJ pU H2 J) (mixS pU H2 s) (mixG pU H2 g) = H2 := by
        refine hp_mix pU (fun a ha => ?_) (fun a ha => ?_)
        · have h := of_decide_eq_true ha
          exact fit_told i2 a h.1 h.2
        · have h := of_decide_eq_false ha
          exact k2 a h
      have e0 : ∀ c, ¬ (1 ≤ c ∧ c < 31) → mixS pU H2 s c = s c := fun c h => mixS_no (decide_eq_false h)
      have eI : ∀ c, 1 ≤ c → c < 31 → mixS pU H2 s c = tabS H2 c := fun c h1 h2 => mixS_yes (decide_eq_true ⟨h1, h2⟩)
      obtain ⟨y, ry, y1, y3, y4⟩ := rf_again (xs := xs) (sl := sl) (d := 998) (J := mixJ pU H2 J) (s := mixS pU H2 s) (g := mixG pU H2 g) hk (by rw [e0 83 (by decide)]; exact e2)
      rw [e0 82 (by decide)] at y3 y4
      have y0 : ∀ c, ¬ (1 ≤ c ∧ c < 31) → c ≠ 82 → y c = s c := fun c h1 h2 => (y1 c h2).trans (e0 c h1)
      have im : (mixJ pU H2 J).2.2.1 = J.2.2.1 := rfl
      have hH : (mixJ pU H2 J).2.2.2 = H2 := rfl
      have AA : AGT (tz y) τ := AGT_trans (AGT_of (s := tabS H2) (fun c h1 h2 => (y1 c (by omega)).trans (eI c h1 h2))) (AGT_trans (tab_told i2) A2)
      refine ⟨.int 1, H2, hp (mixJ pU H2 J) y (mixG pU H2 g), zC0, ?_, r1, ?_, mixJ pU H2 J, y, mixG pU H2 g, rfl, ?_, ?_, ?_, ?_, ?_⟩
      · rw [← hP]
        exact zC81
      · rw [hP] at ry
        exact ry
      · exact ToldR_tr (AGT_trans AA e5) (fun j hj => y4 j hj) e6
      · intro i hi
        have h : y 6 i = tB τ i := AA.2.2.1 i hi
        rw [h]
        exact e7 i hi
      · exact Guess_of (y0 73 (by decide) (by decide)) hG
      · exact Stamp_of (congrFun (y0 81 (by decide) (by decide)) 34) (y0 99 (by decide) (by decide)) (Nat.le_refl K) hK
      · have hM2 : IMS (mixJ pU H2 J) s := by
          refine ⟨fun k' hk' => ?_, m2, ?_⟩
          · rcases m1 k' hk' with ⟨f1, f2⟩ | ⟨t', τ', z', f1, f2, ⟨f3, f3'⟩, f4, f5, f6, f7⟩
            · exact Or.inl ⟨f1, f2⟩
            · exact Or.inr ⟨t', τ', z', f1, f2, ⟨f3, by rw [hH, z2]; exact f3'⟩, f4.kept (fun j h1 h2 => (k2 j (by omega)).trans (hp_hi (by omega))), f5, f6, f7⟩
          · show H2.2 = _
            rw [z2]
            exact m3
        exact IMS_of (y0 83 (by decide) (by decide)) (fun i hi => y3 i hi) hM2
end IMI
