/-! STOP AND STATE, alike -/
section STP
variable {xs : Nat → Int32} {sl d : Nat} {J : hJk} {s x y : hS} {g : hG}
def dkF (R : Nat → Int32) (i : Nat) : Nat := (R (4 * i)).toNatClampNeg
def dxF (R : Nat → Int32) (i : Nat) : Nat := (R (4 * i + 1)).toNatClampNeg
def dyF (R : Nat → Int32) (i : Nat) : Nat := (R (4 * i + 2)).toNatClampNeg
theorem dv_norm {k u w : Nat} {A B : Int32} (h : dv k A B u w) : dv k A B A.toNatClampNeg B.toNatClampNeg := by
  obtain ⟨h0, h1, h2, h3, h4, h5, h6⟩ := h
  by_cases c : k = 5
  · subst c
    exact ⟨h0, Or.inl rfl, fun q => absurd q (by decide), fun q => absurd q (by decide), fun q => absurd q (by decide), fun q => absurd q (by decide), fun q => absurd q (by decide)⟩
  · obtain ⟨rfl, rfl⟩ := h1.resolve_left c
    have b : u < 2 ^ 31 ∧ w < 2 ^ 31 := by
      have hk2 : k = 0 ∨ k = 1 ∨ k = 2 ∨ k = 3 ∨ k = 4 := by omega
      rcases hk2 with q | q | q | q | q
      · have := h2 q; omega
      · have := h3 q; omega
      · have := h4 q; omega
      · have := h5 q; omega
      · have := h6 q; omega
    rw [nI_clamp b.1, nI_clamp b.2]
    exact ⟨h0, Or.inr ⟨rfl, rfl⟩, h2, h3, h4, h5, h6⟩
theorem deeds_C {C : hS} {R : Nat → Int32} {e d0 D : Nat} (h : DaysQ C R e d0 D) : deeds (C (e + 1)) D (dkF (C (e + 1))) (dxF (C (e + 1))) (dyF (C (e + 1))) (fun i => C (e + 1) (4 * i + 1)) (fun i => C (e + 1) (4 * i + 2)) (fun i => C (e + 1) (4 * i + 3)) := by
  intro i hi
  obtain ⟨k, u, w, h1, h2, -⟩ := h.2.2 i hi
  have e1 : dkF (C (e + 1)) i = k := nI_cl h1 (by have := h2.1; omega)
  rw [e1]
  exact ⟨h1, rfl, rfl, rfl, dv_norm h2⟩
theorem deeds_R {C : hS} {R : Nat → Int32} {e d0 D : Nat} (h : DaysQ C R e d0 D) : deeds (fun i => R (d0 + 1 + i)) D (dkF (C (e + 1))) (dxF (C (e + 1))) (dyF (C (e + 1))) (fun i => C (e + 1) (4 * i + 1)) (fun i => C (e + 1) (4 * i + 2)) (fun i => C (e + 1) (4 * i + 3)) := by
  intro i hi
  obtain ⟨h1, h2, h3, h4, h5⟩ := deeds_C h i hi
  refine ⟨?_, ?_, ?_, ?_, h5⟩
  · exact (h.2.1 _ (by omega)).trans h1
  · exact h.2.1 _ (by omega)
  · exact h.2.1 _ (by omega)
  · exact h.2.1 _ (by omega)
/-- the class's scene behind n deeds, the reference's -/
def CL (s : hS) (a n h sa c e N : Nat) : Nat × hS := liveF (stC a n h (dkF (s (e + 1))) (dxF (s (e + 1))) (dyF (s (e + 1))) (fun i => s (e + 1) (4 * i + 3))) N 0 (CB s a n sa c)
def RL (C y : hS) (a t0 n h sa c e N : Nat) : Nat × hS := liveF (stR t0 n h (dkF (C (e + 1))) (dxF (C (e + 1))) (dyF (C (e + 1))) (fun i => C (e + 1) (4 * i + 3))) N 0 (RB C y a t0 sa c)
theorem CL_run {R : Nat → Int32} {a t0 n li h sa c e d0 N D : Nat} (ha : isT a) (h31 : a < 31) (hQ : TownQ s R a t0 n li h sa c) (he : isD e) (he31 : e < 31) (hD : DaysQ s R e d0 D) (hN : N ≤ D) {r : Option Value × mH} : Runs xs sl (d+5) 120 0 [some (.ref (47)), some (.ref (e)), some (.int ( nI N)), none, none] [] (hp J (CB s a n sa c) g) r ↔ r = (some (.int ( nI (CL s a n h sa c e N).1)), hp J ((CL s a n h sa c e N).2) g) := by
  refine Runs.iff ?_
  have hC := (CB_CI ha h31 hQ).1
  have he' : e = 15 ∨ e = 27 ∨ e = 41 := he
  have q := @sc_live_loop xs sl d J g s e a n h N D _ _ _ _ _ _ he he31 hN hD.1.2.2 (deeds_C hD) N 0 (CB s a n sa c) (by omega) hC none
  simp (disch := first | omega | assumption | exact Or.inl rfl | exact Or.inr rfl | exact bI_or _ | exact zC81 | exact zC47 | exact zC65 | exact zC0 | exact zC1 | exact zC32 | exact zC70 | exact zC73 | exact ztc (by assumption) | exact zdc (by assumption) | exact zpc (by assumption) | decide) only [Option.some.injEq, exists_eq_left', ex2, Option.toList, List.singleton_append, List.append_nil, List.cons_append, List.nil_append, nI_add, nI_addL, nI_Ladd, pk_mul, nI_mulL, nI_Lmul, nI_subL, pk_sub, nI_divL, sub_dm, nI_leE, nI_ltE, nI_eqE, nI_Lle, nI_leL, nI_Llt, nI_ltL, nI_eqL, va_up_self, va_up_ne, up_up, up_comm, nI_clamp, bI_eq0, not_true_eq_false, not_false_eq_true, Nat.reduceEqDiff, Nat.reduceLeDiff, Nat.reduceAdd, Nat.reduceMul, Nat.one_ne_zero, Nat.zero_ne_one, decide_eq_false_iff_not, decide_eq_true_eq, Bool.false_eq_true, decide_true, decide_false, bI_true, bI_false, one_ne, Nat.le_refl, Nat.lt_irrefl, cleT, cleF, cltT, cltF, ceqT, ceqF, ↓reduceIte, r120_0, r120_1]
  exact q
theorem RL_run {C : hS} {a t0 n li h sa c e d0 N D : Nat} (hR : rT s t0 n h) (hQ : TownQ C (s 82) a t0 n li h sa c) (h26 : s 81 26 = nI d0) (hd0 : d0 = 868 ∨ d0 = 1029) (hD : DaysQ C (s 82) e d0 D) (hN : N < 2 ^ 31) {r : Option Value × mH} : Runs xs sl (d+4) 213 0 [some (.ref (81)), some (.int ( nI N))] [] (hp J (s) g) r ↔ r = (none, hp J ((RL C s a t0 n h sa c e (min N D)).2) g) := by
  refine Runs.iff ?_
  obtain ⟨q1, q2, q3⟩ := RB_RI hR hQ
  have q := @rf_runs_loop xs sl d J g s t0 n h N D d0 _ _ _ _ _ _ h26 hd0 hD.1.2.1 hN hD.1.2.2 (deeds_R hD) (min N D) 0 (RB C s a t0 sa c) (by omega) q1 q3
  simp (disch := first | omega | assumption | exact Or.inl rfl | exact Or.inr rfl | exact bI_or _ | exact zC81 | exact zC47 | exact zC65 | exact zC0 | exact zC1 | exact zC32 | exact zC70 | exact zC73 | exact ztc (by assumption) | exact zdc (by assumption) | exact zpc (by assumption) | decide) only [Option.some.injEq, exists_eq_left', ex2, Option.toList, List.singleton_append, List.append_nil, List.cons_append, List.nil_append, nI_add, nI_addL, nI_Ladd, pk_mul, nI_mulL, nI_Lmul, nI_subL, pk_sub, nI_divL, sub_dm, nI_leE, nI_ltE, nI_eqE, nI_Lle, nI_leL, nI_Llt, nI_ltL, nI_eqL, va_up_self, va_up_ne, up_up, up_comm, nI_clamp, bI_eq0, not_true_eq_false, not_false_eq_true, Nat.reduceEqDiff, Nat.reduceLeDiff, Nat.reduceAdd, Nat.reduceMul, Nat.one_ne_zero, Nat.zero_ne_one, decide_eq_false_iff_not, decide_eq_true_eq, Bool.false_eq_true, decide_true, decide_false, bI_true, bI_false, one_ne, Nat.le_refl, Nat.lt_irrefl, cleT, cleF, cltT, cltF, ceqT, ceqF, ↓reduceIte, r213_0, r213_1, RB_run hR hQ]
  exact q
theorem CL_CI {R : Nat → Int32} {a t0 n li h sa c e N : Nat} (ha : isT a) (h31 : a < 31) (hQ : TownQ s R a t0 n li h sa c) : CI s (CL s a n h sa c e N).2 a n h := liveF_CI _ _ _ (CB_CI ha h31 hQ).1
theorem CI_CK {a n h : Nat} (hC : CI s x a n h) : CK s x := fun c hc => hC.2.2.2 c (by omega)
theorem RI_RK {t0 n h : Nat} (hR : RI x y t0 n h) : RK x y := ⟨fun c hc => hR.2.2.2.1 c (by omega), hR.2.2.2.2 34 (by omega)⟩
theorem L_eq {a t0 n li h sa c e d0 N D : Nat} (ha : isT a) (h31 : a < 31) (hQ : TownQ s (s 82) a t0 n li h sa c) (hD : DaysQ s (s 82) e d0 D) (hN : N ≤ D) (hy : y 82 = s 82) (hR : rT y t0 n h) : (CL s a n h sa c e N).1 = (RL s y a t0 n h sa c e N).1 ∧ lvC (CL s a n h sa c e N).2 = lvR (RL s y a t0 n h sa c e N).2 ∧ SR n (lvC (CL s a n h sa c e N).2) (CL s a n h sa c e N).2 (RL s y a t0 n h sa c e N).2 ∧ RI y (RL s y a t0 n h sa c e N).2 t0 n h ∧ (RL s y a t0 n h sa c e N).2 81 25 = nI (RL s y a t0 n h sa c e N).1 := by
  have ha' : a = 7 ∨ a = 19 ∨ a = 33 ∨ a = 48 := ha
  have hQ' : TownQ s (y 82) a t0 n li h sa c := by rw [hy]; exact hQ
  obtain ⟨q1, q2, q3⟩ := RB_RI hR hQ'
  obtain ⟨p1, p2⟩ := CB_CI ha h31 hQ
  refine live_eq (x0 := s) (y0 := y) (D := D) (dA := fun i => s (e + 1) (4 * i + 1)) (dB := fun i => s (e + 1) (4 * i + 2)) ?_ ?_ N 0 _ _ (by omega) p1 q1 (by rw [p2, q2]) ?_ q3
  · intro x' y' h1 h2
    exact TR_of h31 hQ (by omega) (fun j hj => h1 j hj) (h2.trans hy)
  · intro i hi
    exact (deeds_C hD i hi).2.2.2.2
  · rw [p2]
    exact begin_SR hQ hy
theorem pm_stop (hI : ToldR s (s 82)) (u w : Int32) : Same xs sl J s g 13 212 [some (.ref 0), some (.int u), some (.int w), none, none] [some (.ref 81), some (.int u), some (.int w)] := by
  obtain ⟨c0, c1, c2, len, ⟨q0, q0', q0''⟩, ⟨r0, r0', r0''⟩, -, -, -, -, hT, hDs, -⟩ := hI
  rcases has_cases u (n := c0) (by omega) with h | ⟨k, hk, rfl⟩
  · refine ⟨.int (-1), s, s, g, ?_, CK_refl s, ?_, RK_refl s⟩
    · rcases has_cases w (n := c1) (by omega) with h2 | ⟨j, hj, rfl⟩
      · simp (disch := first | omega | assumption | exact Or.inl rfl | exact Or.inr rfl | exact bI_or _ | exact zC81 | exact zC47 | exact zC65 | exact zC0 | exact zC1 | exact zC32 | exact zC70 | exact zC73 | exact ztc (by assumption) | exact zdc (by assumption) | exact zpc (by assumption) | decide) only [Option.some.injEq, exists_eq_left', ex2, Option.toList, List.singleton_append, List.append_nil, List.cons_append, List.nil_append, nI_add, nI_addL, nI_Ladd, pk_mul, nI_mulL, nI_Lmul, nI_subL, pk_sub, nI_divL, sub_dm, nI_leE, nI_ltE, nI_eqE, nI_Lle, nI_leL, nI_Llt, nI_ltL, nI_eqL, va_up_self, va_up_ne, up_up, up_comm, nI_clamp, bI_eq0, not_true_eq_false, not_false_eq_true, Nat.reduceEqDiff, Nat.reduceLeDiff, Nat.reduceAdd, Nat.reduceMul, Nat.one_ne_zero, Nat.zero_ne_one, decide_eq_false_iff_not, decide_eq_true_eq, Bool.false_eq_true, decide_true, decide_false, bI_true, bI_false, one_ne, Nat.le_refl, Nat.lt_irrefl, cleT, cleF, cltT, cltF, ceqT, ceqF, ↓reduceIte, r13_0, r13_1, r13_2, r13_5, r13_5n, r13_6, r13_7, r13_8, r13_11, r13_11_1, r13_11n, r13_11n_1, r13_13, r13_13n, r13_14, r13_14n, r13_17, r13_17n, r13_19, r13_19n, r13_22, r13_23, r13_24, r13_25, r13_28, r13_28n, r13_29, r13_32, r13_33, r13_36, r13_36n, r13_38, r13_38n, r13_40, r13_43, r13_46, br_townNo q0 h, br_daysNo r0 h2]
      · simp (disch := first | omega | assumption | exact Or.inl rfl | exact Or.inr rfl | exact bI_or _ | exact zC81 | exact zC47 | exact zC65 | exact zC0 | exact zC1 | exact zC32 | exact zC70 | exact zC73 | exact ztc (by assumption) | exact zdc (by assumption) | exact zpc (by assumption) | decide) only [Option.some.injEq, exists_eq_left', ex2, Option.toList, List.singleton_append, List.append_nil, List.cons_append, List.nil_append, nI_add, nI_addL, nI_Ladd, pk_mul, nI_mulL, nI_Lmul, nI_subL, pk_sub, nI_divL, sub_dm, nI_leE, nI_ltE, nI_eqE, nI_Lle, nI_leL, nI_Llt, nI_ltL, nI_eqL, va_up_self, va_up_ne, up_up, up_comm, nI_clamp, bI_eq0, not_true_eq_false, not_false_eq_true, Nat.reduceEqDiff, Nat.reduceLeDiff, Nat.reduceAdd, Nat.reduceMul, Nat.one_ne_zero, Nat.zero_ne_one, decide_eq_false_iff_not, decide_eq_true_eq, Bool.false_eq_true, decide_true, decide_false, bI_true, bI_false, one_ne, Nat.le_refl, Nat.lt_irrefl, cleT, cleF, cltT, cltF, ceqT, ceqF, ↓reduceIte, r13_0, r13_1, r13_2, r13_5, r13_5n, r13_6, r13_7, r13_8, r13_11, r13_11_1, r13_11n, r13_11n_1, r13_13, r13_13n, r13_14, r13_14n, r13_17, r13_17n, r13_19, r13_19n, r13_22, r13_23, r13_24, r13_25, r13_28, r13_28n, r13_29, r13_32, r13_33, r13_36, r13_36n, r13_38, r13_38n, r13_40, r13_43, r13_46, br_townNo q0 h, br_daysAt r0 r0'' hj]
    · simp (disch := first | omega | assumption | exact Or.inl rfl | exact Or.inr rfl | exact bI_or _ | exact zC81 | exact zC47 | exact zC65 | exact zC0 | exact zC1 | exact zC32 | exact zC70 | exact zC73 | exact ztc (by assumption) | exact zdc (by assumption) | exact zpc (by assumption) | decide) only [Option.some.injEq, exists_eq_left', ex2, Option.toList, List.singleton_append, List.append_nil, List.cons_append, List.nil_append, nI_add, nI_addL, nI_Ladd, pk_mul, nI_mulL, nI_Lmul, nI_subL, pk_sub, nI_divL, sub_dm, nI_leE, nI_ltE, nI_eqE, nI_Lle, nI_leL, nI_Llt, nI_ltL, nI_eqL, va_up_self, va_up_ne, up_up, up_comm, nI_clamp, bI_eq0, not_true_eq_false, not_false_eq_true, Nat.reduceEqDiff, Nat.reduceLeDiff, Nat.reduceAdd, Nat.reduceMul, Nat.one_ne_zero, Nat.zero_ne_one, decide_eq_false_iff_not, decide_eq_true_eq, Bool.false_eq_true, decide_true, decide_false, bI_true, bI_false, one_ne, Nat.le_refl, Nat.lt_irrefl, cleT, cleF, cltT, cltF, ceqT, ceqF, ↓reduceIte, r212_0, r212_1, r212_2, r212_5, r212_8, r212_9, r212_10, r212_13, r212_16, r212_17, r212_18, r212_19, r212_21, r212_24, r212_25, r212_28, rf_townNo q0' q0'' h]
  · obtain ⟨n, li, h, sa, c, hQ⟩ := hT k hk
    have hR := rTown_rT (s := s) (by omega) hQ
    have hiT := isT_of (k := k) (by omega)
    rcases has_cases w (n := c1) (by omega) with h2 | ⟨j, hj, rfl⟩
    · refine ⟨.int (-1), s, rTown s k, g, ?_, CK_refl s, ?_, rTown_RK k⟩
      · simp (disch := first | omega | assumption | exact Or.inl rfl | exact Or.inr rfl | exact bI_or _ | exact zC81 | exact zC47 | exact zC65 | exact zC0 | exact zC1 | exact zC32 | exact zC70 | exact zC73 | exact ztc (by assumption) | exact zdc (by assumption) | exact zpc (by assumption) | decide) only [Option.some.injEq, exists_eq_left', ex2, Option.toList, List.singleton_append, List.append_nil, List.cons_append, List.nil_append, nI_add, nI_addL, nI_Ladd, pk_mul, nI_mulL, nI_Lmul, nI_subL, pk_sub, nI_divL, sub_dm, nI_leE, nI_ltE, nI_eqE, nI_Lle, nI_leL, nI_Llt, nI_ltL, nI_eqL, va_up_self, va_up_ne, up_up, up_comm, nI_clamp, bI_eq0, not_true_eq_false, not_false_eq_true, Nat.reduceEqDiff, Nat.reduceLeDiff, Nat.reduceAdd, Nat.reduceMul, Nat.one_ne_zero, Nat.zero_ne_one, decide_eq_false_iff_not, decide_eq_true_eq, Bool.false_eq_true, decide_true, decide_false, bI_true, bI_false, one_ne, Nat.le_refl, Nat.lt_irrefl, cleT, cleF, cltT, cltF, ceqT, ceqF, ↓reduceIte, r13_0, r13_1, r13_2, r13_5, r13_5n, r13_6, r13_7, r13_8, r13_11, r13_11_1, r13_11n, r13_11n_1, r13_13, r13_13n, r13_14, r13_14n, r13_17, r13_17n, r13_19, r13_19n, r13_22, r13_23, r13_24, r13_25, r13_28, r13_28n, r13_29, r13_32, r13_33, r13_36, r13_36n, r13_38, r13_38n, r13_40, r13_43, r13_46, br_townAt q0 q0'' hk, br_daysNo r0 h2]
      · have f82 : rTown s k 82 1 = nI c1 := by rw [(rTown_RK k).1 82 (by omega)]; exact r0'
        simp (disch := first | omega | assumption | exact Or.inl rfl | exact Or.inr rfl | exact bI_or _ | exact zC81 | exact zC47 | exact zC65 | exact zC0 | exact zC1 | exact zC32 | exact zC70 | exact zC73 | exact ztc (by assumption) | exact zdc (by assumption) | exact zpc (by assumption) | decide) only [Option.some.injEq, exists_eq_left', ex2, Option.toList, List.singleton_append, List.append_nil, List.cons_append, List.nil_append, nI_add, nI_addL, nI_Ladd, pk_mul, nI_mulL, nI_Lmul, nI_subL, pk_sub, nI_divL, sub_dm, nI_leE, nI_ltE, nI_eqE, nI_Lle, nI_leL, nI_Llt, nI_ltL, nI_eqL, va_up_self, va_up_ne, up_up, up_comm, nI_clamp, bI_eq0, not_true_eq_false, not_false_eq_true, Nat.reduceEqDiff, Nat.reduceLeDiff, Nat.reduceAdd, Nat.reduceMul, Nat.one_ne_zero, Nat.zero_ne_one, decide_eq_false_iff_not, decide_eq_true_eq, Bool.false_eq_true, decide_true, decide_false, bI_true, bI_false, one_ne, Nat.le_refl, Nat.lt_irrefl, cleT, cleF, cltT, cltF, ceqT, ceqF, ↓reduceIte, r212_0, r212_1, r212_2, r212_5, r212_8, r212_9, r212_10, r212_13, r212_16, r212_17, r212_18, r212_19, r212_21, r212_24, r212_25, r212_28, rf_isTown q0' q0'' hk, rf_daysNo f82 r0'' h2]
    · obtain ⟨D, hD⟩ := hDs j hj
      have hiD := isD_of (k := j) (by omega)
      have D40 := hD.1.2.2
      have hC := CL_CI (e := 15 + 12 * j) (N := D) hiT (by omega) hQ
      have cr := @CL_run xs sl 993 J s g (s 82) (7 + 12 * k) _ n li h sa c (15 + 12 * j) _ D D hiT (by omega) hQ hiD (by omega) hD (Nat.le_refl D)
      have cb := @CB_run xs sl 994 J s g (s 82) (7 + 12 * k) _ n li h sa c hiT (by omega) hQ
      have e1 : CB s (7 + 12 * k) n sa c (15 + 12 * j) 0 = nI D := by
        rw [(CB_CI hiT (by omega) hQ).1.2.2.2 _ (by omega)]
        exact hD.1.1
      generalize hx1 : (CL s (7 + 12 * k) n h sa c (15 + 12 * j) D).2 = x1 at *
      have f5 : x1 82 = s 82 := hC.2.2.2 82 (by omega)
      have hQ1 : TownQ s (x1 82) (7 + 12 * k) (610 + 129 * k) n li h sa c := by rw [f5]; exact hQ
      have g0 : x1 82 0 = nI c0 := by rw [f5]; exact q0'
      have f82 : rTown x1 k 82 = s 82 := ((rTown_RK k).1 82 (by omega)).trans f5
      have g1 : rTown x1 k 82 1 = nI c1 := by rw [f82]; exact r0'
      have hR2 := rTown_rT (s := x1) (by omega) hQ1
      have hR3 : rT (rDays (rTown x1 k) j) (610 + 129 * k) n h := by
        refine rT_fr hR2 ?_ ?_ ?_ <;> simp (disch := first | omega | assumption | exact Or.inl rfl | exact Or.inr rfl | exact bI_or _ | exact zC81 | exact zC47 | exact zC65 | exact zC0 | exact zC1 | exact zC32 | exact zC70 | exact zC73 | exact ztc (by assumption) | exact zdc (by assumption) | exact zpc (by assumption) | decide) only [Option.some.injEq, exists_eq_left', ex2, Option.toList, List.singleton_append, List.append_nil, List.cons_append, List.nil_append, nI_add, nI_addL, nI_Ladd, pk_mul, nI_mulL, nI_Lmul, nI_subL, pk_sub, nI_divL, sub_dm, nI_leE, nI_ltE, nI_eqE, nI_Lle, nI_leL, nI_Llt, nI_ltL, nI_eqL, va_up_self, va_up_ne, up_up, up_comm, nI_clamp, bI_eq0, not_true_eq_false, not_false_eq_true, Nat.reduceEqDiff, Nat.reduceLeDiff, Nat.reduceAdd, Nat.reduceMul, Nat.one_ne_zero, Nat.zero_ne_one, decide_eq_false_iff_not, decide_eq_true_eq, Bool.false_eq_true, decide_true, decide_false, bI_true, bI_false, one_ne, Nat.le_refl, Nat.lt_irrefl, cleT, cleF, cltT, cltF, ceqT, ceqF, ↓reduceIte, rDays]
      have f83 : rDays (rTown x1 k) j 82 = s 82 := ((rDays_RK j).1 82 (by omega)).trans f82
      have f26 : rDays (rTown x1 k) j 81 26 = nI (868 + 161 * j) := by simp (disch := first | omega | assumption | exact Or.inl rfl | exact Or.inr rfl | exact bI_or _ | exact zC81 | exact zC47 | exact zC65 | exact zC0 | exact zC1 | exact zC32 | exact zC70 | exact zC73 | exact ztc (by assumption) | exact zdc (by assumption) | exact zpc (by assumption) | decide) only [Option.some.injEq, exists_eq_left', ex2, Option.toList, List.singleton_append, List.append_nil, List.cons_append, List.nil_append, nI_add, nI_addL, nI_Ladd, pk_mul, nI_mulL, nI_Lmul, nI_subL, pk_sub, nI_divL, sub_dm, nI_leE, nI_ltE, nI_eqE, nI_Lle, nI_leL, nI_Llt, nI_ltL, nI_eqL, va_up_self, va_up_ne, up_up, up_comm, nI_clamp, bI_eq0, not_true_eq_false, not_false_eq_true, Nat.reduceEqDiff, Nat.reduceLeDiff, Nat.reduceAdd, Nat.reduceMul, Nat.one_ne_zero, Nat.zero_ne_one, decide_eq_false_iff_not, decide_eq_true_eq, Bool.false_eq_true, decide_true, decide_false, bI_true, bI_false, one_ne, Nat.le_refl, Nat.lt_irrefl, cleT, cleF, cltT, cltF, ceqT, ceqF, ↓reduceIte, rDays]
      obtain ⟨w1, w2, w3, w4, w5⟩ := L_eq hiT (by omega) hQ hD (Nat.le_refl D) f83 hR3
      have m40 : min 40 D = D := by omega
      have rr := @RL_run xs sl 994 J (rDays (rTown x1 k) j) g s (7 + 12 * k) (610 + 129 * k) n li h sa c (15 + 12 * j) (868 + 161 * j) 40 D hR3 (by rw [f83]; exact hQ) f26 (by omega) (by rw [f83]; exact hD) (by decide)
      rw [m40] at rr
      simp only [show nI 40 = (40 : Int32) from rfl] at rr
      refine ⟨.int (nI (CL s (7 + 12 * k) n h sa c (15 + 12 * j) D).1), x1, (RL s (rDays (rTown x1 k) j) (7 + 12 * k) (610 + 129 * k) n h sa c (15 + 12 * j) D).2, g, ?_, CI_CK hC, ?_, ?_⟩
      · simp (disch := first | omega | assumption | exact Or.inl rfl | exact Or.inr rfl | exact bI_or _ | exact zC81 | exact zC47 | exact zC65 | exact zC0 | exact zC1 | exact zC32 | exact zC70 | exact zC73 | exact ztc (by assumption) | exact zdc (by assumption) | exact zpc (by assumption) | decide) only [Option.some.injEq, exists_eq_left', ex2, Option.toList, List.singleton_append, List.append_nil, List.cons_append, List.nil_append, nI_add, nI_addL, nI_Ladd, pk_mul, nI_mulL, nI_Lmul, nI_subL, pk_sub, nI_divL, sub_dm, nI_leE, nI_ltE, nI_eqE, nI_Lle, nI_leL, nI_Llt, nI_ltL, nI_eqL, va_up_self, va_up_ne, up_up, up_comm, nI_clamp, bI_eq0, not_true_eq_false, not_false_eq_true, Nat.reduceEqDiff, Nat.reduceLeDiff, Nat.reduceAdd, Nat.reduceMul, Nat.one_ne_zero, Nat.zero_ne_one, decide_eq_false_iff_not, decide_eq_true_eq, Bool.false_eq_true, decide_true, decide_false, bI_true, bI_false, one_ne, Nat.le_refl, Nat.lt_irrefl, cleT, cleF, cltT, cltF, ceqT, ceqF, ↓reduceIte, r13_0, r13_1, r13_2, r13_5, r13_5n, r13_6, r13_7, r13_8, r13_11, r13_11_1, r13_11n, r13_11n_1, r13_13, r13_13n, r13_14, r13_14n, r13_17, r13_17n, r13_19, r13_19n, r13_22, r13_23, r13_24, r13_25, r13_28, r13_28n, r13_29, r13_32, r13_33, r13_36, r13_36n, r13_38, r13_38n, r13_40, r13_43, r13_46, br_townAt q0 q0'' hk, br_daysAt r0 r0'' hj, zO0_3, cb, zdc, zdo0, zdw0, zdo1, zdl1, zda1, zds1, e1, cr]
      · simp (disch := first | omega | assumption | exact Or.inl rfl | exact Or.inr rfl | exact bI_or _ | exact zC81 | exact zC47 | exact zC65 | exact zC0 | exact zC1 | exact zC32 | exact zC70 | exact zC73 | exact ztc (by assumption) | exact zdc (by assumption) | exact zpc (by assumption) | decide) only [Option.some.injEq, exists_eq_left', ex2, Option.toList, List.singleton_append, List.append_nil, List.cons_append, List.nil_append, nI_add, nI_addL, nI_Ladd, pk_mul, nI_mulL, nI_Lmul, nI_subL, pk_sub, nI_divL, sub_dm, nI_leE, nI_ltE, nI_eqE, nI_Lle, nI_leL, nI_Llt, nI_ltL, nI_eqL, va_up_self, va_up_ne, up_up, up_comm, nI_clamp, bI_eq0, not_true_eq_false, not_false_eq_true, Nat.reduceEqDiff, Nat.reduceLeDiff, Nat.reduceAdd, Nat.reduceMul, Nat.one_ne_zero, Nat.zero_ne_one, decide_eq_false_iff_not, decide_eq_true_eq, Bool.false_eq_true, decide_true, decide_false, bI_true, bI_false, one_ne, Nat.le_refl, Nat.lt_irrefl, cleT, cleF, cltT, cltF, ceqT, ceqF, ↓reduceIte, r212_0, r212_1, r212_2, r212_5, r212_8, r212_9, r212_10, r212_13, r212_16, r212_17, r212_18, r212_19, r212_21, r212_24, r212_25, r212_28, rf_isTown g0 q0'' hk, rf_areDays g1 r0'' hj, rr, zO81_25, w5, w1]
      · exact RK_trans (RK_trans (rTown_RK k) (rDays_RK j)) (RI_RK w4)
end STP
