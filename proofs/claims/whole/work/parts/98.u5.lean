/-! FITS: the reference's views and its next crumb -/
section RW5
variable {xs : Nat → Int32} {sl d : Nat} {J : hJk} {s x y : hS} {g : hG}
def exS (f : Nat → Nat) (b : Bool) (i : Nat) (best : Int32) : Int32 := if 0 < f i ∧ (best = -9 ∨ b = true) then nI i - 3 else best
theorem rf_extreme {c0 n li c t : Nat} {b : Bool} {kd tp : Nat → Nat} {vv : Nat → Int32} (hP : rP s c0 n li c kd tp vv) (ht : t < n) : ∃ g1 : hG, Runs xs sl (d + 4) 272 0 [some (.ref 81), some (.int (nI t)), some (.int (bI b)), none, none] [] (hp J s g) (some (.int (it (exS (FV (msF kd tp vv c) n li t) b) 7 (-9))), hp J s g1) ∧ GK g g1 := by
  have n6 : n ≤ 6 := hP.2.2.2.2.1
  have rr := fun (g : hG) (v : Nat) (hv : v < 7) => @rf_row xs sl d J s g c0 n li c t v kd tp vv hP ht hv
  have fb : ∀ v, v < 7 → FV (msF kd tp vv c) n li t v ≤ 117649 := fun v hv => FV_le n6 ht hv
  generalize FV (msF kd tp vv c) n li t = f at *
  obtain ⟨g2, u1, u3⟩ := up_loop (Q := fun v (g2 : hG) => GK g g2) (P := fun v (g2 : hG) (z : Option Value × mH) => Runs xs sl (d + 4) 272 7 [some (.ref 81), some (.int (nI t)), some (.int (bI b)), some (.int (it (exS f b) v (-9))), some (.int (nI v - 3))] [] (hp J s g2) z) 7 (by
    intro v g2 hv u1
    have w1 := v_lt3 v (by omega)
    have w2 := v_inc v (by omega)
    have fv := fb v hv
    obtain ⟨g3, r1, r2⟩ := rr g2 v hv
    refine ⟨g3, fun c h1 h2 => by rw [r2 c h1 h2]; exact u1 c h1 h2, fun z hz => ?_⟩
    have e : it (exS f b) (v + 1) (-9) = exS f b v (it (exS f b) v (-9)) := rfl
    rw [e] at hz
    generalize it (exS f b) v (-9) = best at *
    unfold exS at hz
    rw [r272_7]
    by_cases c1 : 0 < f v
    · have c3 : ¬ lg_cmp (lN (f v)) 0 ≤ 0 := fun z => by
        have := (lN_le (a := f v) (b := 0) (by omega) (by omega)).mp ((lg_cmp_le _ _).mp z)
        omega
      by_cases c2 : best = -9
      · rw [if_pos ⟨c1, Or.inl c2⟩] at hz
        have c2' := eq_true c2
        simp (disch := first | omega | assumption | exact Or.inl rfl | exact Or.inr rfl | exact bI_or _ | exact zC81 | exact zC47 | exact zC65 | exact zC0 | exact zC1 | exact zC32 | exact zC70 | exact zC73 | exact ztc (by assumption) | exact zdc (by assumption) | exact zpc (by assumption) | decide) only [Option.some.injEq, exists_eq_left', ex2, Option.toList, List.singleton_append, List.append_nil, List.cons_append, List.nil_append, nI_add, nI_addL, nI_Ladd, pk_mul, nI_mulL, nI_Lmul, nI_subL, pk_sub, nI_divL, sub_dm, nI_leE, nI_ltE, nI_eqE, nI_Lle, nI_leL, nI_Llt, nI_ltL, nI_eqL, va_up_self, va_up_ne, up_up, up_comm, nI_clamp, bI_eq0, not_true_eq_false, not_false_eq_true, Nat.reduceEqDiff, Nat.reduceLeDiff, Nat.reduceAdd, Nat.reduceMul, Nat.one_ne_zero, Nat.zero_ne_one, decide_eq_false_iff_not, decide_eq_true_eq, Bool.false_eq_true, decide_true, decide_false, bI_true, bI_false, one_ne, Nat.le_refl, Nat.lt_irrefl, cleT, cleF, cltT, cltF, ceqT, ceqF, ↓reduceIte, r272_9, r272_10, r272_13, r272_14, r272_15, r272_17, r272_20, r272_21, r272_22, r272_25, r272_26, r272_28, r272_31, r272_32, r272_35, r272_37, r272_38, r272_41, w1, w2, r1.iff, c3, c2']
        exact hz
      · cases b with
        | true =>
          rw [if_pos ⟨c1, Or.inr rfl⟩] at hz
          simp (disch := first | omega | assumption | exact Or.inl rfl | exact Or.inr rfl | exact bI_or _ | exact zC81 | exact zC47 | exact zC65 | exact zC0 | exact zC1 | exact zC32 | exact zC70 | exact zC73 | exact ztc (by assumption) | exact zdc (by assumption) | exact zpc (by assumption) | decide) only [Option.some.injEq, exists_eq_left', ex2, Option.toList, List.singleton_append, List.append_nil, List.cons_append, List.nil_append, nI_add, nI_addL, nI_Ladd, pk_mul, nI_mulL, nI_Lmul, nI_subL, pk_sub, nI_divL, sub_dm, nI_leE, nI_ltE, nI_eqE, nI_Lle, nI_leL, nI_Llt, nI_ltL, nI_eqL, va_up_self, va_up_ne, up_up, up_comm, nI_clamp, bI_eq0, not_true_eq_false, not_false_eq_true, Nat.reduceEqDiff, Nat.reduceLeDiff, Nat.reduceAdd, Nat.reduceMul, Nat.one_ne_zero, Nat.zero_ne_one, decide_eq_false_iff_not, decide_eq_true_eq, Bool.false_eq_true, decide_true, decide_false, bI_true, bI_false, one_ne, Nat.le_refl, Nat.lt_irrefl, cleT, cleF, cltT, cltF, ceqT, ceqF, ↓reduceIte, r272_9, r272_10, r272_13, r272_14, r272_15, r272_17, r272_20, r272_21, r272_22, r272_25, r272_26, r272_28, r272_31, r272_32, r272_35, r272_37, r272_38, r272_41, w1, w2, r1.iff, c3, c2]
          exact hz
        | false =>
          rw [if_neg (fun z => by rcases z.2 with q | q; exact c2 q; exact absurd q (by decide))] at hz
          simp (disch := first | omega | assumption | exact Or.inl rfl | exact Or.inr rfl | exact bI_or _ | exact zC81 | exact zC47 | exact zC65 | exact zC0 | exact zC1 | exact zC32 | exact zC70 | exact zC73 | exact ztc (by assumption) | exact zdc (by assumption) | exact zpc (by assumption) | decide) only [Option.some.injEq, exists_eq_left', ex2, Option.toList, List.singleton_append, List.append_nil, List.cons_append, List.nil_append, nI_add, nI_addL, nI_Ladd, pk_mul, nI_mulL, nI_Lmul, nI_subL, pk_sub, nI_divL, sub_dm, nI_leE, nI_ltE, nI_eqE, nI_Lle, nI_leL, nI_Llt, nI_ltL, nI_eqL, va_up_self, va_up_ne, up_up, up_comm, nI_clamp, bI_eq0, not_true_eq_false, not_false_eq_true, Nat.reduceEqDiff, Nat.reduceLeDiff, Nat.reduceAdd, Nat.reduceMul, Nat.one_ne_zero, Nat.zero_ne_one, decide_eq_false_iff_not, decide_eq_true_eq, Bool.false_eq_true, decide_true, decide_false, bI_true, bI_false, one_ne, Nat.le_refl, Nat.lt_irrefl, cleT, cleF, cltT, cltF, ceqT, ceqF, ↓reduceIte, r272_9, r272_10, r272_13, r272_14, r272_15, r272_17, r272_20, r272_21, r272_22, r272_25, r272_26, r272_28, r272_31, r272_32, r272_35, r272_37, r272_38, r272_41, w1, w2, r1.iff, c3, c2]
          exact hz
    · rw [if_neg (fun z => c1 z.1)] at hz
      have c3 : lg_cmp (lN (f v)) 0 ≤ 0 := (lg_cmp_le _ _).mpr ((lN_le (a := f v) (b := 0) (by omega) (by omega)).mpr (by omega))
      have c3' := eq_true c3
      simp (disch := first | omega | assumption | exact Or.inl rfl | exact Or.inr rfl | exact bI_or _ | exact zC81 | exact zC47 | exact zC65 | exact zC0 | exact zC1 | exact zC32 | exact zC70 | exact zC73 | exact ztc (by assumption) | exact zdc (by assumption) | exact zpc (by assumption) | decide) only [Option.some.injEq, exists_eq_left', ex2, Option.toList, List.singleton_append, List.append_nil, List.cons_append, List.nil_append, nI_add, nI_addL, nI_Ladd, pk_mul, nI_mulL, nI_Lmul, nI_subL, pk_sub, nI_divL, sub_dm, nI_leE, nI_ltE, nI_eqE, nI_Lle, nI_leL, nI_Llt, nI_ltL, nI_eqL, va_up_self, va_up_ne, up_up, up_comm, nI_clamp, bI_eq0, not_true_eq_false, not_false_eq_true, Nat.reduceEqDiff, Nat.reduceLeDiff, Nat.reduceAdd, Nat.reduceMul, Nat.one_ne_zero, Nat.zero_ne_one, decide_eq_false_iff_not, decide_eq_true_eq, Bool.false_eq_true, decide_true, decide_false, bI_true, bI_false, one_ne, Nat.le_refl, Nat.lt_irrefl, cleT, cleF, cltT, cltF, ceqT, ceqF, ↓reduceIte, r272_9, r272_10, r272_13, r272_14, r272_15, r272_17, r272_20, r272_21, r272_22, r272_25, r272_26, r272_28, r272_31, r272_32, r272_35, r272_37, r272_38, r272_41, w1, w2, r1.iff, c3']
      exact hz) g (fun _ _ _ => rfl)
  refine ⟨g2, ?_, u1⟩
  simp (disch := first | omega | assumption | exact Or.inl rfl | exact Or.inr rfl | exact bI_or _ | exact zC81 | exact zC47 | exact zC65 | exact zC0 | exact zC1 | exact zC32 | exact zC70 | exact zC73 | exact ztc (by assumption) | exact zdc (by assumption) | exact zpc (by assumption) | decide) only [Option.some.injEq, exists_eq_left', ex2, Option.toList, List.singleton_append, List.append_nil, List.cons_append, List.nil_append, nI_add, nI_addL, nI_Ladd, pk_mul, nI_mulL, nI_Lmul, nI_subL, pk_sub, nI_divL, sub_dm, nI_leE, nI_ltE, nI_eqE, nI_Lle, nI_leL, nI_Llt, nI_ltL, nI_eqL, va_up_self, va_up_ne, up_up, up_comm, nI_clamp, bI_eq0, not_true_eq_false, not_false_eq_true, Nat.reduceEqDiff, Nat.reduceLeDiff, Nat.reduceAdd, Nat.reduceMul, Nat.one_ne_zero, Nat.zero_ne_one, decide_eq_false_iff_not, decide_eq_true_eq, Bool.false_eq_true, decide_true, decide_false, bI_true, bI_false, one_ne, Nat.le_refl, Nat.lt_irrefl, cleT, cleF, cltT, cltF, ceqT, ceqF, ↓reduceIte, r272_0, r272_2, r272_3, r272_5]
  refine u3 _ ?_
  rw [r272_7]
  have w1 := v_lt3 7 (by omega)
  simp (disch := first | omega | assumption | exact Or.inl rfl | exact Or.inr rfl | exact bI_or _ | exact zC81 | exact zC47 | exact zC65 | exact zC0 | exact zC1 | exact zC32 | exact zC70 | exact zC73 | exact ztc (by assumption) | exact zdc (by assumption) | exact zpc (by assumption) | decide) only [Option.some.injEq, exists_eq_left', ex2, Option.toList, List.singleton_append, List.append_nil, List.cons_append, List.nil_append, nI_add, nI_addL, nI_Ladd, pk_mul, nI_mulL, nI_Lmul, nI_subL, pk_sub, nI_divL, sub_dm, nI_leE, nI_ltE, nI_eqE, nI_Lle, nI_leL, nI_Llt, nI_ltL, nI_eqL, va_up_self, va_up_ne, up_up, up_comm, nI_clamp, bI_eq0, not_true_eq_false, not_false_eq_true, Nat.reduceEqDiff, Nat.reduceLeDiff, Nat.reduceAdd, Nat.reduceMul, Nat.one_ne_zero, Nat.zero_ne_one, decide_eq_false_iff_not, decide_eq_true_eq, Bool.false_eq_true, decide_true, decide_false, bI_true, bI_false, one_ne, Nat.le_refl, Nat.lt_irrefl, cleT, cleF, cltT, cltF, ceqT, ceqF, ↓reduceIte, r272_9, r272_10, r272_44, r272_45, w1]
def rnS (n : Nat) (G : Nat → Nat → Nat) (i : Nat) (a : Int32 × Nat) : Int32 × Nat := if ¬ (i + 6) / 6 = 2 ∧ (i + 6) % 6 < n ∧ (a.1 = -1 ∨ G ((i + 6) / 6) ((i + 6) % 6) < a.2) then (nI (i + 6), G ((i + 6) / 6) ((i + 6) % 6)) else a
theorem rf_nextCrumb {c0 n li c : Nat} {kd tp : Nat → Nat} {vv : Nat → Int32} (hP : rP s c0 n li c kd tp vv) : ∃ g1 : hG, Runs xs sl (d + 5) 270 0 [some (.ref 81), none, none, none, none, none, none] [] (hp J s g) (some (.int (it (rnS n (fun k t => mx7 (gsum (FV (msF kd tp vv c) n li t) k 7))) 24 (-1, 0)).1), hp J s g1) ∧ GK3 g g1 := by
  have hP' := hP
  obtain ⟨p1, p2, p2', p3, p4, p5, p6, p7, p8, p9⟩ := hP'
  have gg := fun (g : hG) (k t : Nat) (ht : t < n) (hk : k = 1 ∨ k = 3 ∨ k = 4) => @rf_greatest xs sl d J s g c0 n li c k t kd tp vv hP ht hk
  have GB : ∀ k t, t < n → (fun k t => mx7 (gsum (FV (msF kd tp vv c) n li t) k 7)) k t ≤ 117649 := fun k t ht => by
    obtain ⟨-, j, hj, z⟩ := mx7_is (gsum (FV (msF kd tp vv c) n li t) k 7)
    dsimp only
    rw [z]
    refine Nat.le_trans (gsum_le _) ?_
    rw [FV_sum ht]
    exact TOT_le p4
  have eG : ∀ k t, mx7 (gsum (FV (msF kd tp vv c) n li t) k 7) = (fun k t => mx7 (gsum (FV (msF kd tp vv c) n li t) k 7)) k t := fun _ _ => rfl
  generalize (fun k t => mx7 (gsum (FV (msF kd tp vv c) n li t) k 7)) = G at *
  have AB : ∀ i, (it (rnS n G) i (-1, 0)).2 ≤ 117649 := by
    intro i
    induction i with
    | zero => exact Nat.zero_le _
    | succ i ih =>
      have e : it (rnS n G) (i + 1) (-1, 0) = rnS n G i (it (rnS n G) i (-1, 0)) := rfl
      rw [e]
      generalize it (rnS n G) i (-1, 0) = a at ih ⊢
      unfold rnS
      split
      · next h => exact GB _ _ h.2.1
      · exact ih
  obtain ⟨g2, u1, u3⟩ := up_loop (Q := fun v (g2 : hG) => GK3 g g2) (P := fun i (g2 : hG) (z : Option Value × mH) => ∀ l5, Runs xs sl (d + 5) 270 8 [some (.ref 81), some (.int (it (rnS n G) i (-1, 0)).1), some (.long (lN (it (rnS n G) i (-1, 0)).2)), none, some (.int (nI (i + 6))), l5, none] [] (hp J s g2) z) 24 (by
    intro i g2 hi u1
    have e : it (rnS n G) (i + 1) (-1, 0) = rnS n G i (it (rnS n G) i (-1, 0)) := rfl
    have ab := AB i
    generalize it (rnS n G) i (-1, 0) = a at *
    obtain ⟨a1, a2⟩ := a
    dsimp only at ab
    by_cases c2 : (i + 6) / 6 = 2
    · refine ⟨g2, u1, fun z hz l5 => ?_⟩
      rw [e, rnS, if_neg (by omega)] at hz
      dsimp only at hz ⊢
      rw [r270_8]
      simp (disch := first | omega | assumption | exact Or.inl rfl | exact Or.inr rfl | exact bI_or _ | exact zC81 | exact zC47 | exact zC65 | exact zC0 | exact zC1 | exact zC32 | exact zC70 | exact zC73 | exact ztc (by assumption) | exact zdc (by assumption) | exact zpc (by assumption) | decide) only [Option.some.injEq, exists_eq_left', ex2, Option.toList, List.singleton_append, List.append_nil, List.cons_append, List.nil_append, nI_add, nI_addL, nI_Ladd, pk_mul, nI_mulL, nI_Lmul, nI_subL, pk_sub, nI_divL, sub_dm, nI_leE, nI_ltE, nI_eqE, nI_Lle, nI_leL, nI_Llt, nI_ltL, nI_eqL, va_up_self, va_up_ne, up_up, up_comm, nI_clamp, bI_eq0, not_true_eq_false, not_false_eq_true, Nat.reduceEqDiff, Nat.reduceLeDiff, Nat.reduceAdd, Nat.reduceMul, Nat.one_ne_zero, Nat.zero_ne_one, decide_eq_false_iff_not, decide_eq_true_eq, Bool.false_eq_true, decide_true, decide_false, bI_true, bI_false, one_ne, Nat.le_refl, Nat.lt_irrefl, cleT, cleF, cltT, cltF, ceqT, ceqF, ↓reduceIte, r270_10, r270_12, r270_15, r270_17, r270_19, r270_20, r270_21, r270_24, r270_26, r270_28, r270_29, r270_30, r270_33, r270_34, r270_37, r270_38, r270_41, r270_44, r270_45, r270_47, r270_49, r270_50, r270_52, r270_54, r270_55, r270_58, r270_60, r270_61, r270_62, r270_65, r270_67, r270_68, r270_69, r270_72, r270_75, r270_77, r270_77_1, r270_78, r270_80, r270_81, r270_84, c2]
      exact hz _
    by_cases c3 : (i + 6) % 6 < n
    · obtain ⟨g3, r1, r2⟩ := gg g2 ((i + 6) / 6) ((i + 6) % 6) c3 (by omega)
      rw [eG] at r1
      have gb := GB ((i + 6) / 6) ((i + 6) % 6) c3
      generalize hw : G ((i + 6) / 6) ((i + 6) % 6) = w at r1 gb
      refine ⟨g3, fun c h1 h2 h3 => by rw [r2 c h1 h2 h3]; exact u1 c h1 h2 h3, fun z hz l5 => ?_⟩
      rw [e, rnS, hw] at hz
      dsimp only at hz ⊢
      rw [r270_8]
      by_cases c4 : a1 = -1
      · rw [if_pos ⟨c2, c3, Or.inl c4⟩] at hz
        have c4' := eq_true c4
        simp (disch := first | omega | assumption | exact Or.inl rfl | exact Or.inr rfl | exact bI_or _ | exact zC81 | exact zC47 | exact zC65 | exact zC0 | exact zC1 | exact zC32 | exact zC70 | exact zC73 | exact ztc (by assumption) | exact zdc (by assumption) | exact zpc (by assumption) | decide) only [Option.some.injEq, exists_eq_left', ex2, Option.toList, List.singleton_append, List.append_nil, List.cons_append, List.nil_append, nI_add, nI_addL, nI_Ladd, pk_mul, nI_mulL, nI_Lmul, nI_subL, pk_sub, nI_divL, sub_dm, nI_leE, nI_ltE, nI_eqE, nI_Lle, nI_leL, nI_Llt, nI_ltL, nI_eqL, va_up_self, va_up_ne, up_up, up_comm, nI_clamp, bI_eq0, not_true_eq_false, not_false_eq_true, Nat.reduceEqDiff, Nat.reduceLeDiff, Nat.reduceAdd, Nat.reduceMul, Nat.one_ne_zero, Nat.zero_ne_one, decide_eq_false_iff_not, decide_eq_true_eq, Bool.false_eq_true, decide_true, decide_false, bI_true, bI_false, one_ne, Nat.le_refl, Nat.lt_irrefl, cleT, cleF, cltT, cltF, ceqT, ceqF, ↓reduceIte, r270_10, r270_12, r270_15, r270_17, r270_19, r270_20, r270_21, r270_24, r270_26, r270_28, r270_29, r270_30, r270_33, r270_34, r270_37, r270_38, r270_41, r270_44, r270_45, r270_47, r270_49, r270_50, r270_52, r270_54, r270_55, r270_58, r270_60, r270_61, r270_62, r270_65, r270_67, r270_68, r270_69, r270_72, r270_75, r270_77, r270_77_1, r270_78, r270_80, r270_81, r270_84, c2, c3, c4', zO81_0, zO81_37, p1, zA82, p3, r1.iff]
        exact hz _
      · by_cases c5 : w < a2
        · rw [if_pos ⟨c2, c3, Or.inr c5⟩] at hz
          have c6 : lg_cmp (lN w) (lN a2) < 0 := (lg_cmp_lt _ _).mpr ((lN_lt (by omega) (by omega)).mpr c5)
          have c6' := eq_true c6
          simp (disch := first | omega | assumption | exact Or.inl rfl | exact Or.inr rfl | exact bI_or _ | exact zC81 | exact zC47 | exact zC65 | exact zC0 | exact zC1 | exact zC32 | exact zC70 | exact zC73 | exact ztc (by assumption) | exact zdc (by assumption) | exact zpc (by assumption) | decide) only [Option.some.injEq, exists_eq_left', ex2, Option.toList, List.singleton_append, List.append_nil, List.cons_append, List.nil_append, nI_add, nI_addL, nI_Ladd, pk_mul, nI_mulL, nI_Lmul, nI_subL, pk_sub, nI_divL, sub_dm, nI_leE, nI_ltE, nI_eqE, nI_Lle, nI_leL, nI_Llt, nI_ltL, nI_eqL, va_up_self, va_up_ne, up_up, up_comm, nI_clamp, bI_eq0, not_true_eq_false, not_false_eq_true, Nat.reduceEqDiff, Nat.reduceLeDiff, Nat.reduceAdd, Nat.reduceMul, Nat.one_ne_zero, Nat.zero_ne_one, decide_eq_false_iff_not, decide_eq_true_eq, Bool.false_eq_true, decide_true, decide_false, bI_true, bI_false, one_ne, Nat.le_refl, Nat.lt_irrefl, cleT, cleF, cltT, cltF, ceqT, ceqF, ↓reduceIte, r270_10, r270_12, r270_15, r270_17, r270_19, r270_20, r270_21, r270_24, r270_26, r270_28, r270_29, r270_30, r270_33, r270_34, r270_37, r270_38, r270_41, r270_44, r270_45, r270_47, r270_49, r270_50, r270_52, r270_54, r270_55, r270_58, r270_60, r270_61, r270_62, r270_65, r270_67, r270_68, r270_69, r270_72, r270_75, r270_77, r270_77_1, r270_78, r270_80, r270_81, r270_84, c2, c3, c4, c6', zO81_0, zO81_37, p1, zA82, p3, r1.iff]
          exact hz _
        · rw [if_neg (fun z => by rcases z.2.2 with q | q; exact c4 q; exact c5 q)] at hz
          have c6 : ¬ lg_cmp (lN w) (lN a2) < 0 := fun z => c5 ((lN_lt (by omega) (by omega)).mp ((lg_cmp_lt _ _).mp z))
          simp (disch := first | omega | assumption | exact Or.inl rfl | exact Or.inr rfl | exact bI_or _ | exact zC81 | exact zC47 | exact zC65 | exact zC0 | exact zC1 | exact zC32 | exact zC70 | exact zC73 | exact ztc (by assumption) | exact zdc (by assumption) | exact zpc (by assumption) | decide) only [Option.some.injEq, exists_eq_left', ex2, Option.toList, List.singleton_append, List.append_nil, List.cons_append, List.nil_append, nI_add, nI_addL, nI_Ladd, pk_mul, nI_mulL, nI_Lmul, nI_subL, pk_sub, nI_divL, sub_dm, nI_leE, nI_ltE, nI_eqE, nI_Lle, nI_leL, nI_Llt, nI_ltL, nI_eqL, va_up_self, va_up_ne, up_up, up_comm, nI_clamp, bI_eq0, not_true_eq_false, not_false_eq_true, Nat.reduceEqDiff, Nat.reduceLeDiff, Nat.reduceAdd, Nat.reduceMul, Nat.one_ne_zero, Nat.zero_ne_one, decide_eq_false_iff_not, decide_eq_true_eq, Bool.false_eq_true, decide_true, decide_false, bI_true, bI_false, one_ne, Nat.le_refl, Nat.lt_irrefl, cleT, cleF, cltT, cltF, ceqT, ceqF, ↓reduceIte, r270_10, r270_12, r270_15, r270_17, r270_19, r270_20, r270_21, r270_24, r270_26, r270_28, r270_29, r270_30, r270_33, r270_34, r270_37, r270_38, r270_41, r270_44, r270_45, r270_47, r270_49, r270_50, r270_52, r270_54, r270_55, r270_58, r270_60, r270_61, r270_62, r270_65, r270_67, r270_68, r270_69, r270_72, r270_75, r270_77, r270_77_1, r270_78, r270_80, r270_81, r270_84, c2, c3, c4, c6, zO81_0, zO81_37, p1, zA82, p3, r1.iff]
          exact hz _
    · refine ⟨g2, u1, fun z hz l5 => ?_⟩
      rw [e, rnS, if_neg (by omega)] at hz
      dsimp only at hz ⊢
      rw [r270_8]
      simp (disch := first | omega | assumption | exact Or.inl rfl | exact Or.inr rfl | exact bI_or _ | exact zC81 | exact zC47 | exact zC65 | exact zC0 | exact zC1 | exact zC32 | exact zC70 | exact zC73 | exact ztc (by assumption) | exact zdc (by assumption) | exact zpc (by assumption) | decide) only [Option.some.injEq, exists_eq_left', ex2, Option.toList, List.singleton_append, List.append_nil, List.cons_append, List.nil_append, nI_add, nI_addL, nI_Ladd, pk_mul, nI_mulL, nI_Lmul, nI_subL, pk_sub, nI_divL, sub_dm, nI_leE, nI_ltE, nI_eqE, nI_Lle, nI_leL, nI_Llt, nI_ltL, nI_eqL, va_up_self, va_up_ne, up_up, up_comm, nI_clamp, bI_eq0, not_true_eq_false, not_false_eq_true, Nat.reduceEqDiff, Nat.reduceLeDiff, Nat.reduceAdd, Nat.reduceMul, Nat.one_ne_zero, Nat.zero_ne_one, decide_eq_false_iff_not, decide_eq_true_eq, Bool.false_eq_true, decide_true, decide_false, bI_true, bI_false, one_ne, Nat.le_refl, Nat.lt_irrefl, cleT, cleF, cltT, cltF, ceqT, ceqF, ↓reduceIte, r270_10, r270_12, r270_15, r270_17, r270_19, r270_20, r270_21, r270_24, r270_26, r270_28, r270_29, r270_30, r270_33, r270_34, r270_37, r270_38, r270_41, r270_44, r270_45, r270_47, r270_49, r270_50, r270_52, r270_54, r270_55, r270_58, r270_60, r270_61, r270_62, r270_65, r270_67, r270_68, r270_69, r270_72, r270_75, r270_77, r270_77_1, r270_78, r270_80, r270_81, r270_84, c2, c3, zO81_0, zO81_37, p1, zA82, p3]
      exact hz _) g (fun _ _ _ _ => rfl)
  refine ⟨g2, ?_, u1⟩
  simp (disch := first | omega | assumption | exact Or.inl rfl | exact Or.inr rfl | exact bI_or _ | exact zC81 | exact zC47 | exact zC65 | exact zC0 | exact zC1 | exact zC32 | exact zC70 | exact zC73 | exact ztc (by assumption) | exact zdc (by assumption) | exact zpc (by assumption) | decide) only [Option.some.injEq, exists_eq_left', ex2, Option.toList, List.singleton_append, List.append_nil, List.cons_append, List.nil_append, nI_add, nI_addL, nI_Ladd, pk_mul, nI_mulL, nI_Lmul, nI_subL, pk_sub, nI_divL, sub_dm, nI_leE, nI_ltE, nI_eqE, nI_Lle, nI_leL, nI_Llt, nI_ltL, nI_eqL, va_up_self, va_up_ne, up_up, up_comm, nI_clamp, bI_eq0, not_true_eq_false, not_false_eq_true, Nat.reduceEqDiff, Nat.reduceLeDiff, Nat.reduceAdd, Nat.reduceMul, Nat.one_ne_zero, Nat.zero_ne_one, decide_eq_false_iff_not, decide_eq_true_eq, Bool.false_eq_true, decide_true, decide_false, bI_true, bI_false, one_ne, Nat.le_refl, Nat.lt_irrefl, cleT, cleF, cltT, cltF, ceqT, ceqF, ↓reduceIte, r270_0, r270_1, r270_1_1, r270_2, r270_3, r270_4, r270_6]
  refine u3 _ ?_ none
  intro l5
  rw [r270_8]
  simp (disch := first | omega | assumption | exact Or.inl rfl | exact Or.inr rfl | exact bI_or _ | exact zC81 | exact zC47 | exact zC65 | exact zC0 | exact zC1 | exact zC32 | exact zC70 | exact zC73 | exact ztc (by assumption) | exact zdc (by assumption) | exact zpc (by assumption) | decide) only [Option.some.injEq, exists_eq_left', ex2, Option.toList, List.singleton_append, List.append_nil, List.cons_append, List.nil_append, nI_add, nI_addL, nI_Ladd, pk_mul, nI_mulL, nI_Lmul, nI_subL, pk_sub, nI_divL, sub_dm, nI_leE, nI_ltE, nI_eqE, nI_Lle, nI_leL, nI_Llt, nI_ltL, nI_eqL, va_up_self, va_up_ne, up_up, up_comm, nI_clamp, bI_eq0, not_true_eq_false, not_false_eq_true, Nat.reduceEqDiff, Nat.reduceLeDiff, Nat.reduceAdd, Nat.reduceMul, Nat.one_ne_zero, Nat.zero_ne_one, decide_eq_false_iff_not, decide_eq_true_eq, Bool.false_eq_true, decide_true, decide_false, bI_true, bI_false, one_ne, Nat.le_refl, Nat.lt_irrefl, cleT, cleF, cltT, cltF, ceqT, ceqF, ↓reduceIte, r270_10, r270_12, r270_87, r270_88]
/-- both next tries are one -/
theorem nx_rn {n : Nat} {G : Nat → Nat → Nat} (h1 : 1 ≤ n) (hG : G 1 0 < 1000000) : (it (nxS n G) 24 (-9, 1000000)).1 = (it (rnS n G) 24 (-1, 0)).1 := by
  have q : ∀ i, i < 24 → it (nxS n G) (i + 1) (-9, 1000000) = it (rnS n G) (i + 1) (-1, 0) ∧ ¬ (it (rnS n G) (i + 1) (-1, 0)).1 = -1 := by
    intro i
    induction i with
    | zero =>
      intro _
      have e1 : it (nxS n G) 1 (-9, 1000000) = if ¬ 1 = 2 ∧ 0 < n ∧ G 1 0 < 1000000 then (nI 6, G 1 0) else (-9, 1000000) := rfl
      have e2 : it (rnS n G) 1 (-1, 0) = if ¬ 1 = 2 ∧ 0 < n ∧ ((-1 : Int32) = -1 ∨ G 1 0 < 0) then (nI 6, G 1 0) else (-1, 0) := rfl
      rw [e1, e2, if_pos ⟨by decide, h1, hG⟩, if_pos ⟨by decide, h1, Or.inl rfl⟩]
      exact ⟨rfl, by dsimp only; decide⟩
    | succ i ih =>
      intro hi
      obtain ⟨i1, i2⟩ := ih (by omega)
      have e1 : it (nxS n G) (i + 1 + 1) (-9, 1000000) = nxS n G (i + 1) (it (nxS n G) (i + 1) (-9, 1000000)) := rfl
      have e2 : it (rnS n G) (i + 1 + 1) (-1, 0) = rnS n G (i + 1) (it (rnS n G) (i + 1) (-1, 0)) := rfl
      rw [e1, e2, i1]
      generalize it (rnS n G) (i + 1) (-1, 0) = a at *
      unfold nxS rnS
      by_cases c : ¬ (i + 1 + 6) / 6 = 2 ∧ (i + 1 + 6) % 6 < n ∧ G ((i + 1 + 6) / 6) ((i + 1 + 6) % 6) < a.2
      · rw [if_pos c, if_pos ⟨c.1, c.2.1, Or.inr c.2.2⟩]
        refine ⟨rfl, ?_⟩
        have z : ∀ j, j < 40 → ¬ nI j = -1 := by decide +kernel
        exact z _ (by omega)
      · rw [if_neg c, if_neg (fun z => by rcases z.2.2 with q | q; exact i2 q; exact c ⟨z.1, z.2.1, q⟩)]
        exact ⟨rfl, i2⟩
  rw [(q 23 (by decide)).1]
/-- and both views -/
theorem mv_ex {f : Nat → Nat} : it (mvS f) 7 (-9) = it (exS f true) 7 (-9) := it_congr (fun i b _ => by
  unfold mvS exS
  by_cases c : 0 < f i
  · rw [if_pos c, if_pos ⟨c, Or.inr rfl⟩]
  · rw [if_neg c, if_neg (fun z => c z.1)])
theorem lv_ex {f : Nat → Nat} : it (lvS f) 7 (-9) = it (exS f false) 7 (-9) := by
  have e1 : it (lvS f) 7 (-9) = if 0 < f 0 then nI 0 - 3 else if 0 < f 1 then nI 1 - 3 else if 0 < f 2 then nI 2 - 3 else if 0 < f 3 then nI 3 - 3 else if 0 < f 4 then nI 4 - 3 else if 0 < f 5 then nI 5 - 3 else if 0 < f 6 then nI 6 - 3 else -9 := rfl
  have z : ∀ i, i < 7 → ¬ nI i - 3 = -9 := by decide +kernel
  have st : ∀ i b, ¬ b = -9 → exS f false i b = b := fun i b h => if_neg (fun q => by rcases q.2 with w | w; exact h w; exact absurd w (by decide))
  have s0 : ∀ i, exS f false i (-9) = if 0 < f i then nI i - 3 else -9 := fun i => by
    unfold exS
    by_cases c : 0 < f i
    · rw [if_pos c, if_pos ⟨c, Or.inl rfl⟩]
    · rw [if_neg c, if_neg (fun z => c z.1)]
  have e2 : it (exS f false) 7 (-9) = exS f false 6 (exS f false 5 (exS f false 4 (exS f false 3 (exS f false 2 (exS f false 1 (exS f false 0 (-9))))))) := rfl
  rw [e1, e2, s0 0]
  by_cases c0 : 0 < f 0
  · simp only [if_pos c0, st _ _ (z 0 (by decide))]
  simp only [if_neg c0, s0 1]
  by_cases c1 : 0 < f 1
  · simp only [if_pos c1, st _ _ (z 1 (by decide))]
  simp only [if_neg c1, s0 2]
  by_cases c2 : 0 < f 2
  · simp only [if_pos c2, st _ _ (z 2 (by decide))]
  simp only [if_neg c2, s0 3]
  by_cases c3 : 0 < f 3
  · simp only [if_pos c3, st _ _ (z 3 (by decide))]
  simp only [if_neg c3, s0 4]
  by_cases c4 : 0 < f 4
  · simp only [if_pos c4, st _ _ (z 4 (by decide))]
  simp only [if_neg c4, s0 5]
  by_cases c5 : 0 < f 5
  · simp only [if_pos c5, st _ _ (z 5 (by decide))]
  simp only [if_neg c5, s0 6]
end RW5
