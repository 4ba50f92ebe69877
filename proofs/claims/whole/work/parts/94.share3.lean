/-! SHARES, alike -/
section SH3
variable {xs : Nat → Int32} {sl d : Nat} {J : hJk} {s x y : hS} {g : hG}
/-- both scenes as they begin, ready for what is asked of a town -/
theorem begun {k n li h sa c c0 : Nat} (hk : k < c0) (q0' : s 82 0 = nI c0) (q0'' : c0 ≤ 2) (hQ : TownQ s (s 82) (7 + 12 * k) (610 + 129 * k) n li h sa c) : ∃ X : hS, (∀ {r : Option Value × mH}, Runs xs sl (994+4) 116 0 [some (.ref (47)), some (.ref ( 7 + 12 * k)), none] [] (hp J (s) g) r ↔ r = (none, hp J X g)) ∧ CI s X (7 + 12 * k) n h ∧ X 47 1 = nI c ∧ VV n c X ∧ (∀ i, i < 48 → X 56 i = s (7 + 12 * k + 4) i) ∧ ∀ X' : hS, (∀ j, 81 ≤ j → X' j = X j) → ∃ Y : hS, (∀ {r : Option Value × mH}, Runs xs sl (996+2) 204 0 [some (.ref (81)), some (.int ( nI k))] [] (hp J (X') g) r ↔ r = (some (.int 1), hp J (rTown X' k) g)) ∧ rT (rTown X' k) (610 + 129 * k) n h ∧ rTown X' k 82 = s 82 ∧ (∀ {d' : Nat} {r : Option Value × mH}, Runs xs sl (d' + 3) 214 0 [some (.ref 81), none] [] (hp J (rTown X' k) g) r ↔ r = (none, hp J Y g)) ∧ RI (rTown X' k) Y (610 + 129 * k) n h ∧ Y 81 23 = nI c ∧ RK X' Y ∧ SR n c X Y ∧ TR (7 + 12 * k) (610 + 129 * k) h X Y ∧ Y 82 = s 82 := by
  have hiT := isT_of (k := k) (by omega)
  have cb := @CB_run xs sl 994 J s g (s 82) (7 + 12 * k) _ n li h sa c hiT (by omega) hQ
  obtain ⟨hC, lC⟩ := CB_CI hiT (by omega) hQ
  have SB := fun (y : hS) (hy : y 82 = s 82) => begin_SR (y := y) hQ hy
  have vv := CB_VV hQ
  have mi : ∀ i, i < 48 → CB s (7 + 12 * k) n sa c 56 i = s (7 + 12 * k + 4) i := by
    intro i hi
    have S := SB s rfl
    rw [S.2.1 i hi, RB_minds hi]
    exact (hQ.2.2.2.2.2.2.2.2.1 i hi).2
  refine ⟨CB s (7 + 12 * k) n sa c, cb, hC, by rw [hC.2.1, lC], vv, mi, fun X' hX' => ?_⟩
  have x82 : X' 82 = s 82 := (hX' 82 (by omega)).trans (hC.2.2.2 82 (by omega))
  have hQ1 : TownQ s (X' 82) (7 + 12 * k) (610 + 129 * k) n li h sa c := by rw [x82]; exact hQ
  have hR1 := rTown_rT (s := X') (by omega) hQ1
  have g0 : X' 82 0 = nI c0 := by rw [x82]; exact q0'
  have g82 : rTown X' k 82 = s 82 := ((rTown_RK k).1 82 (by omega)).trans x82
  have hQ3 : TownQ s (rTown X' k 82) (7 + 12 * k) (610 + 129 * k) n li h sa c := by rw [g82]; exact hQ
  obtain ⟨r1, r2, r3⟩ := RB_RI hR1 hQ3
  have y82 : RB s (rTown X' k) (7 + 12 * k) (610 + 129 * k) sa c 82 = s 82 := (r1.2.2.2.1 82 (by omega)).trans g82
  refine ⟨RB s (rTown X' k) (7 + 12 * k) (610 + 129 * k) sa c, rf_isTown g0 q0'' hk, hR1, g82, RB_run hR1 hQ3, r1, by rw [r1.2.1, r2], RK_trans (rTown_RK k) (RI_RK r1), SB _ g82, TR_of (by omega) hQ (by omega) (fun j hj => hC.2.2.2 j (by omega)) y82, y82⟩
set_option maxHeartbeats 1000000 in
theorem pm_shares (hI : ToldR s (s 82)) (p q z : Int32) : Same xs sl J s g 16 233 [some (.ref 0), some (.int p), some (.int q), some (.int z), none, none] [some (.ref 81), some (.int p), some (.int q), some (.int z), none, none, none] := by
  obtain ⟨c0, c1, c2, len, ⟨q0, q0', q0''⟩, -, -, -, -, -, hT, -, -⟩ := hI
  rcases has_cases p (n := c0) (by omega) with h | ⟨k, hk, rfl⟩
  · refine ⟨.int (-1000), s, s, g, ?_, CK_refl s, ?_, RK_refl s⟩
    · simp (disch := first | omega | assumption | exact Or.inl rfl | exact Or.inr rfl | exact bI_or _ | exact zC81 | exact zC47 | exact zC65 | exact zC0 | exact zC1 | exact zC32 | exact zC70 | exact zC73 | exact ztc (by assumption) | exact zdc (by assumption) | exact zpc (by assumption) | decide) only [Option.some.injEq, exists_eq_left', ex2, Option.toList, List.singleton_append, List.append_nil, List.cons_append, List.nil_append, nI_add, nI_addL, nI_Ladd, pk_mul, nI_mulL, nI_Lmul, nI_subL, pk_sub, nI_divL, sub_dm, nI_leE, nI_ltE, nI_eqE, nI_Lle, nI_leL, nI_Llt, nI_ltL, nI_eqL, va_up_self, va_up_ne, up_up, up_comm, nI_clamp, bI_eq0, not_true_eq_false, not_false_eq_true, Nat.reduceEqDiff, Nat.reduceLeDiff, Nat.reduceAdd, Nat.reduceMul, Nat.one_ne_zero, Nat.zero_ne_one, decide_eq_false_iff_not, decide_eq_true_eq, Bool.false_eq_true, decide_true, decide_false, bI_true, bI_false, one_ne, Nat.le_refl, Nat.lt_irrefl, cleT, cleF, cltT, cltF, ceqT, ceqF, ↓reduceIte, r16_0, r16_1, r16_2, r16_5, r16_5n, r16_7, r16_7n, r16_9, r16_9n, r16_12, r16_12n, r16_14, r16_15, r16_18, r16_21, r16_22, r16_25, r16_26, r16_27, r16_30, r16_33, br_townNo q0 h]
    · simp (disch := first | omega | assumption | exact Or.inl rfl | exact Or.inr rfl | exact bI_or _ | exact zC81 | exact zC47 | exact zC65 | exact zC0 | exact zC1 | exact zC32 | exact zC70 | exact zC73 | exact ztc (by assumption) | exact zdc (by assumption) | exact zpc (by assumption) | decide) only [Option.some.injEq, exists_eq_left', ex2, Option.toList, List.singleton_append, List.append_nil, List.cons_append, List.nil_append, nI_add, nI_addL, nI_Ladd, pk_mul, nI_mulL, nI_Lmul, nI_subL, pk_sub, nI_divL, sub_dm, nI_leE, nI_ltE, nI_eqE, nI_Lle, nI_leL, nI_Llt, nI_ltL, nI_eqL, va_up_self, va_up_ne, up_up, up_comm, nI_clamp, bI_eq0, not_true_eq_false, not_false_eq_true, Nat.reduceEqDiff, Nat.reduceLeDiff, Nat.reduceAdd, Nat.reduceMul, Nat.one_ne_zero, Nat.zero_ne_one, decide_eq_false_iff_not, decide_eq_true_eq, Bool.false_eq_true, decide_true, decide_false, bI_true, bI_false, one_ne, Nat.le_refl, Nat.lt_irrefl, cleT, cleF, cltT, cltF, ceqT, ceqF, ↓reduceIte, r233_0, r233_1, r233_2, r233_5, r233_8, r233_9, r233_10, r233_13, r233_16, r233_17, r233_18, r233_19, r233_22, r233_25, r233_28, rf_townNo q0' q0'' h]
  · obtain ⟨n, li, h, sa, c, hQ⟩ := hT k hk
    have hR := rTown_rT (s := s) (by omega) hQ
    have hiT := isT_of (k := k) (by omega)
    obtain ⟨X, cb, hC, x1, vv, mi, mk⟩ := @begun xs sl J s g k n li h sa c c0 hk q0' q0'' hQ
    obtain ⟨⟨t1, t2, t3, t4⟩, -, ⟨t5, t6, t7⟩, -, ⟨-, -, c8⟩, tv, -, -, tm, -, -⟩ := hQ
    rcases has_cases q (n := n) (by omega) with hy | ⟨t, ht, rfl⟩
    · refine ⟨.int (-1000), s, rTown s k, g, ?_, CK_refl s, ?_, rTown_RK k⟩
      · simp (disch := first | omega | assumption | exact Or.inl rfl | exact Or.inr rfl | exact bI_or _ | exact zC81 | exact zC47 | exact zC65 | exact zC0 | exact zC1 | exact zC32 | exact zC70 | exact zC73 | exact ztc (by assumption) | exact zdc (by assumption) | exact zpc (by assumption) | decide) only [Option.some.injEq, exists_eq_left', ex2, Option.toList, List.singleton_append, List.append_nil, List.cons_append, List.nil_append, nI_add, nI_addL, nI_Ladd, pk_mul, nI_mulL, nI_Lmul, nI_subL, pk_sub, nI_divL, sub_dm, nI_leE, nI_ltE, nI_eqE, nI_Lle, nI_leL, nI_Llt, nI_ltL, nI_eqL, va_up_self, va_up_ne, up_up, up_comm, nI_clamp, bI_eq0, not_true_eq_false, not_false_eq_true, Nat.reduceEqDiff, Nat.reduceLeDiff, Nat.reduceAdd, Nat.reduceMul, Nat.one_ne_zero, Nat.zero_ne_one, decide_eq_false_iff_not, decide_eq_true_eq, Bool.false_eq_true, decide_true, decide_false, bI_true, bI_false, one_ne, Nat.le_refl, Nat.lt_irrefl, cleT, cleF, cltT, cltF, ceqT, ceqF, ↓reduceIte, r16_0, r16_1, r16_2, r16_5, r16_5n, r16_7, r16_7n, r16_9, r16_9n, r16_12, r16_12n, r16_14, r16_15, r16_18, r16_21, r16_22, r16_25, r16_26, r16_27, r16_30, r16_33, br_townAt q0 q0'' hk, zx_hasTopic hiT, t1, hy]
      · simp (disch := first | omega | assumption | exact Or.inl rfl | exact Or.inr rfl | exact bI_or _ | exact zC81 | exact zC47 | exact zC65 | exact zC0 | exact zC1 | exact zC32 | exact zC70 | exact zC73 | exact ztc (by assumption) | exact zdc (by assumption) | exact zpc (by assumption) | decide) only [Option.some.injEq, exists_eq_left', ex2, Option.toList, List.singleton_append, List.append_nil, List.cons_append, List.nil_append, nI_add, nI_addL, nI_Ladd, pk_mul, nI_mulL, nI_Lmul, nI_subL, pk_sub, nI_divL, sub_dm, nI_leE, nI_ltE, nI_eqE, nI_Lle, nI_leL, nI_Llt, nI_ltL, nI_eqL, va_up_self, va_up_ne, up_up, up_comm, nI_clamp, bI_eq0, not_true_eq_false, not_false_eq_true, Nat.reduceEqDiff, Nat.reduceLeDiff, Nat.reduceAdd, Nat.reduceMul, Nat.one_ne_zero, Nat.zero_ne_one, decide_eq_false_iff_not, decide_eq_true_eq, Bool.false_eq_true, decide_true, decide_false, bI_true, bI_false, one_ne, Nat.le_refl, Nat.lt_irrefl, cleT, cleF, cltT, cltF, ceqT, ceqF, ↓reduceIte, r233_0, r233_1, r233_2, r233_5, r233_8, r233_9, r233_10, r233_13, r233_16, r233_17, r233_18, r233_19, r233_22, r233_25, r233_28, rf_isTown q0' q0'' hk, rf_isTopic (x := q) hR, hy]
    have e1 : f_isIn z 0 2 = f_has z (nI 3) := isIn2 (n := 2) (by decide)
    rcases has_cases z (n := 3) (by decide) with hz | ⟨w, hw, rfl⟩
    · rw [hz] at e1
      refine ⟨.int (-1000), s, rTown s k, g, ?_, CK_refl s, ?_, rTown_RK k⟩
      · rcases has_none hz with q1 | ⟨q1, q2⟩
        · simp (disch := first | omega | assumption | exact Or.inl rfl | exact Or.inr rfl | exact bI_or _ | exact zC81 | exact zC47 | exact zC65 | exact zC0 | exact zC1 | exact zC32 | exact zC70 | exact zC73 | exact ztc (by assumption) | exact zdc (by assumption) | exact zpc (by assumption) | decide) only [Option.some.injEq, exists_eq_left', ex2, Option.toList, List.singleton_append, List.append_nil, List.cons_append, List.nil_append, nI_add, nI_addL, nI_Ladd, pk_mul, nI_mulL, nI_Lmul, nI_subL, pk_sub, nI_divL, sub_dm, nI_leE, nI_ltE, nI_eqE, nI_Lle, nI_leL, nI_Llt, nI_ltL, nI_eqL, va_up_self, va_up_ne, up_up, up_comm, nI_clamp, bI_eq0, not_true_eq_false, not_false_eq_true, Nat.reduceEqDiff, Nat.reduceLeDiff, Nat.reduceAdd, Nat.reduceMul, Nat.one_ne_zero, Nat.zero_ne_one, decide_eq_false_iff_not, decide_eq_true_eq, Bool.false_eq_true, decide_true, decide_false, bI_true, bI_false, one_ne, Nat.le_refl, Nat.lt_irrefl, cleT, cleF, cltT, cltF, ceqT, ceqF, ↓reduceIte, r16_0, r16_1, r16_2, r16_5, r16_5n, r16_7, r16_7n, r16_9, r16_9n, r16_12, r16_12n, r16_14, r16_15, r16_18, r16_21, r16_22, r16_25, r16_26, r16_27, r16_30, r16_33, br_townAt q0 q0'' hk, zx_hasTopic hiT, f_has_nI, t1, q1]
        · have q3 : ¬ z ≤ 2 := by
            rw [Int32.le_iff_toInt_le] at q2 ⊢
            have z2 : (2 : Int32).toInt = 2 := rfl
            have z3 : (nI 3).toInt = 3 := rfl
            omega
          simp (disch := first | omega | assumption | exact Or.inl rfl | exact Or.inr rfl | exact bI_or _ | exact zC81 | exact zC47 | exact zC65 | exact zC0 | exact zC1 | exact zC32 | exact zC70 | exact zC73 | exact ztc (by assumption) | exact zdc (by assumption) | exact zpc (by assumption) | decide) only [Option.some.injEq, exists_eq_left', ex2, Option.toList, List.singleton_append, List.append_nil, List.cons_append, List.nil_append, nI_add, nI_addL, nI_Ladd, pk_mul, nI_mulL, nI_Lmul, nI_subL, pk_sub, nI_divL, sub_dm, nI_leE, nI_ltE, nI_eqE, nI_Lle, nI_leL, nI_Llt, nI_ltL, nI_eqL, va_up_self, va_up_ne, up_up, up_comm, nI_clamp, bI_eq0, not_true_eq_false, not_false_eq_true, Nat.reduceEqDiff, Nat.reduceLeDiff, Nat.reduceAdd, Nat.reduceMul, Nat.one_ne_zero, Nat.zero_ne_one, decide_eq_false_iff_not, decide_eq_true_eq, Bool.false_eq_true, decide_true, decide_false, bI_true, bI_false, one_ne, Nat.le_refl, Nat.lt_irrefl, cleT, cleF, cltT, cltF, ceqT, ceqF, ↓reduceIte, r16_0, r16_1, r16_2, r16_5, r16_5n, r16_7, r16_7n, r16_9, r16_9n, r16_12, r16_12n, r16_14, r16_15, r16_18, r16_21, r16_22, r16_25, r16_26, r16_27, r16_30, r16_33, br_townAt q0 q0'' hk, zx_hasTopic hiT, f_has_nI, t1, q1, q3]
      · simp (disch := first | omega | assumption | exact Or.inl rfl | exact Or.inr rfl | exact bI_or _ | exact zC81 | exact zC47 | exact zC65 | exact zC0 | exact zC1 | exact zC32 | exact zC70 | exact zC73 | exact ztc (by assumption) | exact zdc (by assumption) | exact zpc (by assumption) | decide) only [Option.some.injEq, exists_eq_left', ex2, Option.toList, List.singleton_append, List.append_nil, List.cons_append, List.nil_append, nI_add, nI_addL, nI_Ladd, pk_mul, nI_mulL, nI_Lmul, nI_subL, pk_sub, nI_divL, sub_dm, nI_leE, nI_ltE, nI_eqE, nI_Lle, nI_leL, nI_Llt, nI_ltL, nI_eqL, va_up_self, va_up_ne, up_up, up_comm, nI_clamp, bI_eq0, not_true_eq_false, not_false_eq_true, Nat.reduceEqDiff, Nat.reduceLeDiff, Nat.reduceAdd, Nat.reduceMul, Nat.one_ne_zero, Nat.zero_ne_one, decide_eq_false_iff_not, decide_eq_true_eq, Bool.false_eq_true, decide_true, decide_false, bI_true, bI_false, one_ne, Nat.le_refl, Nat.lt_irrefl, cleT, cleF, cltT, cltF, ceqT, ceqF, ↓reduceIte, r233_0, r233_1, r233_2, r233_5, r233_8, r233_9, r233_10, r233_13, r233_16, r233_17, r233_18, r233_19, r233_22, r233_25, r233_28, rf_isTown q0' q0'' hk, rf_isTopic (x := nI t) hR, f_has_nI, rf_isInE, e1]
    rw [f_has_nI (by omega) (by decide), decide_eq_true hw] at e1
    have p8 := pw8 c8
    have pc0 : 0 < 2 ^ c := Nat.pow_pos (by decide)
    obtain ⟨x2, m1, m2, m3⟩ := @ml_share xs sl 995 J X g (7 + 12 * k) n h c t hC.1 x1 c8 ht
    obtain ⟨Y, r1, r2, r3, r4, r5, r6, r7, r8, r9, r10⟩ := mk x2 (fun j hj => m2 j (by omega))
    obtain ⟨y2, g1, g2, g3⟩ := @rf_given xs sl 995 J Y g (610 + 129 * k) n h c t r5.1 r6 c8 ht
    have hW : ∀ u, u < h → ∀ p, p < 2 ^ c → wC X (7 + 12 * k) n c t u p = wR Y (610 + 129 * k) n c t u p ∧ bd 9 (wC X (7 + 12 * k) n c t u p) := by
      intro u hu p hp'
      have hv := r9.2.2.1 u hu
      have e : eaF n (fun l t => X 57 (6 * l + t)) (X (7 + 12 * k + 2) u) p c (fun t => X 56 (6 * u + t)) t = eaF n (fun l t => Y 88 (6 * l + t)) (Y 82 (610 + 129 * k + 13 + u)) p c (fun t => Y 82 (610 + 129 * k + 29 + 6 * u + t)) t := by
        rw [r9.2.2.2 u hu]
        refine eaF_congr c (fun l t hl ht => r8.2.2.1 l t hl ht) (fun t ht => ?_) t ht
        rw [mi _ (by omega), r10]
        have w1 := (tm (6 * u + t) (by omega)).2
        rw [← Nat.add_assoc] at w1
        exact w1.symm
      unfold wC wR
      rw [e, hv]
      refine ⟨Int32.mul_comm _ _, bd_W ?_⟩
      obtain ⟨v, v1, v2, v3, v4⟩ := tv u hu
      exact ⟨v, v1, v2, by rw [r10]; exact v4⟩
    have tg0 := TG_of pc0 t7 hW
    have tg : TG (2 ^ c) (x2 67) (y2 93) := by
      obtain ⟨a1, a2, a3⟩ := tg0
      refine ⟨by rw [m3 0 pc0, g3 0 pc0]; exact a1, by rw [m3 0 pc0]; exact a2, fun v hv => by rw [m3 v hv, g3 v hv]; exact a3 v hv⟩
    have x2L : x2 47 1 = nI c := by rw [m2 47 (by omega)]; exact x1
    have y2L : y2 81 23 = nI c := by rw [g2 81 (by omega)]; exact r6
    have rl := @rf_shareLoop xs sl 998 J y2 g c w t (some (.int (nI k))) y2L c8 hw
    rw [← gr_eq pc0 tg, ← fw_eq tg] at rl
    have ck : CK s x2 := CK_trans (CI_CK hC) (fun j hj => m2 j (by omega))
    have rk : RK x2 y2 := RK_trans r7 ⟨fun j hj => g2 j (by omega), by rw [g2 81 (by omega)]⟩
    have refr : ∀ v, Runs xs sl (998+1) 233 34 [some (.ref (81)), some (.int ( nI k)), some (.int ( nI t)), some (.int ( nI w)), none, none, none] [] (hp J (y2) g) (some (.int v), hp J y2 g) → Runs xs sl (999) 233 0 [some (.ref (81)), some (.int ( nI k)), some (.int ( nI t)), some (.int ( nI w)), none, none, none] [] (hp J (x2) g) (some (.int v), hp J y2 g) := by
      intro v hv
      have r4' := @r4 994
      have lg : ∀ {r : Option Value × mH}, Runs xs sl (998) 234 0 [some (.ref (81)), some (.int ( nI t)), none, none, none, none, none] [] (hp J (rTown x2 k) g) r ↔ r = (none, hp J y2 g) := by
        intro r
        refine Runs.iff ?_
        simp (disch := first | omega | assumption | exact Or.inl rfl | exact Or.inr rfl | exact bI_or _ | exact zC81 | exact zC47 | exact zC65 | exact zC0 | exact zC1 | exact zC32 | exact zC70 | exact zC73 | exact ztc (by assumption) | exact zdc (by assumption) | exact zpc (by assumption) | decide) only [Option.some.injEq, exists_eq_left', ex2, Option.toList, List.singleton_append, List.append_nil, List.cons_append, List.nil_append, nI_add, nI_addL, nI_Ladd, pk_mul, nI_mulL, nI_Lmul, nI_subL, pk_sub, nI_divL, sub_dm, nI_leE, nI_ltE, nI_eqE, nI_Lle, nI_leL, nI_Llt, nI_ltL, nI_eqL, va_up_self, va_up_ne, up_up, up_comm, nI_clamp, bI_eq0, not_true_eq_false, not_false_eq_true, Nat.reduceEqDiff, Nat.reduceLeDiff, Nat.reduceAdd, Nat.reduceMul, Nat.one_ne_zero, Nat.zero_ne_one, decide_eq_false_iff_not, decide_eq_true_eq, Bool.false_eq_true, decide_true, decide_false, bI_true, bI_false, one_ne, Nat.le_refl, Nat.lt_irrefl, cleT, cleF, cltT, cltF, ceqT, ceqF, ↓reduceIte, r234_0, r234_1, r4']
        exact g1
      simp (disch := first | omega | assumption | exact Or.inl rfl | exact Or.inr rfl | exact bI_or _ | exact zC81 | exact zC47 | exact zC65 | exact zC0 | exact zC1 | exact zC32 | exact zC70 | exact zC73 | exact ztc (by assumption) | exact zdc (by assumption) | exact zpc (by assumption) | decide) only [Option.some.injEq, exists_eq_left', ex2, Option.toList, List.singleton_append, List.append_nil, List.cons_append, List.nil_append, nI_add, nI_addL, nI_Ladd, pk_mul, nI_mulL, nI_Lmul, nI_subL, pk_sub, nI_divL, sub_dm, nI_leE, nI_ltE, nI_eqE, nI_Lle, nI_leL, nI_Llt, nI_ltL, nI_eqL, va_up_self, va_up_ne, up_up, up_comm, nI_clamp, bI_eq0, not_true_eq_false, not_false_eq_true, Nat.reduceEqDiff, Nat.reduceLeDiff, Nat.reduceAdd, Nat.reduceMul, Nat.one_ne_zero, Nat.zero_ne_one, decide_eq_false_iff_not, decide_eq_true_eq, Bool.false_eq_true, decide_true, decide_false, bI_true, bI_false, one_ne, Nat.le_refl, Nat.lt_irrefl, cleT, cleF, cltT, cltF, ceqT, ceqF, ↓reduceIte, r233_0, r233_1, r233_2, r233_5, r233_8, r233_9, r233_10, r233_13, r233_16, r233_17, r233_18, r233_19, r233_22, r233_25, r233_28, r233_29, r233_30, r233_31, r1, rf_isTopic (x := nI t) r2, f_has_nI, rf_isInE, e1, lg]
      exact hv
    by_cases w0 : w = 0
    · subst w0
      rw [if_pos rfl] at rl
      refine ⟨.int (grC (x2 67) (2 ^ c)), x2, y2, g, ?_, ck, refr _ rl, rk⟩
      simp (disch := first | omega | assumption | exact Or.inl rfl | exact Or.inr rfl | exact bI_or _ | exact zC81 | exact zC47 | exact zC65 | exact zC0 | exact zC1 | exact zC32 | exact zC70 | exact zC73 | exact ztc (by assumption) | exact zdc (by assumption) | exact zpc (by assumption) | decide) only [Option.some.injEq, exists_eq_left', ex2, Option.toList, List.singleton_append, List.append_nil, List.cons_append, List.nil_append, nI_add, nI_addL, nI_Ladd, pk_mul, nI_mulL, nI_Lmul, nI_subL, pk_sub, nI_divL, sub_dm, nI_leE, nI_ltE, nI_eqE, nI_Lle, nI_leL, nI_Llt, nI_ltL, nI_eqL, va_up_self, va_up_ne, up_up, up_comm, nI_clamp, bI_eq0, not_true_eq_false, not_false_eq_true, Nat.reduceEqDiff, Nat.reduceLeDiff, Nat.reduceAdd, Nat.reduceMul, Nat.one_ne_zero, Nat.zero_ne_one, decide_eq_false_iff_not, decide_eq_true_eq, Bool.false_eq_true, decide_true, decide_false, bI_true, bI_false, one_ne, Nat.le_refl, Nat.lt_irrefl, cleT, cleF, cltT, cltF, ceqT, ceqF, ↓reduceIte, r16_0, r16_1, r16_2, r16_5, r16_5n, r16_7, r16_7n, r16_9, r16_9n, r16_12, r16_12n, r16_14, r16_15, r16_18, r16_21, r16_22, r16_25, r16_26, r16_27, r16_30, r16_33, r16_34, r16_35, r16_38, r16_38n, r16_40, r16_43, r16_44, r16_47, r16_48, r16_51, r16_52, r16_55, r16_56, r16_59, r16_62, r16_63, r16_64, r16_67, r16_70, r16_70_1, r16_72, r16_73, r16_74, r16_77, r16_79, r16_80, r16_83, r16_85, r16_88, r16_91, r16_93, br_townAt q0 q0'' hk, zx_hasTopic hiT, f_has_nI, t1, zO0_3, zO0_4, cb, m1.iff, ml_greatestTally x2L c8]
    · rw [if_neg w0] at rl
      have fg := @ml_fewestGiven xs sl 997 J x2 g c x2L c8
      have fl := fw_lt (P := fun v => !decide (x2 67 v ≤ 0)) (N := 2 ^ c) (2 ^ c) (Nat.le_refl _)
      have ef : it (fwS (fun v => !decide (x2 67 v ≤ 0))) (2 ^ c) none = fwF (fun v => !decide (x2 67 v ≤ 0)) (2 ^ c) := rfl
      rw [ef] at fl
      generalize fwF (fun v => !decide (x2 67 v ≤ 0)) (2 ^ c) = o at *
      cases o with
      | none =>
        refine ⟨.int (-1), x2, y2, g, ?_, ck, refr _ rl, rk⟩
        have h2 : w = 1 ∨ w = 2 := by omega
        rcases h2 with rfl | rfl
        · simp (disch := first | omega | assumption | exact Or.inl rfl | exact Or.inr rfl | exact bI_or _ | exact zC81 | exact zC47 | exact zC65 | exact zC0 | exact zC1 | exact zC32 | exact zC70 | exact zC73 | exact ztc (by assumption) | exact zdc (by assumption) | exact zpc (by assumption) | decide) only [Option.some.injEq, exists_eq_left', ex2, Option.toList, List.singleton_append, List.append_nil, List.cons_append, List.nil_append, nI_add, nI_addL, nI_Ladd, pk_mul, nI_mulL, nI_Lmul, nI_subL, pk_sub, nI_divL, sub_dm, nI_leE, nI_ltE, nI_eqE, nI_Lle, nI_leL, nI_Llt, nI_ltL, nI_eqL, va_up_self, va_up_ne, up_up, up_comm, nI_clamp, bI_eq0, not_true_eq_false, not_false_eq_true, Nat.reduceEqDiff, Nat.reduceLeDiff, Nat.reduceAdd, Nat.reduceMul, Nat.one_ne_zero, Nat.zero_ne_one, decide_eq_false_iff_not, decide_eq_true_eq, Bool.false_eq_true, decide_true, decide_false, bI_true, bI_false, one_ne, Nat.le_refl, Nat.lt_irrefl, cleT, cleF, cltT, cltF, ceqT, ceqF, ↓reduceIte, r16_0, r16_1, r16_2, r16_5, r16_5n, r16_7, r16_7n, r16_9, r16_9n, r16_12, r16_12n, r16_14, r16_15, r16_18, r16_21, r16_22, r16_25, r16_26, r16_27, r16_30, r16_33, r16_34, r16_35, r16_38, r16_38n, r16_40, r16_43, r16_44, r16_47, r16_48, r16_51, r16_52, r16_55, r16_56, r16_59, r16_62, r16_63, r16_64, r16_67, r16_70, r16_70_1, r16_72, r16_73, r16_74, r16_77, r16_79, r16_80, r16_83, r16_85, r16_88, r16_91, r16_93, br_townAt q0 q0'' hk, zx_hasTopic hiT, f_has_nI, t1, zO0_3, zO0_4, cb, m1.iff, fg, oI]
        · simp (disch := first | omega | assumption | exact Or.inl rfl | exact Or.inr rfl | exact bI_or _ | exact zC81 | exact zC47 | exact zC65 | exact zC0 | exact zC1 | exact zC32 | exact zC70 | exact zC73 | exact ztc (by assumption) | exact zdc (by assumption) | exact zpc (by assumption) | decide) only [Option.some.injEq, exists_eq_left', ex2, Option.toList, List.singleton_append, List.append_nil, List.cons_append, List.nil_append, nI_add, nI_addL, nI_Ladd, pk_mul, nI_mulL, nI_Lmul, nI_subL, pk_sub, nI_divL, sub_dm, nI_leE, nI_ltE, nI_eqE, nI_Lle, nI_leL, nI_Llt, nI_ltL, nI_eqL, va_up_self, va_up_ne, up_up, up_comm, nI_clamp, bI_eq0, not_true_eq_false, not_false_eq_true, Nat.reduceEqDiff, Nat.reduceLeDiff, Nat.reduceAdd, Nat.reduceMul, Nat.one_ne_zero, Nat.zero_ne_one, decide_eq_false_iff_not, decide_eq_true_eq, Bool.false_eq_true, decide_true, decide_false, bI_true, bI_false, one_ne, Nat.le_refl, Nat.lt_irrefl, cleT, cleF, cltT, cltF, ceqT, ceqF, ↓reduceIte, r16_0, r16_1, r16_2, r16_5, r16_5n, r16_7, r16_7n, r16_9, r16_9n, r16_12, r16_12n, r16_14, r16_15, r16_18, r16_21, r16_22, r16_25, r16_26, r16_27, r16_30, r16_33, r16_34, r16_35, r16_38, r16_38n, r16_40, r16_43, r16_44, r16_47, r16_48, r16_51, r16_52, r16_55, r16_56, r16_59, r16_62, r16_63, r16_64, r16_67, r16_70, r16_70_1, r16_72, r16_73, r16_74, r16_77, r16_79, r16_80, r16_83, r16_85, r16_88, r16_91, r16_93, br_townAt q0 q0'' hk, zx_hasTopic hiT, f_has_nI, t1, zO0_3, zO0_4, cb, m1.iff, fg, oI]
      | some b =>
        have b8 := fl b rfl
        have b2 := @zx_bitCount xs sl 998 (hp J x2 g) b (by omega)
        have nm : ¬ nI b = -1 := by
          intro z
          have h0 := nI_pos (n := b) (by omega)
          rw [z] at h0
          exact h0 (by decide)
        dsimp only at rl
        refine ⟨.int (if w = 2 then nI b else nI (bc b)), x2, y2, g, ?_, ck, refr _ rl, rk⟩
        have h2 : w = 1 ∨ w = 2 := by omega
        rcases h2 with rfl | rfl
        · simp (disch := first | omega | assumption | exact Or.inl rfl | exact Or.inr rfl | exact bI_or _ | exact zC81 | exact zC47 | exact zC65 | exact zC0 | exact zC1 | exact zC32 | exact zC70 | exact zC73 | exact ztc (by assumption) | exact zdc (by assumption) | exact zpc (by assumption) | decide) only [Option.some.injEq, exists_eq_left', ex2, Option.toList, List.singleton_append, List.append_nil, List.cons_append, List.nil_append, nI_add, nI_addL, nI_Ladd, pk_mul, nI_mulL, nI_Lmul, nI_subL, pk_sub, nI_divL, sub_dm, nI_leE, nI_ltE, nI_eqE, nI_Lle, nI_leL, nI_Llt, nI_ltL, nI_eqL, va_up_self, va_up_ne, up_up, up_comm, nI_clamp, bI_eq0, not_true_eq_false, not_false_eq_true, Nat.reduceEqDiff, Nat.reduceLeDiff, Nat.reduceAdd, Nat.reduceMul, Nat.one_ne_zero, Nat.zero_ne_one, decide_eq_false_iff_not, decide_eq_true_eq, Bool.false_eq_true, decide_true, decide_false, bI_true, bI_false, one_ne, Nat.le_refl, Nat.lt_irrefl, cleT, cleF, cltT, cltF, ceqT, ceqF, ↓reduceIte, r16_0, r16_1, r16_2, r16_5, r16_5n, r16_7, r16_7n, r16_9, r16_9n, r16_12, r16_12n, r16_14, r16_15, r16_18, r16_21, r16_22, r16_25, r16_26, r16_27, r16_30, r16_33, r16_34, r16_35, r16_38, r16_38n, r16_40, r16_43, r16_44, r16_47, r16_48, r16_51, r16_52, r16_55, r16_56, r16_59, r16_62, r16_63, r16_64, r16_67, r16_70, r16_70_1, r16_72, r16_73, r16_74, r16_77, r16_79, r16_80, r16_83, r16_85, r16_88, r16_91, r16_93, br_townAt q0 q0'' hk, zx_hasTopic hiT, f_has_nI, t1, zO0_3, zO0_4, cb, m1.iff, fg, oI, nm, b2]
        · simp (disch := first | omega | assumption | exact Or.inl rfl | exact Or.inr rfl | exact bI_or _ | exact zC81 | exact zC47 | exact zC65 | exact zC0 | exact zC1 | exact zC32 | exact zC70 | exact zC73 | exact ztc (by assumption) | exact zdc (by assumption) | exact zpc (by assumption) | decide) only [Option.some.injEq, exists_eq_left', ex2, Option.toList, List.singleton_append, List.append_nil, List.cons_append, List.nil_append, nI_add, nI_addL, nI_Ladd, pk_mul, nI_mulL, nI_Lmul, nI_subL, pk_sub, nI_divL, sub_dm, nI_leE, nI_ltE, nI_eqE, nI_Lle, nI_leL, nI_Llt, nI_ltL, nI_eqL, va_up_self, va_up_ne, up_up, up_comm, nI_clamp, bI_eq0, not_true_eq_false, not_false_eq_true, Nat.reduceEqDiff, Nat.reduceLeDiff, Nat.reduceAdd, Nat.reduceMul, Nat.one_ne_zero, Nat.zero_ne_one, decide_eq_false_iff_not, decide_eq_true_eq, Bool.false_eq_true, decide_true, decide_false, bI_true, bI_false, one_ne, Nat.le_refl, Nat.lt_irrefl, cleT, cleF, cltT, cltF, ceqT, ceqF, ↓reduceIte, r16_0, r16_1, r16_2, r16_5, r16_5n, r16_7, r16_7n, r16_9, r16_9n, r16_12, r16_12n, r16_14, r16_15, r16_18, r16_21, r16_22, r16_25, r16_26, r16_27, r16_30, r16_33, r16_34, r16_35, r16_38, r16_38n, r16_40, r16_43, r16_44, r16_47, r16_48, r16_51, r16_52, r16_55, r16_56, r16_59, r16_62, r16_63, r16_64, r16_67, r16_70, r16_70_1, r16_72, r16_73, r16_74, r16_77, r16_79, r16_80, r16_83, r16_85, r16_88, r16_91, r16_93, br_townAt q0 q0'' hk, zx_hasTopic hiT, f_has_nI, t1, zO0_3, zO0_4, cb, m1.iff, fg, oI, nm]
end SH3
