/-! TEXT: the reference's line of a visit -/
section TXS
variable {xs : Nat → Int32} {sl d : Nat} {J : hJk} {s x y : hS} {g : hG}
theorem nuS_F {b : Nat → Nat} {N : Nat} {ok ok' : Bool} {σ : TxS} (h : σ.2.2.1 ≠ 0) : nuS b N ok σ = nuS b N ok' σ := by
  have key : ∀ (ok : Bool) q, (if ok = true then σ else noS 2 q σ) = σ := by
    intro ok q
    cases ok
    · rw [if_neg (by decide)]; unfold noS; rw [if_neg h]
    · rw [if_pos rfl]
  unfold nuS
  rw [key, key]
theorem rl_visit {b : Nat → Nat} {N : Nat} {σ1 : TxS} (hM : RM b N σ1 s) : ∃ t : hS, Runs xs sl (d+3+1+1+1+1) 190 0 [some (.ref (81)), none, none] [] (hp J (s) g) (none, hp J t g) ∧ RM b N (stI b N 4 σ1 2) t ∧ LF s t ∧ (∀ i, i < 21 → t 84 i = s 84 i) ∧ ((stI b N 4 σ1 2).1 = false → (stI b N 4 σ1 2).2.2.1 = 0 → t 84 = va_up (s 84) (21 + slV b N σ1) (s 84 (21 + slV b N σ1) ||| ((1 : Int32) <<< (nI (slV b N (stI b N 4 σ1 1)) &&& 31))) ∧ t 81 9 = (if (if s 81 9 < nI (slV b N σ1) then nI (slV b N σ1) else s 81 9) < nI (slV b N (stI b N 4 σ1 1)) then nI (slV b N (stI b N 4 σ1 1)) else (if s 81 9 < nI (slV b N σ1) then nI (slV b N σ1) else s 81 9)) ∧ t 81 10 = s 81 10) := by
  have hN6 : N ≤ 600 := hM.1.2.1
  obtain ⟨v0, t1, a1, a2, a3, a84, a10, a9, a5, a6⟩ := @rf_houseTold xs sl d J s g b N σ1 hM
  have a2 : RM b N (stI b N 4 σ1 1) t1 := a2
  have e2 : stI b N 4 σ1 2 = nuS b N (okN 97 (slV b N σ1) (slV b N (stI b N 4 σ1 1))) (stI b N 4 σ1 1) := rfl
  have s0 : (stI b N 4 σ1 1).1 = false → (stI b N 4 σ1 1).2.2.1 = 0 → v0 = slV b N σ1 ∧ slV b N σ1 < 8 := by
    intro hw hF
    obtain ⟨w1, F1, o1⟩ := slS_ok (c := 104) hw hF
    have o1 : slV b N σ1 < 8 := of_decide_eq_true o1
    exact ⟨a6 hw o1, o1⟩
  have st : ∃ (t2 : hS) (τ : TxS), RM b N τ t2 ∧ RF t1 t2 ∧ slV b N τ = slV b N (stI b N 4 σ1 1) ∧ nuS b N (decide (slV b N τ < 8)) τ = stI b N 4 σ1 2 ∧ ∀ z, Runs xs sl (d+3+1+1+1+1) 190 37 [some (.ref (81)), some (.int ( nI v0)), none] [] (hp J (t2) g) z → Runs xs sl (d+3+1+1+1+1) 190 5 [some (.ref (81)), some (.int ( nI v0)), none] [] (hp J (t1) g) z := by
    rw [e2]
    generalize hτ : stI b N 4 σ1 1 = τ at *
    obtain ⟨w, p, F, P⟩ := τ
    obtain ⟨hT, hpN, hh, h⟩ := id a2
    cases w
    case true =>
      obtain ⟨h8, -⟩ := hh rfl
      have n : ¬ (1 : Int32) = 0 := by decide
      refine ⟨t1, _, a2, RF_refl t1, rfl, by rw [nuS_w rfl, nuS_w rfl], fun z hz => ?_⟩
      simp (disch := first | omega | assumption | exact Or.inl rfl | exact Or.inr rfl | exact bI_or _ | exact zC81 | exact zC47 | exact zC65 | exact zC0 | exact zC1 | exact zC32 | exact zC70 | exact zC73 | exact ztc (by assumption) | exact zdc (by assumption) | exact zpc (by assumption) | decide) only [Option.some.injEq, exists_eq_left', ex2, Option.toList, List.singleton_append, List.append_nil, List.cons_append, List.nil_append, nI_add, nI_addL, nI_Ladd, pk_mul, nI_mulL, nI_Lmul, nI_subL, pk_sub, nI_divL, sub_dm, nI_leE, nI_ltE, nI_eqE, nI_Lle, nI_leL, nI_Llt, nI_ltL, nI_eqL, va_up_self, va_up_ne, up_up, up_comm, nI_clamp, bI_eq0, not_true_eq_false, not_false_eq_true, Nat.reduceEqDiff, Nat.reduceLeDiff, Nat.reduceAdd, Nat.reduceMul, Nat.one_ne_zero, Nat.zero_ne_one, decide_eq_false_iff_not, decide_eq_true_eq, Bool.false_eq_true, decide_true, decide_false, bI_true, bI_false, one_ne, Nat.le_refl, Nat.lt_irrefl, cleT, cleF, cltT, cltF, ceqT, ceqF, ↓reduceIte, r190_5, r190_6, r190_9, r190_12, r190_13, r190_16, r190_17, r190_20, r190_21, r190_24, r190_25, r190_28, r190_29, r190_30, r190_31, r190_34, zO81_8, h8, n]
      exact hz
    case false =>
    obtain ⟨h8, h5, h6, hP, k4, k5, k6, k7, k3⟩ := h rfl
    have h5 : t1 82 5 = nI F := h5
    have h6 : F < 6 := h6
    have hpN : p ≤ N := hpN
    have hP : F ≠ 0 → t1 82 6 = nI P ∧ (P < p ∨ (P = rn isBl b N p ∧ F ≤ 2)) := hP
    have k4 : t1 81 4 = nI (rn isBl b N p) := k4
    have k5 : t1 81 5 = nI (kQ b N (rn isBl b N p)) := k5
    have k6 : kQ b N (rn isBl b N p) = 1 → t1 81 6 = nI (vQ b N (rn isBl b N p)) := k6
    have s0 : F = 0 → v0 = slV b N σ1 ∧ slV b N σ1 < 8 := fun hF => s0 rfl hF
    obtain ⟨r1, r2, r3, r4⟩ := rn_prop (P := isBl) (b := b) (N := N) (N - p) p (by omega)
    have hsv : slV b N (false, p, F, P) = vQ b N (rn isBl b N p) := rfl
    have kc := kQ_cases b N (rn isBl b N p)
    by_cases k1 : kQ b N (rn isBl b N p) = 1
    · have v6 := k6 k1
      have v100 := (vQ_num k1).1
      have k1' := eq_true k1
      by_cases cv : vQ b N (rn isBl b N p) = v0
      · have cv' := eq_true cv
        have al := @rf_also xs sl (d + 3 + 1 + 1 + 1) J t1 g F P (rn isBl b N p) 2 2 rfl (by decide) (by omega) h8 h5 (fun hF => ⟨(hP hF).1, by have := (hP hF).2; omega⟩) (by omega)
        by_cases cF : F = 0
        · subst cF
          rw [if_pos rfl] at al
          obtain ⟨s1, s2⟩ := s0 rfl
          generalize hs1 : va_up t1 82 (va_up (va_up (t1 82) 5 2) 6 (nI (rn isBl b N p))) = t2 at al
          have f1 : RF t1 t2 := by
            rw [← hs1]
            refine ⟨fun c h h' => ?_, fun j hj => ?_, fun i h => ?_⟩
            · rw [va_up_ne _ _ h']
            · rw [va_up_ne _ _ (by decide)]
            · rcases h with ⟨h, h'⟩ | h
              · rw [va_up_self, va_up_ne _ _ h', va_up_ne _ _ h]
              · rw [va_up_self, va_up_ne _ _ (by decide), va_up_self] at h; exact absurd h (by decide)
          have x81 : t2 81 = t1 81 := by rw [← hs1, va_up_ne _ _ (by decide)]
          refine ⟨t2, (false, p, 2, rn isBl b N p), ⟨RF_tp f1 hT, hpN, fun h => (by cases h), fun _ => ⟨by rw [x81]; exact h8, by rw [← hs1]; simp (disch := first | omega | assumption | exact Or.inl rfl | exact Or.inr rfl | exact bI_or _ | exact zC81 | exact zC47 | exact zC65 | exact zC0 | exact zC1 | exact zC32 | exact zC70 | exact zC73 | exact ztc (by assumption) | exact zdc (by assumption) | exact zpc (by assumption) | decide) only [Option.some.injEq, exists_eq_left', ex2, Option.toList, List.singleton_append, List.append_nil, List.cons_append, List.nil_append, nI_add, nI_addL, nI_Ladd, pk_mul, nI_mulL, nI_Lmul, nI_subL, pk_sub, nI_divL, sub_dm, nI_leE, nI_ltE, nI_eqE, nI_Lle, nI_leL, nI_Llt, nI_ltL, nI_eqL, va_up_self, va_up_ne, up_up, up_comm, nI_clamp, bI_eq0, not_true_eq_false, not_false_eq_true, Nat.reduceEqDiff, Nat.reduceLeDiff, Nat.reduceAdd, Nat.reduceMul, Nat.one_ne_zero, Nat.zero_ne_one, decide_eq_false_iff_not, decide_eq_true_eq, Bool.false_eq_true, decide_true, decide_false, bI_true, bI_false, one_ne, Nat.le_refl, Nat.lt_irrefl, cleT, cleF, cltT, cltF, ceqT, ceqF, ↓reduceIte]; rfl, (by decide : (2 : Nat) < 6), fun _ => ⟨by rw [← hs1]; simp (disch := first | omega | assumption | exact Or.inl rfl | exact Or.inr rfl | exact bI_or _ | exact zC81 | exact zC47 | exact zC65 | exact zC0 | exact zC1 | exact zC32 | exact zC70 | exact zC73 | exact ztc (by assumption) | exact zdc (by assumption) | exact zpc (by assumption) | decide) only [Option.some.injEq, exists_eq_left', ex2, Option.toList, List.singleton_append, List.append_nil, List.cons_append, List.nil_append, nI_add, nI_addL, nI_Ladd, pk_mul, nI_mulL, nI_Lmul, nI_subL, pk_sub, nI_divL, sub_dm, nI_leE, nI_ltE, nI_eqE, nI_Lle, nI_leL, nI_Llt, nI_ltL, nI_eqL, va_up_self, va_up_ne, up_up, up_comm, nI_clamp, bI_eq0, not_true_eq_false, not_false_eq_true, Nat.reduceEqDiff, Nat.reduceLeDiff, Nat.reduceAdd, Nat.reduceMul, Nat.one_ne_zero, Nat.zero_ne_one, decide_eq_false_iff_not, decide_eq_true_eq, Bool.false_eq_true, decide_true, decide_false, bI_true, bI_false, one_ne, Nat.le_refl, Nat.lt_irrefl, cleT, cleF, cltT, cltF, ceqT, ceqF, ↓reduceIte], Or.inr ⟨rfl, Nat.le_refl 2⟩⟩, by unfold TKp; rw [x81]; exact ⟨k4, k5, k6, k7, k3⟩⟩⟩, f1, rfl, ?_, fun z hz => ?_⟩
          · have eo : okN 97 (slV b N σ1) (slV b N (false, p, 0, P)) = false := by
              rw [hsv, cv, s1]
              show (decide (slV b N σ1 < 8) && !decide (slV b N σ1 = slV b N σ1)) = false
              rw [decide_eq_true rfl]
              exact Bool.and_false _
            rw [eo, nuS_F (ok' := true) (σ := (false, p, 2, rn isBl b N p)) (fun h => absurd (show (2 : Nat) = 0 from h) (by decide))]
            unfold nuS
            rw [if_neg (show ¬ false = true by decide), if_neg (show ¬ false = true by decide), if_pos k1, if_pos k1]
            rfl
          · simp (disch := first | omega | assumption | exact Or.inl rfl | exact Or.inr rfl | exact bI_or _ | exact zC81 | exact zC47 | exact zC65 | exact zC0 | exact zC1 | exact zC32 | exact zC70 | exact zC73 | exact ztc (by assumption) | exact zdc (by assumption) | exact zpc (by assumption) | decide) only [Option.some.injEq, exists_eq_left', ex2, Option.toList, List.singleton_append, List.append_nil, List.cons_append, List.nil_append, nI_add, nI_addL, nI_Ladd, pk_mul, nI_mulL, nI_Lmul, nI_subL, pk_sub, nI_divL, sub_dm, nI_leE, nI_ltE, nI_eqE, nI_Lle, nI_leL, nI_Llt, nI_ltL, nI_eqL, va_up_self, va_up_ne, up_up, up_comm, nI_clamp, bI_eq0, not_true_eq_false, not_false_eq_true, Nat.reduceEqDiff, Nat.reduceLeDiff, Nat.reduceAdd, Nat.reduceMul, Nat.one_ne_zero, Nat.zero_ne_one, decide_eq_false_iff_not, decide_eq_true_eq, Bool.false_eq_true, decide_true, decide_false, bI_true, bI_false, one_ne, Nat.le_refl, Nat.lt_irrefl, cleT, cleF, cltT, cltF, ceqT, ceqF, ↓reduceIte, r190_5, r190_6, r190_9, r190_12, r190_13, r190_16, r190_17, r190_20, r190_21, r190_24, r190_25, r190_28, r190_29, r190_30, r190_31, r190_34, zO81_4, zO81_5, zO81_6, zO81_8, h8, k4, k5, k1', v6, cv', al]
            exact hz
        · rw [if_neg cF] at al
          refine ⟨t1, _, a2, RF_refl t1, rfl, nuS_F cF, fun z hz => ?_⟩
          simp (disch := first | omega | assumption | exact Or.inl rfl | exact Or.inr rfl | exact bI_or _ | exact zC81 | exact zC47 | exact zC65 | exact zC0 | exact zC1 | exact zC32 | exact zC70 | exact zC73 | exact ztc (by assumption) | exact zdc (by assumption) | exact zpc (by assumption) | decide) only [Option.some.injEq, exists_eq_left', ex2, Option.toList, List.singleton_append, List.append_nil, List.cons_append, List.nil_append, nI_add, nI_addL, nI_Ladd, pk_mul, nI_mulL, nI_Lmul, nI_subL, pk_sub, nI_divL, sub_dm, nI_leE, nI_ltE, nI_eqE, nI_Lle, nI_leL, nI_Llt, nI_ltL, nI_eqL, va_up_self, va_up_ne, up_up, up_comm, nI_clamp, bI_eq0, not_true_eq_false, not_false_eq_true, Nat.reduceEqDiff, Nat.reduceLeDiff, Nat.reduceAdd, Nat.reduceMul, Nat.one_ne_zero, Nat.zero_ne_one, decide_eq_false_iff_not, decide_eq_true_eq, Bool.false_eq_true, decide_true, decide_false, bI_true, bI_false, one_ne, Nat.le_refl, Nat.lt_irrefl, cleT, cleF, cltT, cltF, ceqT, ceqF, ↓reduceIte, r190_5, r190_6, r190_9, r190_12, r190_13, r190_16, r190_17, r190_20, r190_21, r190_24, r190_25, r190_28, r190_29, r190_30, r190_31, r190_34, zO81_4, zO81_5, zO81_6, zO81_8, h8, k4, k5, k1', v6, cv', al]
          exact hz
      · refine ⟨t1, _, a2, RF_refl t1, rfl, ?_, fun z hz => ?_⟩
        · by_cases cF : F = 0
          · obtain ⟨s1, s2⟩ := s0 cF
            have eo : okN 97 (slV b N σ1) (slV b N (false, p, F, P)) = decide (slV b N (false, p, F, P) < 8) := by
              show (decide (slV b N (false, p, F, P) < 8) && !decide (slV b N (false, p, F, P) = slV b N σ1)) = _
              rw [decide_eq_false (show ¬ slV b N (false, p, F, P) = slV b N σ1 by rw [hsv, ← s1]; exact cv)]
              exact Bool.and_true _
            rw [eo]
          · exact nuS_F cF
        · simp (disch := first | omega | assumption | exact Or.inl rfl | exact Or.inr rfl | exact bI_or _ | exact zC81 | exact zC47 | exact zC65 | exact zC0 | exact zC1 | exact zC32 | exact zC70 | exact zC73 | exact ztc (by assumption) | exact zdc (by assumption) | exact zpc (by assumption) | decide) only [Option.some.injEq, exists_eq_left', ex2, Option.toList, List.singleton_append, List.append_nil, List.cons_append, List.nil_append, nI_add, nI_addL, nI_Ladd, pk_mul, nI_mulL, nI_Lmul, nI_subL, pk_sub, nI_divL, sub_dm, nI_leE, nI_ltE, nI_eqE, nI_Lle, nI_leL, nI_Llt, nI_ltL, nI_eqL, va_up_self, va_up_ne, up_up, up_comm, nI_clamp, bI_eq0, not_true_eq_false, not_false_eq_true, Nat.reduceEqDiff, Nat.reduceLeDiff, Nat.reduceAdd, Nat.reduceMul, Nat.one_ne_zero, Nat.zero_ne_one, decide_eq_false_iff_not, decide_eq_true_eq, Bool.false_eq_true, decide_true, decide_false, bI_true, bI_false, one_ne, Nat.le_refl, Nat.lt_irrefl, cleT, cleF, cltT, cltF, ceqT, ceqF, ↓reduceIte, r190_5, r190_6, r190_9, r190_12, r190_13, r190_16, r190_17, r190_20, r190_21, r190_24, r190_25, r190_28, r190_29, r190_30, r190_31, r190_34, zO81_4, zO81_5, zO81_6, zO81_8, h8, k4, k5, k1', v6, cv]
          exact hz
    · refine ⟨t1, _, a2, RF_refl t1, rfl, ?_, fun z hz => ?_⟩
      · unfold nuS
        rw [if_neg (show ¬ false = true by decide), if_neg (show ¬ false = true by decide), if_neg k1, if_neg k1]
      · simp (disch := first | omega | assumption | exact Or.inl rfl | exact Or.inr rfl | exact bI_or _ | exact zC81 | exact zC47 | exact zC65 | exact zC0 | exact zC1 | exact zC32 | exact zC70 | exact zC73 | exact ztc (by assumption) | exact zdc (by assumption) | exact zpc (by assumption) | decide) only [Option.some.injEq, exists_eq_left', ex2, Option.toList, List.singleton_append, List.append_nil, List.cons_append, List.nil_append, nI_add, nI_addL, nI_Ladd, pk_mul, nI_mulL, nI_Lmul, nI_subL, pk_sub, nI_divL, sub_dm, nI_leE, nI_ltE, nI_eqE, nI_Lle, nI_leL, nI_Llt, nI_ltL, nI_eqL, va_up_self, va_up_ne, up_up, up_comm, nI_clamp, bI_eq0, not_true_eq_false, not_false_eq_true, Nat.reduceEqDiff, Nat.reduceLeDiff, Nat.reduceAdd, Nat.reduceMul, Nat.one_ne_zero, Nat.zero_ne_one, decide_eq_false_iff_not, decide_eq_true_eq, Bool.false_eq_true, decide_true, decide_false, bI_true, bI_false, one_ne, Nat.le_refl, Nat.lt_irrefl, cleT, cleF, cltT, cltF, ceqT, ceqF, ↓reduceIte, r190_5, r190_6, r190_9, r190_12, r190_13, r190_16, r190_17, r190_20, r190_21, r190_24, r190_25, r190_28, r190_29, r190_30, r190_31, r190_34, zO81_5, zO81_8, h8, k5, k1]
        exact hz
  obtain ⟨t2, τ, m2, f2, sv, eτ, go⟩ := st
  obtain ⟨v1, t3, b1, b2, b3, b84, b10, b9, b5, b6⟩ := @rf_houseTold xs sl d J t2 g b N τ m2
  rw [eτ] at b2 b6
  obtain ⟨l1, l2, l3, l4⟩ := RF_LF f2
  have L3 := LF_trans (LF_trans a3 l1) b3
  have i1 := fun r => Runs.iff (r := r) a1
  have i3 := fun r => Runs.iff (r := r) b1
  have e84 : t3 84 = s 84 := by rw [b84, l2, a84]
  have bd : 21 + v0 < 161 := by omega
  refine ⟨va_up t3 84 (va_up (t3 84) (21 + v0) (t3 84 (21 + v0) ||| ((1 : Int32) <<< (nI v1 &&& 31)))), ?_, RM_84 _ b2, LF_trans L3 (LF_84 _ _), fun i hi => by rw [va_up_self, va_up_ne _ _ (by omega), e84], fun hw hF => ?_⟩
  · simp (disch := first | omega | assumption | exact Or.inl rfl | exact Or.inr rfl | exact bI_or _ | exact zC81 | exact zC47 | exact zC65 | exact zC0 | exact zC1 | exact zC32 | exact zC70 | exact zC73 | exact ztc (by assumption) | exact zdc (by assumption) | exact zpc (by assumption) | decide) only [Option.some.injEq, exists_eq_left', ex2, Option.toList, List.singleton_append, List.append_nil, List.cons_append, List.nil_append, nI_add, nI_addL, nI_Ladd, pk_mul, nI_mulL, nI_Lmul, nI_subL, pk_sub, nI_divL, sub_dm, nI_leE, nI_ltE, nI_eqE, nI_Lle, nI_leL, nI_Llt, nI_ltL, nI_eqL, va_up_self, va_up_ne, up_up, up_comm, nI_clamp, bI_eq0, not_true_eq_false, not_false_eq_true, Nat.reduceEqDiff, Nat.reduceLeDiff, Nat.reduceAdd, Nat.reduceMul, Nat.one_ne_zero, Nat.zero_ne_one, decide_eq_false_iff_not, decide_eq_true_eq, Bool.false_eq_true, decide_true, decide_false, bI_true, bI_false, one_ne, Nat.le_refl, Nat.lt_irrefl, cleT, cleF, cltT, cltF, ceqT, ceqF, ↓reduceIte, r190_0, r190_1, r190_4, r190_4_1, i1]
    refine go _ ?_
    simp (disch := first | omega | assumption | exact Or.inl rfl | exact Or.inr rfl | exact bI_or _ | exact zC81 | exact zC47 | exact zC65 | exact zC0 | exact zC1 | exact zC32 | exact zC70 | exact zC73 | exact ztc (by assumption) | exact zdc (by assumption) | exact zpc (by assumption) | decide) only [Option.some.injEq, exists_eq_left', ex2, Option.toList, List.singleton_append, List.append_nil, List.cons_append, List.nil_append, nI_add, nI_addL, nI_Ladd, pk_mul, nI_mulL, nI_Lmul, nI_subL, pk_sub, nI_divL, sub_dm, nI_leE, nI_ltE, nI_eqE, nI_Lle, nI_leL, nI_Llt, nI_ltL, nI_eqL, va_up_self, va_up_ne, up_up, up_comm, nI_clamp, bI_eq0, not_true_eq_false, not_false_eq_true, Nat.reduceEqDiff, Nat.reduceLeDiff, Nat.reduceAdd, Nat.reduceMul, Nat.one_ne_zero, Nat.zero_ne_one, decide_eq_false_iff_not, decide_eq_true_eq, Bool.false_eq_true, decide_true, decide_false, bI_true, bI_false, one_ne, Nat.le_refl, Nat.lt_irrefl, cleT, cleF, cltT, cltF, ceqT, ceqF, ↓reduceIte, r190_37, r190_38, r190_41, r190_42, r190_43, r190_46, r190_48, r190_49, r190_50, r190_51, r190_52, r190_53, r190_54, r190_55, r190_56, r190_57, i3, zO81_11, zA84, zS84, bd]
  · rw [e2] at hw hF
    obtain ⟨w2, F2, o2⟩ := nuS_ok hw hF
    obtain ⟨y0, y1⟩ := s0 w2 F2
    have o2 : (decide (slV b N (stI b N 4 σ1 1) < 8) && !decide (slV b N (stI b N 4 σ1 1) = slV b N σ1)) = true := o2
    rw [Bool.and_eq_true, decide_eq_true_eq] at o2
    have y2 := b6 hw (by rw [sv]; exact o2.1)
    rw [sv] at y2
    rw [va_up_self, va_up_ne _ _ (by decide), e84, ← y0, ← y2, b9, l3, a9, b10, l4, a10]
    exact ⟨rfl, rfl, rfl⟩
end TXS
