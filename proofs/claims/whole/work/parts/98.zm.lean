/-! TEXT: the class reads a line, whole -/
section TXM
variable {xs : Nat → Int32} {sl d : Nat} {J : hJk} {s x y : hS} {g : hG}
theorem shW_ok : ∀ v, v < 22 → shW v < 13 ∧ 0 < shW v := by decide +kernel
theorem cl_beginsLine_no {so : Nat} (h8 : s 32 8 = nI so) (hso : so < 3) {r : Option Value × mH} : Runs xs sl (d) 95 0 [some (.ref (32)), some (.int ( -1))] [] (hp J (s) g) r ↔ r = (some (.int 0), hp J s g) := by
  refine Runs.iff ?_
  have k : so = 0 ∨ so = 1 ∨ so = 2 := by omega
  rcases k with rfl | rfl | rfl
  · have h8 : s 32 8 = 0 := h8
    have e : ((-1 : Int32) < 11) = True := eq_true (by decide)
    simp (disch := first | omega | assumption | exact Or.inl rfl | exact Or.inr rfl | exact bI_or _ | exact zC81 | exact zC47 | exact zC65 | exact zC0 | exact zC1 | exact zC32 | exact zC70 | exact zC73 | exact ztc (by assumption) | exact zdc (by assumption) | exact zpc (by assumption) | decide) only [Option.some.injEq, exists_eq_left', ex2, Option.toList, List.singleton_append, List.append_nil, List.cons_append, List.nil_append, nI_add, nI_addL, nI_Ladd, pk_mul, nI_mulL, nI_Lmul, nI_subL, pk_sub, nI_divL, sub_dm, nI_leE, nI_ltE, nI_eqE, nI_Lle, nI_leL, nI_Llt, nI_ltL, nI_eqL, va_up_self, va_up_ne, up_up, up_comm, nI_clamp, bI_eq0, not_true_eq_false, not_false_eq_true, Nat.reduceEqDiff, Nat.reduceLeDiff, Nat.reduceAdd, Nat.reduceMul, Nat.one_ne_zero, Nat.zero_ne_one, decide_eq_false_iff_not, decide_eq_true_eq, Bool.false_eq_true, decide_true, decide_false, bI_true, bI_false, one_ne, Nat.le_refl, Nat.lt_irrefl, cleT, cleF, cltT, cltF, ceqT, ceqF, ↓reduceIte, r95_0, r95_1, r95_4_c0, r95_4_c1, r95_4_d, r95_32, r95_33, r95_35, r95_38, r95_39, r95_41, r95_44, r95_45, r95_48, r95_49, r95_50, r95_51, r95_52, r95_55, r95_56, r95_58, r95_61, r95_62, r95_65, r95_66, r95_67, r95_68, r95_70, r95_73, r95_74, r95_76, r95_79, r95_80, r95_82, r95_85, r95_86, r95_89, r95_90, zO32_8, h8, e]
  · have h8 : s 32 8 = 1 := h8
    have e : ((-1 : Int32) < 5) = True := eq_true (by decide)
    simp (disch := first | omega | assumption | exact Or.inl rfl | exact Or.inr rfl | exact bI_or _ | exact zC81 | exact zC47 | exact zC65 | exact zC0 | exact zC1 | exact zC32 | exact zC70 | exact zC73 | exact ztc (by assumption) | exact zdc (by assumption) | exact zpc (by assumption) | decide) only [Option.some.injEq, exists_eq_left', ex2, Option.toList, List.singleton_append, List.append_nil, List.cons_append, List.nil_append, nI_add, nI_addL, nI_Ladd, pk_mul, nI_mulL, nI_Lmul, nI_subL, pk_sub, nI_divL, sub_dm, nI_leE, nI_ltE, nI_eqE, nI_Lle, nI_leL, nI_Llt, nI_ltL, nI_eqL, va_up_self, va_up_ne, up_up, up_comm, nI_clamp, bI_eq0, not_true_eq_false, not_false_eq_true, Nat.reduceEqDiff, Nat.reduceLeDiff, Nat.reduceAdd, Nat.reduceMul, Nat.one_ne_zero, Nat.zero_ne_one, decide_eq_false_iff_not, decide_eq_true_eq, Bool.false_eq_true, decide_true, decide_false, bI_true, bI_false, one_ne, Nat.le_refl, Nat.lt_irrefl, cleT, cleF, cltT, cltF, ceqT, ceqF, ↓reduceIte, r95_0, r95_1, r95_4_c0, r95_4_c1, r95_4_d, r95_32, r95_33, r95_35, r95_38, r95_39, r95_41, r95_44, r95_45, r95_48, r95_49, r95_50, r95_51, r95_52, r95_55, r95_56, r95_58, r95_61, r95_62, r95_65, r95_66, r95_67, r95_68, r95_70, r95_73, r95_74, r95_76, r95_79, r95_80, r95_82, r95_85, r95_86, r95_89, r95_90, zO32_8, h8, e]
  · have h8 : s 32 8 = 2 := h8
    have e1 : ¬ (-1 : Int32) = 11 := by decide
    have e2 : ¬ (-1 : Int32) = 18 := by decide
    have e3 : ¬ (-1 : Int32) = 19 := by decide
    simp (disch := first | omega | assumption | exact Or.inl rfl | exact Or.inr rfl | exact bI_or _ | exact zC81 | exact zC47 | exact zC65 | exact zC0 | exact zC1 | exact zC32 | exact zC70 | exact zC73 | exact ztc (by assumption) | exact zdc (by assumption) | exact zpc (by assumption) | decide) only [Option.some.injEq, exists_eq_left', ex2, Option.toList, List.singleton_append, List.append_nil, List.cons_append, List.nil_append, nI_add, nI_addL, nI_Ladd, pk_mul, nI_mulL, nI_Lmul, nI_subL, pk_sub, nI_divL, sub_dm, nI_leE, nI_ltE, nI_eqE, nI_Lle, nI_leL, nI_Llt, nI_ltL, nI_eqL, va_up_self, va_up_ne, up_up, up_comm, nI_clamp, bI_eq0, not_true_eq_false, not_false_eq_true, Nat.reduceEqDiff, Nat.reduceLeDiff, Nat.reduceAdd, Nat.reduceMul, Nat.one_ne_zero, Nat.zero_ne_one, decide_eq_false_iff_not, decide_eq_true_eq, Bool.false_eq_true, decide_true, decide_false, bI_true, bI_false, one_ne, Nat.le_refl, Nat.lt_irrefl, cleT, cleF, cltT, cltF, ceqT, ceqF, ↓reduceIte, r95_0, r95_1, r95_4_c0, r95_4_c1, r95_4_d, r95_32, r95_33, r95_35, r95_38, r95_39, r95_41, r95_44, r95_45, r95_48, r95_49, r95_50, r95_51, r95_52, r95_55, r95_56, r95_58, r95_61, r95_62, r95_65, r95_66, r95_67, r95_68, r95_70, r95_73, r95_74, r95_76, r95_79, r95_80, r95_82, r95_85, r95_86, r95_89, r95_90, zO32_8, h8, e1, e2, e3]
theorem cl_readLine {b : Nat → Nat} {N so h sa c D cr : Nat} {σ : TxS} (hw : σ.1 = false) (hM : CM b N σ s) (h8 : s 32 8 = nI so) (hso : so < 3) (hK : CNT s h sa c D cr) (fu : Bool) (hfu : fu = fuW so (slV b N σ) h sa c D cr) : ∃ s1 s3 : hS, Runs xs sl (d+4+1+1+1) 88 0 [some (.ref (32))] [] (hp J (s) g) (none, hp J s1 g) ∧ TKC b N (rn isBl b N σ.2.1) s s1 ∧ CM b N (lnS b N so fu σ) s3 ∧ CF s s3 ∧ ((lnS b N so fu σ).1 = true → Runs xs sl (d+4+1+1+1) 94 0 [some (.ref (32)), none, none, none] [] (hp J (s1) g) (some (.int 0), hp J s3 g)) ∧ ((lnS b N so fu σ).1 = false → (kQ b N (rn isBl b N σ.2.1) = 3 ∧ bgW so (slV b N σ) = true ∧ slV b N σ < 22 ∧ lnS b N so fu σ = smS b N (lnI b N fu σ (shL (shW (slV b N σ))).length)) ∧ (∀ j, j < (shL (shW (slV b N σ))).length → s3 45 j = nI (slV b N (lnI b N fu σ j)) ∧ slV b N (lnI b N fu σ j) < 100) ∧ ((lnS b N so fu σ).2.2.1 ≠ 0 → Runs xs sl (d+4+1+1+1) 94 0 [some (.ref (32)), none, none, none] [] (hp J (s1) g) (some (.int 1), hp J s3 g)) ∧ ((lnS b N so fu σ).2.2.1 = 0 → ∀ s4 : hS, Runs xs sl (d+4+1+1) 102 0 [some (.ref (32)), some (.int ( nI (slV b N σ)))] [] (hp J (s3) g) (none, hp J s4 g) → Runs xs sl (d+4+1+1+1) 94 0 [some (.ref (32)), none, none, none] [] (hp J (s1) g) (some (.int 1), hp J s4 g))) := by
  obtain ⟨w, p, F, P⟩ := σ
  have hw : w = false := hw
  subst hw
  obtain ⟨hT, hpN, h9, h3⟩ := hM
  have h9 : s 32 9 = nI p := h9
  have hpN : p ≤ N := hpN
  obtain ⟨f3, f6, f4⟩ := h3 rfl
  have f3 : s 32 3 = nI F := f3
  have f6 : F < 6 := f6
  have f4 : F ≠ 0 → s 32 4 = nI P ∧ P < p := f4
  obtain ⟨s1, run1, tk⟩ := @cl_take xs sl (d + 1) J s g b N p hT h9 hpN
  have run1 := (show d + 1 + 4 + 1 + 1 = d + 4 + 1 + 1 + 1 by omega) ▸ run1
  obtain ⟨r1, r2, r3, r4⟩ := rn_prop (P := isBl) (b := b) (N := N) (N - p) p (by omega)
  have hN6 : N ≤ 600 := hT.2.2.1
  have hsv : slV b N (false, p, F, P) = vQ b N (rn isBl b N p) := rfl
  have hqq : rn isBl b N ((false, p, F, P) : TxS).2.1 = rn isBl b N p := rfl
  have hlB : lnB b N fu (false, p, F, P) = (false, eQ b N (rn isBl b N p), (if fu = true then noS 3 (rn isBl b N p) (false, p, F, P) else (false, p, F, P)).2.2) := rfl
  have hlS : lnS b N so fu (false, p, F, P) = if kQ b N (rn isBl b N p) = 3 ∧ bgW so (vQ b N (rn isBl b N p)) = true then smS b N (lnI b N fu (false, p, F, P) (shL (shW (vQ b N (rn isBl b N p)))).length) else (true, rn isBl b N p, 0, 0) := rfl
  have hlI : ∀ j, lnI b N fu (false, p, F, P) j = stI b N (shW (vQ b N (rn isBl b N p))) (lnB b N fu (false, p, F, P)) j := fun j => rfl
  rw [hsv, hqq]
  rw [hsv] at hfu
  generalize hq : rn isBl b N p = q at *
  generalize hv : vQ b N q = v at *
  refine ⟨s1, ?_⟩
  obtain ⟨no1, no3, -, no0⟩ := TKC_no tk
  have tk' := tk
  obtain ⟨t0, t1, t11, tk0, tk2, tk3, tk1, tk4⟩ := tk'
  have hT1 : tpC s1 b N := tpC_fr hT (t1 6 (by omega)) (t1 7 (by omega)) (t0 6 (by decide))
  have cf1 : CF s s1 := ⟨fun c h _ => t0 c h, fun j h => t1 j (by omega)⟩
  have g3 : s1 32 3 = nI F := (t1 3 (by omega)).trans f3
  have g8 : s1 32 8 = nI so := (t1 8 (by omega)).trans h8
  have cm1 : CM b N (true, q, 0, 0) s1 := ⟨hT1, r2, t11, fun h => by cases h⟩
  by_cases k3 : kQ b N q = 3
  · obtain ⟨v10, v12, v9⟩ := tk3 k3
    rw [hv] at v12
    have v22 : v < 22 := by rw [← hv]; exact (vQ_word k3).1
    have bg := @cl_beginsLine xs sl (d + 4 + 1 + 1) J s1 g so v g8 hso v22
    cases kb : bgW so v
    case false =>
      rw [kb] at bg
      rw [if_neg (fun h => by rw [kb] at h; cases h.2)] at hlS
      rw [hlS]
      refine ⟨s1, run1, tk, cm1, cf1, fun _ => ?_, fun h => by cases h⟩
      simp (disch := first | omega | assumption | exact Or.inl rfl | exact Or.inr rfl | exact bI_or _ | exact zC81 | exact zC47 | exact zC65 | exact zC0 | exact zC1 | exact zC32 | exact zC70 | exact zC73 | exact ztc (by assumption) | exact zdc (by assumption) | exact zpc (by assumption) | decide) only [Option.some.injEq, exists_eq_left', ex2, Option.toList, List.singleton_append, List.append_nil, List.cons_append, List.nil_append, nI_add, nI_addL, nI_Ladd, pk_mul, nI_mulL, nI_Lmul, nI_subL, pk_sub, nI_divL, sub_dm, nI_leE, nI_ltE, nI_eqE, nI_Lle, nI_leL, nI_Llt, nI_ltL, nI_eqL, va_up_self, va_up_ne, up_up, up_comm, nI_clamp, bI_eq0, not_true_eq_false, not_false_eq_true, Nat.reduceEqDiff, Nat.reduceLeDiff, Nat.reduceAdd, Nat.reduceMul, Nat.one_ne_zero, Nat.zero_ne_one, decide_eq_false_iff_not, decide_eq_true_eq, Bool.false_eq_true, decide_true, decide_false, bI_true, bI_false, one_ne, Nat.le_refl, Nat.lt_irrefl, cleT, cleF, cltT, cltF, ceqT, ceqF, ↓reduceIte, r94_0, r94_1, r94_4, r94_5, r94_8, r94_9, r94_10, r94_13, r94_16, r94_19, r94_20, zO32_10, zO32_12, v10, v12, bg]
    case true =>
      rw [kb] at bg
      rw [if_pos ⟨k3, kb⟩] at hlS
      have fl := @cl_isFull xs sl (d + 4 + 1 + 1) J s1 g so v h sa c D cr g8 hso v22 (by unfold CNT; rw [t0 33 (by decide), t0 41 (by decide), t0 43 (by decide)]; exact hK)
      rw [← hfu] at fl
      have so' := @cl_shapeOf xs sl v v22 (d + 4 + 1 + 1)
      obtain ⟨k13, k0⟩ := shW_ok v v22
      obtain ⟨eg, eN⟩ := eQ_gt (b := b) (N := N) (q := q) (by omega)
      -- behind the first word
      have st : ∃ s2 : hS, CM b N (lnB b N fu (false, p, F, P)) s2 ∧ CF s s2 ∧ s2 45 = s 45 ∧ ∀ z, Runs xs sl (d+4+1+1+1) 94 50 [some (.ref (32)), some (.int ( nI v)), some (.retAddr (shW v)), some (.int ( nI 0))] [] (hp J (s2) g) z → Runs xs sl (d+4+1+1+1) 94 0 [some (.ref (32)), none, none, none] [] (hp J (s1) g) z := by
        rw [hlB]
        cases fu
        case false =>
          refine ⟨s1, ⟨hT1, eN, v9, fun _ => ⟨g3, f6, fun hF => ⟨(t1 4 (by omega)).trans (f4 hF).1, by have := (f4 hF).2; show P < eQ b N q; omega⟩⟩⟩, cf1, t0 45 (by decide), fun z hz => ?_⟩
          have so1 := @so' (hp J s1 g)
          simp (disch := first | omega | assumption | exact Or.inl rfl | exact Or.inr rfl | exact bI_or _ | exact zC81 | exact zC47 | exact zC65 | exact zC0 | exact zC1 | exact zC32 | exact zC70 | exact zC73 | exact ztc (by assumption) | exact zdc (by assumption) | exact zpc (by assumption) | decide) only [Option.some.injEq, exists_eq_left', ex2, Option.toList, List.singleton_append, List.append_nil, List.cons_append, List.nil_append, nI_add, nI_addL, nI_Ladd, pk_mul, nI_mulL, nI_Lmul, nI_subL, pk_sub, nI_divL, sub_dm, nI_leE, nI_ltE, nI_eqE, nI_Lle, nI_leL, nI_Llt, nI_ltL, nI_eqL, va_up_self, va_up_ne, up_up, up_comm, nI_clamp, bI_eq0, not_true_eq_false, not_false_eq_true, Nat.reduceEqDiff, Nat.reduceLeDiff, Nat.reduceAdd, Nat.reduceMul, Nat.one_ne_zero, Nat.zero_ne_one, decide_eq_false_iff_not, decide_eq_true_eq, Bool.false_eq_true, decide_true, decide_false, bI_true, bI_false, one_ne, Nat.le_refl, Nat.lt_irrefl, cleT, cleF, cltT, cltF, ceqT, ceqF, ↓reduceIte, r94_0, r94_1, r94_4, r94_5, r94_8, r94_9, r94_10, r94_13, r94_16, r94_19, r94_20, r94_21, r94_22, r94_25, r94_25_1, r94_26, r94_27, r94_28, r94_31, r94_34, r94_35, r94_36, r94_37, r94_40, r94_43, r94_44, r94_47, r94_48, r94_49, zO32_10, zO32_12, v10, v12, bg, fl, so1]
          exact hz
        case true =>
          have nt := @cl_note xs sl (d + 4 + 1 + 1) J s1 g 3 (nI q)
          by_cases cF : F = 0
          · subst cF
            have g3' : s1 32 3 = 0 := g3
            rw [if_pos g3'] at nt
            generalize hs2 : va_up s1 32 (va_up (va_up (s1 32) 3 3) 4 (nI q)) = s2 at nt
            have u0 : ∀ c, c ≠ 32 → s2 c = s1 c := fun c h => by rw [← hs2, va_up_ne _ _ h]
            have u1 : ∀ j, j ≠ 3 → j ≠ 4 → s2 32 j = s1 32 j := fun j h h' => by rw [← hs2, va_up_self, va_up_ne _ _ h', va_up_ne _ _ h]
            have so2 := @so' (hp J s2 g)
            refine ⟨s2, ⟨tpC_fr hT1 (u1 6 (by decide) (by decide)) (u1 7 (by decide) (by decide)) (u0 6 (by decide)), eN, ?_, fun _ => ⟨?_, (by decide : (3 : Nat) < 6), fun _ => ⟨?_, eg⟩⟩⟩, ⟨fun c h h' => (u0 c h).trans (t0 c h), fun j h => (u1 j (by omega) (by omega)).trans (t1 j (by omega))⟩, (u0 45 (by decide)).trans (t0 45 (by decide)), fun z hz => ?_⟩
            · show s2 32 9 = _
              rw [u1 9 (by decide) (by decide)]; exact v9
            · rw [← hs2]; simp (disch := first | omega | assumption | exact Or.inl rfl | exact Or.inr rfl | exact bI_or _ | exact zC81 | exact zC47 | exact zC65 | exact zC0 | exact zC1 | exact zC32 | exact zC70 | exact zC73 | exact ztc (by assumption) | exact zdc (by assumption) | exact zpc (by assumption) | decide) only [Option.some.injEq, exists_eq_left', ex2, Option.toList, List.singleton_append, List.append_nil, List.cons_append, List.nil_append, nI_add, nI_addL, nI_Ladd, pk_mul, nI_mulL, nI_Lmul, nI_subL, pk_sub, nI_divL, sub_dm, nI_leE, nI_ltE, nI_eqE, nI_Lle, nI_leL, nI_Llt, nI_ltL, nI_eqL, va_up_self, va_up_ne, up_up, up_comm, nI_clamp, bI_eq0, not_true_eq_false, not_false_eq_true, Nat.reduceEqDiff, Nat.reduceLeDiff, Nat.reduceAdd, Nat.reduceMul, Nat.one_ne_zero, Nat.zero_ne_one, decide_eq_false_iff_not, decide_eq_true_eq, Bool.false_eq_true, decide_true, decide_false, bI_true, bI_false, one_ne, Nat.le_refl, Nat.lt_irrefl, cleT, cleF, cltT, cltF, ceqT, ceqF, ↓reduceIte]; rfl
            · rw [← hs2]; simp (disch := first | omega | assumption | exact Or.inl rfl | exact Or.inr rfl | exact bI_or _ | exact zC81 | exact zC47 | exact zC65 | exact zC0 | exact zC1 | exact zC32 | exact zC70 | exact zC73 | exact ztc (by assumption) | exact zdc (by assumption) | exact zpc (by assumption) | decide) only [Option.some.injEq, exists_eq_left', ex2, Option.toList, List.singleton_append, List.append_nil, List.cons_append, List.nil_append, nI_add, nI_addL, nI_Ladd, pk_mul, nI_mulL, nI_Lmul, nI_subL, pk_sub, nI_divL, sub_dm, nI_leE, nI_ltE, nI_eqE, nI_Lle, nI_leL, nI_Llt, nI_ltL, nI_eqL, va_up_self, va_up_ne, up_up, up_comm, nI_clamp, bI_eq0, not_true_eq_false, not_false_eq_true, Nat.reduceEqDiff, Nat.reduceLeDiff, Nat.reduceAdd, Nat.reduceMul, Nat.one_ne_zero, Nat.zero_ne_one, decide_eq_false_iff_not, decide_eq_true_eq, Bool.false_eq_true, decide_true, decide_false, bI_true, bI_false, one_ne, Nat.le_refl, Nat.lt_irrefl, cleT, cleF, cltT, cltF, ceqT, ceqF, ↓reduceIte]; rfl
            · simp (disch := first | omega | assumption | exact Or.inl rfl | exact Or.inr rfl | exact bI_or _ | exact zC81 | exact zC47 | exact zC65 | exact zC0 | exact zC1 | exact zC32 | exact zC70 | exact zC73 | exact ztc (by assumption) | exact zdc (by assumption) | exact zpc (by assumption) | decide) only [Option.some.injEq, exists_eq_left', ex2, Option.toList, List.singleton_append, List.append_nil, List.cons_append, List.nil_append, nI_add, nI_addL, nI_Ladd, pk_mul, nI_mulL, nI_Lmul, nI_subL, pk_sub, nI_divL, sub_dm, nI_leE, nI_ltE, nI_eqE, nI_Lle, nI_leL, nI_Llt, nI_ltL, nI_eqL, va_up_self, va_up_ne, up_up, up_comm, nI_clamp, bI_eq0, not_true_eq_false, not_false_eq_true, Nat.reduceEqDiff, Nat.reduceLeDiff, Nat.reduceAdd, Nat.reduceMul, Nat.one_ne_zero, Nat.zero_ne_one, decide_eq_false_iff_not, decide_eq_true_eq, Bool.false_eq_true, decide_true, decide_false, bI_true, bI_false, one_ne, Nat.le_refl, Nat.lt_irrefl, cleT, cleF, cltT, cltF, ceqT, ceqF, ↓reduceIte, r94_0, r94_1, r94_4, r94_5, r94_8, r94_9, r94_10, r94_13, r94_16, r94_19, r94_20, r94_21, r94_22, r94_25, r94_25_1, r94_26, r94_27, r94_28, r94_31, r94_34, r94_35, r94_36, r94_37, r94_40, r94_43, r94_44, r94_47, r94_48, r94_49, zO32_10, zO32_11, zO32_12, v10, v12, t11, bg, fl, nt, so2]
              exact hz
          · have g3' : ¬ s1 32 3 = 0 := by
              rw [g3]
              simp (disch := first | omega | assumption | exact Or.inl rfl | exact Or.inr rfl | exact bI_or _ | exact zC81 | exact zC47 | exact zC65 | exact zC0 | exact zC1 | exact zC32 | exact zC70 | exact zC73 | exact ztc (by assumption) | exact zdc (by assumption) | exact zpc (by assumption) | decide) only [Option.some.injEq, exists_eq_left', ex2, Option.toList, List.singleton_append, List.append_nil, List.cons_append, List.nil_append, nI_add, nI_addL, nI_Ladd, pk_mul, nI_mulL, nI_Lmul, nI_subL, pk_sub, nI_divL, sub_dm, nI_leE, nI_ltE, nI_eqE, nI_Lle, nI_leL, nI_Llt, nI_ltL, nI_eqL, va_up_self, va_up_ne, up_up, up_comm, nI_clamp, bI_eq0, not_true_eq_false, not_false_eq_true, Nat.reduceEqDiff, Nat.reduceLeDiff, Nat.reduceAdd, Nat.reduceMul, Nat.one_ne_zero, Nat.zero_ne_one, decide_eq_false_iff_not, decide_eq_true_eq, Bool.false_eq_true, decide_true, decide_false, bI_true, bI_false, one_ne, Nat.le_refl, Nat.lt_irrefl, cleT, cleF, cltT, cltF, ceqT, ceqF, ↓reduceIte, cF]
            rw [if_neg g3'] at nt
            have en : noS 3 q (false, p, F, P) = (false, p, F, P) := if_neg cF
            rw [if_pos rfl, en]
            have so1 := @so' (hp J s1 g)
            refine ⟨s1, ⟨hT1, eN, v9, fun _ => ⟨g3, f6, fun hF => ⟨(t1 4 (by omega)).trans (f4 hF).1, by have := (f4 hF).2; show P < eQ b N q; omega⟩⟩⟩, cf1, t0 45 (by decide), fun z hz => ?_⟩
            simp (disch := first | omega | assumption | exact Or.inl rfl | exact Or.inr rfl | exact bI_or _ | exact zC81 | exact zC47 | exact zC65 | exact zC0 | exact zC1 | exact zC32 | exact zC70 | exact zC73 | exact ztc (by assumption) | exact zdc (by assumption) | exact zpc (by assumption) | decide) only [Option.some.injEq, exists_eq_left', ex2, Option.toList, List.singleton_append, List.append_nil, List.cons_append, List.nil_append, nI_add, nI_addL, nI_Ladd, pk_mul, nI_mulL, nI_Lmul, nI_subL, pk_sub, nI_divL, sub_dm, nI_leE, nI_ltE, nI_eqE, nI_Lle, nI_leL, nI_Llt, nI_ltL, nI_eqL, va_up_self, va_up_ne, up_up, up_comm, nI_clamp, bI_eq0, not_true_eq_false, not_false_eq_true, Nat.reduceEqDiff, Nat.reduceLeDiff, Nat.reduceAdd, Nat.reduceMul, Nat.one_ne_zero, Nat.zero_ne_one, decide_eq_false_iff_not, decide_eq_true_eq, Bool.false_eq_true, decide_true, decide_false, bI_true, bI_false, one_ne, Nat.le_refl, Nat.lt_irrefl, cleT, cleF, cltT, cltF, ceqT, ceqF, ↓reduceIte, r94_0, r94_1, r94_4, r94_5, r94_8, r94_9, r94_10, r94_13, r94_16, r94_19, r94_20, r94_21, r94_22, r94_25, r94_25_1, r94_26, r94_27, r94_28, r94_31, r94_34, r94_35, r94_36, r94_37, r94_40, r94_43, r94_44, r94_47, r94_48, r94_49, zO32_10, zO32_11, zO32_12, v10, v12, t11, bg, fl, nt, so1]
            exact hz
      obtain ⟨s2, cm2, cf2, e45, go2⟩ := st
      obtain ⟨s3, w1, w2, w3, w4⟩ := @cl_slots xs sl d J g b N (shW v) v (lnB b N fu (false, p, F, P)) k13 k0 (shL (shW v)).length 0 s2 (by omega) rfl cm2 (fun j hj => by omega)
      rw [← hlI] at w1 w3 w4
      generalize hτ : lnI b N fu (false, p, F, P) (shL (shW v)).length = τ at *
      rw [hlS]
      cases hτw : τ.1
      case true =>
        rw [seS_w hτw]
        exact ⟨s3, run1, tk, w1, CF_trans cf2 w2, fun _ => go2 _ (w3 hτw), fun h => by rw [hτw] at h; cases h⟩
      case false =>
      obtain ⟨z1, z2⟩ := w4 hτw
      obtain ⟨w', p', F', P'⟩ := τ
      have hτw : w' = false := hτw
      subst hτw
      obtain ⟨aT, apN, a9, a3⟩ := w1
      have a9 : s3 32 9 = nI p' := a9
      have apN : p' ≤ N := apN
      obtain ⟨b3, b6, b4⟩ := a3 rfl
      have b3 : s3 32 3 = nI F' := b3
      have b6 : F' < 6 := b6
      have b4 : F' ≠ 0 → s3 32 4 = nI P' ∧ P' < p' := b4
      obtain ⟨s4, run4, tk4'⟩ := @cl_take xs sl d J s3 g b N p' aT a9 apN
      obtain ⟨y1, y2, y3, y4⟩ := rn_prop (P := isBl) (b := b) (N := N) (N - p') p' (by omega)
      have hse : smS b N (false, p', F', P') = if kQ b N (rn isBl b N p') = 2 then (false, eQ b N (rn isBl b N p'), F', P') else (true, rn isBl b N p', 0, 0) := rfl
      generalize hq' : rn isBl b N p' = q' at *
      obtain ⟨-, -, no2, -⟩ := TKC_no tk4'
      obtain ⟨x0, x1, x11, xk0, xk2, xk3, xk1, xk4⟩ := tk4'
      have xT : tpC s4 b N := tpC_fr aT (x1 6 (by omega)) (x1 7 (by omega)) (x0 6 (by decide))
      have xf : CF s3 s4 := ⟨fun c h _ => x0 c h, fun j h => x1 j (by omega)⟩
      have i4 := fun r => Runs.iff (r := r) run4
      have x3 : s4 32 3 = nI F' := (x1 3 (by omega)).trans b3
      by_cases k2 : kQ b N q' = 2
      · obtain ⟨m10, m9⟩ := xk2 k2
        have m10' := eq_true m10
        obtain ⟨eg', eN'⟩ := eQ_gt (b := b) (N := N) (q := q') (by omega)
        rw [if_pos k2] at hse
        rw [hse]
        refine ⟨s4, run1, tk, ⟨xT, eN', m9, fun _ => ⟨x3, b6, fun hF => ⟨(x1 4 (by omega)).trans (b4 hF).1, by have := (b4 hF).2; show P' < eQ b N q'; omega⟩⟩⟩, CF_trans (CF_trans cf2 w2) xf, fun h => (by cases h), fun _ => ⟨⟨k3, rfl, v22, rfl⟩, fun j hj => ?_, fun hF => ?_, fun hF s5 r5 => ?_⟩⟩
        · rw [x0 45 (by decide), hlI]; exact z1 j hj
        · have hF : F' ≠ 0 := hF
          refine go2 _ (z2 _ ?_)
          have nF : ¬ nI F' = 0 := by simp (disch := first | omega | assumption | exact Or.inl rfl | exact Or.inr rfl | exact bI_or _ | exact zC81 | exact zC47 | exact zC65 | exact zC0 | exact zC1 | exact zC32 | exact zC70 | exact zC73 | exact ztc (by assumption) | exact zdc (by assumption) | exact zpc (by assumption) | decide) only [Option.some.injEq, exists_eq_left', ex2, Option.toList, List.singleton_append, List.append_nil, List.cons_append, List.nil_append, nI_add, nI_addL, nI_Ladd, pk_mul, nI_mulL, nI_Lmul, nI_subL, pk_sub, nI_divL, sub_dm, nI_leE, nI_ltE, nI_eqE, nI_Lle, nI_leL, nI_Llt, nI_ltL, nI_eqL, va_up_self, va_up_ne, up_up, up_comm, nI_clamp, bI_eq0, not_true_eq_false, not_false_eq_true, Nat.reduceEqDiff, Nat.reduceLeDiff, Nat.reduceAdd, Nat.reduceMul, Nat.one_ne_zero, Nat.zero_ne_one, decide_eq_false_iff_not, decide_eq_true_eq, Bool.false_eq_true, decide_true, decide_false, bI_true, bI_false, one_ne, Nat.le_refl, Nat.lt_irrefl, cleT, cleF, cltT, cltF, ceqT, ceqF, ↓reduceIte, hF]
          simp (disch := first | omega | assumption | exact Or.inl rfl | exact Or.inr rfl | exact bI_or _ | exact zC81 | exact zC47 | exact zC65 | exact zC0 | exact zC1 | exact zC32 | exact zC70 | exact zC73 | exact ztc (by assumption) | exact zdc (by assumption) | exact zpc (by assumption) | decide) only [Option.some.injEq, exists_eq_left', ex2, Option.toList, List.singleton_append, List.append_nil, List.cons_append, List.nil_append, nI_add, nI_addL, nI_Ladd, pk_mul, nI_mulL, nI_Lmul, nI_subL, pk_sub, nI_divL, sub_dm, nI_leE, nI_ltE, nI_eqE, nI_Lle, nI_leL, nI_Llt, nI_ltL, nI_eqL, va_up_self, va_up_ne, up_up, up_comm, nI_clamp, bI_eq0, not_true_eq_false, not_false_eq_true, Nat.reduceEqDiff, Nat.reduceLeDiff, Nat.reduceAdd, Nat.reduceMul, Nat.one_ne_zero, Nat.zero_ne_one, decide_eq_false_iff_not, decide_eq_true_eq, Bool.false_eq_true, decide_true, decide_false, bI_true, bI_false, one_ne, Nat.le_refl, Nat.lt_irrefl, cleT, cleF, cltT, cltF, ceqT, ceqF, ↓reduceIte, r94_83, r94_84, r94_87, r94_88, r94_91, r94_92, r94_95, r94_96, r94_97, r94_98, r94_101, r94_104, r94_105, r94_106, r94_109, r94_110, i4, zO32_10, zO32_3, m10, x3, nF]
        · have hF : F' = 0 := hF
          subst hF
          have x3 : s4 32 3 = 0 := x3
          have i5 := fun r => Runs.iff (r := r) r5
          refine go2 _ (z2 _ ?_)
          simp (disch := first | omega | assumption | exact Or.inl rfl | exact Or.inr rfl | exact bI_or _ | exact zC81 | exact zC47 | exact zC65 | exact zC0 | exact zC1 | exact zC32 | exact zC70 | exact zC73 | exact ztc (by assumption) | exact zdc (by assumption) | exact zpc (by assumption) | decide) only [Option.some.injEq, exists_eq_left', ex2, Option.toList, List.singleton_append, List.append_nil, List.cons_append, List.nil_append, nI_add, nI_addL, nI_Ladd, pk_mul, nI_mulL, nI_Lmul, nI_subL, pk_sub, nI_divL, sub_dm, nI_leE, nI_ltE, nI_eqE, nI_Lle, nI_leL, nI_Llt, nI_ltL, nI_eqL, va_up_self, va_up_ne, up_up, up_comm, nI_clamp, bI_eq0, not_true_eq_false, not_false_eq_true, Nat.reduceEqDiff, Nat.reduceLeDiff, Nat.reduceAdd, Nat.reduceMul, Nat.one_ne_zero, Nat.zero_ne_one, decide_eq_false_iff_not, decide_eq_true_eq, Bool.false_eq_true, decide_true, decide_false, bI_true, bI_false, one_ne, Nat.le_refl, Nat.lt_irrefl, cleT, cleF, cltT, cltF, ceqT, ceqF, ↓reduceIte, r94_83, r94_84, r94_87, r94_88, r94_91, r94_92, r94_95, r94_96, r94_97, r94_98, r94_101, r94_104, r94_105, r94_106, r94_109, r94_110, i4, zO32_10, zO32_3, m10, x3, i5]
      · rw [if_neg k2] at hse
        rw [hse]
        refine ⟨s4, run1, tk, ⟨xT, y2, x11, fun h => by cases h⟩, CF_trans (CF_trans cf2 w2) xf, fun _ => go2 _ (z2 _ ?_), fun h => by cases h⟩
        have n := no2 k2
        simp (disch := first | omega | assumption | exact Or.inl rfl | exact Or.inr rfl | exact bI_or _ | exact zC81 | exact zC47 | exact zC65 | exact zC0 | exact zC1 | exact zC32 | exact zC70 | exact zC73 | exact ztc (by assumption) | exact zdc (by assumption) | exact zpc (by assumption) | decide) only [Option.some.injEq, exists_eq_left', ex2, Option.toList, List.singleton_append, List.append_nil, List.cons_append, List.nil_append, nI_add, nI_addL, nI_Ladd, pk_mul, nI_mulL, nI_Lmul, nI_subL, pk_sub, nI_divL, sub_dm, nI_leE, nI_ltE, nI_eqE, nI_Lle, nI_leL, nI_Llt, nI_ltL, nI_eqL, va_up_self, va_up_ne, up_up, up_comm, nI_clamp, bI_eq0, not_true_eq_false, not_false_eq_true, Nat.reduceEqDiff, Nat.reduceLeDiff, Nat.reduceAdd, Nat.reduceMul, Nat.one_ne_zero, Nat.zero_ne_one, decide_eq_false_iff_not, decide_eq_true_eq, Bool.false_eq_true, decide_true, decide_false, bI_true, bI_false, one_ne, Nat.le_refl, Nat.lt_irrefl, cleT, cleF, cltT, cltF, ceqT, ceqF, ↓reduceIte, r94_83, r94_84, r94_87, r94_88, r94_91, r94_92, r94_95, r94_96, r94_97, r94_98, r94_101, r94_104, r94_105, r94_106, r94_109, r94_110, i4, zO32_10, n]
  · rw [if_neg (fun h => k3 h.1)] at hlS
    rw [hlS]
    refine ⟨s1, run1, tk, cm1, cf1, fun _ => ?_, fun h => by cases h⟩
    rcases no3 k3 with n | ⟨n, n'⟩
    · simp (disch := first | omega | assumption | exact Or.inl rfl | exact Or.inr rfl | exact bI_or _ | exact zC81 | exact zC47 | exact zC65 | exact zC0 | exact zC1 | exact zC32 | exact zC70 | exact zC73 | exact ztc (by assumption) | exact zdc (by assumption) | exact zpc (by assumption) | decide) only [Option.some.injEq, exists_eq_left', ex2, Option.toList, List.singleton_append, List.append_nil, List.cons_append, List.nil_append, nI_add, nI_addL, nI_Ladd, pk_mul, nI_mulL, nI_Lmul, nI_subL, pk_sub, nI_divL, sub_dm, nI_leE, nI_ltE, nI_eqE, nI_Lle, nI_leL, nI_Llt, nI_ltL, nI_eqL, va_up_self, va_up_ne, up_up, up_comm, nI_clamp, bI_eq0, not_true_eq_false, not_false_eq_true, Nat.reduceEqDiff, Nat.reduceLeDiff, Nat.reduceAdd, Nat.reduceMul, Nat.one_ne_zero, Nat.zero_ne_one, decide_eq_false_iff_not, decide_eq_true_eq, Bool.false_eq_true, decide_true, decide_false, bI_true, bI_false, one_ne, Nat.le_refl, Nat.lt_irrefl, cleT, cleF, cltT, cltF, ceqT, ceqF, ↓reduceIte, r94_0, r94_1, r94_4, r94_5, r94_8, r94_9, r94_10, r94_13, r94_16, r94_19, r94_20, zO32_10, n]
    · have bg := @cl_beginsLine_no xs sl (d + 4 + 1 + 1) J s1 g so g8 hso
      simp (disch := first | omega | assumption | exact Or.inl rfl | exact Or.inr rfl | exact bI_or _ | exact zC81 | exact zC47 | exact zC65 | exact zC0 | exact zC1 | exact zC32 | exact zC70 | exact zC73 | exact ztc (by assumption) | exact zdc (by assumption) | exact zpc (by assumption) | decide) only [Option.some.injEq, exists_eq_left', ex2, Option.toList, List.singleton_append, List.append_nil, List.cons_append, List.nil_append, nI_add, nI_addL, nI_Ladd, pk_mul, nI_mulL, nI_Lmul, nI_subL, pk_sub, nI_divL, sub_dm, nI_leE, nI_ltE, nI_eqE, nI_Lle, nI_leL, nI_Llt, nI_ltL, nI_eqL, va_up_self, va_up_ne, up_up, up_comm, nI_clamp, bI_eq0, not_true_eq_false, not_false_eq_true, Nat.reduceEqDiff, Nat.reduceLeDiff, Nat.reduceAdd, Nat.reduceMul, Nat.one_ne_zero, Nat.zero_ne_one, decide_eq_false_iff_not, decide_eq_true_eq, Bool.false_eq_true, decide_true, decide_false, bI_true, bI_false, one_ne, Nat.le_refl, Nat.lt_irrefl, cleT, cleF, cltT, cltF, ceqT, ceqF, ↓reduceIte, r94_0, r94_1, r94_4, r94_5, r94_8, r94_9, r94_10, r94_13, r94_16, r94_19, r94_20, zO32_10, zO32_12, n, n', bg]
end TXM
