/-! TEXT: the reference's numbers and words -/
section TXO
variable {xs : Nat → Int32} {sl d : Nat} {J : hJk} {s x y : hS} {g : hG}
theorem isIn_nI {v lo hi : Nat} (h1 : v < 1000) (h2 : lo < 1000) (h3 : hi < 1000) : f_isIn (nI v) (nI lo) (nI hi) = bI (decide (lo ≤ v) && decide (v ≤ hi)) := by
  unfold f_isIn
  by_cases c1 : lo ≤ v
  · have c1' : ¬ v < lo := by omega
    by_cases c2 : v ≤ hi
    · have c2' : ¬ hi < v := by omega
      simp (disch := first | omega | assumption | exact Or.inl rfl | exact Or.inr rfl | exact bI_or _ | exact zC81 | exact zC47 | exact zC65 | exact zC0 | exact zC1 | exact zC32 | exact zC70 | exact zC73 | exact ztc (by assumption) | exact zdc (by assumption) | exact zpc (by assumption) | decide) only [Option.some.injEq, exists_eq_left', ex2, Option.toList, List.singleton_append, List.append_nil, List.cons_append, List.nil_append, nI_add, nI_addL, nI_Ladd, pk_mul, nI_mulL, nI_Lmul, nI_subL, pk_sub, nI_divL, sub_dm, nI_leE, nI_ltE, nI_eqE, nI_Lle, nI_leL, nI_Llt, nI_ltL, nI_eqL, va_up_self, va_up_ne, up_up, up_comm, nI_clamp, bI_eq0, not_true_eq_false, not_false_eq_true, Nat.reduceEqDiff, Nat.reduceLeDiff, Nat.reduceAdd, Nat.reduceMul, Nat.one_ne_zero, Nat.zero_ne_one, decide_eq_false_iff_not, decide_eq_true_eq, Bool.false_eq_true, decide_true, decide_false, bI_true, bI_false, one_ne, Nat.le_refl, Nat.lt_irrefl, cleT, cleF, cltT, cltF, ceqT, ceqF, ↓reduceIte, c1, c1', c2, c2', Bool.and_self]
    · have c2' : hi < v := by omega
      simp (disch := first | omega | assumption | exact Or.inl rfl | exact Or.inr rfl | exact bI_or _ | exact zC81 | exact zC47 | exact zC65 | exact zC0 | exact zC1 | exact zC32 | exact zC70 | exact zC73 | exact ztc (by assumption) | exact zdc (by assumption) | exact zpc (by assumption) | decide) only [Option.some.injEq, exists_eq_left', ex2, Option.toList, List.singleton_append, List.append_nil, List.cons_append, List.nil_append, nI_add, nI_addL, nI_Ladd, pk_mul, nI_mulL, nI_Lmul, nI_subL, pk_sub, nI_divL, sub_dm, nI_leE, nI_ltE, nI_eqE, nI_Lle, nI_leL, nI_Llt, nI_ltL, nI_eqL, va_up_self, va_up_ne, up_up, up_comm, nI_clamp, bI_eq0, not_true_eq_false, not_false_eq_true, Nat.reduceEqDiff, Nat.reduceLeDiff, Nat.reduceAdd, Nat.reduceMul, Nat.one_ne_zero, Nat.zero_ne_one, decide_eq_false_iff_not, decide_eq_true_eq, Bool.false_eq_true, decide_true, decide_false, bI_true, bI_false, one_ne, Nat.le_refl, Nat.lt_irrefl, cleT, cleF, cltT, cltF, ceqT, ceqF, ↓reduceIte, c1, c1', c2, c2', Bool.and_false]
  · have c1' : v < lo := by omega
    simp (disch := first | omega | assumption | exact Or.inl rfl | exact Or.inr rfl | exact bI_or _ | exact zC81 | exact zC47 | exact zC65 | exact zC0 | exact zC1 | exact zC32 | exact zC70 | exact zC73 | exact ztc (by assumption) | exact zdc (by assumption) | exact zpc (by assumption) | decide) only [Option.some.injEq, exists_eq_left', ex2, Option.toList, List.singleton_append, List.append_nil, List.cons_append, List.nil_append, nI_add, nI_addL, nI_Ladd, pk_mul, nI_mulL, nI_Lmul, nI_subL, pk_sub, nI_divL, sub_dm, nI_leE, nI_ltE, nI_eqE, nI_Lle, nI_leL, nI_Llt, nI_ltL, nI_eqL, va_up_self, va_up_ne, up_up, up_comm, nI_clamp, bI_eq0, not_true_eq_false, not_false_eq_true, Nat.reduceEqDiff, Nat.reduceLeDiff, Nat.reduceAdd, Nat.reduceMul, Nat.one_ne_zero, Nat.zero_ne_one, decide_eq_false_iff_not, decide_eq_true_eq, Bool.false_eq_true, decide_true, decide_false, bI_true, bI_false, one_ne, Nat.le_refl, Nat.lt_irrefl, cleT, cleF, cltT, cltF, ceqT, ceqF, ↓reduceIte, c1, c1', Bool.false_and]
theorem rf_in (v lo hi : Int32) {H : mH} {r : Option Value × mH} : Runs xs sl d 173 0 [some (.int v), some (.int lo), some (.int hi)] [] H r ↔ r = (some (.int (f_isIn v lo hi)), H) := Runs.iff (rf_isIn v lo hi)
theorem rf_numbered {b : Nat → Nat} {N lo hi : Nat} {Lo Hi : Int32} {σ : TxS} (hM : RM b N σ s) (hLo : Lo = nI lo) (hHi : Hi = nI hi) (hl : lo ≤ hi) (h100 : hi < 100) (ok : Bool) (hok : ok = (decide (lo ≤ slV b N σ) && decide (slV b N σ ≤ hi))) : ∃ (v : Nat) (t : hS), Runs xs sl (d+3+1+1) 187 0 [some (.ref (81)), some (.int ( Lo)), some (.int ( Hi)), none] [] (hp J (s) g) (some (.int (nI v)), hp J t g) ∧ RM b N (nuS b N ok σ) t ∧ RF s t ∧ lo ≤ v ∧ v ≤ hi ∧ ((nuS b N ok σ).1 = false → ok = true → v = slV b N σ) := by
  subst hLo hHi
  obtain ⟨w, p, F, P⟩ := σ
  cases w
  case true =>
    obtain ⟨-, -, h, -⟩ := id hM
    obtain ⟨h8, -⟩ := h rfl
    rw [nuS_w rfl]
    have ee := @rf_ends_w xs sl (d + 3 + 1) J s g h8
    have n : ¬ (1 : Int32) = 0 := by decide
    refine ⟨lo, s, ?_, hM, RF_refl s, Nat.le_refl _, hl, fun h => by cases h⟩
    simp (disch := first | omega | assumption | exact Or.inl rfl | exact Or.inr rfl | exact bI_or _ | exact zC81 | exact zC47 | exact zC65 | exact zC0 | exact zC1 | exact zC32 | exact zC70 | exact zC73 | exact ztc (by assumption) | exact zdc (by assumption) | exact zpc (by assumption) | decide) only [Option.some.injEq, exists_eq_left', ex2, Option.toList, List.singleton_append, List.append_nil, List.cons_append, List.nil_append, nI_add, nI_addL, nI_Ladd, pk_mul, nI_mulL, nI_Lmul, nI_subL, pk_sub, nI_divL, sub_dm, nI_leE, nI_ltE, nI_eqE, nI_Lle, nI_leL, nI_Llt, nI_ltL, nI_eqL, va_up_self, va_up_ne, up_up, up_comm, nI_clamp, bI_eq0, not_true_eq_false, not_false_eq_true, Nat.reduceEqDiff, Nat.reduceLeDiff, Nat.reduceAdd, Nat.reduceMul, Nat.one_ne_zero, Nat.zero_ne_one, decide_eq_false_iff_not, decide_eq_true_eq, Bool.false_eq_true, decide_true, decide_false, bI_true, bI_false, one_ne, Nat.le_refl, Nat.lt_irrefl, cleT, cleF, cltT, cltF, ceqT, ceqF, ↓reduceIte, r187_0, r187_1, r187_4, r187_7, r187_8, r187_11, r187_12, r187_15, r187_16, r187_19, r187_20, r187_21, r187_22, r187_25, r187_26, r187_27, r187_28, r187_29, r187_32, r187_35, r187_36, r187_37, r187_38, r187_41, r187_44, r187_45, r187_48, r187_49, r187_50, r187_51, r187_54, r187_57, r187_58, r187_61, r187_62, zO81_8, h8, n, ee]
  case false =>
  have ends := (RM_end rfl hM)
  have hse : nuS b N ok (false, p, F, P) = if kQ b N (rn isBl b N p) = 1 then (false, eQ b N (rn isBl b N p), (if ok = true then (false, p, F, P) else noS 2 (rn isBl b N p) (false, p, F, P)).2.2) else (true, rn isBl b N p, 0, 0) := rfl
  have hsv : slV b N (false, p, F, P) = vQ b N (rn isBl b N p) := rfl
  obtain ⟨hT, hpN, -, h⟩ := hM
  have hpN : p ≤ N := hpN
  obtain ⟨h8, h5, h6, hP, k4, k5, k6, k7, k3⟩ := h rfl
  have h5 : s 82 5 = nI F := h5
  have h6 : F < 6 := h6
  have hP : F ≠ 0 → s 82 6 = nI P ∧ (P < p ∨ (P = rn isBl b N p ∧ F ≤ 2)) := hP
  have k4 : s 81 4 = nI (rn isBl b N p) := k4
  have k5 : s 81 5 = nI (kQ b N (rn isBl b N p)) := k5
  have k6 : kQ b N (rn isBl b N p) = 1 → s 81 6 = nI (vQ b N (rn isBl b N p)) := k6
  have k3 : kQ b N (rn isBl b N p) = 1 ∨ kQ b N (rn isBl b N p) = 2 ∨ kQ b N (rn isBl b N p) = 3 → s 81 3 = nI (eQ b N (rn isBl b N p)) := k3
  obtain ⟨r1, r2, r3, r4⟩ := rn_prop (P := isBl) (b := b) (N := N) (N - p) p (by omega)
  have hN6 : N ≤ 600 := hT.2.1
  rw [hsv] at hok ⊢
  have hend : RM b N (true, rn isBl b N p, 0, 0) (va_up (va_up s 81 (va_up (s 81) 8 1)) 82 (va_up (va_up (s 82) 5 1) 6 (s 81 4))) := ends.1
  generalize hq : rn isBl b N p = q at *
  have kc := kQ_cases b N q
  by_cases k1 : kQ b N q = 1
  · rw [if_pos k1] at hse
    rw [hse]
    have v6 := k6 k1
    have v3 := k3 (Or.inl k1)
    have k1' := eq_true k1
    have v100 := vQ_num k1
    obtain ⟨eg, eN⟩ := eQ_gt (b := b) (N := N) (q := q) (Or.inl k1)
    have ii := @rf_in xs sl (d + 3 + 1) (nI (vQ b N q)) (nI lo) (nI hi)
    rw [isIn_nI (by omega) (by omega) (by omega), ← hok] at ii
    generalize hv : vQ b N q = v at *
    cases ok
    case true =>
      have hvb : lo ≤ v ∧ v ≤ hi := by
        have := hok.symm
        rw [Bool.and_eq_true, decide_eq_true_eq, decide_eq_true_eq] at this
        exact this
      obtain ⟨t, q1, q2, q3⟩ := @rf_adv xs sl d J s g b N (eQ b N q) F P hT v3 eN h8 h5 h6 (fun hF => ⟨(hP hF).1, by have := (hP hF).2; omega⟩)
      have i1 := fun r => Runs.iff (r := r) q1
      refine ⟨v, t, ?_, q2, q3, hvb.1, hvb.2, fun _ _ => rfl⟩
      simp (disch := first | omega | assumption | exact Or.inl rfl | exact Or.inr rfl | exact bI_or _ | exact zC81 | exact zC47 | exact zC65 | exact zC0 | exact zC1 | exact zC32 | exact zC70 | exact zC73 | exact ztc (by assumption) | exact zdc (by assumption) | exact zpc (by assumption) | decide) only [Option.some.injEq, exists_eq_left', ex2, Option.toList, List.singleton_append, List.append_nil, List.cons_append, List.nil_append, nI_add, nI_addL, nI_Ladd, pk_mul, nI_mulL, nI_Lmul, nI_subL, pk_sub, nI_divL, sub_dm, nI_leE, nI_ltE, nI_eqE, nI_Lle, nI_leL, nI_Llt, nI_ltL, nI_eqL, va_up_self, va_up_ne, up_up, up_comm, nI_clamp, bI_eq0, not_true_eq_false, not_false_eq_true, Nat.reduceEqDiff, Nat.reduceLeDiff, Nat.reduceAdd, Nat.reduceMul, Nat.one_ne_zero, Nat.zero_ne_one, decide_eq_false_iff_not, decide_eq_true_eq, Bool.false_eq_true, decide_true, decide_false, bI_true, bI_false, one_ne, Nat.le_refl, Nat.lt_irrefl, cleT, cleF, cltT, cltF, ceqT, ceqF, ↓reduceIte, r187_0, r187_1, r187_4, r187_7, r187_8, r187_11, r187_12, r187_15, r187_16, r187_19, r187_20, r187_21, r187_22, r187_25, r187_26, r187_27, r187_28, r187_29, r187_32, r187_35, r187_36, r187_37, r187_38, r187_41, r187_44, r187_45, r187_48, r187_49, r187_50, r187_51, r187_54, r187_57, r187_58, r187_61, r187_62, zO81_5, zO81_6, zO81_8, h8, k5, k1', v6, ii, i1]
    case false =>
      have al := @rf_also xs sl (d + 3 + 1) J s g F P q 2 2 rfl (by decide) (by omega) h8 h5 (fun hF => ⟨(hP hF).1, by have := (hP hF).2; omega⟩) (by omega)
      by_cases cF : F = 0
      · subst cF
        rw [if_pos rfl] at al
        generalize hs1 : va_up s 82 (va_up (va_up (s 82) 5 2) 6 (nI q)) = s1 at al
        have f1 : RF s s1 := by
          rw [← hs1]
          refine ⟨fun c h h' => ?_, fun j hj => ?_, fun i h => ?_⟩
          · rw [va_up_ne _ _ h']
          · rw [va_up_ne _ _ (by decide)]
          · rcases h with ⟨h, h'⟩ | h
            · rw [va_up_self, va_up_ne _ _ h', va_up_ne _ _ h]
            · rw [va_up_self, va_up_ne _ _ (by decide), va_up_self] at h; exact absurd h (by decide)
        have x81 : s1 81 = s 81 := by rw [← hs1, va_up_ne _ _ (by decide)]
        obtain ⟨t, q1, q2, q3⟩ := @rf_adv xs sl d J s1 g b N (eQ b N q) 2 q (RF_tp f1 hT) (by rw [x81]; exact v3) eN (by rw [x81]; exact h8) (by rw [← hs1]; simp (disch := first | omega | assumption | exact Or.inl rfl | exact Or.inr rfl | exact bI_or _ | exact zC81 | exact zC47 | exact zC65 | exact zC0 | exact zC1 | exact zC32 | exact zC70 | exact zC73 | exact ztc (by assumption) | exact zdc (by assumption) | exact zpc (by assumption) | decide) only [Option.some.injEq, exists_eq_left', ex2, Option.toList, List.singleton_append, List.append_nil, List.cons_append, List.nil_append, nI_add, nI_addL, nI_Ladd, pk_mul, nI_mulL, nI_Lmul, nI_subL, pk_sub, nI_divL, sub_dm, nI_leE, nI_ltE, nI_eqE, nI_Lle, nI_leL, nI_Llt, nI_ltL, nI_eqL, va_up_self, va_up_ne, up_up, up_comm, nI_clamp, bI_eq0, not_true_eq_false, not_false_eq_true, Nat.reduceEqDiff, Nat.reduceLeDiff, Nat.reduceAdd, Nat.reduceMul, Nat.one_ne_zero, Nat.zero_ne_one, decide_eq_false_iff_not, decide_eq_true_eq, Bool.false_eq_true, decide_true, decide_false, bI_true, bI_false, one_ne, Nat.le_refl, Nat.lt_irrefl, cleT, cleF, cltT, cltF, ceqT, ceqF, ↓reduceIte]; rfl) (by decide) (fun _ => ⟨by rw [← hs1]; simp (disch := first | omega | assumption | exact Or.inl rfl | exact Or.inr rfl | exact bI_or _ | exact zC81 | exact zC47 | exact zC65 | exact zC0 | exact zC1 | exact zC32 | exact zC70 | exact zC73 | exact ztc (by assumption) | exact zdc (by assumption) | exact zpc (by assumption) | decide) only [Option.some.injEq, exists_eq_left', ex2, Option.toList, List.singleton_append, List.append_nil, List.cons_append, List.nil_append, nI_add, nI_addL, nI_Ladd, pk_mul, nI_mulL, nI_Lmul, nI_subL, pk_sub, nI_divL, sub_dm, nI_leE, nI_ltE, nI_eqE, nI_Lle, nI_leL, nI_Llt, nI_ltL, nI_eqL, va_up_self, va_up_ne, up_up, up_comm, nI_clamp, bI_eq0, not_true_eq_false, not_false_eq_true, Nat.reduceEqDiff, Nat.reduceLeDiff, Nat.reduceAdd, Nat.reduceMul, Nat.one_ne_zero, Nat.zero_ne_one, decide_eq_false_iff_not, decide_eq_true_eq, Bool.false_eq_true, decide_true, decide_false, bI_true, bI_false, one_ne, Nat.le_refl, Nat.lt_irrefl, cleT, cleF, cltT, cltF, ceqT, ceqF, ↓reduceIte], eg⟩)
        have i1 := fun r => Runs.iff (r := r) q1
        refine ⟨lo, t, ?_, q2, RF_trans f1 q3, Nat.le_refl _, hl, fun _ h => by cases h⟩
        simp (disch := first | omega | assumption | exact Or.inl rfl | exact Or.inr rfl | exact bI_or _ | exact zC81 | exact zC47 | exact zC65 | exact zC0 | exact zC1 | exact zC32 | exact zC70 | exact zC73 | exact ztc (by assumption) | exact zdc (by assumption) | exact zpc (by assumption) | decide) only [Option.some.injEq, exists_eq_left', ex2, Option.toList, List.singleton_append, List.append_nil, List.cons_append, List.nil_append, nI_add, nI_addL, nI_Ladd, pk_mul, nI_mulL, nI_Lmul, nI_subL, pk_sub, nI_divL, sub_dm, nI_leE, nI_ltE, nI_eqE, nI_Lle, nI_leL, nI_Llt, nI_ltL, nI_eqL, va_up_self, va_up_ne, up_up, up_comm, nI_clamp, bI_eq0, not_true_eq_false, not_false_eq_true, Nat.reduceEqDiff, Nat.reduceLeDiff, Nat.reduceAdd, Nat.reduceMul, Nat.one_ne_zero, Nat.zero_ne_one, decide_eq_false_iff_not, decide_eq_true_eq, Bool.false_eq_true, decide_true, decide_false, bI_true, bI_false, one_ne, Nat.le_refl, Nat.lt_irrefl, cleT, cleF, cltT, cltF, ceqT, ceqF, ↓reduceIte, r187_0, r187_1, r187_4, r187_7, r187_8, r187_11, r187_12, r187_15, r187_16, r187_19, r187_20, r187_21, r187_22, r187_25, r187_26, r187_27, r187_28, r187_29, r187_32, r187_35, r187_36, r187_37, r187_38, r187_41, r187_44, r187_45, r187_48, r187_49, r187_50, r187_51, r187_54, r187_57, r187_58, r187_61, r187_62, zO81_4, zO81_5, zO81_6, zO81_8, h8, k5, k4, k1', v6, ii, al, i1]
      · rw [if_neg cF] at al
        have en : noS 2 q (false, p, F, P) = (false, p, F, P) := if_neg cF
        rw [if_neg (show ¬ false = true by decide), en]
        obtain ⟨t, q1, q2, q3⟩ := @rf_adv xs sl d J s g b N (eQ b N q) F P hT v3 eN h8 h5 h6 (fun hF => ⟨(hP hF).1, by have := (hP hF).2; omega⟩)
        have i1 := fun r => Runs.iff (r := r) q1
        refine ⟨lo, t, ?_, q2, q3, Nat.le_refl _, hl, fun _ h => by cases h⟩
        simp (disch := first | omega | assumption | exact Or.inl rfl | exact Or.inr rfl | exact bI_or _ | exact zC81 | exact zC47 | exact zC65 | exact zC0 | exact zC1 | exact zC32 | exact zC70 | exact zC73 | exact ztc (by assumption) | exact zdc (by assumption) | exact zpc (by assumption) | decide) only [Option.some.injEq, exists_eq_left', ex2, Option.toList, List.singleton_append, List.append_nil, List.cons_append, List.nil_append, nI_add, nI_addL, nI_Ladd, pk_mul, nI_mulL, nI_Lmul, nI_subL, pk_sub, nI_divL, sub_dm, nI_leE, nI_ltE, nI_eqE, nI_Lle, nI_leL, nI_Llt, nI_ltL, nI_eqL, va_up_self, va_up_ne, up_up, up_comm, nI_clamp, bI_eq0, not_true_eq_false, not_false_eq_true, Nat.reduceEqDiff, Nat.reduceLeDiff, Nat.reduceAdd, Nat.reduceMul, Nat.one_ne_zero, Nat.zero_ne_one, decide_eq_false_iff_not, decide_eq_true_eq, Bool.false_eq_true, decide_true, decide_false, bI_true, bI_false, one_ne, Nat.le_refl, Nat.lt_irrefl, cleT, cleF, cltT, cltF, ceqT, ceqF, ↓reduceIte, r187_0, r187_1, r187_4, r187_7, r187_8, r187_11, r187_12, r187_15, r187_16, r187_19, r187_20, r187_21, r187_22, r187_25, r187_26, r187_27, r187_28, r187_29, r187_32, r187_35, r187_36, r187_37, r187_38, r187_41, r187_44, r187_45, r187_48, r187_49, r187_50, r187_51, r187_54, r187_57, r187_58, r187_61, r187_62, zO81_4, zO81_5, zO81_6, zO81_8, h8, k5, k4, k1', v6, ii, al, i1]
  · rw [if_neg k1] at hse
    rw [hse]
    have ee := @rf_ends xs sl (d + 3 + 1) J s g h8
    refine ⟨lo, _, ?_, hend, ends.2, Nat.le_refl _, hl, fun h => by cases h⟩
    simp (disch := first | omega | assumption | exact Or.inl rfl | exact Or.inr rfl | exact bI_or _ | exact zC81 | exact zC47 | exact zC65 | exact zC0 | exact zC1 | exact zC32 | exact zC70 | exact zC73 | exact ztc (by assumption) | exact zdc (by assumption) | exact zpc (by assumption) | decide) only [Option.some.injEq, exists_eq_left', ex2, Option.toList, List.singleton_append, List.append_nil, List.cons_append, List.nil_append, nI_add, nI_addL, nI_Ladd, pk_mul, nI_mulL, nI_Lmul, nI_subL, pk_sub, nI_divL, sub_dm, nI_leE, nI_ltE, nI_eqE, nI_Lle, nI_leL, nI_Llt, nI_ltL, nI_eqL, va_up_self, va_up_ne, up_up, up_comm, nI_clamp, bI_eq0, not_true_eq_false, not_false_eq_true, Nat.reduceEqDiff, Nat.reduceLeDiff, Nat.reduceAdd, Nat.reduceMul, Nat.one_ne_zero, Nat.zero_ne_one, decide_eq_false_iff_not, decide_eq_true_eq, Bool.false_eq_true, decide_true, decide_false, bI_true, bI_false, one_ne, Nat.le_refl, Nat.lt_irrefl, cleT, cleF, cltT, cltF, ceqT, ceqF, ↓reduceIte, r187_0, r187_1, r187_4, r187_7, r187_8, r187_11, r187_12, r187_15, r187_16, r187_19, r187_20, r187_21, r187_22, r187_25, r187_26, r187_27, r187_28, r187_29, r187_32, r187_35, r187_36, r187_37, r187_38, r187_41, r187_44, r187_45, r187_48, r187_49, r187_50, r187_51, r187_54, r187_57, r187_58, r187_61, r187_62, zO81_5, zO81_8, h8, k5, k1, ee]
theorem rf_takes {b : Nat → Nat} {N fi la : Nat} {Fi La : Int32} {σ : TxS} (hM : RM b N σ s) (hFi : Fi = nI fi) (hLa : La = nI la) (h100 : la < 100 ∧ fi < 100) (ok : Bool) (hok : kQ b N (rn isBl b N σ.2.1) = 3 → ok = (decide (fi ≤ wm (slV b N σ)) && decide (wm (slV b N σ) ≤ la))) : ∃ (t : hS), Runs xs sl (d+3+1+1) 185 0 [some (.ref (81)), some (.int ( Fi)), some (.int ( La)), none] [] (hp J (s) g) (some (.int (if (woS b N ok σ).1 = true then 0 else nI (wm (slV b N σ)))), hp J t g) ∧ RM b N (woS b N ok σ) t ∧ RF s t := by
  subst hFi hLa
  obtain ⟨w, p, F, P⟩ := σ
  cases w
  case true =>
    obtain ⟨-, -, h, -⟩ := id hM
    obtain ⟨h8, -⟩ := h rfl
    rw [woS_w rfl]
    have ee := @rf_ends_w xs sl (d + 3 + 1) J s g h8
    have n : ¬ (1 : Int32) = 0 := by decide
    refine ⟨s, ?_, hM, RF_refl s⟩
    rw [if_pos rfl]
    simp (disch := first | omega | assumption | exact Or.inl rfl | exact Or.inr rfl | exact bI_or _ | exact zC81 | exact zC47 | exact zC65 | exact zC0 | exact zC1 | exact zC32 | exact zC70 | exact zC73 | exact ztc (by assumption) | exact zdc (by assumption) | exact zpc (by assumption) | decide) only [Option.some.injEq, exists_eq_left', ex2, Option.toList, List.singleton_append, List.append_nil, List.cons_append, List.nil_append, nI_add, nI_addL, nI_Ladd, pk_mul, nI_mulL, nI_Lmul, nI_subL, pk_sub, nI_divL, sub_dm, nI_leE, nI_ltE, nI_eqE, nI_Lle, nI_leL, nI_Llt, nI_ltL, nI_eqL, va_up_self, va_up_ne, up_up, up_comm, nI_clamp, bI_eq0, not_true_eq_false, not_false_eq_true, Nat.reduceEqDiff, Nat.reduceLeDiff, Nat.reduceAdd, Nat.reduceMul, Nat.one_ne_zero, Nat.zero_ne_one, decide_eq_false_iff_not, decide_eq_true_eq, Bool.false_eq_true, decide_true, decide_false, bI_true, bI_false, one_ne, Nat.le_refl, Nat.lt_irrefl, cleT, cleF, cltT, cltF, ceqT, ceqF, ↓reduceIte, r185_0, r185_1, r185_4, r185_7, r185_8, r185_11, r185_12, r185_15, r185_16, r185_19, r185_20, r185_21, r185_24, r185_27, r185_28, r185_31, r185_32, r185_33, r185_34, r185_37, r185_38, r185_39, r185_42, r185_43, zO81_8, h8, n, ee]
  case false =>
  have ends := (RM_end rfl hM)
  have hse : woS b N ok (false, p, F, P) = if kQ b N (rn isBl b N p) = 3 ∧ ok = true then (false, eQ b N (rn isBl b N p), F, P) else (true, rn isBl b N p, 0, 0) := rfl
  have hsv : slV b N (false, p, F, P) = vQ b N (rn isBl b N p) := rfl
  obtain ⟨hT, hpN, -, h⟩ := hM
  have hpN : p ≤ N := hpN
  obtain ⟨h8, h5, h6, hP, k4, k5, k6, k7, k3⟩ := h rfl
  have h5 : s 82 5 = nI F := h5
  have h6 : F < 6 := h6
  have hP : F ≠ 0 → s 82 6 = nI P ∧ (P < p ∨ (P = rn isBl b N p ∧ F ≤ 2)) := hP
  have k4 : s 81 4 = nI (rn isBl b N p) := k4
  have k5 : s 81 5 = nI (kQ b N (rn isBl b N p)) := k5
  have k7 : kQ b N (rn isBl b N p) = 3 → s 81 7 = nI (wm (vQ b N (rn isBl b N p))) := k7
  have k3 : kQ b N (rn isBl b N p) = 1 ∨ kQ b N (rn isBl b N p) = 2 ∨ kQ b N (rn isBl b N p) = 3 → s 81 3 = nI (eQ b N (rn isBl b N p)) := k3
  obtain ⟨r1, r2, r3, r4⟩ := rn_prop (P := isBl) (b := b) (N := N) (N - p) p (by omega)
  have hN6 : N ≤ 600 := hT.2.1
  have hok : kQ b N (rn isBl b N p) = 3 → ok = (decide (fi ≤ wm (vQ b N (rn isBl b N p))) && decide (wm (vQ b N (rn isBl b N p)) ≤ la)) := hok
  rw [hsv]
  have hend : RM b N (true, rn isBl b N p, 0, 0) (va_up (va_up s 81 (va_up (s 81) 8 1)) 82 (va_up (va_up (s 82) 5 1) 6 (s 81 4))) := ends.1
  generalize hq : rn isBl b N p = q at *
  have kc := kQ_cases b N q
  have ee := @rf_ends xs sl (d + 3 + 1) J s g h8
  by_cases k1 : kQ b N q = 3
  · have v7 := k7 k1
    have v3 := k3 (Or.inr (Or.inr k1))
    have k1' := eq_true k1
    have v22 := vQ_word k1
    have w22 := (wm_ok (vQ b N q) v22.1).2.1
    obtain ⟨eg, eN⟩ := eQ_gt (b := b) (N := N) (q := q) (Or.inr (Or.inr k1))
    have ii := @rf_in xs sl (d + 3 + 1) (nI (wm (vQ b N q))) (nI fi) (nI la)
    rw [isIn_nI (by omega) (by omega) (by omega), ← hok k1] at ii
    cases ok
    case true =>
      rw [if_pos ⟨k1, rfl⟩] at hse
      rw [hse]
      obtain ⟨t, q1, q2, q3⟩ := @rf_adv xs sl d J s g b N (eQ b N q) F P hT v3 eN h8 h5 h6 (fun hF => ⟨(hP hF).1, by have := (hP hF).2; omega⟩)
      have i1 := fun r => Runs.iff (r := r) q1
      refine ⟨t, ?_, q2, q3⟩
      rw [if_neg (fun h => by cases h)]
      simp (disch := first | omega | assumption | exact Or.inl rfl | exact Or.inr rfl | exact bI_or _ | exact zC81 | exact zC47 | exact zC65 | exact zC0 | exact zC1 | exact zC32 | exact zC70 | exact zC73 | exact ztc (by assumption) | exact zdc (by assumption) | exact zpc (by assumption) | decide) only [Option.some.injEq, exists_eq_left', ex2, Option.toList, List.singleton_append, List.append_nil, List.cons_append, List.nil_append, nI_add, nI_addL, nI_Ladd, pk_mul, nI_mulL, nI_Lmul, nI_subL, pk_sub, nI_divL, sub_dm, nI_leE, nI_ltE, nI_eqE, nI_Lle, nI_leL, nI_Llt, nI_ltL, nI_eqL, va_up_self, va_up_ne, up_up, up_comm, nI_clamp, bI_eq0, not_true_eq_false, not_false_eq_true, Nat.reduceEqDiff, Nat.reduceLeDiff, Nat.reduceAdd, Nat.reduceMul, Nat.one_ne_zero, Nat.zero_ne_one, decide_eq_false_iff_not, decide_eq_true_eq, Bool.false_eq_true, decide_true, decide_false, bI_true, bI_false, one_ne, Nat.le_refl, Nat.lt_irrefl, cleT, cleF, cltT, cltF, ceqT, ceqF, ↓reduceIte, r185_0, r185_1, r185_4, r185_7, r185_8, r185_11, r185_12, r185_15, r185_16, r185_19, r185_20, r185_21, r185_24, r185_27, r185_28, r185_31, r185_32, r185_33, r185_34, r185_37, r185_38, r185_39, r185_42, r185_43, zO81_5, zO81_7, zO81_8, h8, k5, k1', v7, ii, i1]
    case false =>
      rw [if_neg (fun h => by cases h.2)] at hse
      rw [hse]
      refine ⟨_, ?_, hend, ends.2⟩
      rw [if_pos rfl]
      simp (disch := first | omega | assumption | exact Or.inl rfl | exact Or.inr rfl | exact bI_or _ | exact zC81 | exact zC47 | exact zC65 | exact zC0 | exact zC1 | exact zC32 | exact zC70 | exact zC73 | exact ztc (by assumption) | exact zdc (by assumption) | exact zpc (by assumption) | decide) only [Option.some.injEq, exists_eq_left', ex2, Option.toList, List.singleton_append, List.append_nil, List.cons_append, List.nil_append, nI_add, nI_addL, nI_Ladd, pk_mul, nI_mulL, nI_Lmul, nI_subL, pk_sub, nI_divL, sub_dm, nI_leE, nI_ltE, nI_eqE, nI_Lle, nI_leL, nI_Llt, nI_ltL, nI_eqL, va_up_self, va_up_ne, up_up, up_comm, nI_clamp, bI_eq0, not_true_eq_false, not_false_eq_true, Nat.reduceEqDiff, Nat.reduceLeDiff, Nat.reduceAdd, Nat.reduceMul, Nat.one_ne_zero, Nat.zero_ne_one, decide_eq_false_iff_not, decide_eq_true_eq, Bool.false_eq_true, decide_true, decide_false, bI_true, bI_false, one_ne, Nat.le_refl, Nat.lt_irrefl, cleT, cleF, cltT, cltF, ceqT, ceqF, ↓reduceIte, r185_0, r185_1, r185_4, r185_7, r185_8, r185_11, r185_12, r185_15, r185_16, r185_19, r185_20, r185_21, r185_24, r185_27, r185_28, r185_31, r185_32, r185_33, r185_34, r185_37, r185_38, r185_39, r185_42, r185_43, zO81_5, zO81_7, zO81_8, h8, k5, k1', v7, ii, ee]
  · rw [if_neg (fun h => k1 h.1)] at hse
    rw [hse]
    refine ⟨_, ?_, hend, ends.2⟩
    rw [if_pos rfl]
    simp (disch := first | omega | assumption | exact Or.inl rfl | exact Or.inr rfl | exact bI_or _ | exact zC81 | exact zC47 | exact zC65 | exact zC0 | exact zC1 | exact zC32 | exact zC70 | exact zC73 | exact ztc (by assumption) | exact zdc (by assumption) | exact zpc (by assumption) | decide) only [Option.some.injEq, exists_eq_left', ex2, Option.toList, List.singleton_append, List.append_nil, List.cons_append, List.nil_append, nI_add, nI_addL, nI_Ladd, pk_mul, nI_mulL, nI_Lmul, nI_subL, pk_sub, nI_divL, sub_dm, nI_leE, nI_ltE, nI_eqE, nI_Lle, nI_leL, nI_Llt, nI_ltL, nI_eqL, va_up_self, va_up_ne, up_up, up_comm, nI_clamp, bI_eq0, not_true_eq_false, not_false_eq_true, Nat.reduceEqDiff, Nat.reduceLeDiff, Nat.reduceAdd, Nat.reduceMul, Nat.one_ne_zero, Nat.zero_ne_one, decide_eq_false_iff_not, decide_eq_true_eq, Bool.false_eq_true, decide_true, decide_false, bI_true, bI_false, one_ne, Nat.le_refl, Nat.lt_irrefl, cleT, cleF, cltT, cltF, ceqT, ceqF, ↓reduceIte, r185_0, r185_1, r185_4, r185_7, r185_8, r185_11, r185_12, r185_15, r185_16, r185_19, r185_20, r185_21, r185_24, r185_27, r185_28, r185_31, r185_32, r185_33, r185_34, r185_37, r185_38, r185_39, r185_42, r185_43, zO81_5, zO81_8, h8, k5, k1, ee]
theorem rf_endsLine {b : Nat → Nat} {N : Nat} {σ : TxS} (hM : RM b N σ s) : ∃ (t : hS), Runs xs sl (d+3+1+1) 196 0 [some (.ref (81))] [] (hp J (s) g) (none, hp J t g) ∧ RM b N (smS b N σ) t ∧ RF s t := by
  obtain ⟨w, p, F, P⟩ := σ
  cases w
  case true =>
    obtain ⟨-, -, h, -⟩ := id hM
    obtain ⟨h8, -⟩ := h rfl
    rw [seS_w rfl]
    have ee := @rf_ends_w xs sl (d + 3 + 1) J s g h8
    have n : ¬ (1 : Int32) = 0 := by decide
    refine ⟨s, ?_, hM, RF_refl s⟩
    simp (disch := first | omega | assumption | exact Or.inl rfl | exact Or.inr rfl | exact bI_or _ | exact zC81 | exact zC47 | exact zC65 | exact zC0 | exact zC1 | exact zC32 | exact zC70 | exact zC73 | exact ztc (by assumption) | exact zdc (by assumption) | exact zpc (by assumption) | decide) only [Option.some.injEq, exists_eq_left', ex2, Option.toList, List.singleton_append, List.append_nil, List.cons_append, List.nil_append, nI_add, nI_addL, nI_Ladd, pk_mul, nI_mulL, nI_Lmul, nI_subL, pk_sub, nI_divL, sub_dm, nI_leE, nI_ltE, nI_eqE, nI_Lle, nI_leL, nI_Llt, nI_ltL, nI_eqL, va_up_self, va_up_ne, up_up, up_comm, nI_clamp, bI_eq0, not_true_eq_false, not_false_eq_true, Nat.reduceEqDiff, Nat.reduceLeDiff, Nat.reduceAdd, Nat.reduceMul, Nat.one_ne_zero, Nat.zero_ne_one, decide_eq_false_iff_not, decide_eq_true_eq, Bool.false_eq_true, decide_true, decide_false, bI_true, bI_false, one_ne, Nat.le_refl, Nat.lt_irrefl, cleT, cleF, cltT, cltF, ceqT, ceqF, ↓reduceIte, r196_0, r196_1, r196_4, r196_7, r196_8, r196_11, r196_12, r196_15, r196_16, r196_19, r196_22, r196_23, r196_26, zO81_8, h8, n, ee]
  case false =>
  have ends := (RM_end rfl hM)
  have hse : smS b N (false, p, F, P) = if kQ b N (rn isBl b N p) = 2 then (false, eQ b N (rn isBl b N p), F, P) else (true, rn isBl b N p, 0, 0) := rfl
  obtain ⟨hT, hpN, -, h⟩ := hM
  have hpN : p ≤ N := hpN
  obtain ⟨h8, h5, h6, hP, k4, k5, k6, k7, k3⟩ := h rfl
  have h5 : s 82 5 = nI F := h5
  have h6 : F < 6 := h6
  have hP : F ≠ 0 → s 82 6 = nI P ∧ (P < p ∨ (P = rn isBl b N p ∧ F ≤ 2)) := hP
  have k5 : s 81 5 = nI (kQ b N (rn isBl b N p)) := k5
  have k3 : kQ b N (rn isBl b N p) = 1 ∨ kQ b N (rn isBl b N p) = 2 ∨ kQ b N (rn isBl b N p) = 3 → s 81 3 = nI (eQ b N (rn isBl b N p)) := k3
  obtain ⟨r1, r2, r3, r4⟩ := rn_prop (P := isBl) (b := b) (N := N) (N - p) p (by omega)
  have hend : RM b N (true, rn isBl b N p, 0, 0) (va_up (va_up s 81 (va_up (s 81) 8 1)) 82 (va_up (va_up (s 82) 5 1) 6 (s 81 4))) := ends.1
  generalize hq : rn isBl b N p = q at *
  have kc := kQ_cases b N q
  have ee := @rf_ends xs sl (d + 3 + 1) J s g h8
  by_cases k1 : kQ b N q = 2
  · have v3 := k3 (Or.inr (Or.inl k1))
    have k1' := eq_true k1
    obtain ⟨eg, eN⟩ := eQ_gt (b := b) (N := N) (q := q) (Or.inr (Or.inl k1))
    rw [if_pos k1] at hse
    rw [hse]
    obtain ⟨t, q1, q2, q3⟩ := @rf_adv xs sl d J s g b N (eQ b N q) F P hT v3 eN h8 h5 h6 (fun hF => ⟨(hP hF).1, by have := (hP hF).2; omega⟩)
    have i1 := fun r => Runs.iff (r := r) q1
    refine ⟨t, ?_, q2, q3⟩
    simp (disch := first | omega | assumption | exact Or.inl rfl | exact Or.inr rfl | exact bI_or _ | exact zC81 | exact zC47 | exact zC65 | exact zC0 | exact zC1 | exact zC32 | exact zC70 | exact zC73 | exact ztc (by assumption) | exact zdc (by assumption) | exact zpc (by assumption) | decide) only [Option.some.injEq, exists_eq_left', ex2, Option.toList, List.singleton_append, List.append_nil, List.cons_append, List.nil_append, nI_add, nI_addL, nI_Ladd, pk_mul, nI_mulL, nI_Lmul, nI_subL, pk_sub, nI_divL, sub_dm, nI_leE, nI_ltE, nI_eqE, nI_Lle, nI_leL, nI_Llt, nI_ltL, nI_eqL, va_up_self, va_up_ne, up_up, up_comm, nI_clamp, bI_eq0, not_true_eq_false, not_false_eq_true, Nat.reduceEqDiff, Nat.reduceLeDiff, Nat.reduceAdd, Nat.reduceMul, Nat.one_ne_zero, Nat.zero_ne_one, decide_eq_false_iff_not, decide_eq_true_eq, Bool.false_eq_true, decide_true, decide_false, bI_true, bI_false, one_ne, Nat.le_refl, Nat.lt_irrefl, cleT, cleF, cltT, cltF, ceqT, ceqF, ↓reduceIte, r196_0, r196_1, r196_4, r196_7, r196_8, r196_11, r196_12, r196_15, r196_16, r196_19, r196_22, r196_23, r196_26, zO81_5, zO81_8, h8, k5, k1', i1]
  · rw [if_neg k1] at hse
    rw [hse]
    refine ⟨_, ?_, hend, ends.2⟩
    simp (disch := first | omega | assumption | exact Or.inl rfl | exact Or.inr rfl | exact bI_or _ | exact zC81 | exact zC47 | exact zC65 | exact zC0 | exact zC1 | exact zC32 | exact zC70 | exact zC73 | exact ztc (by assumption) | exact zdc (by assumption) | exact zpc (by assumption) | decide) only [Option.some.injEq, exists_eq_left', ex2, Option.toList, List.singleton_append, List.append_nil, List.cons_append, List.nil_append, nI_add, nI_addL, nI_Ladd, pk_mul, nI_mulL, nI_Lmul, nI_subL, pk_sub, nI_divL, sub_dm, nI_leE, nI_ltE, nI_eqE, nI_Lle, nI_leL, nI_Llt, nI_ltL, nI_eqL, va_up_self, va_up_ne, up_up, up_comm, nI_clamp, bI_eq0, not_true_eq_false, not_false_eq_true, Nat.reduceEqDiff, Nat.reduceLeDiff, Nat.reduceAdd, Nat.reduceMul, Nat.one_ne_zero, Nat.zero_ne_one, decide_eq_false_iff_not, decide_eq_true_eq, Bool.false_eq_true, decide_true, decide_false, bI_true, bI_false, one_ne, Nat.le_refl, Nat.lt_irrefl, cleT, cleF, cltT, cltF, ceqT, ceqF, ↓reduceIte, r196_0, r196_1, r196_4, r196_7, r196_8, r196_11, r196_12, r196_15, r196_16, r196_19, r196_22, r196_23, r196_26, zO81_5, zO81_8, h8, k5, k1, ee]
end TXO
