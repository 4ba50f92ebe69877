/-! TEXT: houses, topics and views told to the reference -/
section TXP
variable {xs : Nat → Int32} {sl d : Nat} {J : hJk} {s x y : hS} {g : hG}
theorem zA84L {n : Nat} (h : OfNat.ofNat n < 161) : hA (hp J s g) 84 0 (no_index (OfNat.ofNat n : Int32)) = some (s 84 (OfNat.ofNat n)) := zA84 h
theorem zS84L {n : Nat} {v : Int32} (h : OfNat.ofNat n < 161) : hAw (hp J s g) 84 0 (no_index (OfNat.ofNat n : Int32)) v = some (hp J (va_up s 84 (va_up (s 84) (OfNat.ofNat n) v)) g) := zS84 h
/-- what a line leaves -/
def LF (s t : hS) : Prop := (∀ c, c ≠ 81 → c ≠ 82 → c ≠ 84 → t c = s c) ∧ (∀ j, j < 3 ∨ 10 < j → t 81 j = s 81 j) ∧ (∀ i, (i ≠ 5 ∧ i ≠ 6) ∨ t 82 5 = 0 → t 82 i = s 82 i)
theorem LF_refl (s : hS) : LF s s := ⟨fun _ _ _ _ => rfl, fun _ _ => rfl, fun _ _ => rfl⟩
theorem LF_trans {x y z : hS} (h1 : LF x y) (h2 : LF y z) : LF x z := ⟨fun c h h' h'' => (h2.1 c h h' h'').trans (h1.1 c h h' h''), fun j h => (h2.2.1 j h).trans (h1.2.1 j h), fun i h => by
  rcases h with h | h
  · exact (h2.2.2 i (Or.inl h)).trans (h1.2.2 i (Or.inl h))
  · have e := h2.2.2 5 (Or.inr h)
    exact (h2.2.2 i (Or.inr h)).trans (h1.2.2 i (Or.inr (e.symm.trans h)))⟩
theorem RF_LF {s t : hS} (h : RF s t) : LF s t ∧ t 84 = s 84 ∧ t 81 9 = s 81 9 ∧ t 81 10 = s 81 10 := ⟨⟨fun c h1 h2 _ => h.1 c h1 h2, fun j hj => h.2.1 j (by omega), h.2.2⟩, h.1 84 (by decide) (by decide), h.2.1 9 (by omega), h.2.1 10 (by omega)⟩
theorem LF_84 (s : hS) (f : Nat → Int32) : LF s (va_up s 84 f) := ⟨fun c _ _ h => va_up_ne _ _ h, fun j _ => by rw [va_up_ne _ _ (by decide)], fun i _ => by rw [va_up_ne _ _ (by decide)]⟩
theorem RM_fr {b : Nat → Nat} {N : Nat} {σ : TxS} {s t : hS} (h : RM b N σ s) (h1 : ∀ j, j < 9 → t 81 j = s 81 j) (h2 : t 82 = s 82) : RM b N σ t := by
  obtain ⟨a1, a2, a3, a4⟩ := h
  refine ⟨tpR_fr a1 (h1 2 (by omega)) (fun i _ => by rw [h2]), a2, fun w => ?_, fun w => ?_⟩
  · rw [h1 8 (by omega), h2]; exact a3 w
  · unfold TKp
    rw [h1 8 (by omega), h1 3 (by omega), h1 4 (by omega), h1 5 (by omega), h1 6 (by omega), h1 7 (by omega), h2]; exact a4 w
theorem RM_84 {b : Nat → Nat} {N : Nat} {σ : TxS} {s : hS} (f : Nat → Int32) (h : RM b N σ s) : RM b N σ (va_up s 84 f) := RM_fr h (fun j _ => by rw [va_up_ne _ _ (by decide)]) (va_up_ne _ _ (by decide))
theorem ok_lt {v n : Nat} (m : Nat) (h : n = m + 1) : decide (v < n) = (decide (0 ≤ v) && decide (v ≤ m)) := by
  subst h
  rw [decide_eq_true (Nat.zero_le v), Bool.true_and]
  exact decide_eq_decide.mpr Nat.lt_succ_iff
theorem ok_le {v n : Nat} : decide (v ≤ n) = (decide (0 ≤ v) && decide (v ≤ n)) := by
  rw [decide_eq_true (Nat.zero_le v), Bool.true_and]
theorem rf_houseTold {b : Nat → Nat} {N : Nat} {σ : TxS} (hM : RM b N σ s) : ∃ (v : Nat) (t : hS), Runs xs sl (d+3+1+1+1) 191 0 [some (.ref (81)), none] [] (hp J (s) g) (some (.int (nI v)), hp J t g) ∧ RM b N (nuS b N (decide (slV b N σ < 8)) σ) t ∧ LF s t ∧ t 84 = s 84 ∧ t 81 10 = s 81 10 ∧ t 81 9 = (if s 81 9 < nI v then nI v else s 81 9) ∧ v < 8 ∧ ((nuS b N (decide (slV b N σ < 8)) σ).1 = false → slV b N σ < 8 → v = slV b N σ) := by
  obtain ⟨v, t, q1, q2, q3, -, q5, q6⟩ := @rf_numbered xs sl d J s g b N 0 7 0 7 σ hM rfl rfl (by decide) (by decide) _ (ok_lt 7 rfl)
  obtain ⟨f1, f2, f3, f4⟩ := RF_LF q3
  have i1 := fun r => Runs.iff (r := r) q1
  have e : (if nI v ≤ t 81 9 then t 81 9 else nI v) = (if s 81 9 < nI v then nI v else s 81 9) := by
    rw [f3]
    by_cases c : s 81 9 < nI v
    · rw [if_pos c, if_neg (Int32.not_le.mpr c)]
    · rw [if_neg c, if_pos (Int32.not_lt.mp c)]
  refine ⟨v, va_up t 81 (va_up (t 81) 9 (if s 81 9 < nI v then nI v else s 81 9)), ?_, RM_fr q2 (fun j hj => by rw [va_up_self, va_up_ne _ _ (by omega)]) (va_up_ne _ _ (by decide)), LF_trans f1 ⟨fun c h _ _ => va_up_ne _ _ h, fun j hj => by rw [va_up_self, va_up_ne _ _ (by omega)], fun i _ => by rw [va_up_ne _ _ (by decide)]⟩, by rw [va_up_ne _ _ (by decide)]; exact f2, by rw [va_up_self, va_up_ne _ _ (by decide)]; exact f4, by rw [va_up_self, va_up_self], by omega, fun h h' => q6 h (decide_eq_true h')⟩
  rw [← e]
  by_cases c : nI v ≤ t 81 9
  · rw [if_pos c]
    simp (disch := first | omega | assumption | exact Or.inl rfl | exact Or.inr rfl | exact bI_or _ | exact zC81 | exact zC47 | exact zC65 | exact zC0 | exact zC1 | exact zC32 | exact zC70 | exact zC73 | exact ztc (by assumption) | exact zdc (by assumption) | exact zpc (by assumption) | decide) only [Option.some.injEq, exists_eq_left', ex2, Option.toList, List.singleton_append, List.append_nil, List.cons_append, List.nil_append, nI_add, nI_addL, nI_Ladd, pk_mul, nI_mulL, nI_Lmul, nI_subL, pk_sub, nI_divL, sub_dm, nI_leE, nI_ltE, nI_eqE, nI_Lle, nI_leL, nI_Llt, nI_ltL, nI_eqL, va_up_self, va_up_ne, up_up, up_comm, nI_clamp, bI_eq0, not_true_eq_false, not_false_eq_true, Nat.reduceEqDiff, Nat.reduceLeDiff, Nat.reduceAdd, Nat.reduceMul, Nat.one_ne_zero, Nat.zero_ne_one, decide_eq_false_iff_not, decide_eq_true_eq, Bool.false_eq_true, decide_true, decide_false, bI_true, bI_false, one_ne, Nat.le_refl, Nat.lt_irrefl, cleT, cleF, cltT, cltF, ceqT, ceqF, ↓reduceIte, r191_0, r191_1, r191_2, r191_4, r191_7, r191_7_1, r191_8, r191_9, r191_10, r191_11, r191_14, r191_17, r191_18, r191_21, r191_22, r191_25, r191_28, r191_29, i1, zO81_9, zW81_9, c]
  · rw [if_neg c]
    simp (disch := first | omega | assumption | exact Or.inl rfl | exact Or.inr rfl | exact bI_or _ | exact zC81 | exact zC47 | exact zC65 | exact zC0 | exact zC1 | exact zC32 | exact zC70 | exact zC73 | exact ztc (by assumption) | exact zdc (by assumption) | exact zpc (by assumption) | decide) only [Option.some.injEq, exists_eq_left', ex2, Option.toList, List.singleton_append, List.append_nil, List.cons_append, List.nil_append, nI_add, nI_addL, nI_Ladd, pk_mul, nI_mulL, nI_Lmul, nI_subL, pk_sub, nI_divL, sub_dm, nI_leE, nI_ltE, nI_eqE, nI_Lle, nI_leL, nI_Llt, nI_ltL, nI_eqL, va_up_self, va_up_ne, up_up, up_comm, nI_clamp, bI_eq0, not_true_eq_false, not_false_eq_true, Nat.reduceEqDiff, Nat.reduceLeDiff, Nat.reduceAdd, Nat.reduceMul, Nat.one_ne_zero, Nat.zero_ne_one, decide_eq_false_iff_not, decide_eq_true_eq, Bool.false_eq_true, decide_true, decide_false, bI_true, bI_false, one_ne, Nat.le_refl, Nat.lt_irrefl, cleT, cleF, cltT, cltF, ceqT, ceqF, ↓reduceIte, r191_0, r191_1, r191_2, r191_4, r191_7, r191_7_1, r191_8, r191_9, r191_10, r191_11, r191_14, r191_17, r191_18, r191_21, r191_22, r191_25, r191_28, r191_29, i1, zO81_9, zW81_9, c]
theorem rf_topicTold {b : Nat → Nat} {N : Nat} {σ : TxS} (hM : RM b N σ s) : ∃ (v : Nat) (t : hS), Runs xs sl (d+3+1+1+1) 192 0 [some (.ref (81)), none] [] (hp J (s) g) (some (.int (nI v)), hp J t g) ∧ RM b N (nuS b N (decide (slV b N σ < 6)) σ) t ∧ LF s t ∧ t 84 = s 84 ∧ t 81 9 = s 81 9 ∧ t 81 10 = (if s 81 10 < nI v then nI v else s 81 10) ∧ v < 6 ∧ ((nuS b N (decide (slV b N σ < 6)) σ).1 = false → slV b N σ < 6 → v = slV b N σ) := by
  obtain ⟨v, t, q1, q2, q3, -, q5, q6⟩ := @rf_numbered xs sl d J s g b N 0 5 0 5 σ hM rfl rfl (by decide) (by decide) _ (ok_lt 5 rfl)
  obtain ⟨f1, f2, f3, f4⟩ := RF_LF q3
  have i1 := fun r => Runs.iff (r := r) q1
  have e : (if nI v ≤ t 81 10 then t 81 10 else nI v) = (if s 81 10 < nI v then nI v else s 81 10) := by
    rw [f4]
    by_cases c : s 81 10 < nI v
    · rw [if_pos c, if_neg (Int32.not_le.mpr c)]
    · rw [if_neg c, if_pos (Int32.not_lt.mp c)]
  refine ⟨v, va_up t 81 (va_up (t 81) 10 (if s 81 10 < nI v then nI v else s 81 10)), ?_, RM_fr q2 (fun j hj => by rw [va_up_self, va_up_ne _ _ (by omega)]) (va_up_ne _ _ (by decide)), LF_trans f1 ⟨fun c h _ _ => va_up_ne _ _ h, fun j hj => by rw [va_up_self, va_up_ne _ _ (by omega)], fun i _ => by rw [va_up_ne _ _ (by decide)]⟩, by rw [va_up_ne _ _ (by decide)]; exact f2, by rw [va_up_self, va_up_ne _ _ (by decide)]; exact f3, by rw [va_up_self, va_up_self], by omega, fun h h' => q6 h (decide_eq_true h')⟩
  rw [← e]
  by_cases c : nI v ≤ t 81 10
  · rw [if_pos c]
    simp (disch := first | omega | assumption | exact Or.inl rfl | exact Or.inr rfl | exact bI_or _ | exact zC81 | exact zC47 | exact zC65 | exact zC0 | exact zC1 | exact zC32 | exact zC70 | exact zC73 | exact ztc (by assumption) | exact zdc (by assumption) | exact zpc (by assumption) | decide) only [Option.some.injEq, exists_eq_left', ex2, Option.toList, List.singleton_append, List.append_nil, List.cons_append, List.nil_append, nI_add, nI_addL, nI_Ladd, pk_mul, nI_mulL, nI_Lmul, nI_subL, pk_sub, nI_divL, sub_dm, nI_leE, nI_ltE, nI_eqE, nI_Lle, nI_leL, nI_Llt, nI_ltL, nI_eqL, va_up_self, va_up_ne, up_up, up_comm, nI_clamp, bI_eq0, not_true_eq_false, not_false_eq_true, Nat.reduceEqDiff, Nat.reduceLeDiff, Nat.reduceAdd, Nat.reduceMul, Nat.one_ne_zero, Nat.zero_ne_one, decide_eq_false_iff_not, decide_eq_true_eq, Bool.false_eq_true, decide_true, decide_false, bI_true, bI_false, one_ne, Nat.le_refl, Nat.lt_irrefl, cleT, cleF, cltT, cltF, ceqT, ceqF, ↓reduceIte, r192_0, r192_1, r192_2, r192_3, r192_6, r192_6_1, r192_7, r192_8, r192_9, r192_10, r192_13, r192_16, r192_17, r192_20, r192_21, r192_24, r192_27, r192_28, i1, zO81_10, zW81_10, c]
  · rw [if_neg c]
    simp (disch := first | omega | assumption | exact Or.inl rfl | exact Or.inr rfl | exact bI_or _ | exact zC81 | exact zC47 | exact zC65 | exact zC0 | exact zC1 | exact zC32 | exact zC70 | exact zC73 | exact ztc (by assumption) | exact zdc (by assumption) | exact zpc (by assumption) | decide) only [Option.some.injEq, exists_eq_left', ex2, Option.toList, List.singleton_append, List.append_nil, List.cons_append, List.nil_append, nI_add, nI_addL, nI_Ladd, pk_mul, nI_mulL, nI_Lmul, nI_subL, pk_sub, nI_divL, sub_dm, nI_leE, nI_ltE, nI_eqE, nI_Lle, nI_leL, nI_Llt, nI_ltL, nI_eqL, va_up_self, va_up_ne, up_up, up_comm, nI_clamp, bI_eq0, not_true_eq_false, not_false_eq_true, Nat.reduceEqDiff, Nat.reduceLeDiff, Nat.reduceAdd, Nat.reduceMul, Nat.one_ne_zero, Nat.zero_ne_one, decide_eq_false_iff_not, decide_eq_true_eq, Bool.false_eq_true, decide_true, decide_false, bI_true, bI_false, one_ne, Nat.le_refl, Nat.lt_irrefl, cleT, cleF, cltT, cltF, ceqT, ceqF, ↓reduceIte, r192_0, r192_1, r192_2, r192_3, r192_6, r192_6_1, r192_7, r192_8, r192_9, r192_10, r192_13, r192_16, r192_17, r192_20, r192_21, r192_24, r192_27, r192_28, i1, zO81_10, zW81_10, c]
theorem wm_w : ∀ v, v < 22 → okW 119 v = (decide (8 ≤ wm v) && decide (wm v ≤ 9)) ∧ okW 107 v = (decide (10 ≤ wm v) && decide (wm v ≤ 14)) ∧ (nI (wm v) = 9 ↔ v = 21) ∧ (okW 107 v = true → wm v = 10 + v) := by decide +kernel
theorem woS_k {b : Nat → Nat} {N : Nat} {ok : Bool} {σ : TxS} (h : (woS b N ok σ).1 = false) : kQ b N (rn isBl b N σ.2.1) = 3 := by
  obtain ⟨h1, -, -⟩ := woS_ok h
  unfold woS at h
  rw [if_neg (show ¬ σ.1 = true by rw [h1]; decide)] at h
  by_cases k : kQ b N (rn isBl b N σ.2.1) = 3 ∧ ok = true
  · exact k.1
  · rw [if_neg k] at h; cases h
theorem rf_viewTold {b : Nat → Nat} {N : Nat} {σ : TxS} (hM : RM b N σ s) (τ : TxS) (hτ : τ = woS b N (okW 119 (slV b N σ)) σ) : ∃ (x : Int32) (t : hS), Runs xs sl (d+3+1+1+1) 193 0 [some (.ref (81)), none, none] [] (hp J (s) g) (some (.int x), hp J t g) ∧ RM b N (nuS b N (decide (slV b N τ ≤ 3)) τ) t ∧ RF s t ∧ ((nuS b N (decide (slV b N τ ≤ 3)) τ).1 = false → slV b N τ ≤ 3 → x = viS (slV b N σ) (slV b N τ)) := by
  obtain ⟨t1, q1, q2, q3⟩ := @rf_takes xs sl d J s g b N 8 9 8 9 σ hM rfl rfl (by decide) (okW 119 (slV b N σ)) (fun h => (wm_w _ (vQ_word h).1).1)
  rw [← hτ] at q1 q2
  obtain ⟨v, t, z1, z2, z3, -, z5, z6⟩ := @rf_numbered xs sl d J t1 g b N 0 3 0 3 τ q2 rfl rfl (by decide) (by decide) _ ok_le
  have i1 := fun r => Runs.iff (r := r) q1
  have i2 := fun r => Runs.iff (r := r) z1
  refine ⟨if (if τ.1 = true then 0 else nI (wm (slV b N σ))) = (9 : Int32) then -nI v else nI v, t, ?_, z2, RF_trans q3 z3, fun h h' => ?_⟩
  · by_cases c : (if τ.1 = true then 0 else nI (wm (slV b N σ))) = (9 : Int32)
    · rw [if_pos c]
      generalize (if τ.1 = true then 0 else nI (wm (slV b N σ))) = k at *
      have c' := eq_true c
      simp (disch := first | omega | assumption | exact Or.inl rfl | exact Or.inr rfl | exact bI_or _ | exact zC81 | exact zC47 | exact zC65 | exact zC0 | exact zC1 | exact zC32 | exact zC70 | exact zC73 | exact ztc (by assumption) | exact zdc (by assumption) | exact zpc (by assumption) | decide) only [Option.some.injEq, exists_eq_left', ex2, Option.toList, List.singleton_append, List.append_nil, List.cons_append, List.nil_append, nI_add, nI_addL, nI_Ladd, pk_mul, nI_mulL, nI_Lmul, nI_subL, pk_sub, nI_divL, sub_dm, nI_leE, nI_ltE, nI_eqE, nI_Lle, nI_leL, nI_Llt, nI_ltL, nI_eqL, va_up_self, va_up_ne, up_up, up_comm, nI_clamp, bI_eq0, not_true_eq_false, not_false_eq_true, Nat.reduceEqDiff, Nat.reduceLeDiff, Nat.reduceAdd, Nat.reduceMul, Nat.one_ne_zero, Nat.zero_ne_one, decide_eq_false_iff_not, decide_eq_true_eq, Bool.false_eq_true, decide_true, decide_false, bI_true, bI_false, one_ne, Nat.le_refl, Nat.lt_irrefl, cleT, cleF, cltT, cltF, ceqT, ceqF, ↓reduceIte, r193_0, r193_1, r193_3, r193_5, r193_8, r193_8_1, r193_9, r193_10, r193_11, r193_12, r193_15, r193_16, r193_17, r193_19, r193_22, r193_23, r193_24, r193_27, r193_28, i1, i2, c']
    · rw [if_neg c]
      generalize (if τ.1 = true then 0 else nI (wm (slV b N σ))) = k at *
      simp (disch := first | omega | assumption | exact Or.inl rfl | exact Or.inr rfl | exact bI_or _ | exact zC81 | exact zC47 | exact zC65 | exact zC0 | exact zC1 | exact zC32 | exact zC70 | exact zC73 | exact ztc (by assumption) | exact zdc (by assumption) | exact zpc (by assumption) | decide) only [Option.some.injEq, exists_eq_left', ex2, Option.toList, List.singleton_append, List.append_nil, List.cons_append, List.nil_append, nI_add, nI_addL, nI_Ladd, pk_mul, nI_mulL, nI_Lmul, nI_subL, pk_sub, nI_divL, sub_dm, nI_leE, nI_ltE, nI_eqE, nI_Lle, nI_leL, nI_Llt, nI_ltL, nI_eqL, va_up_self, va_up_ne, up_up, up_comm, nI_clamp, bI_eq0, not_true_eq_false, not_false_eq_true, Nat.reduceEqDiff, Nat.reduceLeDiff, Nat.reduceAdd, Nat.reduceMul, Nat.one_ne_zero, Nat.zero_ne_one, decide_eq_false_iff_not, decide_eq_true_eq, Bool.false_eq_true, decide_true, decide_false, bI_true, bI_false, one_ne, Nat.le_refl, Nat.lt_irrefl, cleT, cleF, cltT, cltF, ceqT, ceqF, ↓reduceIte, r193_0, r193_1, r193_3, r193_5, r193_8, r193_8_1, r193_9, r193_10, r193_11, r193_12, r193_15, r193_16, r193_17, r193_19, r193_22, r193_23, r193_24, r193_27, r193_28, i1, i2, c]
  · have e := z6 h (decide_eq_true h')
    subst e
    have hw : τ.1 = false := by
      cases hτw : τ.1
      · rfl
      · rw [nuS_w hτw, hτw] at h; cases h
    rw [if_neg (show ¬ τ.1 = true by rw [hw]; decide)]
    have hk : kQ b N (rn isBl b N σ.2.1) = 3 := woS_k (hτ ▸ hw)
    have w21 := (wm_w (slV b N σ) (vQ_word hk).1).2.2.1
    unfold viS
    by_cases c : slV b N σ = 21
    · rw [if_pos (w21.mpr c), if_pos c]
    · rw [if_neg (fun h => c (w21.mp h)), if_neg c]
end TXP
