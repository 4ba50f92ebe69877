/-! TEXT: the reference's lines of a town -/
section TXQ
variable {xs : Nat → Int32} {sl d : Nat} {J : hJk} {s x y : hS} {g : hG}
def fpS (fu : Bool) (q F P : Nat) : Nat × Nat := if fu = true ∧ F = 0 then (3, q) else (F, P)
theorem fpS_0 {fu : Bool} {q F P : Nat} (h : (fpS fu q F P).1 = 0) : fu = false ∧ F = 0 ∧ fpS fu q F P = (0, P) := by
  unfold fpS at h ⊢
  by_cases c : fu = true ∧ F = 0
  · rw [if_pos c] at h; exact absurd (show (3 : Nat) = 0 from h) (by decide)
  · rw [if_neg c] at h ⊢
    have h : F = 0 := h
    subst h
    cases fu
    · exact ⟨rfl, rfl, rfl⟩
    · exact absurd ⟨rfl, rfl⟩ c
theorem lnB_eq {b : Nat → Nat} {N : Nat} {fu w : Bool} {p F P : Nat} : lnB b N fu (w, p, F, P) = (false, eQ b N (rn isBl b N p), fpS fu (rn isBl b N p) F P) := by
  unfold lnB fpS noS
  cases fu
  · rw [if_neg (show ¬ (false = true ∧ F = 0) from fun h => by cases h.1)]
    rfl
  · by_cases c : F = 0
    · rw [if_pos (show true = true ∧ F = 0 from ⟨rfl, c⟩)]
      show (false, eQ b N (rn isBl b N p), (if F = 0 then ((w, p, 3, rn isBl b N p) : TxS) else (w, p, F, P)).2.2) = _
      rw [if_pos c]
    · rw [if_neg (show ¬ (true = true ∧ F = 0) from fun h => c h.2)]
      show (false, eQ b N (rn isBl b N p), (if F = 0 then ((w, p, 3, rn isBl b N p) : TxS) else (w, p, F, P)).2.2) = _
      rw [if_neg c]
theorem rf_full {b : Nat → Nat} {N e F P q : Nat} (hM : RM b N (false, e, F, P) s) (hPq : F ≠ 0 → P < q ∨ (P = q ∧ F ≤ 3)) (hqe : q < e) (hq : q < 1000) : ∃ t : hS, Runs xs sl (d) 188 0 [some (.ref (81)), some (.int ( 3)), some (.int ( nI q))] [] (hp J (s) g) (none, hp J t g) ∧ RM b N (false, e, fpS true q F P) t ∧ RF s t := by
  have hM' := hM
  obtain ⟨hT, hpN, h0, h⟩ := hM
  obtain ⟨h8, h5, h6, hP, hk⟩ := h rfl
  have h5 : s 82 5 = nI F := h5
  have h6 : F < 6 := h6
  have al := @rf_also xs sl d J s g F P q 3 3 rfl (by decide) (by omega) h8 h5 (fun hF => ⟨(hP hF).1, hPq hF⟩) hq
  by_cases c : F = 0
  · rw [if_pos c] at al
    have f1 : RF s (va_up s 82 (va_up (va_up (s 82) 5 3) 6 (nI q))) := by
      refine ⟨fun c h h' => ?_, fun j hj => ?_, fun i h => ?_⟩
      · rw [va_up_ne _ _ h']
      · rw [va_up_ne _ _ (by decide)]
      · rcases h with ⟨h, h'⟩ | h
        · rw [va_up_self, va_up_ne _ _ h', va_up_ne _ _ h]
        · rw [va_up_self, va_up_ne _ _ (by decide), va_up_self] at h; exact absurd h (by decide)
    have e1 : fpS true q F P = (3, q) := by unfold fpS; rw [if_pos ⟨rfl, c⟩]
    rw [e1]
    refine ⟨_, al.mpr rfl, ⟨RF_tp f1 hT, hpN, fun h => (by cases h), fun _ => ⟨?_, ?_, (by decide : (3 : Nat) < 6), fun _ => ⟨?_, Or.inl hqe⟩, ?_⟩⟩, f1⟩
    · rw [va_up_ne _ _ (by decide)]; exact h8
    · rw [va_up_self, va_up_ne _ _ (by decide), va_up_self]; rfl
    · rw [va_up_self, va_up_self]
    · unfold TKp
      rw [va_up_ne _ _ (by decide)]
      exact hk
  · rw [if_neg c] at al
    have e1 : fpS true q F P = (F, P) := by unfold fpS; rw [if_neg (fun h => c h.2)]
    rw [e1]
    exact ⟨s, al.mpr rfl, hM', RF_refl s⟩
def CR (s : hS) (h sa c : Nat) : Prop := (s 84 2 = nI h ∧ h ≤ 8) ∧ (s 84 3 = nI sa ∧ sa ≤ 12) ∧ (s 84 4 = nI c ∧ c ≤ 8)
theorem rl_house {b : Nat → Nat} {N e F P q h sa c : Nat} (hM : RM b N (false, e, F, P) s) (hPq : F ≠ 0 → P < q ∨ (P = q ∧ F ≤ 3)) (hqe : q < e) (heN : e ≤ N) (hK : CR s h sa c) (σ1 : TxS) (h1 : σ1 = (false, e, fpS (decide (8 ≤ h)) q F P)) : ∃ t : hS, Runs xs sl (d+3+1+1+1) 189 0 [some (.ref (81)), some (.int ( nI q)), none, none, none] [] (hp J (s) g) (none, hp J t g) ∧ RM b N (stI b N 3 σ1 2) t ∧ LF s t ∧ (∃ h' sa' c', CR t h' sa' c') ∧ ((stI b N 3 σ1 2).1 = false → (stI b N 3 σ1 2).2.2.1 = 0 → h < 8 ∧ t 84 = va_up (va_up (va_up (s 84) (5 + h) (nI (slV b N σ1))) (13 + h) (nI (slV b N (stI b N 3 σ1 1)))) 2 (nI (h + 1)) ∧ t 81 9 = s 81 9 ∧ t 81 10 = s 81 10) := by
  have hN6 : N ≤ 600 := hM.1.2.1
  obtain ⟨⟨k1, k1'⟩, ⟨k2, k2'⟩, ⟨k3, k3'⟩⟩ := id hK
  have st : ∃ s1 : hS, RM b N σ1 s1 ∧ RF s s1 ∧ ∀ z, Runs xs sl (d+3+1+1+1) 189 27 [some (.ref (81)), some (.int ( nI q)), some (.int ( bI (decide (h < 8)))), none, none] [] (hp J (s1) g) z → Runs xs sl (d+3+1+1+1) 189 0 [some (.ref (81)), some (.int ( nI q)), none, none, none] [] (hp J (s) g) z := by
    by_cases c8 : 8 ≤ h
    · obtain ⟨s1, q1, q2, q3⟩ := @rf_full xs sl (d + 3 + 1 + 1) J s g b N e F P q hM hPq hqe (by omega)
      have i1 := fun r => Runs.iff (r := r) q1
      rw [decide_eq_true c8] at h1
      rw [h1]
      refine ⟨s1, q2, q3, fun z hz => ?_⟩
      rw [decide_eq_false (by omega)] at hz
      simp (disch := first | omega | assumption | exact Or.inl rfl | exact Or.inr rfl | exact bI_or _ | exact zC81 | exact zC47 | exact zC65 | exact zC0 | exact zC1 | exact zC32 | exact zC70 | exact zC73 | exact ztc (by assumption) | exact zdc (by assumption) | exact zpc (by assumption) | decide) only [Option.some.injEq, exists_eq_left', ex2, Option.toList, List.singleton_append, List.append_nil, List.cons_append, List.nil_append, nI_add, nI_addL, nI_Ladd, pk_mul, nI_mulL, nI_Lmul, nI_subL, pk_sub, nI_divL, sub_dm, nI_leE, nI_ltE, nI_eqE, nI_Lle, nI_leL, nI_Llt, nI_ltL, nI_eqL, va_up_self, va_up_ne, up_up, up_comm, nI_clamp, bI_eq0, not_true_eq_false, not_false_eq_true, Nat.reduceEqDiff, Nat.reduceLeDiff, Nat.reduceAdd, Nat.reduceMul, Nat.one_ne_zero, Nat.zero_ne_one, decide_eq_false_iff_not, decide_eq_true_eq, Bool.false_eq_true, decide_true, decide_false, bI_true, bI_false, one_ne, Nat.le_refl, Nat.lt_irrefl, cleT, cleF, cltT, cltF, ceqT, ceqF, ↓reduceIte, r189_0, r189_1, r189_4, r189_5, r189_6, r189_8, r189_11, r189_12, r189_15, r189_16, r189_17, r189_18, r189_21, r189_22, r189_23, r189_24, zO81_11, zA84L, k1, c8, i1]
      exact hz
    · rw [decide_eq_false c8] at h1
      have e1 : fpS false q F P = (F, P) := by unfold fpS; rw [if_neg (fun h => by cases h.1)]
      rw [e1] at h1
      rw [h1]
      refine ⟨s, hM, RF_refl s, fun z hz => ?_⟩
      rw [decide_eq_true (by omega)] at hz
      simp (disch := first | omega | assumption | exact Or.inl rfl | exact Or.inr rfl | exact bI_or _ | exact zC81 | exact zC47 | exact zC65 | exact zC0 | exact zC1 | exact zC32 | exact zC70 | exact zC73 | exact ztc (by assumption) | exact zdc (by assumption) | exact zpc (by assumption) | decide) only [Option.some.injEq, exists_eq_left', ex2, Option.toList, List.singleton_append, List.append_nil, List.cons_append, List.nil_append, nI_add, nI_addL, nI_Ladd, pk_mul, nI_mulL, nI_Lmul, nI_subL, pk_sub, nI_divL, sub_dm, nI_leE, nI_ltE, nI_eqE, nI_Lle, nI_leL, nI_Llt, nI_ltL, nI_eqL, va_up_self, va_up_ne, up_up, up_comm, nI_clamp, bI_eq0, not_true_eq_false, not_false_eq_true, Nat.reduceEqDiff, Nat.reduceLeDiff, Nat.reduceAdd, Nat.reduceMul, Nat.one_ne_zero, Nat.zero_ne_one, decide_eq_false_iff_not, decide_eq_true_eq, Bool.false_eq_true, decide_true, decide_false, bI_true, bI_false, one_ne, Nat.le_refl, Nat.lt_irrefl, cleT, cleF, cltT, cltF, ceqT, ceqF, ↓reduceIte, r189_0, r189_1, r189_4, r189_5, r189_6, r189_8, r189_11, r189_12, r189_15, r189_16, r189_17, r189_18, r189_21, r189_22, r189_23, r189_24, zO81_11, zA84L, k1, c8]
      exact hz
  obtain ⟨s1, m1, f1, go1⟩ := st
  obtain ⟨v0, t1, a1, a2, a3, a4, a5, a6⟩ := @rf_numbered xs sl d J s1 g b N 1 9 1 9 σ1 m1 rfl rfl (by decide) (by decide) (okN 110 (slV b N σ1) (slV b N σ1)) rfl
  have a2 : RM b N (stI b N 3 σ1 1) t1 := a2
  obtain ⟨v1, t2, b1, b2, b3, b4, b5, b6⟩ := @rf_numbered xs sl d J t1 g b N 0 9 0 9 (stI b N 3 σ1 1) a2 rfl rfl (by decide) (by decide) (okN 122 (slV b N σ1) (slV b N (stI b N 3 σ1 1))) ok_le
  have b2 : RM b N (stI b N 3 σ1 2) t2 := b2
  obtain ⟨l1, l2, l3, l4⟩ := RF_LF (RF_trans (RF_trans f1 a3) b3)
  have i1 := fun r => Runs.iff (r := r) a1
  have i2 := fun r => Runs.iff (r := r) b1
  have kk : t2 84 2 = nI h := by rw [l2]; exact k1
  by_cases c8 : h < 8
  · rw [decide_eq_true c8] at go1
    refine ⟨va_up t2 84 (va_up (va_up (va_up (t2 84) (5 + h) (nI v0)) (13 + h) (nI v1)) 2 (nI (h + 1))), go1 _ ?_, RM_84 _ b2, LF_trans l1 (LF_84 _ _), ⟨h + 1, sa, c, ⟨by simp (disch := first | omega | assumption | exact Or.inl rfl | exact Or.inr rfl | exact bI_or _ | exact zC81 | exact zC47 | exact zC65 | exact zC0 | exact zC1 | exact zC32 | exact zC70 | exact zC73 | exact ztc (by assumption) | exact zdc (by assumption) | exact zpc (by assumption) | decide) only [Option.some.injEq, exists_eq_left', ex2, Option.toList, List.singleton_append, List.append_nil, List.cons_append, List.nil_append, nI_add, nI_addL, nI_Ladd, pk_mul, nI_mulL, nI_Lmul, nI_subL, pk_sub, nI_divL, sub_dm, nI_leE, nI_ltE, nI_eqE, nI_Lle, nI_leL, nI_Llt, nI_ltL, nI_eqL, va_up_self, va_up_ne, up_up, up_comm, nI_clamp, bI_eq0, not_true_eq_false, not_false_eq_true, Nat.reduceEqDiff, Nat.reduceLeDiff, Nat.reduceAdd, Nat.reduceMul, Nat.one_ne_zero, Nat.zero_ne_one, decide_eq_false_iff_not, decide_eq_true_eq, Bool.false_eq_true, decide_true, decide_false, bI_true, bI_false, one_ne, Nat.le_refl, Nat.lt_irrefl, cleT, cleF, cltT, cltF, ceqT, ceqF, ↓reduceIte], by omega⟩, ⟨by simp (disch := first | omega | assumption | exact Or.inl rfl | exact Or.inr rfl | exact bI_or _ | exact zC81 | exact zC47 | exact zC65 | exact zC0 | exact zC1 | exact zC32 | exact zC70 | exact zC73 | exact ztc (by assumption) | exact zdc (by assumption) | exact zpc (by assumption) | decide) only [Option.some.injEq, exists_eq_left', ex2, Option.toList, List.singleton_append, List.append_nil, List.cons_append, List.nil_append, nI_add, nI_addL, nI_Ladd, pk_mul, nI_mulL, nI_Lmul, nI_subL, pk_sub, nI_divL, sub_dm, nI_leE, nI_ltE, nI_eqE, nI_Lle, nI_leL, nI_Llt, nI_ltL, nI_eqL, va_up_self, va_up_ne, up_up, up_comm, nI_clamp, bI_eq0, not_true_eq_false, not_false_eq_true, Nat.reduceEqDiff, Nat.reduceLeDiff, Nat.reduceAdd, Nat.reduceMul, Nat.one_ne_zero, Nat.zero_ne_one, decide_eq_false_iff_not, decide_eq_true_eq, Bool.false_eq_true, decide_true, decide_false, bI_true, bI_false, one_ne, Nat.le_refl, Nat.lt_irrefl, cleT, cleF, cltT, cltF, ceqT, ceqF, ↓reduceIte]; rw [l2]; exact k2, k2'⟩, ⟨by simp (disch := first | omega | assumption | exact Or.inl rfl | exact Or.inr rfl | exact bI_or _ | exact zC81 | exact zC47 | exact zC65 | exact zC0 | exact zC1 | exact zC32 | exact zC70 | exact zC73 | exact ztc (by assumption) | exact zdc (by assumption) | exact zpc (by assumption) | decide) only [Option.some.injEq, exists_eq_left', ex2, Option.toList, List.singleton_append, List.append_nil, List.cons_append, List.nil_append, nI_add, nI_addL, nI_Ladd, pk_mul, nI_mulL, nI_Lmul, nI_subL, pk_sub, nI_divL, sub_dm, nI_leE, nI_ltE, nI_eqE, nI_Lle, nI_leL, nI_Llt, nI_ltL, nI_eqL, va_up_self, va_up_ne, up_up, up_comm, nI_clamp, bI_eq0, not_true_eq_false, not_false_eq_true, Nat.reduceEqDiff, Nat.reduceLeDiff, Nat.reduceAdd, Nat.reduceMul, Nat.one_ne_zero, Nat.zero_ne_one, decide_eq_false_iff_not, decide_eq_true_eq, Bool.false_eq_true, decide_true, decide_false, bI_true, bI_false, one_ne, Nat.le_refl, Nat.lt_irrefl, cleT, cleF, cltT, cltF, ceqT, ceqF, ↓reduceIte]; rw [l2]; exact k3, k3'⟩⟩, fun hw hF => ?_⟩
    · simp (disch := first | omega | assumption | exact Or.inl rfl | exact Or.inr rfl | exact bI_or _ | exact zC81 | exact zC47 | exact zC65 | exact zC0 | exact zC1 | exact zC32 | exact zC70 | exact zC73 | exact ztc (by assumption) | exact zdc (by assumption) | exact zpc (by assumption) | decide) only [Option.some.injEq, exists_eq_left', ex2, Option.toList, List.singleton_append, List.append_nil, List.cons_append, List.nil_append, nI_add, nI_addL, nI_Ladd, pk_mul, nI_mulL, nI_Lmul, nI_subL, pk_sub, nI_divL, sub_dm, nI_leE, nI_ltE, nI_eqE, nI_Lle, nI_leL, nI_Llt, nI_ltL, nI_eqL, va_up_self, va_up_ne, up_up, up_comm, nI_clamp, bI_eq0, not_true_eq_false, not_false_eq_true, Nat.reduceEqDiff, Nat.reduceLeDiff, Nat.reduceAdd, Nat.reduceMul, Nat.one_ne_zero, Nat.zero_ne_one, decide_eq_false_iff_not, decide_eq_true_eq, Bool.false_eq_true, decide_true, decide_false, bI_true, bI_false, one_ne, Nat.le_refl, Nat.lt_irrefl, cleT, cleF, cltT, cltF, ceqT, ceqF, ↓reduceIte, r189_27, r189_28, r189_29, r189_31, r189_34, r189_35, r189_36, r189_37, r189_39, r189_42, r189_44, r189_45, r189_48, r189_49, r189_50, r189_53, r189_54, r189_55, r189_58, r189_59, r189_60, r189_61, r189_62, r189_63, r189_64, r189_67, r189_69, r189_70, r189_73, r189_74, r189_75, r189_76, r189_78, r189_79, r189_80, r189_83, r189_84, r189_85, r189_86, r189_87, r189_88, r189_89, i1, i2, zO81_11, zA84L, zA84, zS84, zS84L, kk]
    · obtain ⟨w2, F2, o2⟩ := slS_ok (c := 122) hw hF
      obtain ⟨w1, F1, o1⟩ := slS_ok (c := 110) w2 F2
      rw [va_up_self, va_up_ne _ _ (by decide), l2, a6 w2 o1, b6 hw o2]
      exact ⟨c8, rfl, l3, l4⟩
  · rw [decide_eq_false c8] at go1
    refine ⟨t2, go1 _ ?_, b2, l1, ⟨h, sa, c, by unfold CR; rw [l2]; exact hK⟩, fun hw hF => ?_⟩
    · simp (disch := first | omega | assumption | exact Or.inl rfl | exact Or.inr rfl | exact bI_or _ | exact zC81 | exact zC47 | exact zC65 | exact zC0 | exact zC1 | exact zC32 | exact zC70 | exact zC73 | exact ztc (by assumption) | exact zdc (by assumption) | exact zpc (by assumption) | decide) only [Option.some.injEq, exists_eq_left', ex2, Option.toList, List.singleton_append, List.append_nil, List.cons_append, List.nil_append, nI_add, nI_addL, nI_Ladd, pk_mul, nI_mulL, nI_Lmul, nI_subL, pk_sub, nI_divL, sub_dm, nI_leE, nI_ltE, nI_eqE, nI_Lle, nI_leL, nI_Llt, nI_ltL, nI_eqL, va_up_self, va_up_ne, up_up, up_comm, nI_clamp, bI_eq0, not_true_eq_false, not_false_eq_true, Nat.reduceEqDiff, Nat.reduceLeDiff, Nat.reduceAdd, Nat.reduceMul, Nat.one_ne_zero, Nat.zero_ne_one, decide_eq_false_iff_not, decide_eq_true_eq, Bool.false_eq_true, decide_true, decide_false, bI_true, bI_false, one_ne, Nat.le_refl, Nat.lt_irrefl, cleT, cleF, cltT, cltF, ceqT, ceqF, ↓reduceIte, r189_27, r189_28, r189_29, r189_31, r189_34, r189_35, r189_36, r189_37, r189_39, r189_42, r189_44, r189_45, r189_48, r189_49, r189_50, r189_53, r189_54, r189_55, r189_58, r189_59, r189_60, r189_61, r189_62, r189_63, r189_64, r189_67, r189_69, r189_70, r189_73, r189_74, r189_75, r189_76, r189_78, r189_79, r189_80, r189_83, r189_84, r189_85, r189_86, r189_87, r189_88, r189_89, i1, i2]
    · obtain ⟨w2, F2, o2⟩ := slS_ok (c := 122) hw hF
      obtain ⟨w1, F1, o1⟩ := slS_ok (c := 110) w2 F2
      rw [h1] at F1
      have := (fpS_0 F1).1
      rw [decide_eq_false_iff_not] at this
      omega
end TXQ
