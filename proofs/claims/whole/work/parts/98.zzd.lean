/-! TEXT: all lines, read by both -/
section TXZD
variable {xs : Nat → Int32} {sl d d' : Nat} {J : hJk} {s t x y : hS} {g : hG}
theorem DRr_fr {so : Nat} (hf : ∀ c, 33 ≤ c → c ≤ 44 → x c = s c) (h13 : x 32 13 = s 32 13) (h14 : x 32 14 = s 32 14) (h : DRr so s t) : DRr so x t := by
  unfold DRr at h ⊢
  rw [h13, h14]
  by_cases c0 : so = 0
  · rw [if_pos c0] at h ⊢
    obtain ⟨n, li, h', sa, c, G, T, hW, r⟩ := h
    exact ⟨n, li, h', sa, c, G, T, TownW_fr (fun c h1 h2 => hf c h1 (by omega)) hW, r⟩
  rw [if_neg c0] at h ⊢
  by_cases c1 : so = 1
  · rw [if_pos c1] at h ⊢
    obtain ⟨D, hW⟩ := h
    exact ⟨D, DaysQ_fr (hf 41 (by decide) (by decide)) (hf 42 (by decide) (by decide)) (fun i _ => rfl) hW⟩
  rw [if_neg c1] at h ⊢
  obtain ⟨n, li, c, T, hW, r⟩ := h
  exact ⟨n, li, c, T, PlateW_fr (hf 43 (by decide) (by decide)) (hf 44 (by decide) (by decide)) hW, r⟩
def FIN (so N F P : Nat) (s t : hS) : Prop := s 32 3 = nI F ∧ F < 6 ∧ (F ≠ 0 → s 32 4 = nI P) ∧ t 82 5 = nI F ∧ (F ≠ 0 → t 82 6 = nI P) ∧ (F = 0 → t 81 8 = 0 ∧ t 81 4 = nI N ∧ s 32 7 = nI N ∧ s 32 8 = nI so ∧ DRr so s t)
theorem XF_trans {x y z : hS} (h1 : XF x y) (h2 : XF y z) : XF x z := fun c h => (h2 c h).trans (h1 c h)
theorem lines_both {b : Nat → Nat} {N so : Nat} {A : Int32} (hso : so < 3) : ∀ k (σ : TxS) (s t : hS) (line : Nat), N - σ.2.1 < k → σ.1 = false → REL b N so σ s t → line ≤ σ.2.1 → ∃ (F P : Nat) (s' t' : hS), Runs xs sl (d+4+1+1+1+1) 87 2 [some (.ref (32)), some (.int ( nI line))] [] (hp J (s) g) (none, hp J s' g) ∧ (∀ z, Runs xs sl (d'+8+1) 172 161 [some (.ref (81)), some (.int ( nI so)), some (.int ( A)), none, none] [] (hp J (t') g) z → Runs xs sl (d'+8+1) 172 100 [some (.ref (81)), some (.int ( nI so)), some (.int ( A)), none, none] [] (hp J (t) g) z) ∧ XF s s' ∧ LF t t' ∧ FIN so N F P s' t' := by
  intro k
  induction k with
  | zero => intro σ s t line hk; omega
  | succ k ih =>
    intro σ s t line hk hw hR hl
    obtain ⟨hC, hM, h8, -, -, hD⟩ := id hR
    obtain ⟨hT, hpN, h9, h3⟩ := id hC
    obtain ⟨mT, -, -, m4⟩ := id hM
    obtain ⟨m8, m5, m6, mP, tkp⟩ := m4 hw
    have h7 : s 32 7 = nI N := hT.2.1
    have hN6 : N ≤ 600 := hT.2.2.1
    have hlN : ¬ N < line := by omega
    obtain ⟨f3, f6, f4⟩ := h3 hw
    have h9 : s 32 9 = nI σ.2.1 := by rw [if_neg (show ¬ σ.1 = true by rw [hw]; decide)] at h9; exact h9
    by_cases k0 : kQ b N (rn isBl b N σ.2.1) = 0
    · obtain ⟨s1, run1, tk⟩ := @cl_take xs sl (d + 1) J s g b N σ.2.1 hT h9 hpN
      have run1 := (show d + 1 + 4 + 1 + 1 = d + 4 + 1 + 1 + 1 by omega) ▸ run1
      have i1 := fun r => Runs.iff (r := r) run1
      obtain ⟨t0, t1, t11, tk0, -⟩ := tk
      have z10 := tk0 k0
      have qN : rn isBl b N σ.2.1 = N := by
        have r2 := (rn_prop (P := isBl) (b := b) (N := N) (N - σ.2.1) σ.2.1 (by omega)).2.1
        unfold kQ at k0
        by_cases c0 : N ≤ rn isBl b N σ.2.1
        · omega
        · rw [if_neg c0] at k0
          by_cases c1 : b (rn isBl b N σ.2.1) = 59
          · rw [if_pos c1] at k0; omega
          rw [if_neg c1] at k0
          by_cases c2 : isDg (b (rn isBl b N σ.2.1)) = true
          · rw [if_pos c2] at k0
            by_cases c3 : rn isDg b N (rn isBl b N σ.2.1) - rn isBl b N σ.2.1 ≤ 2
            · rw [if_pos c3] at k0; omega
            · rw [if_neg c3] at k0; omega
          rw [if_neg c2] at k0
          by_cases c3 : isLt (b (rn isBl b N σ.2.1)) = true
          · rw [if_pos c3] at k0
            by_cases c4 : (wix b (rn isBl b N σ.2.1) (rn isLt b N (rn isBl b N σ.2.1))).isSome = true
            · rw [if_pos c4] at k0; omega
            · rw [if_neg c4] at k0; omega
          · rw [if_neg c3] at k0; omega
      have k5 := tkp.2.1
      rw [k0] at k5
      have k5 : t 81 5 = 0 := k5
      refine ⟨σ.2.2.1, σ.2.2.2, s1, t, ?_, fun z hz => ?_, fun c hc => t0 c (by omega), LF_refl t, (t1 3 (by omega)).trans f3, f6, fun hF => (t1 4 (by omega)).trans (f4 hF).1, m5, fun hF => (mP hF).1, fun hF => ⟨m8, by rw [tkp.1, qN], (t1 7 (by omega)).trans h7, (t1 8 (by omega)).trans h8, DRr_fr (fun c h1 h2 => t0 c (by omega)) (t1 13 (by omega)) (t1 14 (by omega)) (hD hF)⟩⟩
      · rw [r87_2]
        simp (disch := first | omega | assumption | exact Or.inl rfl | exact Or.inr rfl | exact bI_or _ | exact zC81 | exact zC47 | exact zC65 | exact zC0 | exact zC1 | exact zC32 | exact zC70 | exact zC73 | exact ztc (by assumption) | exact zdc (by assumption) | exact zpc (by assumption) | decide) only [Option.some.injEq, exists_eq_left', ex2, Option.toList, List.singleton_append, List.append_nil, List.cons_append, List.nil_append, nI_add, nI_addL, nI_Ladd, pk_mul, nI_mulL, nI_Lmul, nI_subL, pk_sub, nI_divL, sub_dm, nI_leE, nI_ltE, nI_eqE, nI_Lle, nI_leL, nI_Llt, nI_ltL, nI_eqL, va_up_self, va_up_ne, up_up, up_comm, nI_clamp, bI_eq0, not_true_eq_false, not_false_eq_true, Nat.reduceEqDiff, Nat.reduceLeDiff, Nat.reduceAdd, Nat.reduceMul, Nat.one_ne_zero, Nat.zero_ne_one, decide_eq_false_iff_not, decide_eq_true_eq, Bool.false_eq_true, decide_true, decide_false, bI_true, bI_false, one_ne, Nat.le_refl, Nat.lt_irrefl, cleT, cleF, cltT, cltF, ceqT, ceqF, ↓reduceIte, r87_3, r87_4, r87_7, r87_10, r87_11, r87_14, r87_15, r87_18, r87_21, r87_22, r87_23, r87_26, r87_29, r87_30, r87_31, r87_34, r87_35, r87_36, r87_39, r87_42, r87_43, r87_43_1, r87_46, r87_49, zO32_7, zO32_10, h7, hlN, i1, z10]
      · rw [r172_100]
        simp (disch := first | omega | assumption | exact Or.inl rfl | exact Or.inr rfl | exact bI_or _ | exact zC81 | exact zC47 | exact zC65 | exact zC0 | exact zC1 | exact zC32 | exact zC70 | exact zC73 | exact ztc (by assumption) | exact zdc (by assumption) | exact zpc (by assumption) | decide) only [Option.some.injEq, exists_eq_left', ex2, Option.toList, List.singleton_append, List.append_nil, List.cons_append, List.nil_append, nI_add, nI_addL, nI_Ladd, pk_mul, nI_mulL, nI_Lmul, nI_subL, pk_sub, nI_divL, sub_dm, nI_leE, nI_ltE, nI_eqE, nI_Lle, nI_leL, nI_Llt, nI_ltL, nI_eqL, va_up_self, va_up_ne, up_up, up_comm, nI_clamp, bI_eq0, not_true_eq_false, not_false_eq_true, Nat.reduceEqDiff, Nat.reduceLeDiff, Nat.reduceAdd, Nat.reduceMul, Nat.one_ne_zero, Nat.zero_ne_one, decide_eq_false_iff_not, decide_eq_true_eq, Bool.false_eq_true, decide_true, decide_false, bI_true, bI_false, one_ne, Nat.le_refl, Nat.lt_irrefl, cleT, cleF, cltT, cltF, ceqT, ceqF, ↓reduceIte, r172_101, r172_104, r172_107, r172_108, r172_111, r172_114, r172_115_c0, r172_115_c1, r172_115_d, r172_140, r172_141, r172_144, r172_147, r172_148, r172_151, r172_154, r172_155, r172_158, zO81_5, zO81_8, m8, k5]
        exact hz
    · obtain ⟨σ', s1, s4, t', c1, c2, c3, c4, c5, c6, c7, c8, c9⟩ := @step_all xs sl d d' J s t g b N so σ hso hw hR
      have n10 := (TKC_no c2).2.2.2 k0
      have i1 := fun r => Runs.iff (r := r) c1
      have i2 := fun r => Runs.iff (r := r) c3
      have k5 : ¬ t 81 5 = 0 := by
        rw [tkp.2.1]
        have := kQ_cases b N (rn isBl b N σ.2.1)
        simp (disch := first | omega | assumption | exact Or.inl rfl | exact Or.inr rfl | exact bI_or _ | exact zC81 | exact zC47 | exact zC65 | exact zC0 | exact zC1 | exact zC32 | exact zC70 | exact zC73 | exact ztc (by assumption) | exact zdc (by assumption) | exact zpc (by assumption) | decide) only [Option.some.injEq, exists_eq_left', ex2, Option.toList, List.singleton_append, List.append_nil, List.cons_append, List.nil_append, nI_add, nI_addL, nI_Ladd, pk_mul, nI_mulL, nI_Lmul, nI_subL, pk_sub, nI_divL, sub_dm, nI_leE, nI_ltE, nI_eqE, nI_Lle, nI_leL, nI_Llt, nI_ltL, nI_eqL, va_up_self, va_up_ne, up_up, up_comm, nI_clamp, bI_eq0, not_true_eq_false, not_false_eq_true, Nat.reduceEqDiff, Nat.reduceLeDiff, Nat.reduceAdd, Nat.reduceMul, Nat.one_ne_zero, Nat.zero_ne_one, decide_eq_false_iff_not, decide_eq_true_eq, Bool.false_eq_true, decide_true, decide_false, bI_true, bI_false, one_ne, Nat.le_refl, Nat.lt_irrefl, cleT, cleF, cltT, cltF, ceqT, ceqF, ↓reduceIte, k0]
      have refl : ∀ z, Runs xs sl (d'+8+1) 172 100 [some (.ref (81)), some (.int ( nI so)), some (.int ( A)), none, none] [] (hp J (t') g) z → Runs xs sl (d'+8+1) 172 100 [some (.ref (81)), some (.int ( nI so)), some (.int ( A)), none, none] [] (hp J (t) g) z := by
        intro z hz
        rw [r172_100]
        have q : so = 0 ∨ so = 1 ∨ so = 2 := by omega
        rcases q with rfl | rfl | rfl
        · have i3 := fun r => Runs.iff (r := r) (show Runs xs sl (d' + 8) 184 0 [some (.ref 81), none, none, none, none] [] (hp J t g) (none, hp J t' g) from c4)
          rw [show nI 0 = (0 : Int32) from rfl] at hz ⊢
          simp (disch := first | omega | assumption | exact Or.inl rfl | exact Or.inr rfl | exact bI_or _ | exact zC81 | exact zC47 | exact zC65 | exact zC0 | exact zC1 | exact zC32 | exact zC70 | exact zC73 | exact ztc (by assumption) | exact zdc (by assumption) | exact zpc (by assumption) | decide) only [Option.some.injEq, exists_eq_left', ex2, Option.toList, List.singleton_append, List.append_nil, List.cons_append, List.nil_append, nI_add, nI_addL, nI_Ladd, pk_mul, nI_mulL, nI_Lmul, nI_subL, pk_sub, nI_divL, sub_dm, nI_leE, nI_ltE, nI_eqE, nI_Lle, nI_leL, nI_Llt, nI_ltL, nI_eqL, va_up_self, va_up_ne, up_up, up_comm, nI_clamp, bI_eq0, not_true_eq_false, not_false_eq_true, Nat.reduceEqDiff, Nat.reduceLeDiff, Nat.reduceAdd, Nat.reduceMul, Nat.one_ne_zero, Nat.zero_ne_one, decide_eq_false_iff_not, decide_eq_true_eq, Bool.false_eq_true, decide_true, decide_false, bI_true, bI_false, one_ne, Nat.le_refl, Nat.lt_irrefl, cleT, cleF, cltT, cltF, ceqT, ceqF, ↓reduceIte, r172_101, r172_104, r172_107, r172_108, r172_111, r172_114, r172_115_c0, r172_115_c1, r172_115_d, r172_140, r172_141, r172_144, r172_147, r172_148, r172_151, r172_154, r172_155, r172_158, zO81_5, zO81_8, m8, k5, i3]
          exact hz
        · have i3 := fun r => Runs.iff (r := r) (show Runs xs sl (d' + 8) 197 0 [some (.ref 81), none, none, none, none, none, none] [] (hp J t g) (none, hp J t' g) from c4)
          rw [show nI 1 = (1 : Int32) from rfl] at hz ⊢
          simp (disch := first | omega | assumption | exact Or.inl rfl | exact Or.inr rfl | exact bI_or _ | exact zC81 | exact zC47 | exact zC65 | exact zC0 | exact zC1 | exact zC32 | exact zC70 | exact zC73 | exact ztc (by assumption) | exact zdc (by assumption) | exact zpc (by assumption) | decide) only [Option.some.injEq, exists_eq_left', ex2, Option.toList, List.singleton_append, List.append_nil, List.cons_append, List.nil_append, nI_add, nI_addL, nI_Ladd, pk_mul, nI_mulL, nI_Lmul, nI_subL, pk_sub, nI_divL, sub_dm, nI_leE, nI_ltE, nI_eqE, nI_Lle, nI_leL, nI_Llt, nI_ltL, nI_eqL, va_up_self, va_up_ne, up_up, up_comm, nI_clamp, bI_eq0, not_true_eq_false, not_false_eq_true, Nat.reduceEqDiff, Nat.reduceLeDiff, Nat.reduceAdd, Nat.reduceMul, Nat.one_ne_zero, Nat.zero_ne_one, decide_eq_false_iff_not, decide_eq_true_eq, Bool.false_eq_true, decide_true, decide_false, bI_true, bI_false, one_ne, Nat.le_refl, Nat.lt_irrefl, cleT, cleF, cltT, cltF, ceqT, ceqF, ↓reduceIte, r172_101, r172_104, r172_107, r172_108, r172_111, r172_114, r172_115_c0, r172_115_c1, r172_115_d, r172_140, r172_141, r172_144, r172_147, r172_148, r172_151, r172_154, r172_155, r172_158, zO81_5, zO81_8, m8, k5, i3]
          exact hz
        · have i3 := fun r => Runs.iff (r := r) (show Runs xs sl (d' + 8) 198 0 [some (.ref 81), none, none] [] (hp J t g) (none, hp J t' g) from c4)
          rw [show nI 2 = (2 : Int32) from rfl] at hz ⊢
          simp (disch := first | omega | assumption | exact Or.inl rfl | exact Or.inr rfl | exact bI_or _ | exact zC81 | exact zC47 | exact zC65 | exact zC0 | exact zC1 | exact zC32 | exact zC70 | exact zC73 | exact ztc (by assumption) | exact zdc (by assumption) | exact zpc (by assumption) | decide) only [Option.some.injEq, exists_eq_left', ex2, Option.toList, List.singleton_append, List.append_nil, List.cons_append, List.nil_append, nI_add, nI_addL, nI_Ladd, pk_mul, nI_mulL, nI_Lmul, nI_subL, pk_sub, nI_divL, sub_dm, nI_leE, nI_ltE, nI_eqE, nI_Lle, nI_leL, nI_Llt, nI_ltL, nI_eqL, va_up_self, va_up_ne, up_up, up_comm, nI_clamp, bI_eq0, not_true_eq_false, not_false_eq_true, Nat.reduceEqDiff, Nat.reduceLeDiff, Nat.reduceAdd, Nat.reduceMul, Nat.one_ne_zero, Nat.zero_ne_one, decide_eq_false_iff_not, decide_eq_true_eq, Bool.false_eq_true, decide_true, decide_false, bI_true, bI_false, one_ne, Nat.le_refl, Nat.lt_irrefl, cleT, cleF, cltT, cltF, ceqT, ceqF, ↓reduceIte, r172_101, r172_104, r172_107, r172_108, r172_111, r172_114, r172_115_c0, r172_115_c1, r172_115_d, r172_140, r172_141, r172_144, r172_147, r172_148, r172_151, r172_154, r172_155, r172_158, zO81_5, zO81_8, m8, k5, i3]
          exact hz
      cases hw' : σ'.1
      case true =>
        rw [hw'] at i2
        obtain ⟨u8, u5, u6⟩ := c6.2.2.1 hw'
        have v11 : s4 32 11 = nI σ'.2.1 := by have := c5.2.2.1; rw [if_pos hw'] at this; exact this
        have n1 : ¬ (1 : Int32) = 0 := by decide
        refine ⟨1, σ'.2.1, va_up s4 32 (va_up (va_up (s4 32) 3 1) 4 (nI σ'.2.1)), t', ?_, fun z hz => refl z ?_, fun c hc => by rw [va_up_ne _ _ (by omega)]; exact c7 c hc, c8, by simp (disch := first | omega | assumption | exact Or.inl rfl | exact Or.inr rfl | exact bI_or _ | exact zC81 | exact zC47 | exact zC65 | exact zC0 | exact zC1 | exact zC32 | exact zC70 | exact zC73 | exact ztc (by assumption) | exact zdc (by assumption) | exact zpc (by assumption) | decide) only [Option.some.injEq, exists_eq_left', ex2, Option.toList, List.singleton_append, List.append_nil, List.cons_append, List.nil_append, nI_add, nI_addL, nI_Ladd, pk_mul, nI_mulL, nI_Lmul, nI_subL, pk_sub, nI_divL, sub_dm, nI_leE, nI_ltE, nI_eqE, nI_Lle, nI_leL, nI_Llt, nI_ltL, nI_eqL, va_up_self, va_up_ne, up_up, up_comm, nI_clamp, bI_eq0, not_true_eq_false, not_false_eq_true, Nat.reduceEqDiff, Nat.reduceLeDiff, Nat.reduceAdd, Nat.reduceMul, Nat.one_ne_zero, Nat.zero_ne_one, decide_eq_false_iff_not, decide_eq_true_eq, Bool.false_eq_true, decide_true, decide_false, bI_true, bI_false, one_ne, Nat.le_refl, Nat.lt_irrefl, cleT, cleF, cltT, cltF, ceqT, ceqF, ↓reduceIte]; rfl, by decide, fun _ => by simp (disch := first | omega | assumption | exact Or.inl rfl | exact Or.inr rfl | exact bI_or _ | exact zC81 | exact zC47 | exact zC65 | exact zC0 | exact zC1 | exact zC32 | exact zC70 | exact zC73 | exact ztc (by assumption) | exact zdc (by assumption) | exact zpc (by assumption) | decide) only [Option.some.injEq, exists_eq_left', ex2, Option.toList, List.singleton_append, List.append_nil, List.cons_append, List.nil_append, nI_add, nI_addL, nI_Ladd, pk_mul, nI_mulL, nI_Lmul, nI_subL, pk_sub, nI_divL, sub_dm, nI_leE, nI_ltE, nI_eqE, nI_Lle, nI_leL, nI_Llt, nI_ltL, nI_eqL, va_up_self, va_up_ne, up_up, up_comm, nI_clamp, bI_eq0, not_true_eq_false, not_false_eq_true, Nat.reduceEqDiff, Nat.reduceLeDiff, Nat.reduceAdd, Nat.reduceMul, Nat.one_ne_zero, Nat.zero_ne_one, decide_eq_false_iff_not, decide_eq_true_eq, Bool.false_eq_true, decide_true, decide_false, bI_true, bI_false, one_ne, Nat.le_refl, Nat.lt_irrefl, cleT, cleF, cltT, cltF, ceqT, ceqF, ↓reduceIte], u5, fun _ => u6, fun h => by cases h⟩
        · rw [r87_2]
          simp (disch := first | omega | assumption | exact Or.inl rfl | exact Or.inr rfl | exact bI_or _ | exact zC81 | exact zC47 | exact zC65 | exact zC0 | exact zC1 | exact zC32 | exact zC70 | exact zC73 | exact ztc (by assumption) | exact zdc (by assumption) | exact zpc (by assumption) | decide) only [Option.some.injEq, exists_eq_left', ex2, Option.toList, List.singleton_append, List.append_nil, List.cons_append, List.nil_append, nI_add, nI_addL, nI_Ladd, pk_mul, nI_mulL, nI_Lmul, nI_subL, pk_sub, nI_divL, sub_dm, nI_leE, nI_ltE, nI_eqE, nI_Lle, nI_leL, nI_Llt, nI_ltL, nI_eqL, va_up_self, va_up_ne, up_up, up_comm, nI_clamp, bI_eq0, not_true_eq_false, not_false_eq_true, Nat.reduceEqDiff, Nat.reduceLeDiff, Nat.reduceAdd, Nat.reduceMul, Nat.one_ne_zero, Nat.zero_ne_one, decide_eq_false_iff_not, decide_eq_true_eq, Bool.false_eq_true, decide_true, decide_false, bI_true, bI_false, one_ne, Nat.le_refl, Nat.lt_irrefl, cleT, cleF, cltT, cltF, ceqT, ceqF, ↓reduceIte, r87_3, r87_4, r87_7, r87_10, r87_11, r87_14, r87_15, r87_18, r87_21, r87_22, r87_23, r87_26, r87_29, r87_30, r87_31, r87_34, r87_35, r87_36, r87_39, r87_42, r87_43, r87_43_1, r87_46, r87_49, zO32_7, zO32_10, zO32_11, zW32_3, zW32_4, h7, hlN, i1, n10, i2, v11, Bool.not_true]
        · rw [r172_100]
          simp (disch := first | omega | assumption | exact Or.inl rfl | exact Or.inr rfl | exact bI_or _ | exact zC81 | exact zC47 | exact zC65 | exact zC0 | exact zC1 | exact zC32 | exact zC70 | exact zC73 | exact ztc (by assumption) | exact zdc (by assumption) | exact zpc (by assumption) | decide) only [Option.some.injEq, exists_eq_left', ex2, Option.toList, List.singleton_append, List.append_nil, List.cons_append, List.nil_append, nI_add, nI_addL, nI_Ladd, pk_mul, nI_mulL, nI_Lmul, nI_subL, pk_sub, nI_divL, sub_dm, nI_leE, nI_ltE, nI_eqE, nI_Lle, nI_leL, nI_Llt, nI_ltL, nI_eqL, va_up_self, va_up_ne, up_up, up_comm, nI_clamp, bI_eq0, not_true_eq_false, not_false_eq_true, Nat.reduceEqDiff, Nat.reduceLeDiff, Nat.reduceAdd, Nat.reduceMul, Nat.one_ne_zero, Nat.zero_ne_one, decide_eq_false_iff_not, decide_eq_true_eq, Bool.false_eq_true, decide_true, decide_false, bI_true, bI_false, one_ne, Nat.le_refl, Nat.lt_irrefl, cleT, cleF, cltT, cltF, ceqT, ceqF, ↓reduceIte, r172_101, r172_104, r172_107, r172_108, r172_111, r172_114, r172_115_c0, r172_115_c1, r172_115_d, r172_140, r172_141, r172_144, r172_147, r172_148, r172_151, r172_154, r172_155, r172_158, zO81_8, u8, n1]
          exact hz
      case false =>
        rw [hw'] at i2
        obtain ⟨hR', hp⟩ := c9 hw'
        have hpN' : σ'.2.1 ≤ N := hR'.1.2.1
        obtain ⟨F, P, s', t'', q1, q2, q3, q4, q5⟩ := ih σ' s4 t' (line + 1) (by omega) hw' hR' (by omega)
        refine ⟨F, P, s', t'', ?_, fun z hz => refl z (q2 z hz), XF_trans c7 q3, LF_trans c8 q4, q5⟩
        rw [r87_2]
        simp (disch := first | omega | assumption | exact Or.inl rfl | exact Or.inr rfl | exact bI_or _ | exact zC81 | exact zC47 | exact zC65 | exact zC0 | exact zC1 | exact zC32 | exact zC70 | exact zC73 | exact ztc (by assumption) | exact zdc (by assumption) | exact zpc (by assumption) | decide) only [Option.some.injEq, exists_eq_left', ex2, Option.toList, List.singleton_append, List.append_nil, List.cons_append, List.nil_append, nI_add, nI_addL, nI_Ladd, pk_mul, nI_mulL, nI_Lmul, nI_subL, pk_sub, nI_divL, sub_dm, nI_leE, nI_ltE, nI_eqE, nI_Lle, nI_leL, nI_Llt, nI_ltL, nI_eqL, va_up_self, va_up_ne, up_up, up_comm, nI_clamp, bI_eq0, not_true_eq_false, not_false_eq_true, Nat.reduceEqDiff, Nat.reduceLeDiff, Nat.reduceAdd, Nat.reduceMul, Nat.one_ne_zero, Nat.zero_ne_one, decide_eq_false_iff_not, decide_eq_true_eq, Bool.false_eq_true, decide_true, decide_false, bI_true, bI_false, one_ne, Nat.le_refl, Nat.lt_irrefl, cleT, cleF, cltT, cltF, ceqT, ceqF, ↓reduceIte, r87_3, r87_4, r87_7, r87_10, r87_11, r87_14, r87_15, r87_18, r87_21, r87_22, r87_23, r87_26, r87_29, r87_30, r87_31, r87_34, r87_35, r87_36, r87_39, r87_42, r87_43, r87_43_1, r87_46, r87_49, zO32_7, zO32_10, h7, hlN, i1, n10, i2, Bool.not_false, one_ne]
        exact q1
end TXZD
