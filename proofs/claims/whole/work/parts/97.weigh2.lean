/-! FITS: the class weighs a plate, all of it -/
section WG2
variable {xs : Nat → Int32} {sl d : Nat} {J : hJk} {s x y : hS} {g : hG}
def MK (s s' : hS) : Prop := (∀ c, c ≠ 73 → c ≠ 78 → c ≠ 79 → s' c = s c) ∧ ∀ j, j < 3 ∨ 4 < j → s' 73 j = s 73 j
theorem gs_mixOthers {p n but w : Nat} {m : Nat → Nat → Nat} (hip : isP p) (hp31 : p < 31) (hn : s p 0 = nI n) (hn6 : n ≤ 6) (hb : but < 6) (h0 : s 73 0 = nI p) (hW : GW s w) (hm : ∀ t v, t < 6 → v < 7 → s 76 (7 * t + v) = nI (m t v) ∧ m t v ≤ 12) : ∃ (s' : hS) (w' : Nat), Runs xs sl (d+2) 52 0 [some (.ref (73)), some (.int ( nI but)), none] [] (hp J (s) g) (none, hp J s' g) ∧ GW s' w' ∧ MK s s' ∧ ∀ k, k < 13 → s' w' k = nI (othF m but n k) := by
  have hW' := hW
  obtain ⟨hw, hw3, hw4⟩ := hW'
  have hw' : w = 78 ∨ w = 79 := hw
  have fi := @wFill xs sl (d + 1) J s g w 0 hw
  generalize hs0 : va_up s w (va_cpy (fun _ => 0) (s w) 0 0 13) = s0 at fi
  have z3 : s0 73 3 = nI w := by rw [← hs0, va_up_ne _ _ (by omega)]; exact hw3
  generalize hs9 : va_up s0 w (va_up (s0 w) 0 1) = s9
  have a0 : ∀ c, c ≠ w → s9 c = s c := fun c hc => by rw [← hs9, ← hs0, va_up_ne _ _ hc, va_up_ne _ _ hc]
  obtain ⟨s1, ⟨w1, i1, i2, i3⟩, q3⟩ := up_loop (Q := fun i (s1 : hS) => ∃ w1, GW s1 w1 ∧ MK s s1 ∧ ∀ k, k < 13 → s1 w1 k = nI (othF m but i k)) (P := fun i (s1 : hS) (z : Option Value × mH) => Runs xs sl (d+2) 52 17 [some (.ref (73)), some (.int ( nI but)), some (.int ( nI i))] [] (hp J (s1) g) z) n (by
    intro i s1 hi hQ
    obtain ⟨w1, i1, i2, i3⟩ := hQ
    have f0 : s1 73 0 = nI p := by rw [i2.2 0 (by omega)]; exact h0
    have hpp : p = 17 ∨ p = 29 ∨ p = 43 ∨ p = 74 := hip
    have fn : s1 p 0 = nI n := by rw [i2.1 p (by omega) (by omega) (by omega)]; exact hn
    have st : othF m but (i + 1) = if i = but then othF m but i else cst (m i) (othF m but i) := rfl
    by_cases c : i = but
    · refine ⟨s1, ⟨w1, i1, i2, fun k hk => by rw [st, if_pos c]; exact i3 k hk⟩, fun z hz => ?_⟩
      rw [r52_17]
      have c' := eq_true c
      simp (disch := first | omega | assumption | exact Or.inl rfl | exact Or.inr rfl | exact bI_or _ | exact zC81 | exact zC47 | exact zC65 | exact zC0 | exact zC1 | exact zC32 | exact zC70 | exact zC73 | exact ztc (by assumption) | exact zdc (by assumption) | exact zpc (by assumption) | decide) only [Option.some.injEq, exists_eq_left', ex2, Option.toList, List.singleton_append, List.append_nil, List.cons_append, List.nil_append, nI_add, nI_addL, nI_Ladd, pk_mul, nI_mulL, nI_Lmul, nI_subL, pk_sub, nI_divL, sub_dm, nI_leE, nI_ltE, nI_eqE, nI_Lle, nI_leL, nI_Llt, nI_ltL, nI_eqL, va_up_self, va_up_ne, up_up, up_comm, nI_clamp, bI_eq0, not_true_eq_false, not_false_eq_true, Nat.reduceEqDiff, Nat.reduceLeDiff, Nat.reduceAdd, Nat.reduceMul, Nat.one_ne_zero, Nat.zero_ne_one, decide_eq_false_iff_not, decide_eq_true_eq, Bool.false_eq_true, decide_true, decide_false, bI_true, bI_false, one_ne, Nat.le_refl, Nat.lt_irrefl, cleT, cleF, cltT, cltF, ceqT, ceqF, ↓reduceIte, r52_18, r52_19, r52_22, r52_25, r52_28, r52_29, r52_30, r52_33, r52_34, r52_35, r52_38, r52_41, zO73_0, f0, zpc, zpo0, zpw0, zpo1, zpw1, zpo2, zpw2, zpo3, zpl1, zpa1, zps1, fn, c, ceqT]
      rw [c] at hz
      exact hz
    · obtain ⟨s2, m1, m2, m3, m4, m5⟩ := @gs_mixTopic xs sl d J s1 g i w1 (m i) (othF m but i) i1 (by omega) (fun v hv => by rw [i2.1 76 (by decide) (by decide) (by decide)]; exact hm i v (by omega) hv) i3
      refine ⟨s2, ⟨157 - w1, m2, ⟨fun c c1 c2 c3 => (m3 c c1 c2 c3).trans (i2.1 c c1 c2 c3), fun j hj => (m4 j hj).trans (i2.2 j hj)⟩, fun k hk => by rw [st, if_neg c]; exact m5 k hk⟩, fun z hz => ?_⟩
      rw [r52_17]
      simp (disch := first | omega | assumption | exact Or.inl rfl | exact Or.inr rfl | exact bI_or _ | exact zC81 | exact zC47 | exact zC65 | exact zC0 | exact zC1 | exact zC32 | exact zC70 | exact zC73 | exact ztc (by assumption) | exact zdc (by assumption) | exact zpc (by assumption) | decide) only [Option.some.injEq, exists_eq_left', ex2, Option.toList, List.singleton_append, List.append_nil, List.cons_append, List.nil_append, nI_add, nI_addL, nI_Ladd, pk_mul, nI_mulL, nI_Lmul, nI_subL, pk_sub, nI_divL, sub_dm, nI_leE, nI_ltE, nI_eqE, nI_Lle, nI_leL, nI_Llt, nI_ltL, nI_eqL, va_up_self, va_up_ne, up_up, up_comm, nI_clamp, bI_eq0, not_true_eq_false, not_false_eq_true, Nat.reduceEqDiff, Nat.reduceLeDiff, Nat.reduceAdd, Nat.reduceMul, Nat.one_ne_zero, Nat.zero_ne_one, decide_eq_false_iff_not, decide_eq_true_eq, Bool.false_eq_true, decide_true, decide_false, bI_true, bI_false, one_ne, Nat.le_refl, Nat.lt_irrefl, cleT, cleF, cltT, cltF, ceqT, ceqF, ↓reduceIte, r52_18, r52_19, r52_22, r52_25, r52_28, r52_29, r52_30, r52_33, r52_34, r52_35, r52_38, r52_41, zO73_0, f0, zpc, zpo0, zpw0, zpo1, zpw1, zpo2, zpw2, zpo3, zpl1, zpa1, zps1, fn, c, m1.iff]
      exact hz) s9 ⟨w, ⟨hw, by rw [a0 73 (by omega)]; exact hw3, by rw [a0 73 (by omega)]; exact hw4⟩, ⟨fun c c1 c2 c3 => a0 c (by omega), fun j hj => by rw [a0 73 (by omega)]⟩, fun k hk => by
      have e : othF m but 0 k = dl0 k := rfl
      rw [e, ← hs9, va_up_self]
      unfold dl0
      by_cases c : k = 0
      · subst c
        rw [va_up_self, if_pos rfl]
        rfl
      · rw [va_up_ne _ _ c, if_neg c, ← hs0, va_up_self, pk_cpy_in (by omega) (by omega)]
        rfl⟩
  refine ⟨s1, w1, ?_, i1, i2, i3⟩
  have f0 : s1 73 0 = nI p := by rw [i2.2 0 (by omega)]; exact h0
  have hpp : p = 17 ∨ p = 29 ∨ p = 43 ∨ p = 74 := hip
  have fn : s1 p 0 = nI n := by rw [i2.1 p (by omega) (by omega) (by omega)]; exact hn
  have ws : hAw (hp J s0 g) w 0 0 1 = _ := @wS' J s0 g w 0 1 hw (by decide)
  simp (disch := first | omega | assumption | exact Or.inl rfl | exact Or.inr rfl | exact bI_or _ | exact zC81 | exact zC47 | exact zC65 | exact zC0 | exact zC1 | exact zC32 | exact zC70 | exact zC73 | exact ztc (by assumption) | exact zdc (by assumption) | exact zpc (by assumption) | decide) only [Option.some.injEq, exists_eq_left', ex2, Option.toList, List.singleton_append, List.append_nil, List.cons_append, List.nil_append, nI_add, nI_addL, nI_Ladd, pk_mul, nI_mulL, nI_Lmul, nI_subL, pk_sub, nI_divL, sub_dm, nI_leE, nI_ltE, nI_eqE, nI_Lle, nI_leL, nI_Llt, nI_ltL, nI_eqL, va_up_self, va_up_ne, up_up, up_comm, nI_clamp, bI_eq0, not_true_eq_false, not_false_eq_true, Nat.reduceEqDiff, Nat.reduceLeDiff, Nat.reduceAdd, Nat.reduceMul, Nat.one_ne_zero, Nat.zero_ne_one, decide_eq_false_iff_not, decide_eq_true_eq, Bool.false_eq_true, decide_true, decide_false, bI_true, bI_false, one_ne, Nat.le_refl, Nat.lt_irrefl, cleT, cleF, cltT, cltF, ceqT, ceqF, ↓reduceIte, r52_0, r52_1, r52_4, r52_5, r52_8, r52_9, r52_12, r52_13, r52_14, r52_15, r52_16, zO73_3, hw3, fi, z3, ws, hs9]
  refine q3 _ ?_
  rw [r52_17]
  simp (disch := first | omega | assumption | exact Or.inl rfl | exact Or.inr rfl | exact bI_or _ | exact zC81 | exact zC47 | exact zC65 | exact zC0 | exact zC1 | exact zC32 | exact zC70 | exact zC73 | exact ztc (by assumption) | exact zdc (by assumption) | exact zpc (by assumption) | decide) only [Option.some.injEq, exists_eq_left', ex2, Option.toList, List.singleton_append, List.append_nil, List.cons_append, List.nil_append, nI_add, nI_addL, nI_Ladd, pk_mul, nI_mulL, nI_Lmul, nI_subL, pk_sub, nI_divL, sub_dm, nI_leE, nI_ltE, nI_eqE, nI_Lle, nI_leL, nI_Llt, nI_ltL, nI_eqL, va_up_self, va_up_ne, up_up, up_comm, nI_clamp, bI_eq0, not_true_eq_false, not_false_eq_true, Nat.reduceEqDiff, Nat.reduceLeDiff, Nat.reduceAdd, Nat.reduceMul, Nat.one_ne_zero, Nat.zero_ne_one, decide_eq_false_iff_not, decide_eq_true_eq, Bool.false_eq_true, decide_true, decide_false, bI_true, bI_false, one_ne, Nat.le_refl, Nat.lt_irrefl, cleT, cleF, cltT, cltF, ceqT, ceqF, ↓reduceIte, r52_18, r52_19, r52_22, r52_25, r52_44, zO73_0, f0, zpc, zpo0, zpw0, zpo1, zpw1, zpo2, zpw2, zpo3, zpl1, zpa1, zps1, fn]
theorem fit_sum {f : Nat → Nat} {j P : Nat} : sumN (shf j f) (P + 1) = sumN f (P + 1 - j) := by
  rw [sum_shf]
  by_cases c : j ≤ P
  · rw [if_pos c]
    congr 1
    omega
  · rw [if_neg c, show P + 1 - j = 0 by omega]
    rfl
theorem gs_weigh {p n li c w : Nat} {kd tp : Nat → Nat} {vv : Nat → Int32} (hP : pT s p n li c kd tp vv) (hW : GW s w) : ∃ (s' : hS) (w' : Nat), Runs xs sl (d+4) 50 0 [some (.ref (73)), some (.ref (p)), none, none, none] [] (hp J (s) g) (none, hp J s' g) ∧ GW s' w' ∧ (∀ c, c < 73 ∨ 79 < c → s' c = s c) ∧ s' 73 0 = nI p ∧ (∀ t v, t < 6 → v < 7 → s' 76 (7 * t + v) = nI (msF kd tp vv c t v)) ∧ ∀ t v, t < n → v < 7 → s' 77 (7 * t + v) = nI (sumN (onlF (msF kd tp vv c) t v n) (li + 1)) := by
  have hP' := hP
  obtain ⟨hip, h31, hn, hn6, hli, hli9, hc, hc12, hr⟩ := hP'
  have hpp : p = 17 ∨ p = 29 ∨ p = 43 ∨ p = 74 := hip
  generalize hs0 : va_up s 73 (va_up (s 73) 0 (nI p)) = s0
  have a0 : ∀ c, c ≠ 73 → s0 c = s c := fun c hc => by rw [← hs0, va_up_ne _ _ hc]
  have P0 : pT s0 p n li c kd tp vv := pT_fr hP (a0 _ (by omega)) (a0 _ (by omega))
  obtain ⟨s1, b1, b2, b3⟩ := @gs_countMisses xs sl (d + 1) J s0 g p n li c kd tp vv P0 (by rw [← hs0]; simp (disch := first | omega | assumption | exact Or.inl rfl | exact Or.inr rfl | exact bI_or _ | exact zC81 | exact zC47 | exact zC65 | exact zC0 | exact zC1 | exact zC32 | exact zC70 | exact zC73 | exact ztc (by assumption) | exact zdc (by assumption) | exact zpc (by assumption) | decide) only [Option.some.injEq, exists_eq_left', ex2, Option.toList, List.singleton_append, List.append_nil, List.cons_append, List.nil_append, nI_add, nI_addL, nI_Ladd, pk_mul, nI_mulL, nI_Lmul, nI_subL, pk_sub, nI_divL, sub_dm, nI_leE, nI_ltE, nI_eqE, nI_Lle, nI_leL, nI_Llt, nI_ltL, nI_eqL, va_up_self, va_up_ne, up_up, up_comm, nI_clamp, bI_eq0, not_true_eq_false, not_false_eq_true, Nat.reduceEqDiff, Nat.reduceLeDiff, Nat.reduceAdd, Nat.reduceMul, Nat.one_ne_zero, Nat.zero_ne_one, decide_eq_false_iff_not, decide_eq_true_eq, Bool.false_eq_true, decide_true, decide_false, bI_true, bI_false, one_ne, Nat.le_refl, Nat.lt_irrefl, cleT, cleF, cltT, cltF, ceqT, ceqF, ↓reduceIte])
  have W1 : GW s1 w := by
    obtain ⟨w1, w2, w3⟩ := hW
    refine ⟨w1, ?_, ?_⟩
    · rw [b2 73 (by decide), ← hs0]
      simp (disch := first | omega | assumption | exact Or.inl rfl | exact Or.inr rfl | exact bI_or _ | exact zC81 | exact zC47 | exact zC65 | exact zC0 | exact zC1 | exact zC32 | exact zC70 | exact zC73 | exact ztc (by assumption) | exact zdc (by assumption) | exact zpc (by assumption) | decide) only [Option.some.injEq, exists_eq_left', ex2, Option.toList, List.singleton_append, List.append_nil, List.cons_append, List.nil_append, nI_add, nI_addL, nI_Ladd, pk_mul, nI_mulL, nI_Lmul, nI_subL, pk_sub, nI_divL, sub_dm, nI_leE, nI_ltE, nI_eqE, nI_Lle, nI_leL, nI_Llt, nI_ltL, nI_eqL, va_up_self, va_up_ne, up_up, up_comm, nI_clamp, bI_eq0, not_true_eq_false, not_false_eq_true, Nat.reduceEqDiff, Nat.reduceLeDiff, Nat.reduceAdd, Nat.reduceMul, Nat.one_ne_zero, Nat.zero_ne_one, decide_eq_false_iff_not, decide_eq_true_eq, Bool.false_eq_true, decide_true, decide_false, bI_true, bI_false, one_ne, Nat.le_refl, Nat.lt_irrefl, cleT, cleF, cltT, cltF, ceqT, ceqF, ↓reduceIte, w2]
    · rw [b2 73 (by decide), ← hs0]
      simp (disch := first | omega | assumption | exact Or.inl rfl | exact Or.inr rfl | exact bI_or _ | exact zC81 | exact zC47 | exact zC65 | exact zC0 | exact zC1 | exact zC32 | exact zC70 | exact zC73 | exact ztc (by assumption) | exact zdc (by assumption) | exact zpc (by assumption) | decide) only [Option.some.injEq, exists_eq_left', ex2, Option.toList, List.singleton_append, List.append_nil, List.cons_append, List.nil_append, nI_add, nI_addL, nI_Ladd, pk_mul, nI_mulL, nI_Lmul, nI_subL, pk_sub, nI_divL, sub_dm, nI_leE, nI_ltE, nI_eqE, nI_Lle, nI_leL, nI_Llt, nI_ltL, nI_eqL, va_up_self, va_up_ne, up_up, up_comm, nI_clamp, bI_eq0, not_true_eq_false, not_false_eq_true, Nat.reduceEqDiff, Nat.reduceLeDiff, Nat.reduceAdd, Nat.reduceMul, Nat.one_ne_zero, Nat.zero_ne_one, decide_eq_false_iff_not, decide_eq_true_eq, Bool.false_eq_true, decide_true, decide_false, bI_true, bI_false, one_ne, Nat.le_refl, Nat.lt_irrefl, cleT, cleF, cltT, cltF, ceqT, ceqF, ↓reduceIte, w3]
  have z0 : s1 73 0 = nI p := by rw [b2 73 (by decide), ← hs0]; simp (disch := first | omega | assumption | exact Or.inl rfl | exact Or.inr rfl | exact bI_or _ | exact zC81 | exact zC47 | exact zC65 | exact zC0 | exact zC1 | exact zC32 | exact zC70 | exact zC73 | exact ztc (by assumption) | exact zdc (by assumption) | exact zpc (by assumption) | decide) only [Option.some.injEq, exists_eq_left', ex2, Option.toList, List.singleton_append, List.append_nil, List.cons_append, List.nil_append, nI_add, nI_addL, nI_Ladd, pk_mul, nI_mulL, nI_Lmul, nI_subL, pk_sub, nI_divL, sub_dm, nI_leE, nI_ltE, nI_eqE, nI_Lle, nI_leL, nI_Llt, nI_ltL, nI_eqL, va_up_self, va_up_ne, up_up, up_comm, nI_clamp, bI_eq0, not_true_eq_false, not_false_eq_true, Nat.reduceEqDiff, Nat.reduceLeDiff, Nat.reduceAdd, Nat.reduceMul, Nat.one_ne_zero, Nat.zero_ne_one, decide_eq_false_iff_not, decide_eq_true_eq, Bool.false_eq_true, decide_true, decide_false, bI_true, bI_false, one_ne, Nat.le_refl, Nat.lt_irrefl, cleT, cleF, cltT, cltF, ceqT, ceqF, ↓reduceIte]
  generalize hm : msF kd tp vv c = m at *
  have m12 : ∀ t v, m t v ≤ 12 := fun t v => by
    have q := msF_le (kd := kd) (tp := tp) (vv := vv) (c := c) (t := t) (v := v)
    rw [hm] at q
    omega
  obtain ⟨s2, ⟨w2, k1, k2, k3, k4, k5⟩, k6⟩ := up_loop (Q := fun t' (s2 : hS) => ∃ w2, GW s2 w2 ∧ (∀ c, c < 73 ∨ 79 < c → s2 c = s c) ∧ s2 73 0 = nI p ∧ (∀ t v, t < 6 → v < 7 → s2 76 (7 * t + v) = nI (m t v)) ∧ ∀ t v, t < t' → v < 7 → s2 77 (7 * t + v) = nI (sumN (onlF m t v n) (li + 1))) (P := fun t' (s2 : hS) (z : Option Value × mH) => ∀ l3 l4, Runs xs sl (d+4) 50 11 [some (.ref (73)), some (.ref (p)), some (.int ( nI t')), l3, l4] [] (hp J (s2) g) z) n (by
    intro t s2 ht hQ
    obtain ⟨w2, k1, k2, k3, k4, k5⟩ := hQ
    have fp : s2 p = s p := k2 p (by omega)
    have fn : s2 p 0 = nI n := by rw [fp]; exact hn
    obtain ⟨s3, w3, o1, o2, o3, o4⟩ := @gs_mixOthers xs sl (d + 1) J s2 g p n t w2 m hip h31 fn hn6 (by omega) k3 k1 (fun t v ht hv => ⟨k4 t v ht hv, m12 t v⟩)
    have hw3 : w3 = 78 ∨ w3 = 79 := o2.1
    obtain ⟨s4, ⟨v1, v2⟩, v3⟩ := up_loop (Q := fun v' (s4 : hS) => (∀ c, c ≠ 77 → s4 c = s3 c) ∧ ∀ t0 v, t0 < t ∨ (t0 = t ∧ v < v') → v < 7 → s4 77 (7 * t0 + v) = nI (sumN (onlF m t0 v n) (li + 1))) (P := fun v' (s4 : hS) (z : Option Value × mH) => ∀ l4, Runs xs sl (d+4) 50 32 [some (.ref (73)), some (.ref (p)), some (.int ( nI t)), some (.int ( nI (7 * t + v'))), l4] [] (hp J (s4) g) z) 7 (by
      intro v' s4 hv' hQ4
      obtain ⟨v1, v2⟩ := hQ4
      generalize hs5 : va_up s4 77 (va_up (s4 77) (7 * t + v') 0) = s5
      have c5 : ∀ c, c ≠ 77 → s5 c = s3 c := fun c hc => by rw [← hs5, va_up_ne _ _ hc]; exact v1 c hc
      obtain ⟨s6, ⟨u1, u2, u3⟩, u4⟩ := up_loop (Q := fun l (s6 : hS) => (∀ c, c ≠ 77 → s6 c = s3 c) ∧ (∀ i, i ≠ 7 * t + v' → s6 77 i = s4 77 i) ∧ s6 77 (7 * t + v') = nI (sumN (othF m t n) l)) (P := fun l (s6 : hS) (z : Option Value × mH) => Runs xs sl (d+4) 50 52 [some (.ref (73)), some (.ref (p)), some (.int ( nI t)), some (.int ( nI (7 * t + v'))), some (.int ( nI l))] [] (hp J (s6) g) z) (li + 1 - m t v') (by
        intro l s6 hl hQ6
        obtain ⟨u1, u2, u3⟩ := hQ6
        have e0 : s6 73 0 = nI p := by rw [u1 73 (by decide), o3.2 0 (by decide)]; exact k3
        have e3 : s6 73 3 = nI w3 := by rw [u1 73 (by decide)]; exact o2.2.1
        have e76 : s6 76 (7 * t + v') = nI (m t v') := by rw [u1 76 (by decide), o3.1 76 (by decide) (by decide) (by decide)]; exact k4 t v' (by omega) hv'
        have eli : s6 p 1 = nI li := by rw [u1 p (by omega), o3.1 p (by omega) (by omega) (by omega), fp]; exact hli
        have ew : s6 w3 l = nI (othF m t n l) := by rw [u1 w3 (by omega)]; exact o4 l (by omega)
        have mm := m12 t v'
        have wa := @wA J s6 g w3 l o2.1 (by omega)
        refine ⟨va_up s6 77 (va_up (s6 77) (7 * t + v') (nI (sumN (othF m t n) l + othF m t n l))), ⟨fun c hc => by rw [va_up_ne _ _ hc]; exact u1 c hc, fun i hi => by rw [va_up_self, va_up_ne _ _ hi]; exact u2 i hi, by rw [va_up_self, va_up_self]; rfl⟩, fun z hz => ?_⟩
        rw [r50_52]
        simp (disch := first | omega | assumption | exact Or.inl rfl | exact Or.inr rfl | exact bI_or _ | exact zC81 | exact zC47 | exact zC65 | exact zC0 | exact zC1 | exact zC32 | exact zC70 | exact zC73 | exact ztc (by assumption) | exact zdc (by assumption) | exact zpc (by assumption) | decide) only [Option.some.injEq, exists_eq_left', ex2, Option.toList, List.singleton_append, List.append_nil, List.cons_append, List.nil_append, nI_add, nI_addL, nI_Ladd, pk_mul, nI_mulL, nI_Lmul, nI_subL, pk_sub, nI_divL, sub_dm, nI_leE, nI_ltE, nI_eqE, nI_Lle, nI_leL, nI_Llt, nI_ltL, nI_eqL, va_up_self, va_up_ne, up_up, up_comm, nI_clamp, bI_eq0, not_true_eq_false, not_false_eq_true, Nat.reduceEqDiff, Nat.reduceLeDiff, Nat.reduceAdd, Nat.reduceMul, Nat.one_ne_zero, Nat.zero_ne_one, decide_eq_false_iff_not, decide_eq_true_eq, Bool.false_eq_true, decide_true, decide_false, bI_true, bI_false, one_ne, Nat.le_refl, Nat.lt_irrefl, cleT, cleF, cltT, cltF, ceqT, ceqF, ↓reduceIte, r50_54, r50_56, r50_59, r50_61, r50_62, r50_65, r50_66, r50_67, r50_68, r50_69, r50_72, r50_75, r50_78, r50_79, r50_82, r50_83, r50_84, r50_85, r50_86, r50_89, r50_91, r50_92, r50_93, r50_94, r50_97, zO73_0, zO73_1, zO73_2, zO73_3, e0, e3, zA76, zA77, zS77, e76, zpc, zpo0, zpw0, zpo1, zpw1, zpo2, zpw2, zpo3, zpl1, zpa1, zps1, eli, wa, ew, u3]
        exact hz) s5 ⟨c5, fun i hi => by rw [← hs5, va_up_self, va_up_ne _ _ hi], by rw [← hs5, va_up_self, va_up_self]; rfl⟩
      refine ⟨s6, ⟨u1, fun t0 v h hv => ?_⟩, fun z hz l4 => ?_⟩
      · by_cases e : t0 = t ∧ v = v'
        · obtain ⟨e1, e2⟩ := e
          subst e1 e2
          rw [u3, onl_oth n ht, fit_sum]
        · rw [u2 _ (by omega)]
          exact v2 t0 v (by omega) hv
      · rw [r50_32]
        simp (disch := first | omega | assumption | exact Or.inl rfl | exact Or.inr rfl | exact bI_or _ | exact zC81 | exact zC47 | exact zC65 | exact zC0 | exact zC1 | exact zC32 | exact zC70 | exact zC73 | exact ztc (by assumption) | exact zdc (by assumption) | exact zpc (by assumption) | decide) only [Option.some.injEq, exists_eq_left', ex2, Option.toList, List.singleton_append, List.append_nil, List.cons_append, List.nil_append, nI_add, nI_addL, nI_Ladd, pk_mul, nI_mulL, nI_Lmul, nI_subL, pk_sub, nI_divL, sub_dm, nI_leE, nI_ltE, nI_eqE, nI_Lle, nI_leL, nI_Llt, nI_ltL, nI_eqL, va_up_self, va_up_ne, up_up, up_comm, nI_clamp, bI_eq0, not_true_eq_false, not_false_eq_true, Nat.reduceEqDiff, Nat.reduceLeDiff, Nat.reduceAdd, Nat.reduceMul, Nat.one_ne_zero, Nat.zero_ne_one, decide_eq_false_iff_not, decide_eq_true_eq, Bool.false_eq_true, decide_true, decide_false, bI_true, bI_false, one_ne, Nat.le_refl, Nat.lt_irrefl, cleT, cleF, cltT, cltF, ceqT, ceqF, ↓reduceIte, r50_33, r50_34, r50_35, r50_36, r50_38, r50_39, r50_42, r50_43, r50_46, r50_47, r50_48, r50_49, r50_50, zO73_2, zS77, hs5]
        refine u4 z ?_
        have mm := m12 t v'
        have e0 : s6 73 0 = nI p := by rw [u1 73 (by decide), o3.2 0 (by decide)]; exact k3
        have e76 : s6 76 (7 * t + v') = nI (m t v') := by rw [u1 76 (by decide), o3.1 76 (by decide) (by decide) (by decide)]; exact k4 t v' (by omega) hv'
        have eli : s6 p 1 = nI li := by rw [u1 p (by omega), o3.1 p (by omega) (by omega) (by omega), fp]; exact hli
        rw [r50_52]
        generalize hK : li + 1 - m t v' = K at *
        simp (disch := first | omega | assumption | exact Or.inl rfl | exact Or.inr rfl | exact bI_or _ | exact zC81 | exact zC47 | exact zC65 | exact zC0 | exact zC1 | exact zC32 | exact zC70 | exact zC73 | exact ztc (by assumption) | exact zdc (by assumption) | exact zpc (by assumption) | decide) only [Option.some.injEq, exists_eq_left', ex2, Option.toList, List.singleton_append, List.append_nil, List.cons_append, List.nil_append, nI_add, nI_addL, nI_Ladd, pk_mul, nI_mulL, nI_Lmul, nI_subL, pk_sub, nI_divL, sub_dm, nI_leE, nI_ltE, nI_eqE, nI_Lle, nI_leL, nI_Llt, nI_ltL, nI_eqL, va_up_self, va_up_ne, up_up, up_comm, nI_clamp, bI_eq0, not_true_eq_false, not_false_eq_true, Nat.reduceEqDiff, Nat.reduceLeDiff, Nat.reduceAdd, Nat.reduceMul, Nat.one_ne_zero, Nat.zero_ne_one, decide_eq_false_iff_not, decide_eq_true_eq, Bool.false_eq_true, decide_true, decide_false, bI_true, bI_false, one_ne, Nat.le_refl, Nat.lt_irrefl, cleT, cleF, cltT, cltF, ceqT, ceqF, ↓reduceIte, r50_54, r50_56, r50_59, r50_61, r50_62, r50_65, r50_66, r50_67, r50_68, r50_69, r50_72, r50_75, r50_100, r50_103, zO73_0, zO73_1, e0, zA76, e76, zpc, zpo0, zpw0, zpo1, zpw1, zpo2, zpw2, zpo3, zpl1, zpa1, zps1, eli]
        exact hz _) s3 ⟨fun _ _ => rfl, fun t0 v h hv => by
          rw [o3.1 77 (by decide) (by decide) (by decide)]
          exact k5 t0 v (by omega) hv⟩
    refine ⟨s4, ⟨w3, ?_, fun c hc => ?_, ?_, fun t v ht hv => ?_, fun t0 v h hv => v2 t0 v (by omega) hv⟩, fun z hz l3 l4 => ?_⟩
    · obtain ⟨x1, x2, x3⟩ := o2
      exact ⟨x1, by rw [v1 73 (by decide)]; exact x2, by rw [v1 73 (by decide)]; exact x3⟩
    · rw [v1 c (by omega), o3.1 c (by omega) (by omega) (by omega)]
      exact k2 c hc
    · rw [v1 73 (by decide), o3.2 0 (by decide)]
      exact k3
    · rw [v1 76 (by decide), o3.1 76 (by decide) (by decide) (by decide)]
      exact k4 t v ht hv
    · rw [r50_11]
      simp (disch := first | omega | assumption | exact Or.inl rfl | exact Or.inr rfl | exact bI_or _ | exact zC81 | exact zC47 | exact zC65 | exact zC0 | exact zC1 | exact zC32 | exact zC70 | exact zC73 | exact ztc (by assumption) | exact zdc (by assumption) | exact zpc (by assumption) | decide) only [Option.some.injEq, exists_eq_left', ex2, Option.toList, List.singleton_append, List.append_nil, List.cons_append, List.nil_append, nI_add, nI_addL, nI_Ladd, pk_mul, nI_mulL, nI_Lmul, nI_subL, pk_sub, nI_divL, sub_dm, nI_leE, nI_ltE, nI_eqE, nI_Lle, nI_leL, nI_Llt, nI_ltL, nI_eqL, va_up_self, va_up_ne, up_up, up_comm, nI_clamp, bI_eq0, not_true_eq_false, not_false_eq_true, Nat.reduceEqDiff, Nat.reduceLeDiff, Nat.reduceAdd, Nat.reduceMul, Nat.one_ne_zero, Nat.zero_ne_one, decide_eq_false_iff_not, decide_eq_true_eq, Bool.false_eq_true, decide_true, decide_false, bI_true, bI_false, one_ne, Nat.le_refl, Nat.lt_irrefl, cleT, cleF, cltT, cltF, ceqT, ceqF, ↓reduceIte, r50_12, r50_13, r50_16, r50_19, r50_22, r50_23, r50_24, r50_27, r50_28, r50_30, r50_31, zO73_0, k3, zpc, zpo0, zpw0, zpo1, zpw1, zpo2, zpw2, zpo3, zpl1, zpa1, zps1, fn, o1.iff]
      refine v3 z ?_ l4
      intro l4
      rw [r50_32]
      simp (disch := first | omega | assumption | exact Or.inl rfl | exact Or.inr rfl | exact bI_or _ | exact zC81 | exact zC47 | exact zC65 | exact zC0 | exact zC1 | exact zC32 | exact zC70 | exact zC73 | exact ztc (by assumption) | exact zdc (by assumption) | exact zpc (by assumption) | decide) only [Option.some.injEq, exists_eq_left', ex2, Option.toList, List.singleton_append, List.append_nil, List.cons_append, List.nil_append, nI_add, nI_addL, nI_Ladd, pk_mul, nI_mulL, nI_Lmul, nI_subL, pk_sub, nI_divL, sub_dm, nI_leE, nI_ltE, nI_eqE, nI_Lle, nI_leL, nI_Llt, nI_ltL, nI_eqL, va_up_self, va_up_ne, up_up, up_comm, nI_clamp, bI_eq0, not_true_eq_false, not_false_eq_true, Nat.reduceEqDiff, Nat.reduceLeDiff, Nat.reduceAdd, Nat.reduceMul, Nat.one_ne_zero, Nat.zero_ne_one, decide_eq_false_iff_not, decide_eq_true_eq, Bool.false_eq_true, decide_true, decide_false, bI_true, bI_false, one_ne, Nat.le_refl, Nat.lt_irrefl, cleT, cleF, cltT, cltF, ceqT, ceqF, ↓reduceIte, r50_33, r50_34, r50_35, r50_36, r50_38, r50_39, r50_106, r50_106_1, r50_109]
      exact hz _ _) s1 ⟨w, W1, fun c hc => by rw [b2 c (by omega), a0 c (by omega)], z0, b3, fun t v h => absurd h (by omega)⟩
  refine ⟨s2, w2, ?_, k1, k2, k3, k4, k5⟩
  have fn : s2 p 0 = nI n := by rw [k2 p (by omega)]; exact hn
  simp (disch := first | omega | assumption | exact Or.inl rfl | exact Or.inr rfl | exact bI_or _ | exact zC81 | exact zC47 | exact zC65 | exact zC0 | exact zC1 | exact zC32 | exact zC70 | exact zC73 | exact ztc (by assumption) | exact zdc (by assumption) | exact zpc (by assumption) | decide) only [Option.some.injEq, exists_eq_left', ex2, Option.toList, List.singleton_append, List.append_nil, List.cons_append, List.nil_append, nI_add, nI_addL, nI_Ladd, pk_mul, nI_mulL, nI_Lmul, nI_subL, pk_sub, nI_divL, sub_dm, nI_leE, nI_ltE, nI_eqE, nI_Lle, nI_leL, nI_Llt, nI_ltL, nI_eqL, va_up_self, va_up_ne, up_up, up_comm, nI_clamp, bI_eq0, not_true_eq_false, not_false_eq_true, Nat.reduceEqDiff, Nat.reduceLeDiff, Nat.reduceAdd, Nat.reduceMul, Nat.one_ne_zero, Nat.zero_ne_one, decide_eq_false_iff_not, decide_eq_true_eq, Bool.false_eq_true, decide_true, decide_false, bI_true, bI_false, one_ne, Nat.le_refl, Nat.lt_irrefl, cleT, cleF, cltT, cltF, ceqT, ceqF, ↓reduceIte, r50_0, r50_1, r50_1n, r50_2, r50_5, r50_6, r50_9, r50_10, r50_10_1, zW73_0, hs0, b1.iff]
  refine k6 _ ?_ none none
  intro l3 l4
  rw [r50_11]
  simp (disch := first | omega | assumption | exact Or.inl rfl | exact Or.inr rfl | exact bI_or _ | exact zC81 | exact zC47 | exact zC65 | exact zC0 | exact zC1 | exact zC32 | exact zC70 | exact zC73 | exact ztc (by assumption) | exact zdc (by assumption) | exact zpc (by assumption) | decide) only [Option.some.injEq, exists_eq_left', ex2, Option.toList, List.singleton_append, List.append_nil, List.cons_append, List.nil_append, nI_add, nI_addL, nI_Ladd, pk_mul, nI_mulL, nI_Lmul, nI_subL, pk_sub, nI_divL, sub_dm, nI_leE, nI_ltE, nI_eqE, nI_Lle, nI_leL, nI_Llt, nI_ltL, nI_eqL, va_up_self, va_up_ne, up_up, up_comm, nI_clamp, bI_eq0, not_true_eq_false, not_false_eq_true, Nat.reduceEqDiff, Nat.reduceLeDiff, Nat.reduceAdd, Nat.reduceMul, Nat.one_ne_zero, Nat.zero_ne_one, decide_eq_false_iff_not, decide_eq_true_eq, Bool.false_eq_true, decide_true, decide_false, bI_true, bI_false, one_ne, Nat.le_refl, Nat.lt_irrefl, cleT, cleF, cltT, cltF, ceqT, ceqF, ↓reduceIte, r50_12, r50_13, r50_16, r50_19, r50_112, zO73_0, k3, zpc, zpo0, zpw0, zpo1, zpw1, zpo2, zpw2, zpo3, zpl1, zpa1, zps1, fn]
end WG2
