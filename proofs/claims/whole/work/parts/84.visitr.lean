/-! VISITS: the reference; alike -/
section VIR
variable {xs : Nat → Int32} {sl d : Nat} {J : hJk} {s x y : hS} {g : hG}
theorem dig_step {v : Nat} {σ : Int32} (hs : isS σ) : nI (3 * v) + σ + 1 = nI (3 * v + dig σ) := by
  rcases hs with rfl | rfl | rfl
  · rw [Int32.add_zero, nI_1]
    rfl
  · rw [nI_1, nI_1]
    rfl
  · rw [Int32.add_assoc]
    exact (Int32.add_zero _)
theorem rf_codeOf {t0 n h : Nat} (hT : rT s t0 n h) (hs : ∀ u, u < h → isS (s 97 u)) {r : Option Value × mH} : Runs xs sl (d) 257 0 [some (.ref (81)), none, none] [] (hp J (s) g) r ↔ r = (some (.int ( nI (cod (s 97) h))), hp J (s) g) := by
  refine Runs.iff ?_
  obtain ⟨h12, ht0, h13, hn6, h14, hh8⟩ := hT
  simp (disch := first | omega | assumption | exact Or.inl rfl | exact Or.inr rfl | exact bI_or _ | exact zC81 | exact zC47 | exact zC65 | exact zC0 | exact zC1 | exact zC32 | exact zC70 | exact zC73 | exact ztc (by assumption) | exact zdc (by assumption) | exact zpc (by assumption) | decide) only [Option.some.injEq, exists_eq_left', ex2, Option.toList, List.singleton_append, List.append_nil, List.cons_append, List.nil_append, nI_add, nI_addL, nI_Ladd, pk_mul, nI_mulL, nI_Lmul, nI_subL, pk_sub, nI_divL, sub_dm, nI_leE, nI_ltE, nI_eqE, nI_Lle, nI_leL, nI_Llt, nI_ltL, nI_eqL, va_up_self, va_up_ne, up_up, up_comm, nI_clamp, bI_eq0, not_true_eq_false, not_false_eq_true, Nat.reduceEqDiff, Nat.reduceLeDiff, Nat.reduceAdd, Nat.reduceMul, Nat.one_ne_zero, Nat.zero_ne_one, decide_eq_false_iff_not, decide_eq_true_eq, Bool.false_eq_true, decide_true, decide_false, bI_true, bI_false, one_ne, Nat.le_refl, Nat.lt_irrefl, cleT, cleF, cltT, cltF, ceqT, ceqF, ↓reduceIte, r257_0, r257_1, r257_1_1, r257_2, r257_3]
  refine dn_loop (P := fun u => Runs xs sl (d) 257 4 [some (.ref (81)), some (.int ( nI (cod (s 97) u))), some (.int ( nI u))] [] (hp J (s) g) _) h ?_ ?_
  · intro u hu hr
    rw [r257_4]
    have e : cod (s 97) (u + 1) = 3 * cod (s 97) u + dig (s 97 u) := rfl
    rw [e, ← dig_step (hs u hu)] at hr
    simp (disch := first | omega | assumption | exact Or.inl rfl | exact Or.inr rfl | exact bI_or _ | exact zC81 | exact zC47 | exact zC65 | exact zC0 | exact zC1 | exact zC32 | exact zC70 | exact zC73 | exact ztc (by assumption) | exact zdc (by assumption) | exact zpc (by assumption) | decide) only [Option.some.injEq, exists_eq_left', ex2, Option.toList, List.singleton_append, List.append_nil, List.cons_append, List.nil_append, nI_add, nI_addL, nI_Ladd, pk_mul, nI_mulL, nI_Lmul, nI_subL, pk_sub, nI_divL, sub_dm, nI_leE, nI_ltE, nI_eqE, nI_Lle, nI_leL, nI_Llt, nI_ltL, nI_eqL, va_up_self, va_up_ne, up_up, up_comm, nI_clamp, bI_eq0, not_true_eq_false, not_false_eq_true, Nat.reduceEqDiff, Nat.reduceLeDiff, Nat.reduceAdd, Nat.reduceMul, Nat.one_ne_zero, Nat.zero_ne_one, decide_eq_false_iff_not, decide_eq_true_eq, Bool.false_eq_true, decide_true, decide_false, bI_true, bI_false, one_ne, Nat.le_refl, Nat.lt_irrefl, cleT, cleF, cltT, cltF, ceqT, ceqF, ↓reduceIte, r257_5, r257_6, r257_9, r257_12, r257_13, r257_14, r257_15, r257_16, r257_19, r257_20, r257_21, r257_22, r257_23, r257_24, r257_24_1, r257_25, r257_28, zO81_14, zO81_31, zL97, zA97, zS97, h14]
    exact hr
  · rw [r257_4]
    simp (disch := first | omega | assumption | exact Or.inl rfl | exact Or.inr rfl | exact bI_or _ | exact zC81 | exact zC47 | exact zC65 | exact zC0 | exact zC1 | exact zC32 | exact zC70 | exact zC73 | exact ztc (by assumption) | exact zdc (by assumption) | exact zpc (by assumption) | decide) only [Option.some.injEq, exists_eq_left', ex2, Option.toList, List.singleton_append, List.append_nil, List.cons_append, List.nil_append, nI_add, nI_addL, nI_Ladd, pk_mul, nI_mulL, nI_Lmul, nI_subL, pk_sub, nI_divL, sub_dm, nI_leE, nI_ltE, nI_eqE, nI_Lle, nI_leL, nI_Llt, nI_ltL, nI_eqL, va_up_self, va_up_ne, up_up, up_comm, nI_clamp, bI_eq0, not_true_eq_false, not_false_eq_true, Nat.reduceEqDiff, Nat.reduceLeDiff, Nat.reduceAdd, Nat.reduceMul, Nat.one_ne_zero, Nat.zero_ne_one, decide_eq_false_iff_not, decide_eq_true_eq, Bool.false_eq_true, decide_true, decide_false, bI_true, bI_false, one_ne, Nat.le_refl, Nat.lt_irrefl, cleT, cleF, cltT, cltF, ceqT, ceqF, ↓reduceIte, r257_5, r257_6, r257_9, r257_31, r257_32, zO81_14, h14]
/-- the stamps: none is later than the last -/
def StampOK (s : hS) (K : Nat) : Prop := ∃ k, k ≤ K ∧ s 81 34 = nI k ∧ ∀ v, v < 6561 → ∃ j, j ≤ k ∧ s 99 v = nI j
set_option maxHeartbeats 2000000 in
theorem rf_goesRound {t0 n h t home m l K : Nat} {vis : Nat → Nat} {σ : Nat → Int32} (hT : rT s t0 n h) (hV : rV s t0 h vis) (ht : t < 6) (hhome : home < 256) (hσ : ∀ u, u < h → sg (s 82 (t0 + 29 + 6 * u + t)) = σ u) (hr : rnd (wX vis home h σ) m l) (hN : m + l ≤ 6561) (hK : StampOK s K) (hK2 : K < 2 ^ 30) : ∃ y : hS, Runs xs sl (d+2) 255 0 [some (.ref (81)), some (.int ( nI t)), some (.int ( nI home)), none] [] (hp J (s) g) (none, hp J y g) ∧ y 81 35 = nI m ∧ y 81 36 = nI l ∧ (∀ c, c ≠ 81 → ¬ (96 ≤ c ∧ c ≤ 99) → y c = s c) ∧ (∀ j, ¬ (34 ≤ j ∧ j ≤ 36) → y 81 j = s 81 j) ∧ StampOK y (K + 1) := by
  obtain ⟨k, k1, k2, k3⟩ := hK
  have hh8 := hT.2.2.2.2.2
  have l0 := hr.1
  have p3 := pw3 hh8
  have sS : ∀ u, u < h → isS (σ u) := fun u hu => by rw [← hσ u hu]; exact sg_S _
  have wS := wk_S (vis := vis) (home := home) sS
  generalize hc : (fun i => cod (wk vis home h σ i) h) = c
  have cE : ∀ i, cod (wk vis home h σ i) h = c i := fun i => by rw [← hc]
  have cB : ∀ i, c i < 6561 := fun i => by rw [← cE]; exact Nat.lt_of_lt_of_le (cod_lt h) p3
  have cN : ∀ i j, i < j → j < m + l → c i ≠ c j := by
    intro i j hij hj e
    rw [← cE, ← cE] at e
    have q := cod_inj h (wS i) (wS j) e
    exact hr.2.2 i j hij hj (enc_congr (fun u hu => by rw [q u hu]))
  have cR : c (m + l) = c m := by
    rw [← cE, ← cE]
    exact cod_congr (enc_inj hh8 (wS _) (wS _) hr.2.1)
  -- the start
  generalize hs0 : va_up s 81 (va_up (s 81) 34 (nI (k + 1))) = s0
  have a0 : ∀ c, c ≠ 81 → s0 c = s c := fun c hc => by rw [← hs0, va_up_ne _ _ hc]
  have a1 : ∀ j, j ≠ 34 → s0 81 j = s 81 j := fun j hj => by rw [← hs0, va_up_self, va_up_ne _ _ hj]
  have a2 : s0 81 34 = nI (k + 1) := by rw [← hs0, va_up_self, va_up_self]
  have hT0 : rT s0 t0 n h := rT_fr hT (a1 _ (by decide)) (a1 _ (by decide)) (a1 _ (by decide))
  have so := @rf_signsOf xs sl d J s0 g t0 n h t hT0 ht
  generalize hs1 : va_up s0 97 (va_cpy (fun u => sg (s0 82 (t0 + 29 + 6 * u + t))) (s0 97) 0 0 h) = s1 at so
  have b0 : ∀ c, c ≠ 97 → s1 c = s0 c := fun c hc => by rw [← hs1, va_up_ne _ _ hc]
  have b1 : ∀ u, u < h → s1 97 u = σ u := by
    intro u hu
    rw [← hs1, va_up_self, pk_cpy_in (by omega) (by omega), a0 82 (by decide)]
    have w2 : 0 + (u - 0) = u := by omega
    rw [w2]
    exact hσ u hu
  obtain ⟨y, ⟨q1, q2, q3, q4, q5, q6⟩, qr⟩ := up_loop (Q := fun i (y : hS) => (∀ u, u < h → y 97 u = wk vis home h σ i u) ∧ y 81 34 = nI (k + 1) ∧ (∀ j, j ≠ 34 → y 81 j = s 81 j) ∧ (∀ c, c ≠ 81 → ¬ (96 ≤ c ∧ c ≤ 99) → y c = s c) ∧ (∀ i', i' < i → y 99 (c i') = nI (k + 1) ∧ y 98 (c i') = nI i') ∧ (∀ v, v < 6561 → (∀ i', i' < i → c i' ≠ v) → ∃ j, j ≤ k ∧ y 99 v = nI j)) (P := fun i (y : hS) (z : Option Value × mH) => Runs xs sl (d+2) 255 17 [some (.ref (81)), some (.int ( nI t)), some (.int ( nI home)), some (.int ( nI i))] [] (hp J (y) g) z) (m + l) (by
    intro i y hi hQ
    obtain ⟨i1, i2, i3, i4, i5, i6⟩ := hQ
    have hTy : rT y t0 n h := rT_fr hT (i3 _ (by decide)) (i3 _ (by decide)) (i3 _ (by decide))
    have ySS : ∀ u, u < h → isS (y 97 u) := fun u hu => by rw [i1 u hu]; exact wS i u hu
    have ec : cod (y 97) h = c i := (cod_congr i1).trans (cE i)
    have ci := cB i
    obtain ⟨j, j1, j2⟩ := i6 (c i) ci (fun i' hi' => cN i' i hi' (by omega))
    have co := fun (w : hS) (e1 : w 97 = y 97) (e2 : w 81 = y 81) => @rf_codeOf xs sl (d + 1) J w g t0 n h (rT_fr hTy (by rw [e2]) (by rw [e2]) (by rw [e2])) (by rw [e1]; exact ySS)
    have co0 := @co y rfl rfl
    have co1 := @co (va_up y 99 (va_up (y 99) (c i) (nI (k + 1)))) (va_up_ne _ _ (by decide)) (va_up_ne _ _ (by decide))
    rw [show va_up y 99 (va_up (y 99) (c i) (nI (k + 1))) 97 = y 97 from va_up_ne _ _ (by decide), ec] at co1
    rw [ec] at co0
    generalize hy2 : va_up (va_up y 98 (va_up (y 98) (c i) (nI i))) 99 (va_up (y 99) (c i) (nI (k + 1))) = y2
    have e97 : y2 97 = y 97 := by rw [← hy2]; simp (disch := first | omega | assumption | exact Or.inl rfl | exact Or.inr rfl | exact bI_or _ | exact zC81 | exact zC47 | exact zC65 | exact zC0 | exact zC1 | exact zC32 | exact zC70 | exact zC73 | exact ztc (by assumption) | exact zdc (by assumption) | exact zpc (by assumption) | decide) only [Option.some.injEq, exists_eq_left', ex2, Option.toList, List.singleton_append, List.append_nil, List.cons_append, List.nil_append, nI_add, nI_addL, nI_Ladd, pk_mul, nI_mulL, nI_Lmul, nI_subL, pk_sub, nI_divL, sub_dm, nI_leE, nI_ltE, nI_eqE, nI_Lle, nI_leL, nI_Llt, nI_ltL, nI_eqL, va_up_self, va_up_ne, up_up, up_comm, nI_clamp, bI_eq0, not_true_eq_false, not_false_eq_true, Nat.reduceEqDiff, Nat.reduceLeDiff, Nat.reduceAdd, Nat.reduceMul, Nat.one_ne_zero, Nat.zero_ne_one, decide_eq_false_iff_not, decide_eq_true_eq, Bool.false_eq_true, decide_true, decide_false, bI_true, bI_false, one_ne, Nat.le_refl, Nat.lt_irrefl, cleT, cleF, cltT, cltF, ceqT, ceqF, ↓reduceIte]
    have e81 : y2 81 = y 81 := by rw [← hy2]; simp (disch := first | omega | assumption | exact Or.inl rfl | exact Or.inr rfl | exact bI_or _ | exact zC81 | exact zC47 | exact zC65 | exact zC0 | exact zC1 | exact zC32 | exact zC70 | exact zC73 | exact ztc (by assumption) | exact zdc (by assumption) | exact zpc (by assumption) | decide) only [Option.some.injEq, exists_eq_left', ex2, Option.toList, List.singleton_append, List.append_nil, List.cons_append, List.nil_append, nI_add, nI_addL, nI_Ladd, pk_mul, nI_mulL, nI_Lmul, nI_subL, pk_sub, nI_divL, sub_dm, nI_leE, nI_ltE, nI_eqE, nI_Lle, nI_leL, nI_Llt, nI_ltL, nI_eqL, va_up_self, va_up_ne, up_up, up_comm, nI_clamp, bI_eq0, not_true_eq_false, not_false_eq_true, Nat.reduceEqDiff, Nat.reduceLeDiff, Nat.reduceAdd, Nat.reduceMul, Nat.one_ne_zero, Nat.zero_ne_one, decide_eq_false_iff_not, decide_eq_true_eq, Bool.false_eq_true, decide_true, decide_false, bI_true, bI_false, one_ne, Nat.le_refl, Nat.lt_irrefl, cleT, cleF, cltT, cltF, ceqT, ceqF, ↓reduceIte]
    have e82 : y2 82 = s 82 := by rw [← hy2]; simp (disch := first | omega | assumption | exact Or.inl rfl | exact Or.inr rfl | exact bI_or _ | exact zC81 | exact zC47 | exact zC65 | exact zC0 | exact zC1 | exact zC32 | exact zC70 | exact zC73 | exact ztc (by assumption) | exact zdc (by assumption) | exact zpc (by assumption) | decide) only [Option.some.injEq, exists_eq_left', ex2, Option.toList, List.singleton_append, List.append_nil, List.cons_append, List.nil_append, nI_add, nI_addL, nI_Ladd, pk_mul, nI_mulL, nI_Lmul, nI_subL, pk_sub, nI_divL, sub_dm, nI_leE, nI_ltE, nI_eqE, nI_Lle, nI_leL, nI_Llt, nI_ltL, nI_eqL, va_up_self, va_up_ne, up_up, up_comm, nI_clamp, bI_eq0, not_true_eq_false, not_false_eq_true, Nat.reduceEqDiff, Nat.reduceLeDiff, Nat.reduceAdd, Nat.reduceMul, Nat.one_ne_zero, Nat.zero_ne_one, decide_eq_false_iff_not, decide_eq_true_eq, Bool.false_eq_true, decide_true, decide_false, bI_true, bI_false, one_ne, Nat.le_refl, Nat.lt_irrefl, cleT, cleF, cltT, cltF, ceqT, ceqF, ↓reduceIte, i4 82 (by decide) (by decide)]
    have e98 : y2 98 = va_up (y 98) (c i) (nI i) := by rw [← hy2]; simp (disch := first | omega | assumption | exact Or.inl rfl | exact Or.inr rfl | exact bI_or _ | exact zC81 | exact zC47 | exact zC65 | exact zC0 | exact zC1 | exact zC32 | exact zC70 | exact zC73 | exact ztc (by assumption) | exact zdc (by assumption) | exact zpc (by assumption) | decide) only [Option.some.injEq, exists_eq_left', ex2, Option.toList, List.singleton_append, List.append_nil, List.cons_append, List.nil_append, nI_add, nI_addL, nI_Ladd, pk_mul, nI_mulL, nI_Lmul, nI_subL, pk_sub, nI_divL, sub_dm, nI_leE, nI_ltE, nI_eqE, nI_Lle, nI_leL, nI_Llt, nI_ltL, nI_eqL, va_up_self, va_up_ne, up_up, up_comm, nI_clamp, bI_eq0, not_true_eq_false, not_false_eq_true, Nat.reduceEqDiff, Nat.reduceLeDiff, Nat.reduceAdd, Nat.reduceMul, Nat.one_ne_zero, Nat.zero_ne_one, decide_eq_false_iff_not, decide_eq_true_eq, Bool.false_eq_true, decide_true, decide_false, bI_true, bI_false, one_ne, Nat.le_refl, Nat.lt_irrefl, cleT, cleF, cltT, cltF, ceqT, ceqF, ↓reduceIte]
    have e99 : y2 99 = va_up (y 99) (c i) (nI (k + 1)) := by rw [← hy2]; simp (disch := first | omega | assumption | exact Or.inl rfl | exact Or.inr rfl | exact bI_or _ | exact zC81 | exact zC47 | exact zC65 | exact zC0 | exact zC1 | exact zC32 | exact zC70 | exact zC73 | exact ztc (by assumption) | exact zdc (by assumption) | exact zpc (by assumption) | decide) only [Option.some.injEq, exists_eq_left', ex2, Option.toList, List.singleton_append, List.append_nil, List.cons_append, List.nil_append, nI_add, nI_addL, nI_Ladd, pk_mul, nI_mulL, nI_Lmul, nI_subL, pk_sub, nI_divL, sub_dm, nI_leE, nI_ltE, nI_eqE, nI_Lle, nI_leL, nI_Llt, nI_ltL, nI_eqL, va_up_self, va_up_ne, up_up, up_comm, nI_clamp, bI_eq0, not_true_eq_false, not_false_eq_true, Nat.reduceEqDiff, Nat.reduceLeDiff, Nat.reduceAdd, Nat.reduceMul, Nat.one_ne_zero, Nat.zero_ne_one, decide_eq_false_iff_not, decide_eq_true_eq, Bool.false_eq_true, decide_true, decide_false, bI_true, bI_false, one_ne, Nat.le_refl, Nat.lt_irrefl, cleT, cleF, cltT, cltF, ceqT, ceqF, ↓reduceIte]
    have hT2 : rT y2 t0 n h := rT_fr hTy (by rw [e81]) (by rw [e81]) (by rw [e81])
    have hV2 : rV y2 t0 h vis := fun u hu => ⟨by rw [e82]; exact (hV u hu).1, (hV u hu).2⟩
    have vo := @rf_visitsOn xs sl d J y2 g t0 n h home vis hT2 hV2 hhome
    refine ⟨va_up (va_up y2 96 (va_cpy (stp vis home h (y2 97)) (y2 96) 0 0 h)) 97 (va_cpy (stp vis home h (y2 97)) (y2 97) 0 0 h), ⟨fun u hu => ?_, ?_, fun j hj => ?_, fun c' h1 h2 => ?_, fun i' hi' => ?_, fun v hv hno => ?_⟩, fun z hz => ?_⟩
    · rw [va_up_self, pk_cpy_in (by omega) (by omega), e97]
      have w2 : 0 + (u - 0) = u := by omega
      rw [w2]
      exact stp_congr i1 hu
    · rw [va_up_ne _ _ (by decide), va_up_ne _ _ (by decide), e81]
      exact i2
    · rw [va_up_ne _ _ (by decide), va_up_ne _ _ (by decide), e81]
      exact i3 j hj
    · rw [va_up_ne _ _ (by omega), va_up_ne _ _ (by omega), ← hy2, va_up_ne _ _ (by omega), va_up_ne _ _ (by omega)]
      exact i4 c' h1 h2
    · rw [va_up_ne _ _ (by decide), va_up_ne _ _ (by decide), va_up_ne _ _ (by decide), va_up_ne _ _ (by decide), e98, e99]
      by_cases z : i' = i
      · subst z
        rw [va_up_self, va_up_self]
        exact ⟨rfl, rfl⟩
      · have ne := cN i' i (by omega) (by omega)
        rw [va_up_ne _ _ ne, va_up_ne _ _ ne]
        exact i5 i' (by omega)
    · rw [va_up_ne _ _ (by decide), va_up_ne _ _ (by decide), e99, va_up_ne _ _ (fun z => hno i (by omega) z.symm)]
      exact i6 v hv (fun i' hi' => hno i' (by omega))
    · rw [r255_17]
      have nq : ¬ nI j = nI (k + 1) := by
        rw [nI_eq (by omega) (by omega)]
        omega
      simp (disch := first | omega | assumption | exact zC81) only [r255_18, r255_21, r255_22, r255_25, r255_26, r255_27, r255_30, r255_33, r255_34, r255_37, r255_38, r255_41, r255_42, r255_45, r255_46, r255_47, r255_50, r255_51, r255_54, r255_55, r255_56, r255_57, r255_58, r255_61, r255_64, zO81_33, zO81_32, zO81_34, co0, zA99, j2, i2, nq, zS99, va_up_ne, ne_eq, Nat.reduceEqDiff, not_false_eq_true, co1, zS98, up_comm, hy2, vo, nI_1, Option.some.injEq, exists_eq_left', ex2, Option.toList, List.singleton_append, List.append_nil, List.cons_append, List.nil_append, ↓reduceIte]
      exact hz) s1 ⟨b1, by rw [b0 81 (by decide)]; exact a2, fun j hj => by rw [b0 81 (by decide)]; exact a1 j hj, fun c h1 h2 => by rw [b0 c (by omega)]; exact a0 c h1, fun i' hi' => absurd hi' (by omega), fun v hv _ => by rw [b0 99 (by decide), a0 99 (by decide)]; exact k3 v hv⟩
  have hTy : rT y t0 n h := rT_fr hT (q3 _ (by decide)) (q3 _ (by decide)) (q3 _ (by decide))
  have ySS : ∀ u, u < h → isS (y 97 u) := fun u hu => by rw [q1 u hu]; exact wS _ u hu
  have ec : cod (y 97) h = c m := ((cod_congr q1).trans (cE _)).trans cR
  have cm := cB m
  obtain ⟨w1, w2⟩ := q5 m (by omega)
  have co0 := @rf_codeOf xs sl (d + 1) J y g t0 n h hTy ySS
  rw [ec] at co0
  refine ⟨va_up y 81 (va_up (va_up (y 81) 35 (nI m)) 36 (nI l)), ?_, by simp (disch := first | omega | assumption | exact Or.inl rfl | exact Or.inr rfl | exact bI_or _ | exact zC81 | exact zC47 | exact zC65 | exact zC0 | exact zC1 | exact zC32 | exact zC70 | exact zC73 | exact ztc (by assumption) | exact zdc (by assumption) | exact zpc (by assumption) | decide) only [Option.some.injEq, exists_eq_left', ex2, Option.toList, List.singleton_append, List.append_nil, List.cons_append, List.nil_append, nI_add, nI_addL, nI_Ladd, pk_mul, nI_mulL, nI_Lmul, nI_subL, pk_sub, nI_divL, sub_dm, nI_leE, nI_ltE, nI_eqE, nI_Lle, nI_leL, nI_Llt, nI_ltL, nI_eqL, va_up_self, va_up_ne, up_up, up_comm, nI_clamp, bI_eq0, not_true_eq_false, not_false_eq_true, Nat.reduceEqDiff, Nat.reduceLeDiff, Nat.reduceAdd, Nat.reduceMul, Nat.one_ne_zero, Nat.zero_ne_one, decide_eq_false_iff_not, decide_eq_true_eq, Bool.false_eq_true, decide_true, decide_false, bI_true, bI_false, one_ne, Nat.le_refl, Nat.lt_irrefl, cleT, cleF, cltT, cltF, ceqT, ceqF, ↓reduceIte], by simp (disch := first | omega | assumption | exact Or.inl rfl | exact Or.inr rfl | exact bI_or _ | exact zC81 | exact zC47 | exact zC65 | exact zC0 | exact zC1 | exact zC32 | exact zC70 | exact zC73 | exact ztc (by assumption) | exact zdc (by assumption) | exact zpc (by assumption) | decide) only [Option.some.injEq, exists_eq_left', ex2, Option.toList, List.singleton_append, List.append_nil, List.cons_append, List.nil_append, nI_add, nI_addL, nI_Ladd, pk_mul, nI_mulL, nI_Lmul, nI_subL, pk_sub, nI_divL, sub_dm, nI_leE, nI_ltE, nI_eqE, nI_Lle, nI_leL, nI_Llt, nI_ltL, nI_eqL, va_up_self, va_up_ne, up_up, up_comm, nI_clamp, bI_eq0, not_true_eq_false, not_false_eq_true, Nat.reduceEqDiff, Nat.reduceLeDiff, Nat.reduceAdd, Nat.reduceMul, Nat.one_ne_zero, Nat.zero_ne_one, decide_eq_false_iff_not, decide_eq_true_eq, Bool.false_eq_true, decide_true, decide_false, bI_true, bI_false, one_ne, Nat.le_refl, Nat.lt_irrefl, cleT, cleF, cltT, cltF, ceqT, ceqF, ↓reduceIte], fun c h1 h2 => by rw [va_up_ne _ _ h1]; exact q4 c h1 h2, fun j hj => by rw [va_up_self, va_up_ne _ _ (by omega), va_up_ne _ _ (by omega)]; exact q3 j (by omega), ⟨k + 1, by omega, by simp (disch := first | omega | assumption | exact Or.inl rfl | exact Or.inr rfl | exact bI_or _ | exact zC81 | exact zC47 | exact zC65 | exact zC0 | exact zC1 | exact zC32 | exact zC70 | exact zC73 | exact ztc (by assumption) | exact zdc (by assumption) | exact zpc (by assumption) | decide) only [Option.some.injEq, exists_eq_left', ex2, Option.toList, List.singleton_append, List.append_nil, List.cons_append, List.nil_append, nI_add, nI_addL, nI_Ladd, pk_mul, nI_mulL, nI_Lmul, nI_subL, pk_sub, nI_divL, sub_dm, nI_leE, nI_ltE, nI_eqE, nI_Lle, nI_leL, nI_Llt, nI_ltL, nI_eqL, va_up_self, va_up_ne, up_up, up_comm, nI_clamp, bI_eq0, not_true_eq_false, not_false_eq_true, Nat.reduceEqDiff, Nat.reduceLeDiff, Nat.reduceAdd, Nat.reduceMul, Nat.one_ne_zero, Nat.zero_ne_one, decide_eq_false_iff_not, decide_eq_true_eq, Bool.false_eq_true, decide_true, decide_false, bI_true, bI_false, one_ne, Nat.le_refl, Nat.lt_irrefl, cleT, cleF, cltT, cltF, ceqT, ceqF, ↓reduceIte, q2], fun v hv => ?_⟩⟩
  · have e3 : s 81 34 + 1 = nI (k + 1) := by rw [k2, nI_1]
    have e4 : nI (m + l) - nI m = nI l := by
      rw [pk_sub (by omega)]
      congr 1
      omega
    simp (disch := first | omega | assumption | exact zC81) only [r255_0, r255_1, r255_2, r255_5, r255_6, r255_7, r255_10, r255_11, r255_12, r255_15, r255_16, zO81_34, zW81_34, e3, hs0, so, Option.some.injEq, exists_eq_left', ex2, Option.toList, List.singleton_append, List.append_nil, List.cons_append, List.nil_append]
    refine qr _ ?_
    rw [r255_17]
    simp (disch := first | omega | assumption | exact zC81) only [r255_18, r255_21, r255_22, r255_25, r255_26, r255_27, r255_30, r255_67, r255_68, r255_69, r255_72, r255_73, r255_76, r255_77, r255_80, r255_81, r255_82, r255_83, r255_86, r255_87, r255_90, zO81_33, zO81_32, zO81_34, zO81_35, zW81_35, zW81_36, co0, zA98, zA99, w1, w2, q2, e4, va_up_self, va_up_ne, up_up, Option.some.injEq, exists_eq_left', ex2, Option.toList, List.singleton_append, List.append_nil, List.cons_append, List.nil_append, ↓reduceIte]
  · rw [va_up_ne _ _ (by decide)]
    by_cases z : ∃ i', i' < m + l ∧ c i' = v
    · obtain ⟨i', z1, z2⟩ := z
      rw [← z2]
      exact ⟨k + 1, by omega, (q5 i' z1).1⟩
    · obtain ⟨j, j1, j2⟩ := q6 v hv (fun i' hi' e => z ⟨i', hi', e⟩)
      exact ⟨j, by omega, j2⟩
end VIR
