/-! SWAY: the class's small helpers -/
section SWH
variable {xs : Nat → Int32} {sl d : Nat} {J : hJk} {s x y : hS} {g : hG}
def ltN (v : Nat → Int32) : Nat → Nat
  | 0 => 0
  | l + 1 => ltN v l + (if 0 < v l then 2 ^ l else 0)
theorem ltN_lt (v : Nat → Int32) : ∀ L, ltN v L < 2 ^ L := by
  intro L
  induction L with
  | zero => exact Nat.one_pos
  | succ L ih =>
    rw [ltN, Nat.pow_succ]
    split <;> omega
theorem ltN_bit (v : Nat → Int32) : ∀ L, L ≤ 8 → ∀ j, j < L → 0 < v j → ltN v L / 2 ^ j % 2 = 1 := by
  intro L
  induction L with
  | zero => exact fun _ j hj => absurd hj (by omega)
  | succ L ih =>
    intro hL j hj hv
    have hlt := ltN_lt v L
    have p8 : 2 ^ L ≤ 256 := pw8 (by omega)
    by_cases c : j = L
    · subst c
      rw [ltN, if_pos hv]
      have : (ltN v j + 2 ^ j) / 2 ^ j = 1 := by
        rw [Nat.add_div_right _ (Nat.pow_pos (by decide)), Nat.div_eq_of_lt hlt]
      rw [this]
    · have q := ih (by omega) j (by omega) hv
      rw [ltN]
      split
      · have nb : ¬ ltN v L / 2 ^ L % 2 = 1 := by rw [Nat.div_eq_of_lt hlt]; decide
        obtain ⟨-, -, a3⟩ := ad_of (m := ltN v L) (l := L) (by omega) (by omega) nb
        have a4 := a3 j (by omega)
        rw [if_neg c, q, Nat.add_comm] at a4
        exact a4
      · exact q
theorem ml_lifting {L t : Nat} {v : Nat → Int32} (hL : s 47 1 = nI L) (hL8 : L ≤ 8) (h8 : s 65 8 = nI t) (ht : t < 6) (hv : ∀ l, l < L → s 57 (6 * l + t) = v l) {r : Option Value × mH} : Runs xs sl (d) 77 0 [some (.ref (65)), none] [] (hp J (s) g) r ↔ r = (none, hp J (va_up s 65 (va_up (s 65) 11 (nI (ltN v L)))) g) := by
  refine Runs.iff ?_
  simp (disch := first | omega | assumption | exact Or.inl rfl | exact Or.inr rfl | exact bI_or _ | exact zC81 | exact zC47 | exact zC65 | exact zC0 | exact zC1 | exact zC32 | exact zC70 | exact zC73 | exact ztc (by assumption) | exact zdc (by assumption) | exact zpc (by assumption) | decide) only [Option.some.injEq, exists_eq_left', ex2, Option.toList, List.singleton_append, List.append_nil, List.cons_append, List.nil_append, nI_add, nI_addL, nI_Ladd, pk_mul, nI_mulL, nI_Lmul, nI_subL, pk_sub, nI_divL, sub_dm, nI_leE, nI_ltE, nI_eqE, nI_Lle, nI_leL, nI_Llt, nI_ltL, nI_eqL, va_up_self, va_up_ne, up_up, up_comm, nI_clamp, bI_eq0, not_true_eq_false, not_false_eq_true, Nat.reduceEqDiff, Nat.reduceLeDiff, Nat.reduceAdd, Nat.reduceMul, Nat.one_ne_zero, Nat.zero_ne_one, decide_eq_false_iff_not, decide_eq_true_eq, Bool.false_eq_true, decide_true, decide_false, bI_true, bI_false, one_ne, Nat.le_refl, Nat.lt_irrefl, cleT, cleF, cltT, cltF, ceqT, ceqF, ↓reduceIte, r77_0, r77_1, r77_2, r77_5, r77_6, r77_6_1, zW65_11]
  refine dn_loop (P := fun l => Runs xs sl (d) 77 7 [some (.ref (65)), some (.int ( nI l))] [] (hp J (va_up s 65 (va_up (s 65) 11 (nI (ltN v l)))) g) _) L ?_ ?_
  · intro l hl h
    have e := hv l hl
    have hlt := ltN_lt v l
    rw [r77_7]
    by_cases c : 0 < v l
    · have c' : ¬ v l ≤ 0 := Int32.not_le.mpr c
      rw [ltN, if_pos c] at h
      have eo : ltN v l ||| 2 ^ l = ltN v l + 2 ^ l := or_pow hlt
      simp (disch := first | omega | assumption | exact Or.inl rfl | exact Or.inr rfl | exact bI_or _ | exact zC81 | exact zC47 | exact zC65 | exact zC0 | exact zC1 | exact zC32 | exact zC70 | exact zC73 | exact ztc (by assumption) | exact zdc (by assumption) | exact zpc (by assumption) | decide) only [Option.some.injEq, exists_eq_left', ex2, Option.toList, List.singleton_append, List.append_nil, List.cons_append, List.nil_append, nI_add, nI_addL, nI_Ladd, pk_mul, nI_mulL, nI_Lmul, nI_subL, pk_sub, nI_divL, sub_dm, nI_leE, nI_ltE, nI_eqE, nI_Lle, nI_leL, nI_Llt, nI_ltL, nI_eqL, va_up_self, va_up_ne, up_up, up_comm, nI_clamp, bI_eq0, not_true_eq_false, not_false_eq_true, Nat.reduceEqDiff, Nat.reduceLeDiff, Nat.reduceAdd, Nat.reduceMul, Nat.one_ne_zero, Nat.zero_ne_one, decide_eq_false_iff_not, decide_eq_true_eq, Bool.false_eq_true, decide_true, decide_false, bI_true, bI_false, one_ne, Nat.le_refl, Nat.lt_irrefl, cleT, cleF, cltT, cltF, ceqT, ceqF, ↓reduceIte, r77_8, r77_9, r77_12, r77_15, r77_18, r77_19, r77_22, r77_25, r77_26, r77_28, r77_29, r77_30, r77_33, r77_34, r77_35, r77_38, r77_39, r77_40, r77_43, r77_44, r77_45, r77_46, r77_47, r77_50, r77_50_1, r77_53, zO65_3, zO65_8, zO65_11, zW65_11, zO47_1, zO47_3, zA57, hL, h8, e, c', sh1, or_nI, eo]
      exact h
    · have c' : v l ≤ 0 := Int32.not_lt.mp c
      rw [ltN, if_neg c, Nat.add_zero] at h
      simp (disch := first | omega | assumption | exact Or.inl rfl | exact Or.inr rfl | exact bI_or _ | exact zC81 | exact zC47 | exact zC65 | exact zC0 | exact zC1 | exact zC32 | exact zC70 | exact zC73 | exact ztc (by assumption) | exact zdc (by assumption) | exact zpc (by assumption) | decide) only [Option.some.injEq, exists_eq_left', ex2, Option.toList, List.singleton_append, List.append_nil, List.cons_append, List.nil_append, nI_add, nI_addL, nI_Ladd, pk_mul, nI_mulL, nI_Lmul, nI_subL, pk_sub, nI_divL, sub_dm, nI_leE, nI_ltE, nI_eqE, nI_Lle, nI_leL, nI_Llt, nI_ltL, nI_eqL, va_up_self, va_up_ne, up_up, up_comm, nI_clamp, bI_eq0, not_true_eq_false, not_false_eq_true, Nat.reduceEqDiff, Nat.reduceLeDiff, Nat.reduceAdd, Nat.reduceMul, Nat.one_ne_zero, Nat.zero_ne_one, decide_eq_false_iff_not, decide_eq_true_eq, Bool.false_eq_true, decide_true, decide_false, bI_true, bI_false, one_ne, Nat.le_refl, Nat.lt_irrefl, cleT, cleF, cltT, cltF, ceqT, ceqF, ↓reduceIte, r77_8, r77_9, r77_12, r77_15, r77_18, r77_19, r77_22, r77_25, r77_26, r77_28, r77_29, r77_30, r77_33, r77_34, r77_35, r77_38, r77_39, r77_40, r77_43, r77_44, r77_45, r77_46, r77_47, r77_50, r77_50_1, r77_53, zO65_3, zO65_8, zO47_1, zO47_3, zA57, hL, h8, e, c']
      exact h
  · rw [r77_7]
    simp (disch := first | omega | assumption | exact Or.inl rfl | exact Or.inr rfl | exact bI_or _ | exact zC81 | exact zC47 | exact zC65 | exact zC0 | exact zC1 | exact zC32 | exact zC70 | exact zC73 | exact ztc (by assumption) | exact zdc (by assumption) | exact zpc (by assumption) | decide) only [Option.some.injEq, exists_eq_left', ex2, Option.toList, List.singleton_append, List.append_nil, List.cons_append, List.nil_append, nI_add, nI_addL, nI_Ladd, pk_mul, nI_mulL, nI_Lmul, nI_subL, pk_sub, nI_divL, sub_dm, nI_leE, nI_ltE, nI_eqE, nI_Lle, nI_leL, nI_Llt, nI_ltL, nI_eqL, va_up_self, va_up_ne, up_up, up_comm, nI_clamp, bI_eq0, not_true_eq_false, not_false_eq_true, Nat.reduceEqDiff, Nat.reduceLeDiff, Nat.reduceAdd, Nat.reduceMul, Nat.one_ne_zero, Nat.zero_ne_one, decide_eq_false_iff_not, decide_eq_true_eq, Bool.false_eq_true, decide_true, decide_false, bI_true, bI_false, one_ne, Nat.le_refl, Nat.lt_irrefl, cleT, cleF, cltT, cltF, ceqT, ceqF, ↓reduceIte, r77_8, r77_9, r77_12, r77_15, r77_56, zO65_3, zO47_1, hL]
theorem andn_nI {F U : Nat} (hF : F < 256) : nI F &&& (nI U ^^^ -1) = nI (F &&& (255 ^^^ U)) := by
  apply b_ext
  intro i hi
  rw [b_and, b_nI _ _ hi, b_nI _ _ hi, Nat.testBit_and, Nat.testBit_xor]
  have e : bt (nI U ^^^ -1) i = !(U.testBit i) := by
    show (nI U ^^^ -1).toBitVec.getLsbD i = _
    rw [Int32.toBitVec_xor, BitVec.getLsbD_xor]
    have h1 : (nI U).toBitVec.getLsbD i = U.testBit i := b_nI U i hi
    have h2 : (-1 : Int32).toBitVec.getLsbD i = true := b_m1 i hi
    rw [h1, h2, Bool.xor_true]
  rw [e]
  by_cases c : i < 8
  · have h3 : ∀ i, i < 8 → (255 : Nat).testBit i = true := by decide
    rw [h3 i c, Bool.true_xor]
  · have h4 : F.testBit i = false := Nat.testBit_lt_two_pow (Nat.lt_of_lt_of_le hF (show 2 ^ 8 ≤ 2 ^ i from Nat.pow_le_pow_right (by decide) (by omega)))
    rw [h4, Bool.false_and, Bool.false_and]
theorem ml_hopeless {k U F w lim : Nat} (h10 : s 65 10 = nI lim) (h11 : s 65 11 = nI F) (hF : F < 256) (hU : U < 256) (hk : k ≤ lim) (hl : lim ≤ 8) (hw : w ≤ 4) {r : Option Value × mH} : Runs xs sl (d+1) 79 0 [some (.ref (65)), some (.int ( nI k)), some (.int ( nI U)), some (.int ( nI w))] [] (hp J (s) g) r ↔ r = (some (.int ( bI (decide (lim - k < w) || decide (bcN (F &&& (255 ^^^ U)) < min w 2)))), hp J (s) g) := by
  refine Runs.iff ?_
  have aF := andn_nI (F := F) (U := U) hF
  have X8 : F &&& (255 ^^^ U) < 256 := Nat.lt_of_le_of_lt Nat.and_le_left hF
  have bx : bcN (F &&& (255 ^^^ U)) ≤ 8 := bc_le
  have bo : ∀ {r : Option Value × mH}, Runs xs sl d 287 0 [some (.int (nI (F &&& (255 ^^^ U))))] [] (hp J s g) r ↔ r = (some (.int (nI (bcN (F &&& (255 ^^^ U))))), hp J s g) := zx_bitCount X8
  generalize F &&& (255 ^^^ U) = X at *
  by_cases c1 : lim - k < w
  · rw [decide_eq_true c1, Bool.true_or]
    simp (disch := first | omega | assumption | exact Or.inl rfl | exact Or.inr rfl | exact bI_or _ | exact zC81 | exact zC47 | exact zC65 | exact zC0 | exact zC1 | exact zC32 | exact zC70 | exact zC73 | exact ztc (by assumption) | exact zdc (by assumption) | exact zpc (by assumption) | decide) only [Option.some.injEq, exists_eq_left', ex2, Option.toList, List.singleton_append, List.append_nil, List.cons_append, List.nil_append, nI_add, nI_addL, nI_Ladd, pk_mul, nI_mulL, nI_Lmul, nI_subL, pk_sub, nI_divL, sub_dm, nI_leE, nI_ltE, nI_eqE, nI_Lle, nI_leL, nI_Llt, nI_ltL, nI_eqL, va_up_self, va_up_ne, up_up, up_comm, nI_clamp, bI_eq0, not_true_eq_false, not_false_eq_true, Nat.reduceEqDiff, Nat.reduceLeDiff, Nat.reduceAdd, Nat.reduceMul, Nat.one_ne_zero, Nat.zero_ne_one, decide_eq_false_iff_not, decide_eq_true_eq, Bool.false_eq_true, decide_true, decide_false, bI_true, bI_false, one_ne, Nat.le_refl, Nat.lt_irrefl, cleT, cleF, cltT, cltF, ceqT, ceqF, ↓reduceIte, r79_0, r79_1, r79_4, r79_5, r79_6, r79_7, r79_29, r79_30, r79_33, r79_34, zO65_10, h10, c1]
  · rw [decide_eq_false c1, Bool.false_or]
    by_cases c2 : 2 < w
    · rw [show min w 2 = 2 by omega]
      by_cases c3 : bcN X < 2
      · have c3' : ¬ 2 ≤ bcN X := by omega
        simp (disch := first | omega | assumption | exact Or.inl rfl | exact Or.inr rfl | exact bI_or _ | exact zC81 | exact zC47 | exact zC65 | exact zC0 | exact zC1 | exact zC32 | exact zC70 | exact zC73 | exact ztc (by assumption) | exact zdc (by assumption) | exact zpc (by assumption) | decide) only [Option.some.injEq, exists_eq_left', ex2, Option.toList, List.singleton_append, List.append_nil, List.cons_append, List.nil_append, nI_add, nI_addL, nI_Ladd, pk_mul, nI_mulL, nI_Lmul, nI_subL, pk_sub, nI_divL, sub_dm, nI_leE, nI_ltE, nI_eqE, nI_Lle, nI_leL, nI_Llt, nI_ltL, nI_eqL, va_up_self, va_up_ne, up_up, up_comm, nI_clamp, bI_eq0, not_true_eq_false, not_false_eq_true, Nat.reduceEqDiff, Nat.reduceLeDiff, Nat.reduceAdd, Nat.reduceMul, Nat.one_ne_zero, Nat.zero_ne_one, decide_eq_false_iff_not, decide_eq_true_eq, Bool.false_eq_true, decide_true, decide_false, bI_true, bI_false, one_ne, Nat.le_refl, Nat.lt_irrefl, cleT, cleF, cltT, cltF, ceqT, ceqF, ↓reduceIte, r79_0, r79_1, r79_4, r79_5, r79_6, r79_7, r79_10, r79_11, r79_14, r79_15, r79_16, r79_17, r79_18, r79_21, r79_22, r79_23, r79_26, r79_29, r79_30, r79_33, r79_34, zO65_10, zO65_11, h10, h11, c1, aF, bo, c2, c3, c3']
      · have c3' : 2 ≤ bcN X := by omega
        simp (disch := first | omega | assumption | exact Or.inl rfl | exact Or.inr rfl | exact bI_or _ | exact zC81 | exact zC47 | exact zC65 | exact zC0 | exact zC1 | exact zC32 | exact zC70 | exact zC73 | exact ztc (by assumption) | exact zdc (by assumption) | exact zpc (by assumption) | decide) only [Option.some.injEq, exists_eq_left', ex2, Option.toList, List.singleton_append, List.append_nil, List.cons_append, List.nil_append, nI_add, nI_addL, nI_Ladd, pk_mul, nI_mulL, nI_Lmul, nI_subL, pk_sub, nI_divL, sub_dm, nI_leE, nI_ltE, nI_eqE, nI_Lle, nI_leL, nI_Llt, nI_ltL, nI_eqL, va_up_self, va_up_ne, up_up, up_comm, nI_clamp, bI_eq0, not_true_eq_false, not_false_eq_true, Nat.reduceEqDiff, Nat.reduceLeDiff, Nat.reduceAdd, Nat.reduceMul, Nat.one_ne_zero, Nat.zero_ne_one, decide_eq_false_iff_not, decide_eq_true_eq, Bool.false_eq_true, decide_true, decide_false, bI_true, bI_false, one_ne, Nat.le_refl, Nat.lt_irrefl, cleT, cleF, cltT, cltF, ceqT, ceqF, ↓reduceIte, r79_0, r79_1, r79_4, r79_5, r79_6, r79_7, r79_10, r79_11, r79_14, r79_15, r79_16, r79_17, r79_18, r79_21, r79_22, r79_23, r79_26, r79_29, r79_30, r79_33, r79_34, zO65_10, zO65_11, h10, h11, c1, aF, bo, c2, c3, c3']
    · rw [show min w 2 = w by omega]
      by_cases c3 : bcN X < w
      · have c3' : ¬ w ≤ bcN X := by omega
        simp (disch := first | omega | assumption | exact Or.inl rfl | exact Or.inr rfl | exact bI_or _ | exact zC81 | exact zC47 | exact zC65 | exact zC0 | exact zC1 | exact zC32 | exact zC70 | exact zC73 | exact ztc (by assumption) | exact zdc (by assumption) | exact zpc (by assumption) | decide) only [Option.some.injEq, exists_eq_left', ex2, Option.toList, List.singleton_append, List.append_nil, List.cons_append, List.nil_append, nI_add, nI_addL, nI_Ladd, pk_mul, nI_mulL, nI_Lmul, nI_subL, pk_sub, nI_divL, sub_dm, nI_leE, nI_ltE, nI_eqE, nI_Lle, nI_leL, nI_Llt, nI_ltL, nI_eqL, va_up_self, va_up_ne, up_up, up_comm, nI_clamp, bI_eq0, not_true_eq_false, not_false_eq_true, Nat.reduceEqDiff, Nat.reduceLeDiff, Nat.reduceAdd, Nat.reduceMul, Nat.one_ne_zero, Nat.zero_ne_one, decide_eq_false_iff_not, decide_eq_true_eq, Bool.false_eq_true, decide_true, decide_false, bI_true, bI_false, one_ne, Nat.le_refl, Nat.lt_irrefl, cleT, cleF, cltT, cltF, ceqT, ceqF, ↓reduceIte, r79_0, r79_1, r79_4, r79_5, r79_6, r79_7, r79_10, r79_11, r79_14, r79_15, r79_16, r79_17, r79_18, r79_21, r79_22, r79_23, r79_26, r79_29, r79_30, r79_33, r79_34, zO65_10, zO65_11, h10, h11, c1, aF, bo, c2, c3, c3']
      · have c3' : w ≤ bcN X := by omega
        simp (disch := first | omega | assumption | exact Or.inl rfl | exact Or.inr rfl | exact bI_or _ | exact zC81 | exact zC47 | exact zC65 | exact zC0 | exact zC1 | exact zC32 | exact zC70 | exact zC73 | exact ztc (by assumption) | exact zdc (by assumption) | exact zpc (by assumption) | decide) only [Option.some.injEq, exists_eq_left', ex2, Option.toList, List.singleton_append, List.append_nil, List.cons_append, List.nil_append, nI_add, nI_addL, nI_Ladd, pk_mul, nI_mulL, nI_Lmul, nI_subL, pk_sub, nI_divL, sub_dm, nI_leE, nI_ltE, nI_eqE, nI_Lle, nI_leL, nI_Llt, nI_ltL, nI_eqL, va_up_self, va_up_ne, up_up, up_comm, nI_clamp, bI_eq0, not_true_eq_false, not_false_eq_true, Nat.reduceEqDiff, Nat.reduceLeDiff, Nat.reduceAdd, Nat.reduceMul, Nat.one_ne_zero, Nat.zero_ne_one, decide_eq_false_iff_not, decide_eq_true_eq, Bool.false_eq_true, decide_true, decide_false, bI_true, bI_false, one_ne, Nat.le_refl, Nat.lt_irrefl, cleT, cleF, cltT, cltF, ceqT, ceqF, ↓reduceIte, r79_0, r79_1, r79_4, r79_5, r79_6, r79_7, r79_10, r79_11, r79_14, r79_15, r79_16, r79_17, r79_18, r79_21, r79_22, r79_23, r79_26, r79_29, r79_30, r79_33, r79_34, zO65_10, zO65_11, h10, h11, c1, aF, bo, c2, c3, c3']
def encN (dg : Nat → Nat) : Nat → Nat
  | 0 => 0
  | n + 1 => 7 * encN dg n + dg n
theorem encN_lt {dg : Nat → Nat} : ∀ n, (∀ t, t < n → dg t < 7) → encN dg n < 7 ^ n := by
  intro n
  induction n with
  | zero => exact fun _ => Nat.one_pos
  | succ n ih =>
    intro h
    have h1 := ih (fun t ht => h t (by omega))
    have h2 := h n (by omega)
    rw [encN, Nat.pow_succ]
    omega
theorem encN_inj {dg dg' : Nat → Nat} : ∀ n, (∀ t, t < n → dg t < 7) → (∀ t, t < n → dg' t < 7) → encN dg n = encN dg' n → ∀ t, t < n → dg t = dg' t := by
  intro n
  induction n with
  | zero => exact fun _ _ _ t ht => absurd ht (by omega)
  | succ n ih =>
    intro h h' e t ht
    rw [encN, encN] at e
    have h1 := h n (by omega)
    have h2 := h' n (by omega)
    by_cases c : t = n
    · subst c; omega
    · exact ih (fun t ht => h t (by omega)) (fun t ht => h' t (by omega)) (by omega) t (by omega)
def kyN (dg : Nat → Nat) (n U lim : Nat) : Nat := (encN dg n * 256 + U) * 9 + lim + 1
theorem kyN_lt {dg : Nat → Nat} {n U lim : Nat} (hn : n ≤ 6) (h : ∀ t, t < n → dg t < 7) (hU : U < 256) (hl : lim ≤ 8) : kyN dg n U lim < 2 ^ 30 := by
  have h1 := encN_lt n h
  have h2 : 7 ^ n ≤ 7 ^ 6 := Nat.pow_le_pow_right (by decide) hn
  unfold kyN
  omega
theorem kyN_inj {dg dg' : Nat → Nat} {n U U' lim : Nat} (h : ∀ t, t < n → dg t < 7) (h' : ∀ t, t < n → dg' t < 7) (hU : U < 256) (hU' : U' < 256) (e : kyN dg n U lim = kyN dg' n U' lim) : U = U' ∧ ∀ t, t < n → dg t = dg' t := by
  unfold kyN at e
  exact ⟨by omega, encN_inj n h h' (by omega)⟩
def hsN (x : Int32) : Nat := (x * -1640531535).toUInt32.toNat / 2 ^ 21
theorem hsN_lt (x : Int32) : hsN x < 2048 := by
  unfold hsN
  have := (x * -1640531535).toUInt32.toNat_lt
  omega
theorem ush21 (x : Int32) : (x.toUInt32 >>> (Int32.toUInt32 21 &&& Int32.toUInt32 31)).toInt32 = nI (x.toUInt32.toNat / 2 ^ 21) := by
  apply b_ext
  intro i hi
  rw [show (x.toUInt32 >>> (Int32.toUInt32 21 &&& Int32.toUInt32 31)).toInt32 = (x.toUInt32 >>> ((nI 21).toUInt32 &&& Int32.toUInt32 31)).toInt32 from rfl, b_ushr 21 (by omega), b_nI _ _ hi, Nat.testBit_div_two_pow]
  show x.toUInt32.toBitVec.getLsbD (21 + i) = x.toUInt32.toBitVec.toNat.testBit (i + 21)
  rw [Nat.add_comm]
  rfl
theorem dig_add (K j : Nat) : nI K + (nI j - 3) + 3 = nI (K + j) := by
  have e : ∀ a b : Int32, a + (b - 3) + 3 = a + b := by
    intro a b
    rw [Int32.add_assoc, Int32.sub_add_cancel]
  rw [e, nI_add]
def seS (s : hS) (K : Nat) : hS := va_up s 69 (va_up (s 69) (hsN (nI K)) (nI K))
theorem ml_isSeen {a n h k U lim : Nat} {dg : Nat → Nat} (hT : cT s a n h) (h10 : s 65 10 = nI lim) (hl : lim ≤ 8) (hU : U < 256) (hk : k ≤ 8) (hm : ∀ t, t < n → dg t < 7 ∧ s 68 (6 * k + t) = nI (dg t) - 3) {r : Option Value × mH} : Runs xs sl (d) 80 0 [some (.ref (65)), some (.int ( nI k)), some (.int ( nI U)), none, none] [] (hp J (s) g) r ↔ r = (some (.int (bI (decide (s 69 (hsN (nI (kyN dg n U lim))) = nI (kyN dg n U lim))))), hp J (if s 69 (hsN (nI (kyN dg n U lim))) = nI (kyN dg n U lim) then s else seS s (kyN dg n U lim)) g) := by
  have hiT : isT a := hT.1
  have a31 : a < 31 := hT.2.1
  have h47 := hT.2.2.1
  have han := hT.2.2.2.1
  have n6 : n ≤ 6 := hT.2.2.2.2.1
  have kl := kyN_lt (lim := lim) n6 (fun t ht => (hm t ht).1) hU hl
  refine Runs.iff ?_
  simp (disch := first | omega | assumption | exact Or.inl rfl | exact Or.inr rfl | exact bI_or _ | exact zC81 | exact zC47 | exact zC65 | exact zC0 | exact zC1 | exact zC32 | exact zC70 | exact zC73 | exact ztc (by assumption) | exact zdc (by assumption) | exact zpc (by assumption) | decide) only [Option.some.injEq, exists_eq_left', ex2, Option.toList, List.singleton_append, List.append_nil, List.cons_append, List.nil_append, nI_add, nI_addL, nI_Ladd, pk_mul, nI_mulL, nI_Lmul, nI_subL, pk_sub, nI_divL, sub_dm, nI_leE, nI_ltE, nI_eqE, nI_Lle, nI_leL, nI_Llt, nI_ltL, nI_eqL, va_up_self, va_up_ne, up_up, up_comm, nI_clamp, bI_eq0, not_true_eq_false, not_false_eq_true, Nat.reduceEqDiff, Nat.reduceLeDiff, Nat.reduceAdd, Nat.reduceMul, Nat.one_ne_zero, Nat.zero_ne_one, decide_eq_false_iff_not, decide_eq_true_eq, Bool.false_eq_true, decide_true, decide_false, bI_true, bI_false, one_ne, Nat.le_refl, Nat.lt_irrefl, cleT, cleF, cltT, cltF, ceqT, ceqF, ↓reduceIte, r80_0, r80_1, r80_2, r80_3]
  refine dn_loop (P := fun t => Runs xs sl (d) 80 5 [some (.ref (65)), some (.int ( nI k)), some (.int ( nI U)), some (.int ( nI (encN dg t))), some (.int ( nI t))] [] (hp J (s) g) _) n ?_ ?_
  · intro t ht hz
    obtain ⟨e1, e2⟩ := hm t ht
    have i54 : 6 * k + t < 54 := by omega
    rw [r80_5]
    simp (disch := first | omega | assumption | exact zC65) only [r80_7, r80_8, r80_11, r80_14, r80_17, r80_20, r80_21, r80_23, r80_24, r80_25, r80_28, r80_29, r80_31, r80_32, r80_34, r80_35, r80_36, r80_37, r80_38, r80_39, r80_40, r80_43, zO65_3, zO65_6, zO47_0, h47, nI_clamp, zto0 hiT, han, nI_leE, cleF, zA68, nI_mulL, nI_add, nI_1, e2, dig_add, Option.some.injEq, exists_eq_left', ↓reduceIte]
    exact hz
  · have hh := hsN_lt (nI (kyN dg n U lim))
    have ek : (nI (encN dg n) * 256 + nI U) * 9 + nI lim + 1 = nI (kyN dg n U lim) := by
      rw [show (256 : Int32) = nI 256 from rfl, show (9 : Int32) = nI 9 from rfl, pk_mul, nI_add, pk_mul, nI_add, nI_1]
      rfl
    have eh : ((nI (kyN dg n U lim) * -1640531535).toUInt32 >>> (Int32.toUInt32 21 &&& Int32.toUInt32 31)).toInt32 = nI (hsN (nI (kyN dg n U lim))) := ush21 _
    rw [r80_5]
    by_cases c : s 69 (hsN (nI (kyN dg n U lim))) = nI (kyN dg n U lim)
    · rw [decide_eq_true c, if_pos c]
      have c' := eq_true c
      simp (disch := first | omega | assumption | exact zC65) only [r80_7, r80_8, r80_11, r80_14, r80_17, r80_46, r80_47, r80_50, r80_51, r80_52, r80_53, r80_55, r80_56, r80_57, r80_60, r80_61, r80_62, r80_63, r80_64, r80_65, r80_67, r80_68, r80_70, r80_71, r80_73, r80_74, r80_77, r80_79, r80_80, r80_81, r80_84, r80_85, r80_86, r80_87, r80_90, r80_92, r80_93, r80_94, r80_95, zO65_3, zO65_7, zO65_10, zO47_0, h47, nI_clamp, zto0 hiT, han, h10, nI_leE, cleT, Nat.le_refl, ek, eh, zA69, c, c', bI_true, Option.some.injEq, exists_eq_left', not_true_eq_false, ↓reduceIte, or_true, true_or]
      exact (r80_85 (Or.inr rfl)).mpr rfl
    · rw [decide_eq_false c, if_neg c]
      simp (disch := first | omega | assumption | exact zC65) only [r80_7, r80_8, r80_11, r80_14, r80_17, r80_46, r80_47, r80_50, r80_51, r80_52, r80_53, r80_55, r80_56, r80_57, r80_60, r80_61, r80_62, r80_63, r80_64, r80_65, r80_67, r80_68, r80_70, r80_71, r80_73, r80_74, r80_77, r80_79, r80_80, r80_81, r80_84, r80_85, r80_86, r80_87, r80_90, r80_92, r80_93, r80_94, r80_95, zO65_3, zO65_7, zO65_10, zO47_0, h47, nI_clamp, zto0 hiT, han, h10, nI_leE, cleT, Nat.le_refl, ek, eh, zA69, zS69, c, bI_false, seS, Option.some.injEq, exists_eq_left', not_false_eq_true, ↓reduceIte]
      exact (r80_95 (Or.inl rfl)).mpr rfl
end SWH
