/-! MINDS THAT GO ON BY VISITS: a step, on both sides -/
section WLK
variable {xs : Nat → Int32} {sl d : Nat} {J : hJk} {s x y : hS} {g : hG}
def plc (v : Int32) (u : Nat) : Nat := if v = 0 then 0 else if v ≤ 0 then 2 ^ (u + 8) else 2 ^ u
def enc (σ : Nat → Int32) (h : Nat) : Nat := it (fun u b => b ||| plc (σ u) u) h 0
def isS (v : Int32) : Prop := v = 0 ∨ v = 1 ∨ v = -1
theorem sg_S (v : Int32) : isS (sg v) := by
  unfold sg
  split
  · split
    · exact Or.inl rfl
    · exact Or.inr (Or.inr rfl)
  · exact Or.inr (Or.inl rfl)
theorem plc_sg (v : Int32) (u : Nat) : plc (sg v) u = plc v u := by
  unfold plc sg
  by_cases c1 : v ≤ 0
  · rw [if_pos c1]
    by_cases c2 : 0 ≤ v
    · have e : v = 0 := Int32.le_antisymm c1 c2
      rw [if_pos c2, if_pos rfl, if_pos e]
    · have e : ¬ v = 0 := fun z => c2 (by rw [z]; exact Int32.le_refl 0)
      rw [if_neg c2, if_neg e, if_neg (by decide), if_pos (by decide), if_pos c1]
  · have e : ¬ v = 0 := fun z => c1 (by rw [z]; exact Int32.le_refl 0)
    rw [if_neg c1, if_neg e, if_neg (by decide), if_neg (by decide), if_neg c1]
theorem plc_lt {v : Int32} {u : Nat} (hu : u < 8) : plc v u < 2 ^ 16 := by
  unfold plc
  split
  · decide
  · split
    · exact Nat.pow_lt_pow_right (by decide) (by omega)
    · exact Nat.pow_lt_pow_right (by decide) (by omega)
theorem enc_lt {σ : Nat → Int32} : ∀ h, h ≤ 8 → enc σ h < 2 ^ 16 := by
  intro h
  induction h with
  | zero => exact fun _ => (by decide : 0 < 2 ^ 16)
  | succ h ih =>
    intro hh
    have e : enc σ (h + 1) = enc σ h ||| plc (σ h) h := rfl
    rw [e]
    exact Nat.or_lt_two_pow (ih (by omega)) (plc_lt (by omega))
theorem plc_tb {v : Int32} {u w : Nat} (hw : w < 8) : (plc v u).testBit w = (decide (u = w) && !decide (v ≤ 0)) := by
  unfold plc
  by_cases c0 : v = 0
  · rw [if_pos c0, Nat.zero_testBit, decide_eq_true (p := v ≤ 0) (by rw [c0]; exact Int32.le_refl 0), Bool.not_true, Bool.and_false]
  · rw [if_neg c0]
    by_cases c1 : v ≤ 0
    · rw [if_pos c1, decide_eq_true c1, Bool.not_true, Bool.and_false, Nat.testBit_two_pow]
      exact decide_eq_false (by omega)
    · rw [if_neg c1, decide_eq_false c1, Bool.not_false, Bool.and_true, Nat.testBit_two_pow]
theorem plc_tb8 {v : Int32} {u w : Nat} (hu : u < 8) : (plc v u).testBit (w + 8) = (decide (u = w) && !decide (0 ≤ v)) := by
  unfold plc
  by_cases c0 : v = 0
  · rw [if_pos c0, Nat.zero_testBit, decide_eq_true (p := 0 ≤ v) (by rw [c0]; exact Int32.le_refl 0), Bool.not_true, Bool.and_false]
  · rw [if_neg c0]
    by_cases c1 : v ≤ 0
    · have c2 : ¬ 0 ≤ v := fun z => c0 (Int32.le_antisymm c1 z)
      rw [if_pos c1, decide_eq_false c2, Bool.not_false, Bool.and_true, Nat.testBit_two_pow]
      by_cases e : u = w
      · rw [decide_eq_true e, decide_eq_true (by omega)]
      · rw [decide_eq_false e, decide_eq_false (by omega)]
    · have c2 : 0 ≤ v := Int32.le_of_lt (Int32.not_le.mp c1)
      rw [if_neg c1, decide_eq_true c2, Bool.not_true, Bool.and_false, Nat.testBit_two_pow]
      exact decide_eq_false (by omega)
theorem enc_tb {σ : Nat → Int32} {w : Nat} (hw : w < 8) : ∀ h, (enc σ h).testBit w = (decide (w < h) && !decide (σ w ≤ 0)) := by
  intro h
  induction h with
  | zero =>
    rw [decide_eq_false (by omega), Bool.false_and]
    exact Nat.zero_testBit w
  | succ h ih =>
    have e : enc σ (h + 1) = enc σ h ||| plc (σ h) h := rfl
    rw [e, Nat.testBit_or, ih, plc_tb hw]
    by_cases k : w = h
    · subst k
      rw [decide_eq_false (by omega : ¬ w < w), decide_eq_true (by omega : w < w + 1), decide_eq_true rfl, Bool.false_and, Bool.true_and, Bool.false_or]
    · rw [decide_eq_false (p := h = w) (fun z => k z.symm), Bool.false_and, Bool.or_false]
      by_cases c : w < h
      · rw [decide_eq_true (p := w < h) c, decide_eq_true (p := w < h + 1) (by omega)]
      · rw [decide_eq_false (p := w < h) c, decide_eq_false (p := w < h + 1) (by omega)]
theorem enc_tb8 {σ : Nat → Int32} {w : Nat} : ∀ h, h ≤ 8 → (enc σ h).testBit (w + 8) = (decide (w < h) && !decide (0 ≤ σ w)) := by
  intro h
  induction h with
  | zero =>
    intro _
    rw [decide_eq_false (by omega), Bool.false_and]
    exact Nat.zero_testBit _
  | succ h ih =>
    intro hh
    have e : enc σ (h + 1) = enc σ h ||| plc (σ h) h := rfl
    rw [e, Nat.testBit_or, ih (by omega), plc_tb8 (by omega)]
    by_cases k : w = h
    · subst k
      rw [decide_eq_false (by omega : ¬ w < w), decide_eq_true (by omega : w < w + 1), decide_eq_true rfl, Bool.false_and, Bool.true_and, Bool.false_or]
    · rw [decide_eq_false (p := h = w) (fun z => k z.symm), Bool.false_and, Bool.or_false]
      by_cases c : w < h
      · rw [decide_eq_true (p := w < h) c, decide_eq_true (p := w < h + 1) (by omega)]
      · rw [decide_eq_false (p := w < h) c, decide_eq_false (p := w < h + 1) (by omega)]
theorem enc_congr {σ σ' : Nat → Int32} {h : Nat} (e : ∀ u, u < h → plc (σ u) u = plc (σ' u) u) : enc σ h = enc σ' h := it_congr (fun u b hu => by rw [e u hu])
theorem enc_inj {σ σ' : Nat → Int32} {h : Nat} (hh : h ≤ 8) (s1 : ∀ u, u < h → isS (σ u)) (s2 : ∀ u, u < h → isS (σ' u)) (e : enc σ h = enc σ' h) : ∀ u, u < h → σ u = σ' u := by
  intro u hu
  have a1 := enc_tb (σ := σ) (w := u) (by omega) h
  have a2 := enc_tb (σ := σ') (w := u) (by omega) h
  have b1 := enc_tb8 (σ := σ) (w := u) h hh
  have b2 := enc_tb8 (σ := σ') (w := u) h hh
  rw [e, a2, decide_eq_true hu, Bool.true_and, Bool.true_and] at a1
  rw [e, b2, decide_eq_true hu, Bool.true_and, Bool.true_and] at b1
  rcases s1 u hu with q1 | q1 | q1 <;> rcases s2 u hu with q2 | q2 | q2 <;> rw [q1, q2] at a1 b1 ⊢ <;> first | rfl | exact absurd a1 (by decide) | exact absurd b1 (by decide)
theorem br_placed {u : Nat} {v : Int32} (hu : u < 8) {r : Option Value × mH} : Runs xs sl (d) 164 0 [some (.int (v)), some (.int ( nI u))] [] (hp J (s) g) r ↔ r = (some (.int ( nI (plc v u))), hp J (s) g) := by
  refine Runs.iff ?_
  unfold plc
  by_cases c0 : v = 0
  · have c0' := eq_true c0
    simp (disch := first | omega | assumption | exact Or.inl rfl | exact Or.inr rfl | exact bI_or _ | exact zC81 | exact zC47 | exact zC65 | exact zC0 | exact zC1 | exact zC32 | exact zC70 | exact zC73 | exact ztc (by assumption) | exact zdc (by assumption) | exact zpc (by assumption) | decide) only [Option.some.injEq, exists_eq_left', ex2, Option.toList, List.singleton_append, List.append_nil, List.cons_append, List.nil_append, nI_add, nI_addL, nI_Ladd, pk_mul, nI_mulL, nI_Lmul, nI_subL, pk_sub, nI_divL, sub_dm, nI_leE, nI_ltE, nI_eqE, nI_Lle, nI_leL, nI_Llt, nI_ltL, nI_eqL, va_up_self, va_up_ne, up_up, up_comm, nI_clamp, bI_eq0, not_true_eq_false, not_false_eq_true, Nat.reduceEqDiff, Nat.reduceLeDiff, Nat.reduceAdd, Nat.reduceMul, Nat.one_ne_zero, Nat.zero_ne_one, decide_eq_false_iff_not, decide_eq_true_eq, Bool.false_eq_true, decide_true, decide_false, bI_true, bI_false, one_ne, Nat.le_refl, Nat.lt_irrefl, cleT, cleF, cltT, cltF, ceqT, ceqF, ↓reduceIte, r164_0, r164_1, r164_4, r164_5, r164_6, r164_7, r164_10, r164_11, r164_12, r164_13, r164_16, r164_17, r164_18, r164_20, r164_21, r164_22, c0', show nI 0 = (0 : Int32) from rfl]
  · by_cases c1 : v ≤ 0
    · simp (disch := first | omega | assumption | exact Or.inl rfl | exact Or.inr rfl | exact bI_or _ | exact zC81 | exact zC47 | exact zC65 | exact zC0 | exact zC1 | exact zC32 | exact zC70 | exact zC73 | exact ztc (by assumption) | exact zdc (by assumption) | exact zpc (by assumption) | decide) only [Option.some.injEq, exists_eq_left', ex2, Option.toList, List.singleton_append, List.append_nil, List.cons_append, List.nil_append, nI_add, nI_addL, nI_Ladd, pk_mul, nI_mulL, nI_Lmul, nI_subL, pk_sub, nI_divL, sub_dm, nI_leE, nI_ltE, nI_eqE, nI_Lle, nI_leL, nI_Llt, nI_ltL, nI_eqL, va_up_self, va_up_ne, up_up, up_comm, nI_clamp, bI_eq0, not_true_eq_false, not_false_eq_true, Nat.reduceEqDiff, Nat.reduceLeDiff, Nat.reduceAdd, Nat.reduceMul, Nat.one_ne_zero, Nat.zero_ne_one, decide_eq_false_iff_not, decide_eq_true_eq, Bool.false_eq_true, decide_true, decide_false, bI_true, bI_false, one_ne, Nat.le_refl, Nat.lt_irrefl, cleT, cleF, cltT, cltF, ceqT, ceqF, ↓reduceIte, r164_0, r164_1, r164_4, r164_5, r164_6, r164_7, r164_10, r164_11, r164_12, r164_13, r164_16, r164_17, r164_18, r164_20, r164_21, r164_22, c0, c1, sh1]
    · simp (disch := first | omega | assumption | exact Or.inl rfl | exact Or.inr rfl | exact bI_or _ | exact zC81 | exact zC47 | exact zC65 | exact zC0 | exact zC1 | exact zC32 | exact zC70 | exact zC73 | exact ztc (by assumption) | exact zdc (by assumption) | exact zpc (by assumption) | decide) only [Option.some.injEq, exists_eq_left', ex2, Option.toList, List.singleton_append, List.append_nil, List.cons_append, List.nil_append, nI_add, nI_addL, nI_Ladd, pk_mul, nI_mulL, nI_Lmul, nI_subL, pk_sub, nI_divL, sub_dm, nI_leE, nI_ltE, nI_eqE, nI_Lle, nI_leL, nI_Llt, nI_ltL, nI_eqL, va_up_self, va_up_ne, up_up, up_comm, nI_clamp, bI_eq0, not_true_eq_false, not_false_eq_true, Nat.reduceEqDiff, Nat.reduceLeDiff, Nat.reduceAdd, Nat.reduceMul, Nat.one_ne_zero, Nat.zero_ne_one, decide_eq_false_iff_not, decide_eq_true_eq, Bool.false_eq_true, decide_true, decide_false, bI_true, bI_false, one_ne, Nat.le_refl, Nat.lt_irrefl, cleT, cleF, cltT, cltF, ceqT, ceqF, ↓reduceIte, r164_0, r164_1, r164_4, r164_5, r164_6, r164_7, r164_10, r164_11, r164_12, r164_13, r164_16, r164_17, r164_18, r164_20, r164_21, r164_22, c0, c1, sh1]
theorem br_signs {a h t : Nat} (ha : isT a) (hh : s a 2 = nI h) (hh8 : h ≤ 8) (ht : t < 6) {r : Option Value × mH} : Runs xs sl (d+1) 163 0 [some (.ref (a)), some (.int ( nI t)), none, none] [] (hp J (s) g) r ↔ r = (some (.int ( nI (enc (fun u => s (a + 4) (6 * u + t)) h))), hp J (s) g) := by
  refine Runs.iff ?_
  simp (disch := first | omega | assumption | exact Or.inl rfl | exact Or.inr rfl | exact bI_or _ | exact zC81 | exact zC47 | exact zC65 | exact zC0 | exact zC1 | exact zC32 | exact zC70 | exact zC73 | exact ztc (by assumption) | exact zdc (by assumption) | exact zpc (by assumption) | decide) only [Option.some.injEq, exists_eq_left', ex2, Option.toList, List.singleton_append, List.append_nil, List.cons_append, List.nil_append, nI_add, nI_addL, nI_Ladd, pk_mul, nI_mulL, nI_Lmul, nI_subL, pk_sub, nI_divL, sub_dm, nI_leE, nI_ltE, nI_eqE, nI_Lle, nI_leL, nI_Llt, nI_ltL, nI_eqL, va_up_self, va_up_ne, up_up, up_comm, nI_clamp, bI_eq0, not_true_eq_false, not_false_eq_true, Nat.reduceEqDiff, Nat.reduceLeDiff, Nat.reduceAdd, Nat.reduceMul, Nat.one_ne_zero, Nat.zero_ne_one, decide_eq_false_iff_not, decide_eq_true_eq, Bool.false_eq_true, decide_true, decide_false, bI_true, bI_false, one_ne, Nat.le_refl, Nat.lt_irrefl, cleT, cleF, cltT, cltF, ceqT, ceqF, ↓reduceIte, r163_0, r163_1, r163_2, r163_3]
  refine dn_loop (P := fun u => Runs xs sl (d+1) 163 4 [some (.ref (a)), some (.int ( nI t)), some (.int ( nI (enc (fun u => s (a + 4) (6 * u + t)) u))), some (.int ( nI u))] [] (hp J (s) g) _) h ?_ ?_
  · intro u hu hr
    rw [r163_4]
    have u8 : u < 8 := by omega
    dsimp only [enc, it] at hr ⊢
    simp (disch := first | omega | assumption | exact Or.inl rfl | exact Or.inr rfl | exact bI_or _ | exact zC81 | exact zC47 | exact zC65 | exact zC0 | exact zC1 | exact zC32 | exact zC70 | exact zC73 | exact ztc (by assumption) | exact zdc (by assumption) | exact zpc (by assumption) | decide) only [Option.some.injEq, exists_eq_left', ex2, Option.toList, List.singleton_append, List.append_nil, List.cons_append, List.nil_append, nI_add, nI_addL, nI_Ladd, pk_mul, nI_mulL, nI_Lmul, nI_subL, pk_sub, nI_divL, sub_dm, nI_leE, nI_ltE, nI_eqE, nI_Lle, nI_leL, nI_Llt, nI_ltL, nI_eqL, va_up_self, va_up_ne, up_up, up_comm, nI_clamp, bI_eq0, not_true_eq_false, not_false_eq_true, Nat.reduceEqDiff, Nat.reduceLeDiff, Nat.reduceAdd, Nat.reduceMul, Nat.one_ne_zero, Nat.zero_ne_one, decide_eq_false_iff_not, decide_eq_true_eq, Bool.false_eq_true, decide_true, decide_false, bI_true, bI_false, one_ne, Nat.le_refl, Nat.lt_irrefl, cleT, cleF, cltT, cltF, ceqT, ceqF, ↓reduceIte, r163_5, r163_5n, r163_6, r163_9, r163_12, r163_13, r163_13n, r163_14, r163_17, r163_18, r163_20, r163_21, r163_22, r163_23, r163_24, r163_25, r163_28, r163_29, r163_30, r163_33, ztc, zto0, ztw0, zto1, ztw1, zto2, ztw2, zto3, ztw3, zto4, ztw4, zto5, zto6, zto7, zto8, zto9, zto10, zto11, ztl1, zta1, zts1, ztl2, zta2, zts2, ztl3, zta3, zts3, ztl4, zta4, zts4, ztl5, zta5, zts5, ztl6, zta6, zts6, ztl7, zta7, zts7, hh, br_placed u8, or_nI]
    exact hr
  · rw [r163_4]
    simp (disch := first | omega | assumption | exact Or.inl rfl | exact Or.inr rfl | exact bI_or _ | exact zC81 | exact zC47 | exact zC65 | exact zC0 | exact zC1 | exact zC32 | exact zC70 | exact zC73 | exact ztc (by assumption) | exact zdc (by assumption) | exact zpc (by assumption) | decide) only [Option.some.injEq, exists_eq_left', ex2, Option.toList, List.singleton_append, List.append_nil, List.cons_append, List.nil_append, nI_add, nI_addL, nI_Ladd, pk_mul, nI_mulL, nI_Lmul, nI_subL, pk_sub, nI_divL, sub_dm, nI_leE, nI_ltE, nI_eqE, nI_Lle, nI_leL, nI_Llt, nI_ltL, nI_eqL, va_up_self, va_up_ne, up_up, up_comm, nI_clamp, bI_eq0, not_true_eq_false, not_false_eq_true, Nat.reduceEqDiff, Nat.reduceLeDiff, Nat.reduceAdd, Nat.reduceMul, Nat.one_ne_zero, Nat.zero_ne_one, decide_eq_false_iff_not, decide_eq_true_eq, Bool.false_eq_true, decide_true, decide_false, bI_true, bI_false, one_ne, Nat.le_refl, Nat.lt_irrefl, cleT, cleF, cltT, cltF, ceqT, ceqF, ↓reduceIte, r163_5, r163_5n, r163_6, r163_9, r163_36, r163_37, ztc, zto0, ztw0, zto1, ztw1, zto2, ztw2, zto3, ztw3, zto4, ztw4, zto5, zto6, zto7, zto8, zto9, zto10, zto11, ztl1, zta1, zts1, ztl2, zta2, zts2, ztl3, zta3, zts3, ztl4, zta4, zts4, ztl5, zta5, zts5, ztl6, zta6, zts6, ztl7, zta7, zts7, hh]
theorem br_signOf {k u : Nat} (hk : k < 2 ^ 16) (hu : u < 8) {r : Option Value × mH} : Runs xs sl (d) 167 0 [some (.int ( nI k)), some (.int ( nI u))] [] (hp J (s) g) r ↔ r = (some (.int ( nI (k / 2 ^ u % 2) - nI (k / 2 ^ (u + 8) % 2))), hp J (s) g) := by
  refine Runs.iff ?_
  have k31 : k < 2 ^ 31 := by omega
  simp (disch := first | omega | assumption) only [r167_0, r167_1, r167_2, r167_3, r167_4, r167_5, r167_6, r167_7, r167_9, r167_10, r167_11, r167_12, r167_13, r167_14, bit_nI, nI_addL, Option.some.injEq, exists_eq_left']
theorem signOf_enc {σ : Nat → Int32} {h u : Nat} (hh : h ≤ 8) (hu : u < h) (hs : isS (σ u)) : nI (enc σ h / 2 ^ u % 2) - nI (enc σ h / 2 ^ (u + 8) % 2) = σ u := by
  have a1 := enc_tb (σ := σ) (w := u) (by omega) h
  have b1 := enc_tb8 (σ := σ) (w := u) h hh
  rw [decide_eq_true hu, Bool.true_and] at a1 b1
  rcases hs with q | q | q
  · rw [q] at a1 b1 ⊢
    rw [tb0 a1, tb0 b1]
    rfl
  · rw [q] at a1 b1 ⊢
    rw [tb1 a1, tb0 b1]
    rfl
  · rw [q] at a1 b1 ⊢
    rw [tb0 a1, tb1 b1]
    rfl
/-- all signs of those visited, together; a step -/
def smF (V : Nat) (σ : Nat → Int32) (h : Nat) : Int32 := it (fun k a => a + (if V.testBit k = true then σ k else 0)) h 0
def hoF (vis : Nat → Nat) (home u : Nat) : Nat := if home.testBit u = true then 0 else vis u
def stp (vis : Nat → Nat) (home h : Nat) (σ : Nat → Int32) (u : Nat) : Int32 := if smF (hoF vis home u) σ h = 0 then σ u else sg (smF (hoF vis home u) σ h)
theorem stp_S {vis : Nat → Nat} {home h u : Nat} {σ : Nat → Int32} (hs : isS (σ u)) : isS (stp vis home h σ u) := by
  unfold stp
  split
  · exact hs
  · exact sg_S _
theorem bc_sum (k : Nat) : bc k = sumN (fun i => if k.testBit i = true then 1 else 0) 8 := by
  have e : ∀ i, k / 2 ^ i % 2 = if k.testBit i = true then 1 else 0 := by
    intro i
    cases c : k.testBit i
    · rw [tb0 c]
      rfl
    · rw [tb1 c]
      rfl
  have q : sumN (fun i => k / 2 ^ i % 2) 8 = sumN (fun i => if k.testBit i = true then 1 else 0) 8 := sumN_congr (fun i _ => e i)
  rw [← q]
  simp only [sumN, it, bc, Nat.pow_zero, Nat.div_one, Nat.zero_add, Nat.reducePow]
theorem sumN_cut {f : Nat → Nat} {h : Nat} : ∀ n, h ≤ n → (∀ i, h ≤ i → i < n → f i = 0) → sumN f n = sumN f h := by
  intro n
  induction n with
  | zero =>
    intro h1 _
    have e : h = 0 := by omega
    rw [e]
  | succ n ih =>
    intro h1 h2
    by_cases e : h = n + 1
    · rw [e]
    · have q : sumN f (n + 1) = sumN f n + f n := rfl
      rw [q, h2 n (by omega) (by omega), Nat.add_zero]
      exact ih (by omega) (fun i a b => h2 i a (by omega))
theorem sub_p1 (a b : Int32) : (a + 1) - b = (a - b) + 1 := by
  rw [Int32.sub_eq_add_neg, Int32.sub_eq_add_neg, Int32.add_assoc, Int32.add_assoc, Int32.add_comm 1]
theorem sub_m1 (a b : Int32) : a - (b + 1) = (a - b) + (-1) := by
  rw [Int32.sub_eq_add_neg, Int32.sub_eq_add_neg, Int32.neg_add, Int32.sub_eq_add_neg, Int32.add_assoc]
theorem bc_sm {σ : Nat → Int32} {V h : Nat} (hh : h ≤ 8) (hV : V < 2 ^ h) (hs : ∀ u, u < h → isS (σ u)) : nI (bc (V &&& enc σ h)) - nI (bc (V &&& (enc σ h / 2 ^ 8))) = smF V σ h := by
  have p1 : bc (V &&& enc σ h) = sumN (fun i => if (V.testBit i && !decide (σ i ≤ 0)) = true then 1 else 0) h := by
    rw [bc_sum]
    rw [sumN_cut 8 hh (fun i h1 h2 => by rw [Nat.testBit_and, tb_lt hV h1, Bool.false_and]; rfl)]
    refine sumN_congr (fun i hi => ?_)
    rw [Nat.testBit_and, enc_tb (by omega), decide_eq_true hi, Bool.true_and]
  have p2 : bc (V &&& (enc σ h / 2 ^ 8)) = sumN (fun i => if (V.testBit i && !decide (0 ≤ σ i)) = true then 1 else 0) h := by
    rw [bc_sum]
    rw [sumN_cut 8 hh (fun i h1 h2 => by rw [Nat.testBit_and, tb_lt hV h1, Bool.false_and]; rfl)]
    refine sumN_congr (fun i hi => ?_)
    rw [Nat.testBit_and, Nat.testBit_div_two_pow, enc_tb8 h hh, decide_eq_true hi, Bool.true_and]
  rw [p1, p2]
  have q : ∀ n, n ≤ h → nI (sumN (fun i => if (V.testBit i && !decide (σ i ≤ 0)) = true then 1 else 0) n) - nI (sumN (fun i => if (V.testBit i && !decide (0 ≤ σ i)) = true then 1 else 0) n) = it (fun k a => a + (if V.testBit k = true then σ k else 0)) n 0 := by
    intro n
    induction n with
    | zero => exact fun _ => (by decide : nI 0 - nI 0 = (0 : Int32))
    | succ n ih =>
      intro hn
      have e : ∀ f : Nat → Nat, sumN f (n + 1) = sumN f n + f n := fun _ => rfl
      rw [e, e, it, ← ih (by omega)]
      generalize sumN (fun i => if (V.testBit i && !decide (σ i ≤ 0)) = true then 1 else 0) n = A
      generalize sumN (fun i => if (V.testBit i && !decide (0 ≤ σ i)) = true then 1 else 0) n = B
      cases c : V.testBit n
      · simp only [Bool.false_and, Bool.false_eq_true, ↓reduceIte, Nat.add_zero, Int32.add_zero]
      · rcases hs n (by omega) with z | z | z
        · rw [z]
          exact (Int32.add_zero _).symm
        · rw [z]
          refine Eq.trans ?_ (sub_p1 (nI A) (nI B))
          rw [nI_1]
          rfl
        · rw [z]
          refine Eq.trans ?_ (sub_m1 (nI A) (nI B))
          rw [nI_1]
          rfl
  exact q h (Nat.le_refl h)
/-- a town as its visits need it -/
def tW (s : hS) (a h : Nat) (vis : Nat → Nat) : Prop := isT a ∧ s a 2 = nI h ∧ h ≤ 8 ∧ ∀ u, u < h → s (a + 3) u = nI (vis u) ∧ vis u < 2 ^ h
theorem br_step {a h home : Nat} {vis : Nat → Nat} {σ : Nat → Int32} (hT : tW s a h vis) (hhome : home < 256) (hs : ∀ u, u < h → isS (σ u)) {r : Option Value × mH} : Runs xs sl (d+1) 166 0 [some (.ref (a)), some (.int ( nI (enc σ h))), some (.int ( nI home)), none, none, none, none] [] (hp J (s) g) r ↔ r = (some (.int ( nI (enc (stp vis home h σ) h))), hp J (s) g) := by
  refine Runs.iff ?_
  obtain ⟨ha, hh, hh8, hv⟩ := hT
  have p8 := pw8 hh8
  have ho31 : home < 2 ^ 31 := by omega
  have el := enc_lt (σ := σ) h hh8
  have k31 : enc σ h < 2 ^ 31 := by omega
  simp (disch := first | omega | assumption | exact Or.inl rfl | exact Or.inr rfl | exact bI_or _ | exact zC81 | exact zC47 | exact zC65 | exact zC0 | exact zC1 | exact zC32 | exact zC70 | exact zC73 | exact ztc (by assumption) | exact zdc (by assumption) | exact zpc (by assumption) | decide) only [Option.some.injEq, exists_eq_left', ex2, Option.toList, List.singleton_append, List.append_nil, List.cons_append, List.nil_append, nI_add, nI_addL, nI_Ladd, pk_mul, nI_mulL, nI_Lmul, nI_subL, pk_sub, nI_divL, sub_dm, nI_leE, nI_ltE, nI_eqE, nI_Lle, nI_leL, nI_Llt, nI_ltL, nI_eqL, va_up_self, va_up_ne, up_up, up_comm, nI_clamp, bI_eq0, not_true_eq_false, not_false_eq_true, Nat.reduceEqDiff, Nat.reduceLeDiff, Nat.reduceAdd, Nat.reduceMul, Nat.one_ne_zero, Nat.zero_ne_one, decide_eq_false_iff_not, decide_eq_true_eq, Bool.false_eq_true, decide_true, decide_false, bI_true, bI_false, one_ne, Nat.le_refl, Nat.lt_irrefl, cleT, cleF, cltT, cltF, ceqT, ceqF, ↓reduceIte, r166_0, r166_1, r166_2, r166_3]
  refine dn_loop (P := fun u => ∀ l5 l6, Runs xs sl (d+1) 166 5 [some (.ref (a)), some (.int ( nI (enc σ h))), some (.int ( nI home)), some (.int ( nI (enc (stp vis home h σ) u))), some (.int ( nI u)), l5, l6] [] (hp J (s) g) _) h ?_ ?_ none none
  · intro u hu hr l5 l6
    rw [r166_5]
    have u8 : u < 8 := by omega
    obtain ⟨v1, v2⟩ := hv u hu
    have e : enc (stp vis home h σ) (u + 1) = enc (stp vis home h σ) u ||| plc (stp vis home h σ u) u := rfl
    rw [e] at hr
    have so := @br_signOf xs sl d J s g (enc σ h) u el u8
    simp only [signOf_enc hh8 hu (hs u hu)] at so
    have hV : hoF vis home u < 2 ^ h := by
      unfold hoF
      split
      · exact Nat.pow_pos (by decide)
      · exact v2
    have sm := bc_sm hh8 hV hs
    have a1 : hoF vis home u &&& enc σ h < 256 := Nat.lt_of_le_of_lt Nat.and_le_left (by omega)
    have a2 : hoF vis home u &&& (enc σ h / 2 ^ 8) < 256 := Nat.lt_of_le_of_lt Nat.and_le_left (by omega)
    have sh8 : nI (enc σ h) >>> ((8 : Int32) &&& 31) = nI (enc σ h / 2 ^ 8) := shr_nI k31 (by decide)
    have b1 := @zx_bitCount xs sl d (hp J s g) (hoF vis home u &&& enc σ h) a1
    have b2 := @zx_bitCount xs sl d (hp J s g) (hoF vis home u &&& (enc σ h / 2 ^ 8)) a2
    have pl := fun v => @br_placed xs sl d J s g u v u8
    unfold stp at hr
    cases c1 : home.testBit u
    · have e1 := tb0 c1
      have eh : hoF vis home u = vis u := by unfold hoF; rw [c1]; rfl
      rw [eh] at hr sm b1 b2
      by_cases c2 : smF (vis u) σ h = 0
      · have c2' := eq_true c2
        rw [if_pos c2] at hr
        simp (disch := first | omega | assumption | exact ztc (by assumption)) only [r166_7, r166_7n, r166_8, r166_11, r166_14, r166_15, r166_17, r166_18, r166_19, r166_20, r166_23, r166_24, r166_27, r166_27n, r166_28, r166_31, r166_33, r166_34, r166_36, r166_38, r166_39, r166_40, r166_43, r166_45, r166_46, r166_48, r166_49, r166_50, r166_53, r166_54, r166_56, r166_57, r166_59, r166_62, r166_64, r166_67, r166_68, r166_70, r166_73, r166_75, r166_78, r166_79, r166_80, r166_83, zto2, zto7, zta3, hh, v1, nI_leE, cleF, bit_nI, e1, nI_eqL, ceqT, and_nI, sh8, b1, b2, sm, c2', so, pl, or_nI, nI_1, Option.some.injEq, exists_eq_left', ex2, Option.toList, List.singleton_append, List.append_nil, List.cons_append, List.nil_append, ↓reduceIte]
        exact hr _ _
      · rw [if_neg c2, plc_sg] at hr
        simp (disch := first | omega | assumption | exact ztc (by assumption)) only [r166_7, r166_7n, r166_8, r166_11, r166_14, r166_15, r166_17, r166_18, r166_19, r166_20, r166_23, r166_24, r166_27, r166_27n, r166_28, r166_31, r166_33, r166_34, r166_36, r166_38, r166_39, r166_40, r166_43, r166_45, r166_46, r166_48, r166_49, r166_50, r166_53, r166_54, r166_56, r166_57, r166_59, r166_62, r166_64, r166_67, r166_68, r166_70, r166_73, r166_75, r166_78, r166_79, r166_80, r166_83, zto2, zto7, zta3, hh, v1, nI_leE, cleF, bit_nI, e1, nI_eqL, ceqT, and_nI, sh8, b1, b2, sm, c2, pl, or_nI, nI_1, Option.some.injEq, exists_eq_left', ex2, Option.toList, List.singleton_append, List.append_nil, List.cons_append, List.nil_append, ↓reduceIte]
        exact hr _ _
    · have e1 := tb1 c1
      have eh : hoF vis home u = 0 := by unfold hoF; rw [c1]; rfl
      rw [eh] at hr sm b1 b2
      have z0 : smF 0 σ h = 0 := by
        have q : ∀ n, it (fun k a => a + (if (0 : Nat).testBit k = true then σ k else 0)) n 0 = 0 := by
          intro n
          induction n with
          | zero => rfl
          | succ n ih =>
            rw [it, ih, Nat.zero_testBit]
            rfl
        exact q h
      rw [if_pos z0] at hr
      rw [z0] at sm
      simp (disch := first | omega | assumption | exact ztc (by assumption)) only [r166_7, r166_7n, r166_8, r166_11, r166_14, r166_15, r166_17, r166_18, r166_19, r166_20, r166_23, r166_24, r166_27, r166_27n, r166_28, r166_31, r166_33, r166_34, r166_36, r166_38, r166_39, r166_40, r166_43, r166_45, r166_46, r166_48, r166_49, r166_50, r166_53, r166_54, r166_56, r166_57, r166_59, r166_62, r166_64, r166_67, r166_68, r166_70, r166_73, r166_75, r166_78, r166_79, r166_80, r166_83, zto2, zto7, zta3, hh, nI_leE, cleF, bit_nI, e1, nI_eqL, ceqF, show (0 : Int32) = nI 0 from rfl, and_nI, sh8, b1, b2, Option.some.injEq, exists_eq_left', ex2, Option.toList, List.singleton_append, List.append_nil, List.cons_append, List.nil_append, ↓reduceIte] at *
      simp (disch := first | omega | assumption | exact ztc (by assumption)) only [r166_7, r166_7n, r166_8, r166_11, r166_14, r166_15, r166_17, r166_18, r166_19, r166_20, r166_23, r166_24, r166_27, r166_27n, r166_28, r166_31, r166_33, r166_34, r166_36, r166_38, r166_39, r166_40, r166_43, r166_45, r166_46, r166_48, r166_49, r166_50, r166_53, r166_54, r166_56, r166_57, r166_59, r166_62, r166_64, r166_67, r166_68, r166_70, r166_73, r166_75, r166_78, r166_79, r166_80, r166_83, sm, so, pl, or_nI, nI_1, nI_add, Option.some.injEq, exists_eq_left', ex2, Option.toList, List.singleton_append, List.append_nil, List.cons_append, List.nil_append, ↓reduceIte]
      exact hr _ _
  · intro l5 l6
    rw [r166_5]
    simp (disch := first | omega | assumption | exact Or.inl rfl | exact Or.inr rfl | exact bI_or _ | exact zC81 | exact zC47 | exact zC65 | exact zC0 | exact zC1 | exact zC32 | exact zC70 | exact zC73 | exact ztc (by assumption) | exact zdc (by assumption) | exact zpc (by assumption) | decide) only [Option.some.injEq, exists_eq_left', ex2, Option.toList, List.singleton_append, List.append_nil, List.cons_append, List.nil_append, nI_add, nI_addL, nI_Ladd, pk_mul, nI_mulL, nI_Lmul, nI_subL, pk_sub, nI_divL, sub_dm, nI_leE, nI_ltE, nI_eqE, nI_Lle, nI_leL, nI_Llt, nI_ltL, nI_eqL, va_up_self, va_up_ne, up_up, up_comm, nI_clamp, bI_eq0, not_true_eq_false, not_false_eq_true, Nat.reduceEqDiff, Nat.reduceLeDiff, Nat.reduceAdd, Nat.reduceMul, Nat.one_ne_zero, Nat.zero_ne_one, decide_eq_false_iff_not, decide_eq_true_eq, Bool.false_eq_true, decide_true, decide_false, bI_true, bI_false, one_ne, Nat.le_refl, Nat.lt_irrefl, cleT, cleF, cltT, cltF, ceqT, ceqF, ↓reduceIte, r166_7, r166_7n, r166_8, r166_11, r166_86, r166_87, ztc, zto0, ztw0, zto1, ztw1, zto2, ztw2, zto3, ztw3, zto4, ztw4, zto5, zto6, zto7, zto8, zto9, zto10, zto11, ztl1, zta1, zts1, ztl2, zta2, zts2, ztl3, zta3, zts3, ztl4, zta4, zts4, ztl5, zta5, zts5, ztl6, zta6, zts6, ztl7, zta7, zts7, hh]
end WLK
