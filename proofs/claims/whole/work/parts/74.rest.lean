/-! REST, alike -/
section RST
variable {xs : Nat → Int32} {sl d : Nat} {J : hJk} {s x y : hS} {g : hG}
theorem up_loop {α ζ : Type} {Q : Nat → α → Prop} {P : Nat → α → ζ → Prop} (n : Nat) (step : ∀ i a, i < n → Q i a → ∃ a', Q (i + 1) a' ∧ ∀ z, P (i + 1) a' z → P i a z) (a0 : α) (h0 : Q 0 a0) : ∃ a', Q n a' ∧ ∀ z, P n a' z → P 0 a0 z := by
  have q : ∀ i, i ≤ n → ∃ a', Q i a' ∧ ∀ z, P i a' z → P 0 a0 z := by
    intro i
    induction i with
    | zero => exact fun _ => ⟨a0, h0, fun z h => h⟩
    | succ i ih =>
      intro hi
      obtain ⟨a, q1, q2⟩ := ih (by omega)
      obtain ⟨a', p1, p2⟩ := step i a (by omega) q1
      exact ⟨a', p1, fun z h => q2 z (p2 z h)⟩
  exact q n (Nat.le_refl n)
def mxF (f : Nat → Int32) (n : Nat) : Int32 := it (fun v b => if b < f v then f v else b) n 0
theorem mxF_ge (f : Nat → Int32) : ∀ n, (0 ≤ mxF f n) ∧ ∀ v, v < n → f v ≤ mxF f n := by
  intro n
  induction n with
  | zero => exact ⟨Int32.le_refl 0, fun v hv => absurd hv (by omega)⟩
  | succ n ih =>
    obtain ⟨i1, i2⟩ := ih
    have e : mxF f (n + 1) = if mxF f n < f n then f n else mxF f n := rfl
    rw [e]
    by_cases c : mxF f n < f n
    · rw [if_pos c]
      refine ⟨Int32.le_trans i1 (Int32.le_of_lt c), fun v hv => ?_⟩
      by_cases k : v = n
      · subst k
        exact Int32.le_refl _
      · exact Int32.le_trans (i2 v (by omega)) (Int32.le_of_lt c)
    · rw [if_neg c]
      refine ⟨i1, fun v hv => ?_⟩
      by_cases k : v = n
      · subst k
        exact Int32.not_lt.mp c
      · exact i2 v (by omega)
theorem mxF_is (f : Nat → Int32) : ∀ n, mxF f n = 0 ∨ ∃ v, v < n ∧ mxF f n = f v := by
  intro n
  induction n with
  | zero => exact Or.inl rfl
  | succ n ih =>
    have e : mxF f (n + 1) = if mxF f n < f n then f n else mxF f n := rfl
    rw [e]
    by_cases c : mxF f n < f n
    · rw [if_pos c]
      exact Or.inr ⟨n, by omega, rfl⟩
    · rw [if_neg c]
      rcases ih with h | ⟨v, h1, h2⟩
      · exact Or.inl h
      · exact Or.inr ⟨v, by omega, h2⟩
theorem mxF_eq {f : Nat → Int32} {n a : Nat} (ha : a < n) (h0 : 0 ≤ f a) : f a = mxF f n ↔ ∀ v, v < n → f v ≤ f a := by
  obtain ⟨g1, g2⟩ := mxF_ge f n
  constructor
  · intro e v hv
    rw [e]
    exact g2 v hv
  · intro h
    refine Int32.le_antisymm (g2 a ha) ?_
    rcases mxF_is f n with q | ⟨v, q1, q2⟩
    · rw [q]
      exact h0
    · rw [q2]
      exact h v q1
/-- what the first sells by views m and o (3 more) -/
def SoF (mi vo : Nat → Int32) (t h m o : Nat) : Int32 := solF mi vo t h (nI m - 3) (nI o - 3)
def reF (S : Nat → Nat → Int32) (a b : Nat) : Bool := it (fun v p => p && decide (S v b ≤ S a b) && decide (S v a ≤ S b a)) 7 true
theorem reF_iff (S : Nat → Nat → Int32) (a b : Nat) : reF S a b = true ↔ ∀ v, v < 7 → S v b ≤ S a b ∧ S v a ≤ S b a := by
  have q : ∀ n, it (fun v p => p && decide (S v b ≤ S a b) && decide (S v a ≤ S b a)) n true = true ↔ ∀ v, v < n → S v b ≤ S a b ∧ S v a ≤ S b a := by
    intro n
    induction n with
    | zero => exact ⟨fun _ v hv => absurd hv (by omega), fun _ => rfl⟩
    | succ n ih =>
      rw [it, Bool.and_eq_true_iff, Bool.and_eq_true_iff, ih, decide_eq_true_eq, decide_eq_true_eq]
      constructor
      · rintro ⟨⟨h1, h2⟩, h3⟩ v hv
        by_cases k : v = n
        · subst k
          exact ⟨h2, h3⟩
        · exact h1 v (by omega)
      · intro h
        exact ⟨⟨fun v hv => h v (by omega), (h n (by omega)).1⟩, (h n (by omega)).2⟩
  exact q 7
def rsF (p : Nat → Bool) (k : Int32) : Nat → Nat → Nat → Int32
  | 0, _, f => if k = -1 then nI f else -1
  | m + 1, c, f => if p c = true then (if nI f = k then nI c else rsF p k m (c + 1) (f + 1)) else rsF p k m (c + 1) f
theorem rsF_congr {p p' : Nat → Bool} {k : Int32} (h : ∀ c, c < 49 → p c = p' c) : ∀ m c f, c + m = 49 → rsF p k m c f = rsF p' k m c f := by
  intro m
  induction m with
  | zero => exact fun c f _ => rfl
  | succ m ih =>
    intro c f hc
    rw [rsF, rsF, h c (by omega), ih _ _ (by omega), ih _ _ (by omega)]
/-- the market, open -/
def MO (S : Nat → Nat → Int32) (s : hS) : Prop := ∀ o, o < 7 → (∀ m, m < 7 → s 71 (7 * m + o) = S m o) ∧ s 72 o = mxF (fun m => S m o) 7
theorem br_open {a n h t : Nat} (ha : isT a) (h31 : a < 31) (hh : s a 2 = nI h) (hh8 : h ≤ 8) (ht : t < 6) (hv : ∀ i, i < 48 → vw (s (a + 4) i)) : ∃ s' : hS, MO (SoF (s (a + 4)) (s (a + 1)) t h) s' ∧ (∀ c, c ≠ 71 → c ≠ 72 → s' c = s c) ∧ Runs xs sl (d+2) 63 0 [some (.ref (70)), some (.ref (a)), some (.int ( nI t)), none, none, none] [] (hp J (s) g) (none, hp J s' g) := by
  have ha' : a = 7 ∨ a = 19 ∨ a = 33 ∨ a = 48 := ha
  generalize hSo : SoF (s (a + 4)) (s (a + 1)) t h = S
  have hvw : ∀ i, i < 7 → vw (nI i - 3) := fun i hi => ⟨i, hi, rfl⟩
  have bu : ∀ s1 : hS, (∀ c, c ≠ 71 → c ≠ 72 → s1 c = s c) → ∀ m o, m < 7 → o < 7 → ∀ {r : Option Value × mH}, Runs xs sl (d+1) 62 0 [some (.ref (a)), some (.int ( nI t)), some (.int ( nI m - 3)), some (.int ( nI o - 3)), none, none, none] [] (hp J (s1) g) r ↔ r = (some (.int (S m o)), hp J s1 g) := by
    intro s1 f1 m o hm ho r
    have q := @br_buyers xs sl d J s1 g a h t (nI m - 3) (nI o - 3) ha (by rw [f1 a (by omega) (by omega)]; exact hh) hh8 ht (hvw m hm) (hvw o ho) (by rw [f1 (a + 4) (by omega) (by omega)]; exact hv)
    rw [f1 (a + 4) (by omega) (by omega), f1 (a + 1) (by omega) (by omega)] at q
    rw [← hSo]
    exact q
  refine Exists.elim (up_loop (Q := fun o (s1 : hS) => (∀ o', o' < o → (∀ m, m < 7 → s1 71 (7 * m + o') = S m o') ∧ s1 72 o' = mxF (fun m => S m o') 7) ∧ ∀ c, c ≠ 71 → c ≠ 72 → s1 c = s c) (P := fun o (s1 : hS) (z : Option Value × mH) => ∀ l4 l5, Runs xs sl (d+2) 63 2 [some (.ref (70)), some (.ref (a)), some (.int ( nI t)), some (.int ( nI o)), l4, l5] [] (hp J (s1) g) z) 7 ?_ s ⟨fun o' h' => absurd h' (by omega), fun c _ _ => rfl⟩) ?_
  · intro o s1 ho hQ
    obtain ⟨i1, i2⟩ := hQ
    refine Exists.elim (up_loop (Q := fun m (s2 : hS) => (∀ o', o' < o → (∀ m, m < 7 → s2 71 (7 * m + o') = S m o') ∧ s2 72 o' = mxF (fun m => S m o') 7) ∧ (∀ c, c ≠ 71 → c ≠ 72 → s2 c = s c) ∧ (∀ m', m' < m → s2 71 (7 * m' + o) = S m' o) ∧ s2 72 o = mxF (fun m => S m o) m) (P := fun m (s2 : hS) (z : Option Value × mH) => ∀ l5, Runs xs sl (d+2) 63 18 [some (.ref (70)), some (.ref (a)), some (.int ( nI t)), some (.int ( nI o)), some (.int ( nI m)), l5] [] (hp J (s2) g) z) 7 ?_ (va_up s1 72 (va_up (s1 72) o 0)) ⟨fun o' h' => ?_, fun c c1 c2 => by rw [va_up_ne _ _ c2]; exact i2 c c1 c2, fun m' h' => absurd h' (by omega), by rw [va_up_self, va_up_self]; rfl⟩) ?_
    · intro m s2 hm hQ
      obtain ⟨k1, k2, k3, k4⟩ := hQ
      have b := @bu s2 k2 m o hm ho
      refine ⟨va_up (va_up s2 71 (va_up (s2 71) (7 * m + o) (S m o))) 72 (va_up (s2 72) o (if s2 72 o < S m o then S m o else s2 72 o)), ⟨fun o' h' => ?_, fun c c1 c2 => ?_, fun m' h' => ?_, ?_⟩, fun z hz l5 => ?_⟩
      · obtain ⟨w1, w2⟩ := k1 o' h'
        refine ⟨fun m' hm' => ?_, ?_⟩
        · rw [va_up_ne _ _ (by decide), va_up_self, va_up_ne _ _ (by omega)]
          exact w1 m' hm'
        · rw [va_up_self, va_up_ne _ _ (by omega)]
          exact w2
      · rw [va_up_ne _ _ c2, va_up_ne _ _ c1]
        exact k2 c c1 c2
      · rw [va_up_ne _ _ (by decide), va_up_self]
        by_cases e : m' = m
        · subst e
          rw [va_up_self]
        · rw [va_up_ne _ _ (by omega)]
          exact k3 m' (by omega)
      · rw [va_up_self, va_up_self, k4]
        rfl
      · rw [r63_18]
        simp (disch := first | omega | assumption | exact zC70) only [r63_20, r63_22, r63_25, r63_25n, r63_26, r63_27, r63_29, r63_30, r63_31, r63_32, r63_33, r63_34, r63_37, r63_39, r63_40, r63_43, r63_45, r63_47, r63_48, r63_49, r63_50, r63_52, r63_53, r63_54, r63_57, r63_58, r63_59, r63_62, r63_63, r63_64, r63_66, r63_69, r63_70, r63_73, nI_leE, nI_Lle, cleF, b, zO70_0, zO70_1, zS71, zS72, zA72, nI_mulL, nI_add, nI_1, va_up_ne, ne_eq, Nat.reduceEqDiff, not_false_eq_true, Option.some.injEq, exists_eq_left', ex2, Option.toList, List.singleton_append, List.append_nil, List.cons_append, List.nil_append, ↓reduceIte]
        exact hz _
    · obtain ⟨k1, k2⟩ := i1 o' h'
      refine ⟨fun m hm => ?_, ?_⟩
      · rw [va_up_ne _ _ (by decide)]
        exact k1 m hm
      · rw [va_up_self, va_up_ne _ _ (by omega)]
        exact k2
    · rintro s2 ⟨⟨j1, j2, j3, j4⟩, j5⟩
      refine ⟨s2, ⟨fun o' h' => ?_, j2⟩, fun z hz l4 l5 => ?_⟩
      · by_cases k : o' = o
        · subst k
          exact ⟨j3, j4⟩
        · exact j1 o' (by omega)
      · rw [r63_2]
        simp (disch := first | omega | assumption | exact Or.inl rfl | exact Or.inr rfl | exact bI_or _ | exact zC81 | exact zC47 | exact zC65 | exact zC0 | exact zC1 | exact zC32 | exact zC70 | exact zC73 | exact ztc (by assumption) | exact zdc (by assumption) | exact zpc (by assumption) | decide) only [Option.some.injEq, exists_eq_left', ex2, Option.toList, List.singleton_append, List.append_nil, List.cons_append, List.nil_append, nI_add, nI_addL, nI_Ladd, pk_mul, nI_mulL, nI_Lmul, nI_subL, pk_sub, nI_divL, sub_dm, nI_leE, nI_ltE, nI_eqE, nI_Lle, nI_leL, nI_Llt, nI_ltL, nI_eqL, va_up_self, va_up_ne, up_up, up_comm, nI_clamp, bI_eq0, not_true_eq_false, not_false_eq_true, Nat.reduceEqDiff, Nat.reduceLeDiff, Nat.reduceAdd, Nat.reduceMul, Nat.one_ne_zero, Nat.zero_ne_one, decide_eq_false_iff_not, decide_eq_true_eq, Bool.false_eq_true, decide_true, decide_false, bI_true, bI_false, one_ne, Nat.le_refl, Nat.lt_irrefl, cleT, cleF, cltT, cltF, ceqT, ceqF, ↓reduceIte, r63_3, r63_5, r63_8, r63_9, r63_12, r63_13, r63_14, r63_15, r63_16, zO70_1, zL72, zA72, zS72]
        refine j5 z ?_ l5
        intro l5
        rw [r63_18]
        simp (disch := first | omega | assumption | exact Or.inl rfl | exact Or.inr rfl | exact bI_or _ | exact zC81 | exact zC47 | exact zC65 | exact zC0 | exact zC1 | exact zC32 | exact zC70 | exact zC73 | exact ztc (by assumption) | exact zdc (by assumption) | exact zpc (by assumption) | decide) only [Option.some.injEq, exists_eq_left', ex2, Option.toList, List.singleton_append, List.append_nil, List.cons_append, List.nil_append, nI_add, nI_addL, nI_Ladd, pk_mul, nI_mulL, nI_Lmul, nI_subL, pk_sub, nI_divL, sub_dm, nI_leE, nI_ltE, nI_eqE, nI_Lle, nI_leL, nI_Llt, nI_ltL, nI_eqL, va_up_self, va_up_ne, up_up, up_comm, nI_clamp, bI_eq0, not_true_eq_false, not_false_eq_true, Nat.reduceEqDiff, Nat.reduceLeDiff, Nat.reduceAdd, Nat.reduceMul, Nat.one_ne_zero, Nat.zero_ne_one, decide_eq_false_iff_not, decide_eq_true_eq, Bool.false_eq_true, decide_true, decide_false, bI_true, bI_false, one_ne, Nat.le_refl, Nat.lt_irrefl, cleT, cleF, cltT, cltF, ceqT, ceqF, ↓reduceIte, r63_20, r63_22, r63_76, r63_79]
        exact hz _ _
  · rintro s1 ⟨⟨q1, q2⟩, q3⟩
    refine ⟨s1, q1, q2, ?_⟩
    simp (disch := first | omega | assumption | exact Or.inl rfl | exact Or.inr rfl | exact bI_or _ | exact zC81 | exact zC47 | exact zC65 | exact zC0 | exact zC1 | exact zC32 | exact zC70 | exact zC73 | exact ztc (by assumption) | exact zdc (by assumption) | exact zpc (by assumption) | decide) only [Option.some.injEq, exists_eq_left', ex2, Option.toList, List.singleton_append, List.append_nil, List.cons_append, List.nil_append, nI_add, nI_addL, nI_Ladd, pk_mul, nI_mulL, nI_Lmul, nI_subL, pk_sub, nI_divL, sub_dm, nI_leE, nI_ltE, nI_eqE, nI_Lle, nI_leL, nI_Llt, nI_ltL, nI_eqL, va_up_self, va_up_ne, up_up, up_comm, nI_clamp, bI_eq0, not_true_eq_false, not_false_eq_true, Nat.reduceEqDiff, Nat.reduceLeDiff, Nat.reduceAdd, Nat.reduceMul, Nat.one_ne_zero, Nat.zero_ne_one, decide_eq_false_iff_not, decide_eq_true_eq, Bool.false_eq_true, decide_true, decide_false, bI_true, bI_false, one_ne, Nat.le_refl, Nat.lt_irrefl, cleT, cleF, cltT, cltF, ceqT, ceqF, ↓reduceIte, r63_0, r63_1]
    refine q3 _ ?_ none none
    intro l4 l5
    rw [r63_2]
    simp (disch := first | omega | assumption | exact Or.inl rfl | exact Or.inr rfl | exact bI_or _ | exact zC81 | exact zC47 | exact zC65 | exact zC0 | exact zC1 | exact zC32 | exact zC70 | exact zC73 | exact ztc (by assumption) | exact zdc (by assumption) | exact zpc (by assumption) | decide) only [Option.some.injEq, exists_eq_left', ex2, Option.toList, List.singleton_append, List.append_nil, List.cons_append, List.nil_append, nI_add, nI_addL, nI_Ladd, pk_mul, nI_mulL, nI_Lmul, nI_subL, pk_sub, nI_divL, sub_dm, nI_leE, nI_ltE, nI_eqE, nI_Lle, nI_leL, nI_Llt, nI_ltL, nI_eqL, va_up_self, va_up_ne, up_up, up_comm, nI_clamp, bI_eq0, not_true_eq_false, not_false_eq_true, Nat.reduceEqDiff, Nat.reduceLeDiff, Nat.reduceAdd, Nat.reduceMul, Nat.one_ne_zero, Nat.zero_ne_one, decide_eq_false_iff_not, decide_eq_true_eq, Bool.false_eq_true, decide_true, decide_false, bI_true, bI_false, one_ne, Nat.le_refl, Nat.lt_irrefl, cleT, cleF, cltT, cltF, ceqT, ceqF, ↓reduceIte, r63_3, r63_5, r63_82]
theorem br_isRest {S : Nat → Nat → Int32} {a b : Nat} (hM : MO S s) (ha : a < 7) (hb : b < 7) (h0 : ∀ m o, 0 ≤ S m o) {r : Option Value × mH} : Runs xs sl (d) 65 0 [some (.ref (70)), some (.int ( nI a)), some (.int ( nI b))] [] (hp J (s) g) r ↔ r = (some (.int ( bI (reF S a b))), hp J (s) g) := by
  refine Runs.iff ?_
  obtain ⟨m1, m2⟩ := hM b hb
  obtain ⟨m3, m4⟩ := hM a ha
  have e1 := m1 a ha
  have e2 := m3 b hb
  have k1 := mxF_eq (f := fun m => S m b) (n := 7) ha (h0 a b)
  have k2 := mxF_eq (f := fun m => S m a) (n := 7) hb (h0 b a)
  have kk := reF_iff S a b
  by_cases c1 : S a b = mxF (fun m => S m b) 7
  · have c1' := eq_true c1
    by_cases c2 : S b a = mxF (fun m => S m a) 7
    · have c2' := eq_true c2
      have r1 : reF S a b = true := kk.mpr (fun v hv => ⟨k1.mp c1 v hv, k2.mp c2 v hv⟩)
      simp (disch := first | omega | assumption | exact Or.inl rfl | exact Or.inr rfl | exact bI_or _ | exact zC81 | exact zC47 | exact zC65 | exact zC0 | exact zC1 | exact zC32 | exact zC70 | exact zC73 | exact ztc (by assumption) | exact zdc (by assumption) | exact zpc (by assumption) | decide) only [Option.some.injEq, exists_eq_left', ex2, Option.toList, List.singleton_append, List.append_nil, List.cons_append, List.nil_append, nI_add, nI_addL, nI_Ladd, pk_mul, nI_mulL, nI_Lmul, nI_subL, pk_sub, nI_divL, sub_dm, nI_leE, nI_ltE, nI_eqE, nI_Lle, nI_leL, nI_Llt, nI_ltL, nI_eqL, va_up_self, va_up_ne, up_up, up_comm, nI_clamp, bI_eq0, not_true_eq_false, not_false_eq_true, Nat.reduceEqDiff, Nat.reduceLeDiff, Nat.reduceAdd, Nat.reduceMul, Nat.one_ne_zero, Nat.zero_ne_one, decide_eq_false_iff_not, decide_eq_true_eq, Bool.false_eq_true, decide_true, decide_false, bI_true, bI_false, one_ne, Nat.le_refl, Nat.lt_irrefl, cleT, cleF, cltT, cltF, ceqT, ceqF, ↓reduceIte, r65_0, r65_1, r65_4, r65_5, r65_7, r65_8, r65_9, r65_10, r65_11, r65_12, r65_15, r65_16, r65_17, r65_20, r65_21, r65_24, r65_25, r65_27, r65_28, r65_29, r65_30, r65_31, r65_32, r65_35, r65_36, r65_37, r65_40, r65_41, r65_44, r65_45, zO70_0, zO70_1, zA71, zA72, e1, e2, m2, m4, c1', c2', r1]
    · have r1 : reF S a b = false := by
        cases q : reF S a b
        · rfl
        · exact absurd (k2.mpr (fun v hv => (kk.mp q v hv).2)) c2
      simp (disch := first | omega | assumption | exact Or.inl rfl | exact Or.inr rfl | exact bI_or _ | exact zC81 | exact zC47 | exact zC65 | exact zC0 | exact zC1 | exact zC32 | exact zC70 | exact zC73 | exact ztc (by assumption) | exact zdc (by assumption) | exact zpc (by assumption) | decide) only [Option.some.injEq, exists_eq_left', ex2, Option.toList, List.singleton_append, List.append_nil, List.cons_append, List.nil_append, nI_add, nI_addL, nI_Ladd, pk_mul, nI_mulL, nI_Lmul, nI_subL, pk_sub, nI_divL, sub_dm, nI_leE, nI_ltE, nI_eqE, nI_Lle, nI_leL, nI_Llt, nI_ltL, nI_eqL, va_up_self, va_up_ne, up_up, up_comm, nI_clamp, bI_eq0, not_true_eq_false, not_false_eq_true, Nat.reduceEqDiff, Nat.reduceLeDiff, Nat.reduceAdd, Nat.reduceMul, Nat.one_ne_zero, Nat.zero_ne_one, decide_eq_false_iff_not, decide_eq_true_eq, Bool.false_eq_true, decide_true, decide_false, bI_true, bI_false, one_ne, Nat.le_refl, Nat.lt_irrefl, cleT, cleF, cltT, cltF, ceqT, ceqF, ↓reduceIte, r65_0, r65_1, r65_4, r65_5, r65_7, r65_8, r65_9, r65_10, r65_11, r65_12, r65_15, r65_16, r65_17, r65_20, r65_21, r65_24, r65_25, r65_27, r65_28, r65_29, r65_30, r65_31, r65_32, r65_35, r65_36, r65_37, r65_40, r65_41, r65_44, r65_45, zO70_0, zO70_1, zA71, zA72, e1, e2, m2, m4, c1', c2, r1]
  · have r1 : reF S a b = false := by
      cases q : reF S a b
      · rfl
      · exact absurd (k1.mpr (fun v hv => (kk.mp q v hv).1)) c1
    simp (disch := first | omega | assumption | exact Or.inl rfl | exact Or.inr rfl | exact bI_or _ | exact zC81 | exact zC47 | exact zC65 | exact zC0 | exact zC1 | exact zC32 | exact zC70 | exact zC73 | exact ztc (by assumption) | exact zdc (by assumption) | exact zpc (by assumption) | decide) only [Option.some.injEq, exists_eq_left', ex2, Option.toList, List.singleton_append, List.append_nil, List.cons_append, List.nil_append, nI_add, nI_addL, nI_Ladd, pk_mul, nI_mulL, nI_Lmul, nI_subL, pk_sub, nI_divL, sub_dm, nI_leE, nI_ltE, nI_eqE, nI_Lle, nI_leL, nI_Llt, nI_ltL, nI_eqL, va_up_self, va_up_ne, up_up, up_comm, nI_clamp, bI_eq0, not_true_eq_false, not_false_eq_true, Nat.reduceEqDiff, Nat.reduceLeDiff, Nat.reduceAdd, Nat.reduceMul, Nat.one_ne_zero, Nat.zero_ne_one, decide_eq_false_iff_not, decide_eq_true_eq, Bool.false_eq_true, decide_true, decide_false, bI_true, bI_false, one_ne, Nat.le_refl, Nat.lt_irrefl, cleT, cleF, cltT, cltF, ceqT, ceqF, ↓reduceIte, r65_0, r65_1, r65_4, r65_5, r65_7, r65_8, r65_9, r65_10, r65_11, r65_12, r65_15, r65_16, r65_17, r65_20, r65_21, r65_24, r65_25, r65_27, r65_28, r65_29, r65_30, r65_31, r65_32, r65_35, r65_36, r65_37, r65_40, r65_41, r65_44, r65_45, zO70_0, zO70_1, zA71, zA72, e1, e2, m2, m4, c1, r1]
theorem br_restAt {S : Nat → Nat → Int32} {k : Int32} (hM : MO S s) (h0 : ∀ m o, 0 ≤ S m o) {r : Option Value × mH} : Runs xs sl (d+1) 64 0 [some (.ref (70)), some (.int (k)), none, none] [] (hp J (s) g) r ↔ r = (some (.int ( rsF (fun c => reF S (c / 7) (c % 7)) k 49 0 0)), hp J (s) g) := by
  refine Runs.iff ?_
  simp (disch := first | omega | assumption | exact Or.inl rfl | exact Or.inr rfl | exact bI_or _ | exact zC81 | exact zC47 | exact zC65 | exact zC0 | exact zC1 | exact zC32 | exact zC70 | exact zC73 | exact ztc (by assumption) | exact zdc (by assumption) | exact zpc (by assumption) | decide) only [Option.some.injEq, exists_eq_left', ex2, Option.toList, List.singleton_append, List.append_nil, List.cons_append, List.nil_append, nI_add, nI_addL, nI_Ladd, pk_mul, nI_mulL, nI_Lmul, nI_subL, pk_sub, nI_divL, sub_dm, nI_leE, nI_ltE, nI_eqE, nI_Lle, nI_leL, nI_Llt, nI_ltL, nI_eqL, va_up_self, va_up_ne, up_up, up_comm, nI_clamp, bI_eq0, not_true_eq_false, not_false_eq_true, Nat.reduceEqDiff, Nat.reduceLeDiff, Nat.reduceAdd, Nat.reduceMul, Nat.one_ne_zero, Nat.zero_ne_one, decide_eq_false_iff_not, decide_eq_true_eq, Bool.false_eq_true, decide_true, decide_false, bI_true, bI_false, one_ne, Nat.le_refl, Nat.lt_irrefl, cleT, cleF, cltT, cltF, ceqT, ceqF, ↓reduceIte, r64_0, r64_1, r64_2, r64_3]
  have q : ∀ m c f, c + m = 49 → f ≤ c → Runs xs sl (d+1) 64 4 [some (.ref (70)), some (.int (k)), some (.int ( nI f)), some (.int ( nI c))] [] (hp J (s) g) (some (.int (rsF (fun c => reF S (c / 7) (c % 7)) k m c f)), hp J s g) := by
    intro m
    induction m with
    | zero =>
      intro c f hc hf
      rw [r64_4, rsF]
      by_cases c1 : k = -1
      · have c1' := eq_true c1
        simp (disch := first | omega | assumption | exact Or.inl rfl | exact Or.inr rfl | exact bI_or _ | exact zC81 | exact zC47 | exact zC65 | exact zC0 | exact zC1 | exact zC32 | exact zC70 | exact zC73 | exact ztc (by assumption) | exact zdc (by assumption) | exact zpc (by assumption) | decide) only [Option.some.injEq, exists_eq_left', ex2, Option.toList, List.singleton_append, List.append_nil, List.cons_append, List.nil_append, nI_add, nI_addL, nI_Ladd, pk_mul, nI_mulL, nI_Lmul, nI_subL, pk_sub, nI_divL, sub_dm, nI_leE, nI_ltE, nI_eqE, nI_Lle, nI_leL, nI_Llt, nI_ltL, nI_eqL, va_up_self, va_up_ne, up_up, up_comm, nI_clamp, bI_eq0, not_true_eq_false, not_false_eq_true, Nat.reduceEqDiff, Nat.reduceLeDiff, Nat.reduceAdd, Nat.reduceMul, Nat.one_ne_zero, Nat.zero_ne_one, decide_eq_false_iff_not, decide_eq_true_eq, Bool.false_eq_true, decide_true, decide_false, bI_true, bI_false, one_ne, Nat.le_refl, Nat.lt_irrefl, cleT, cleF, cltT, cltF, ceqT, ceqF, ↓reduceIte, r64_5, r64_7, r64_41, r64_42, r64_43, r64_46, r64_47, r64_50, r64_51, c1']
      · simp (disch := first | omega | assumption | exact Or.inl rfl | exact Or.inr rfl | exact bI_or _ | exact zC81 | exact zC47 | exact zC65 | exact zC0 | exact zC1 | exact zC32 | exact zC70 | exact zC73 | exact ztc (by assumption) | exact zdc (by assumption) | exact zpc (by assumption) | decide) only [Option.some.injEq, exists_eq_left', ex2, Option.toList, List.singleton_append, List.append_nil, List.cons_append, List.nil_append, nI_add, nI_addL, nI_Ladd, pk_mul, nI_mulL, nI_Lmul, nI_subL, pk_sub, nI_divL, sub_dm, nI_leE, nI_ltE, nI_eqE, nI_Lle, nI_leL, nI_Llt, nI_ltL, nI_eqL, va_up_self, va_up_ne, up_up, up_comm, nI_clamp, bI_eq0, not_true_eq_false, not_false_eq_true, Nat.reduceEqDiff, Nat.reduceLeDiff, Nat.reduceAdd, Nat.reduceMul, Nat.one_ne_zero, Nat.zero_ne_one, decide_eq_false_iff_not, decide_eq_true_eq, Bool.false_eq_true, decide_true, decide_false, bI_true, bI_false, one_ne, Nat.le_refl, Nat.lt_irrefl, cleT, cleF, cltT, cltF, ceqT, ceqF, ↓reduceIte, r64_5, r64_7, r64_41, r64_42, r64_43, r64_46, r64_47, r64_50, r64_51, c1]
    | succ m ih =>
      intro c f hc hf
      rw [r64_4, rsF]
      have h1 : c / 7 < 7 := by omega
      have h2 : c % 7 < 7 := by omega
      cases c1 : reF S (c / 7) (c % 7)
      · rw [if_neg (by decide)]
        simp (disch := first | omega | assumption | exact Or.inl rfl | exact Or.inr rfl | exact bI_or _ | exact zC81 | exact zC47 | exact zC65 | exact zC0 | exact zC1 | exact zC32 | exact zC70 | exact zC73 | exact ztc (by assumption) | exact zdc (by assumption) | exact zpc (by assumption) | decide) only [Option.some.injEq, exists_eq_left', ex2, Option.toList, List.singleton_append, List.append_nil, List.cons_append, List.nil_append, nI_add, nI_addL, nI_Ladd, pk_mul, nI_mulL, nI_Lmul, nI_subL, pk_sub, nI_divL, sub_dm, nI_leE, nI_ltE, nI_eqE, nI_Lle, nI_leL, nI_Llt, nI_ltL, nI_eqL, va_up_self, va_up_ne, up_up, up_comm, nI_clamp, bI_eq0, not_true_eq_false, not_false_eq_true, Nat.reduceEqDiff, Nat.reduceLeDiff, Nat.reduceAdd, Nat.reduceMul, Nat.one_ne_zero, Nat.zero_ne_one, decide_eq_false_iff_not, decide_eq_true_eq, Bool.false_eq_true, decide_true, decide_false, bI_true, bI_false, one_ne, Nat.le_refl, Nat.lt_irrefl, cleT, cleF, cltT, cltF, ceqT, ceqF, ↓reduceIte, r64_5, r64_7, r64_10, r64_11, r64_12, r64_14, r64_15, r64_16, r64_18, r64_19, r64_22, r64_25, r64_26, r64_27, r64_30, r64_31, r64_32, r64_35, r64_38, br_isRest hM h1 h2 h0, c1]
        exact ih (c + 1) f (by omega) (by omega)
      · rw [if_pos rfl]
        by_cases c2 : nI f = k
        · have c2' := eq_true c2
          simp (disch := first | omega | assumption | exact Or.inl rfl | exact Or.inr rfl | exact bI_or _ | exact zC81 | exact zC47 | exact zC65 | exact zC0 | exact zC1 | exact zC32 | exact zC70 | exact zC73 | exact ztc (by assumption) | exact zdc (by assumption) | exact zpc (by assumption) | decide) only [Option.some.injEq, exists_eq_left', ex2, Option.toList, List.singleton_append, List.append_nil, List.cons_append, List.nil_append, nI_add, nI_addL, nI_Ladd, pk_mul, nI_mulL, nI_Lmul, nI_subL, pk_sub, nI_divL, sub_dm, nI_leE, nI_ltE, nI_eqE, nI_Lle, nI_leL, nI_Llt, nI_ltL, nI_eqL, va_up_self, va_up_ne, up_up, up_comm, nI_clamp, bI_eq0, not_true_eq_false, not_false_eq_true, Nat.reduceEqDiff, Nat.reduceLeDiff, Nat.reduceAdd, Nat.reduceMul, Nat.one_ne_zero, Nat.zero_ne_one, decide_eq_false_iff_not, decide_eq_true_eq, Bool.false_eq_true, decide_true, decide_false, bI_true, bI_false, one_ne, Nat.le_refl, Nat.lt_irrefl, cleT, cleF, cltT, cltF, ceqT, ceqF, ↓reduceIte, r64_5, r64_7, r64_10, r64_11, r64_12, r64_14, r64_15, r64_16, r64_18, r64_19, r64_22, r64_25, r64_26, r64_27, r64_30, r64_31, r64_32, r64_35, r64_38, br_isRest hM h1 h2 h0, c1, c2', Bool.true_eq_false]
        · simp (disch := first | omega | assumption | exact Or.inl rfl | exact Or.inr rfl | exact bI_or _ | exact zC81 | exact zC47 | exact zC65 | exact zC0 | exact zC1 | exact zC32 | exact zC70 | exact zC73 | exact ztc (by assumption) | exact zdc (by assumption) | exact zpc (by assumption) | decide) only [Option.some.injEq, exists_eq_left', ex2, Option.toList, List.singleton_append, List.append_nil, List.cons_append, List.nil_append, nI_add, nI_addL, nI_Ladd, pk_mul, nI_mulL, nI_Lmul, nI_subL, pk_sub, nI_divL, sub_dm, nI_leE, nI_ltE, nI_eqE, nI_Lle, nI_leL, nI_Llt, nI_ltL, nI_eqL, va_up_self, va_up_ne, up_up, up_comm, nI_clamp, bI_eq0, not_true_eq_false, not_false_eq_true, Nat.reduceEqDiff, Nat.reduceLeDiff, Nat.reduceAdd, Nat.reduceMul, Nat.one_ne_zero, Nat.zero_ne_one, decide_eq_false_iff_not, decide_eq_true_eq, Bool.false_eq_true, decide_true, decide_false, bI_true, bI_false, one_ne, Nat.le_refl, Nat.lt_irrefl, cleT, cleF, cltT, cltF, ceqT, ceqF, ↓reduceIte, r64_5, r64_7, r64_10, r64_11, r64_12, r64_14, r64_15, r64_16, r64_18, r64_19, r64_22, r64_25, r64_26, r64_27, r64_30, r64_31, r64_32, r64_35, r64_38, br_isRest hM h1 h2 h0, c1, c2, Bool.true_eq_false]
          exact ih (c + 1) (f + 1) (by omega) (by omega)
  exact q 49 0 0 (by omega) (by omega)
theorem v_lt3 : ∀ i, i < 8 → ((3 : Int32) < nI i - 3) = (7 ≤ i) := by decide +kernel
theorem v_inc : ∀ i, i < 8 → (nI i - 3) + 1 = nI (i + 1) - 3 := by decide +kernel
theorem rf_isRest {t0 n h t a b : Nat} (hT : rT s t0 n h) (ht : t < 6) {r : Option Value × mH} : Runs xs sl (d+2) 263 0 [some (.ref (81)), some (.int ( nI t)), some (.int ( nI a - 3)), some (.int ( nI b - 3)), none, none] [] (hp J (s) g) r ↔ r = (some (.int ( bI (reF (SoF (fun i => s 82 (t0 + 29 + i)) (fun u => s 82 (t0 + 5 + u)) t h) a b))), hp J (s) g) := by
  refine Runs.iff ?_
  generalize hSo : SoF (fun i => s 82 (t0 + 29 + i)) (fun u => s 82 (t0 + 5 + u)) t h = S
  have so : ∀ m o, ∀ {r : Option Value × mH}, Runs xs sl (d+1) 261 0 [some (.ref (81)), some (.int ( nI t)), some (.int ( nI m - 3)), some (.int ( nI o - 3)), none, none, none] [] (hp J (s) g) r ↔ r = (some (.int (S m o)), hp J s g) := by
    intro m o r
    rw [← hSo]
    exact rf_sold hT ht
  simp only [r263_0, r263_1, r263_3, r263_5]
  unfold reF
  refine dn_loop (P := fun v => Runs xs sl (d+2) 263 7 [some (.ref (81)), some (.int ( nI t)), some (.int ( nI a - 3)), some (.int ( nI b - 3)), some (.int ( bI (it (fun v p => p && decide (S v b ≤ S a b) && decide (S v a ≤ S b a)) v true))), some (.int ( nI v - 3))] [] (hp J (s) g) _) 7 ?_ ?_
  · intro v hv hr
    rw [r263_7]
    dsimp only [it] at hr
    generalize it (fun v p => p && decide (S v b ≤ S a b) && decide (S v a ≤ S b a)) v true = p at hr ⊢
    have l3 := v_lt3 v (by omega)
    have l4 := v_inc v (by omega)
    cases p
    · simp (disch := first | omega | assumption | exact zC81 | decide) only [r263_9, r263_10, r263_13, r263_15, r263_18, r263_19, r263_20, r263_22, r263_23, r263_26, r263_27, r263_28, r263_29, r263_30, r263_33, r263_36, r263_37, r263_38, r263_40, r263_41, r263_44, r263_45, r263_46, r263_47, r263_48, r263_51, r263_54, r263_55, r263_58, r263_59, r263_61, r263_64, l3, l4, cleF, bI_false, ↓reduceIte]
      exact hr
    · by_cases c1 : S a b < S v b
      · have d1 : ¬ S v b ≤ S a b := Int32.not_le.mpr c1
        simp only [d1, decide_false, Bool.and_false, Bool.false_and] at hr
        simp (disch := first | omega | assumption | exact zC81 | decide) only [r263_9, r263_10, r263_13, r263_15, r263_18, r263_19, r263_20, r263_22, r263_23, r263_26, r263_27, r263_28, r263_29, r263_30, r263_33, r263_36, r263_37, r263_38, r263_40, r263_41, r263_44, r263_45, r263_46, r263_47, r263_48, r263_51, r263_54, r263_55, r263_58, r263_59, r263_61, r263_64, so, l3, l4, cleF, bI_true, one_ne, c1, Option.some.injEq, exists_eq_left', ex2, Option.toList, List.singleton_append, List.append_nil, List.cons_append, List.nil_append, ↓reduceIte]
        exact hr
      · have d1 : S v b ≤ S a b := Int32.not_lt.mp c1
        by_cases c2 : S b a < S v a
        · have d2 : ¬ S v a ≤ S b a := Int32.not_le.mpr c2
          simp only [d1, d2, decide_false, decide_true, Bool.and_false, Bool.false_and] at hr
          simp (disch := first | omega | assumption | exact zC81 | decide) only [r263_9, r263_10, r263_13, r263_15, r263_18, r263_19, r263_20, r263_22, r263_23, r263_26, r263_27, r263_28, r263_29, r263_30, r263_33, r263_36, r263_37, r263_38, r263_40, r263_41, r263_44, r263_45, r263_46, r263_47, r263_48, r263_51, r263_54, r263_55, r263_58, r263_59, r263_61, r263_64, so, l3, l4, cleF, bI_true, one_ne, c1, c2, Option.some.injEq, exists_eq_left', ex2, Option.toList, List.singleton_append, List.append_nil, List.cons_append, List.nil_append, ↓reduceIte]
          exact hr
        · have d2 : S v a ≤ S b a := Int32.not_lt.mp c2
          simp only [d1, d2, decide_false, decide_true, Bool.and_true, Bool.and_self] at hr
          simp (disch := first | omega | assumption | exact zC81 | decide) only [r263_9, r263_10, r263_13, r263_15, r263_18, r263_19, r263_20, r263_22, r263_23, r263_26, r263_27, r263_28, r263_29, r263_30, r263_33, r263_36, r263_37, r263_38, r263_40, r263_41, r263_44, r263_45, r263_46, r263_47, r263_48, r263_51, r263_54, r263_55, r263_58, r263_59, r263_61, r263_64, so, l3, l4, cleF, bI_true, one_ne, c1, c2, Option.some.injEq, exists_eq_left', ex2, Option.toList, List.singleton_append, List.append_nil, List.cons_append, List.nil_append, ↓reduceIte]
          exact hr
  · rw [r263_7]
    have l3 := v_lt3 7 (by omega)
    simp (disch := first | omega | exact bI_or _) only [r263_9, r263_10, r263_67, r263_69, l3, Nat.le_refl, ↓reduceIte]
theorem rf_restLoop {t0 n h t : Nat} {k : Int32} {l1 : Option Value} (hT : rT s t0 n h) (ht : t < 6) : ∀ {r : Option Value × mH}, Runs xs sl (d+3) 262 23 [some (.ref (81)), l1, some (.int ( nI t)), some (.int (k)), none, none] [] (hp J (s) g) r ↔ r = (some (.int (rsF (fun c => reF (SoF (fun i => s 82 (t0 + 29 + i)) (fun u => s 82 (t0 + 5 + u)) t h) (c / 7) (c % 7)) k 49 0 0)), hp J s g) := by
  intro r
  refine Runs.iff ?_
  simp (disch := first | omega | assumption | exact Or.inl rfl | exact Or.inr rfl | exact bI_or _ | exact zC81 | exact zC47 | exact zC65 | exact zC0 | exact zC1 | exact zC32 | exact zC70 | exact zC73 | exact ztc (by assumption) | exact zdc (by assumption) | exact zpc (by assumption) | decide) only [Option.some.injEq, exists_eq_left', ex2, Option.toList, List.singleton_append, List.append_nil, List.cons_append, List.nil_append, nI_add, nI_addL, nI_Ladd, pk_mul, nI_mulL, nI_Lmul, nI_subL, pk_sub, nI_divL, sub_dm, nI_leE, nI_ltE, nI_eqE, nI_Lle, nI_leL, nI_Llt, nI_ltL, nI_eqL, va_up_self, va_up_ne, up_up, up_comm, nI_clamp, bI_eq0, not_true_eq_false, not_false_eq_true, Nat.reduceEqDiff, Nat.reduceLeDiff, Nat.reduceAdd, Nat.reduceMul, Nat.one_ne_zero, Nat.zero_ne_one, decide_eq_false_iff_not, decide_eq_true_eq, Bool.false_eq_true, decide_true, decide_false, bI_true, bI_false, one_ne, Nat.le_refl, Nat.lt_irrefl, cleT, cleF, cltT, cltF, ceqT, ceqF, ↓reduceIte, r262_23, r262_24, r262_26, r262_27]
  generalize hSo : SoF (fun i => s 82 (t0 + 29 + i)) (fun u => s 82 (t0 + 5 + u)) t h = S
  have re : ∀ a b, ∀ {r : Option Value × mH}, Runs xs sl (d+2) 263 0 [some (.ref (81)), some (.int ( nI t)), some (.int ( nI a - 3)), some (.int ( nI b - 3)), none, none] [] (hp J (s) g) r ↔ r = (some (.int (bI (reF S a b))), hp J s g) := by
    intro a b r
    rw [← hSo]
    exact rf_isRest hT ht
  have z7 : ¬ (7 : Int32) = 0 := by decide
  have q : ∀ m c f, c + m = 49 → f ≤ c → Runs xs sl (d+3) 262 29 [some (.ref (81)), l1, some (.int ( nI t)), some (.int (k)), some (.int ( nI f)), some (.int ( nI c))] [] (hp J (s) g) (some (.int (rsF (fun c => reF S (c / 7) (c % 7)) k m c f)), hp J s g) := by
    intro m
    induction m with
    | zero =>
      intro c f hc hf
      rw [r262_29, rsF]
      by_cases c1 : k = -1
      · have c1' := eq_true c1
        simp (disch := first | omega | assumption | exact Or.inl rfl | exact Or.inr rfl | exact bI_or _ | exact zC81 | exact zC47 | exact zC65 | exact zC0 | exact zC1 | exact zC32 | exact zC70 | exact zC73 | exact ztc (by assumption) | exact zdc (by assumption) | exact zpc (by assumption) | decide) only [Option.some.injEq, exists_eq_left', ex2, Option.toList, List.singleton_append, List.append_nil, List.cons_append, List.nil_append, nI_add, nI_addL, nI_Ladd, pk_mul, nI_mulL, nI_Lmul, nI_subL, pk_sub, nI_divL, sub_dm, nI_leE, nI_ltE, nI_eqE, nI_Lle, nI_leL, nI_Llt, nI_ltL, nI_eqL, va_up_self, va_up_ne, up_up, up_comm, nI_clamp, bI_eq0, not_true_eq_false, not_false_eq_true, Nat.reduceEqDiff, Nat.reduceLeDiff, Nat.reduceAdd, Nat.reduceMul, Nat.one_ne_zero, Nat.zero_ne_one, decide_eq_false_iff_not, decide_eq_true_eq, Bool.false_eq_true, decide_true, decide_false, bI_true, bI_false, one_ne, Nat.le_refl, Nat.lt_irrefl, cleT, cleF, cltT, cltF, ceqT, ceqF, ↓reduceIte, r262_31, r262_33, r262_79, r262_80, r262_81, r262_84, r262_86, r262_89, r262_90, c1']
      · simp (disch := first | omega | assumption | exact Or.inl rfl | exact Or.inr rfl | exact bI_or _ | exact zC81 | exact zC47 | exact zC65 | exact zC0 | exact zC1 | exact zC32 | exact zC70 | exact zC73 | exact ztc (by assumption) | exact zdc (by assumption) | exact zpc (by assumption) | decide) only [Option.some.injEq, exists_eq_left', ex2, Option.toList, List.singleton_append, List.append_nil, List.cons_append, List.nil_append, nI_add, nI_addL, nI_Ladd, pk_mul, nI_mulL, nI_Lmul, nI_subL, pk_sub, nI_divL, sub_dm, nI_leE, nI_ltE, nI_eqE, nI_Lle, nI_leL, nI_Llt, nI_ltL, nI_eqL, va_up_self, va_up_ne, up_up, up_comm, nI_clamp, bI_eq0, not_true_eq_false, not_false_eq_true, Nat.reduceEqDiff, Nat.reduceLeDiff, Nat.reduceAdd, Nat.reduceMul, Nat.one_ne_zero, Nat.zero_ne_one, decide_eq_false_iff_not, decide_eq_true_eq, Bool.false_eq_true, decide_true, decide_false, bI_true, bI_false, one_ne, Nat.le_refl, Nat.lt_irrefl, cleT, cleF, cltT, cltF, ceqT, ceqF, ↓reduceIte, r262_31, r262_33, r262_79, r262_80, r262_81, r262_84, r262_86, r262_89, r262_90, c1]
    | succ m ih =>
      intro c f hc hf
      rw [r262_29, rsF]
      have e1 : nI c / 7 = nI (c / 7) := nI_divL (n := 7) (by omega) (by decide) (by decide)
      have e2 : nI c - nI (c / 7) * 7 = nI (c % 7) := by
        have w := pk_rem (a := c) (d := 7) (by omega) (by decide) (by decide)
        rw [← w]
        exact congrArg (fun q => nI c - q * 7) e1.symm
      cases c1 : reF S (c / 7) (c % 7)
      · rw [if_neg (by decide)]
        simp (disch := first | omega | assumption | exact zC81 | decide) only [r262_31, r262_33, r262_36, r262_37, r262_38, r262_40, r262_42, r262_43, r262_44, r262_45, r262_47, r262_49, r262_50, r262_51, r262_52, r262_55, r262_58, r262_61, r262_63, r262_64, r262_67, r262_69, r262_70, r262_73, r262_76, nI_Lle, cleF, e1, e2, re, c1, bI_false, nI_1, Option.some.injEq, exists_eq_left', ex2, Option.toList, List.singleton_append, List.append_nil, List.cons_append, List.nil_append, not_true_eq_false, ↓reduceIte]
        exact ih (c + 1) f (by omega) (by omega)
      · rw [if_pos rfl]
        by_cases c2 : nI f = k
        · have c2' := eq_true c2
          simp (disch := first | omega | assumption | exact zC81 | decide) only [r262_31, r262_33, r262_36, r262_37, r262_38, r262_40, r262_42, r262_43, r262_44, r262_45, r262_47, r262_49, r262_50, r262_51, r262_52, r262_55, r262_58, r262_61, r262_63, r262_64, r262_67, r262_69, r262_70, r262_73, r262_76, nI_Lle, cleF, e1, e2, re, c1, c2', bI_true, one_ne, nI_1, Option.some.injEq, exists_eq_left', ex2, Option.toList, List.singleton_append, List.append_nil, List.cons_append, List.nil_append, not_true_eq_false, not_false_eq_true, ↓reduceIte]
        · simp (disch := first | omega | assumption | exact zC81 | decide) only [r262_31, r262_33, r262_36, r262_37, r262_38, r262_40, r262_42, r262_43, r262_44, r262_45, r262_47, r262_49, r262_50, r262_51, r262_52, r262_55, r262_58, r262_61, r262_63, r262_64, r262_67, r262_69, r262_70, r262_73, r262_76, nI_Lle, cleF, e1, e2, re, c1, c2, bI_true, one_ne, nI_1, Option.some.injEq, exists_eq_left', ex2, Option.toList, List.singleton_append, List.append_nil, List.cons_append, List.nil_append, not_true_eq_false, not_false_eq_true, ↓reduceIte]
          exact ih (c + 1) (f + 1) (by omega) (by omega)
  exact q 49 0 0 (by omega) (by omega)
theorem solF_nn {mi vo : Nat → Int32} {t h : Nat} {one two : Int32} (hh : h ≤ 8) (hv : ∀ u, u < h → ∃ k, 1 ≤ k ∧ k ≤ 9 ∧ vo u = nI k) : 0 ≤ solF mi vo t h one two := by
  have q : ∀ i, i ≤ h → ∃ w, w ≤ 9 * i ∧ it (fun u a => a + (if farF (mi (6 * u + t)) two ≤ farF (mi (6 * u + t)) one then 0 else vo u)) i 0 = nI w := by
    intro i
    induction i with
    | zero => exact fun _ => ⟨0, by omega, rfl⟩
    | succ i ih =>
      intro hi
      obtain ⟨w, w1, w2⟩ := ih (by omega)
      obtain ⟨k, k1, k2, k3⟩ := hv i (by omega)
      rw [it, w2]
      split
      · exact ⟨w, by omega, Int32.add_zero _⟩
      · rw [k3]
        exact ⟨w + k, by omega, nI_add w k⟩
  obtain ⟨w, w1, w2⟩ := q h (Nat.le_refl h)
  unfold solF
  rw [w2]
  exact nI_pos' (by omega)
theorem pm_rest (hI : ToldR s (s 82)) (p q z : Int32) : Same xs sl J s g 24 262 [some (.ref 0), some (.int p), some (.int q), some (.int z), none] [some (.ref 81), some (.int p), some (.int q), some (.int z), none, none] := by
  obtain ⟨c0, c1, c2, len, ⟨q0, q0', q0''⟩, -, -, -, -, -, hT, -, -⟩ := hI
  rcases has_cases p (n := c0) (by omega) with h | ⟨k, hk, rfl⟩
  · refine ⟨.int (-1), s, s, g, ?_, CK_refl s, ?_, RK_refl s⟩
    · simp (disch := first | omega | assumption | exact Or.inl rfl | exact Or.inr rfl | exact bI_or _ | exact zC81 | exact zC47 | exact zC65 | exact zC0 | exact zC1 | exact zC32 | exact zC70 | exact zC73 | exact ztc (by assumption) | exact zdc (by assumption) | exact zpc (by assumption) | decide) only [Option.some.injEq, exists_eq_left', ex2, Option.toList, List.singleton_append, List.append_nil, List.cons_append, List.nil_append, nI_add, nI_addL, nI_Ladd, pk_mul, nI_mulL, nI_Lmul, nI_subL, pk_sub, nI_divL, sub_dm, nI_leE, nI_ltE, nI_eqE, nI_Lle, nI_leL, nI_Llt, nI_ltL, nI_eqL, va_up_self, va_up_ne, up_up, up_comm, nI_clamp, bI_eq0, not_true_eq_false, not_false_eq_true, Nat.reduceEqDiff, Nat.reduceLeDiff, Nat.reduceAdd, Nat.reduceMul, Nat.one_ne_zero, Nat.zero_ne_one, decide_eq_false_iff_not, decide_eq_true_eq, Bool.false_eq_true, decide_true, decide_false, bI_true, bI_false, one_ne, Nat.le_refl, Nat.lt_irrefl, cleT, cleF, cltT, cltF, ceqT, ceqF, ↓reduceIte, r24_0, r24_1, r24_2, r24_5, r24_5n, r24_7, r24_7n, r24_9, r24_9n, r24_12, r24_12n, r24_14, r24_15, r24_18, r24_21, r24_22, r24_23, r24_26, r24_27, r24_28, r24_29, r24_32, r24_32n, r24_34, r24_35, r24_38, r24_39, r24_42, r24_43, r24_46, br_townNo q0 h]
    · simp (disch := first | omega | assumption | exact Or.inl rfl | exact Or.inr rfl | exact bI_or _ | exact zC81 | exact zC47 | exact zC65 | exact zC0 | exact zC1 | exact zC32 | exact zC70 | exact zC73 | exact ztc (by assumption) | exact zdc (by assumption) | exact zpc (by assumption) | decide) only [Option.some.injEq, exists_eq_left', ex2, Option.toList, List.singleton_append, List.append_nil, List.cons_append, List.nil_append, nI_add, nI_addL, nI_Ladd, pk_mul, nI_mulL, nI_Lmul, nI_subL, pk_sub, nI_divL, sub_dm, nI_leE, nI_ltE, nI_eqE, nI_Lle, nI_leL, nI_Llt, nI_ltL, nI_eqL, va_up_self, va_up_ne, up_up, up_comm, nI_clamp, bI_eq0, not_true_eq_false, not_false_eq_true, Nat.reduceEqDiff, Nat.reduceLeDiff, Nat.reduceAdd, Nat.reduceMul, Nat.one_ne_zero, Nat.zero_ne_one, decide_eq_false_iff_not, decide_eq_true_eq, Bool.false_eq_true, decide_true, decide_false, bI_true, bI_false, one_ne, Nat.le_refl, Nat.lt_irrefl, cleT, cleF, cltT, cltF, ceqT, ceqF, ↓reduceIte, r262_0, r262_1, r262_2, r262_5, r262_8, r262_9, r262_10, r262_13, r262_16, r262_17, r262_18, r262_21, r262_22, rf_townNo q0' q0'' h]
  · obtain ⟨n, li, h, sa, c, hQ⟩ := hT k hk
    have hR := rTown_rT (s := s) (by omega) hQ
    have hiT := isT_of (k := k) (by omega)
    have hQ' := hQ
    obtain ⟨⟨t1, t2, t3, t4⟩, -, ⟨t5, t6, t7⟩, -, -, tv, -, -, tm, -, -⟩ := hQ'
    rcases has_cases q (n := n) (by omega) with hy | ⟨t, ht, rfl⟩
    · refine ⟨.int (-1), s, rTown s k, g, ?_, CK_refl s, ?_, rTown_RK k⟩
      · simp (disch := first | omega | assumption | exact Or.inl rfl | exact Or.inr rfl | exact bI_or _ | exact zC81 | exact zC47 | exact zC65 | exact zC0 | exact zC1 | exact zC32 | exact zC70 | exact zC73 | exact ztc (by assumption) | exact zdc (by assumption) | exact zpc (by assumption) | decide) only [Option.some.injEq, exists_eq_left', ex2, Option.toList, List.singleton_append, List.append_nil, List.cons_append, List.nil_append, nI_add, nI_addL, nI_Ladd, pk_mul, nI_mulL, nI_Lmul, nI_subL, pk_sub, nI_divL, sub_dm, nI_leE, nI_ltE, nI_eqE, nI_Lle, nI_leL, nI_Llt, nI_ltL, nI_eqL, va_up_self, va_up_ne, up_up, up_comm, nI_clamp, bI_eq0, not_true_eq_false, not_false_eq_true, Nat.reduceEqDiff, Nat.reduceLeDiff, Nat.reduceAdd, Nat.reduceMul, Nat.one_ne_zero, Nat.zero_ne_one, decide_eq_false_iff_not, decide_eq_true_eq, Bool.false_eq_true, decide_true, decide_false, bI_true, bI_false, one_ne, Nat.le_refl, Nat.lt_irrefl, cleT, cleF, cltT, cltF, ceqT, ceqF, ↓reduceIte, r24_0, r24_1, r24_2, r24_5, r24_5n, r24_7, r24_7n, r24_9, r24_9n, r24_12, r24_12n, r24_14, r24_15, r24_18, r24_21, r24_22, r24_23, r24_26, r24_27, r24_28, r24_29, r24_32, r24_32n, r24_34, r24_35, r24_38, r24_39, r24_42, r24_43, r24_46, br_townAt q0 q0'' hk, zx_hasTopic hiT, t1, hy]
      · simp (disch := first | omega | assumption | exact Or.inl rfl | exact Or.inr rfl | exact bI_or _ | exact zC81 | exact zC47 | exact zC65 | exact zC0 | exact zC1 | exact zC32 | exact zC70 | exact zC73 | exact ztc (by assumption) | exact zdc (by assumption) | exact zpc (by assumption) | decide) only [Option.some.injEq, exists_eq_left', ex2, Option.toList, List.singleton_append, List.append_nil, List.cons_append, List.nil_append, nI_add, nI_addL, nI_Ladd, pk_mul, nI_mulL, nI_Lmul, nI_subL, pk_sub, nI_divL, sub_dm, nI_leE, nI_ltE, nI_eqE, nI_Lle, nI_leL, nI_Llt, nI_ltL, nI_eqL, va_up_self, va_up_ne, up_up, up_comm, nI_clamp, bI_eq0, not_true_eq_false, not_false_eq_true, Nat.reduceEqDiff, Nat.reduceLeDiff, Nat.reduceAdd, Nat.reduceMul, Nat.one_ne_zero, Nat.zero_ne_one, decide_eq_false_iff_not, decide_eq_true_eq, Bool.false_eq_true, decide_true, decide_false, bI_true, bI_false, one_ne, Nat.le_refl, Nat.lt_irrefl, cleT, cleF, cltT, cltF, ceqT, ceqF, ↓reduceIte, r262_0, r262_1, r262_2, r262_5, r262_8, r262_9, r262_10, r262_13, r262_16, r262_17, r262_18, r262_21, r262_22, rf_isTown q0' q0'' hk, rf_isTopic (x := q) hR, hy]
    have t6' : t < 6 := by omega
    by_cases cz : -1 ≤ z
    · obtain ⟨x1, m1, m2, m3⟩ := @br_open xs sl 996 J s g (7 + 12 * k) n h t hiT (by omega) t5 t7 t6' (fun i hi => (tm i hi).1)
      have f82 : x1 82 = s 82 := m2 82 (by decide) (by decide)
      have hQ1 : TownQ s (x1 82) (7 + 12 * k) (610 + 129 * k) n li h sa c := by rw [f82]; exact hQ
      have hR1 := rTown_rT (s := x1) (by omega) hQ1
      have g0 : x1 82 0 = nI c0 := by rw [f82]; exact q0'
      have g82 : rTown x1 k 82 = s 82 := ((rTown_RK k).1 82 (by omega)).trans f82
      have h0 : ∀ m o, 0 ≤ SoF (s (7 + 12 * k + 4)) (s (7 + 12 * k + 1)) t h m o := fun m o => solF_nn t7 (fun u hu => by
        obtain ⟨v, v1, v2, v3, -⟩ := tv u hu
        exact ⟨v, v1, v2, v3⟩)
      have rl := @rf_restLoop xs sl 996 J (rTown x1 k) g (610 + 129 * k) n h t z (some (.int (nI k))) hR1 t6'
      have eS : SoF (fun i => rTown x1 k 82 (610 + 129 * k + 29 + i)) (fun u => rTown x1 k 82 (610 + 129 * k + 5 + u)) t h = SoF (s (7 + 12 * k + 4)) (s (7 + 12 * k + 1)) t h := by
        funext m o
        rw [g82]
        refine solF_congr (fun u hu => (tm _ (by omega)).2) (fun u hu => ?_)
        obtain ⟨v, -, -, v1, v2⟩ := tv u hu
        rw [v1, v2]
      rw [eS] at rl
      refine ⟨.int (rsF (fun c => reF (SoF (s (7 + 12 * k + 4)) (s (7 + 12 * k + 1)) t h) (c / 7) (c % 7)) z 49 0 0), x1, rTown x1 k, g, ?_, fun c hc => m2 c (by omega) (by omega), ?_, rTown_RK k⟩
      · simp (disch := first | omega | assumption | exact Or.inl rfl | exact Or.inr rfl | exact bI_or _ | exact zC81 | exact zC47 | exact zC65 | exact zC0 | exact zC1 | exact zC32 | exact zC70 | exact zC73 | exact ztc (by assumption) | exact zdc (by assumption) | exact zpc (by assumption) | decide) only [Option.some.injEq, exists_eq_left', ex2, Option.toList, List.singleton_append, List.append_nil, List.cons_append, List.nil_append, nI_add, nI_addL, nI_Ladd, pk_mul, nI_mulL, nI_Lmul, nI_subL, pk_sub, nI_divL, sub_dm, nI_leE, nI_ltE, nI_eqE, nI_Lle, nI_leL, nI_Llt, nI_ltL, nI_eqL, va_up_self, va_up_ne, up_up, up_comm, nI_clamp, bI_eq0, not_true_eq_false, not_false_eq_true, Nat.reduceEqDiff, Nat.reduceLeDiff, Nat.reduceAdd, Nat.reduceMul, Nat.one_ne_zero, Nat.zero_ne_one, decide_eq_false_iff_not, decide_eq_true_eq, Bool.false_eq_true, decide_true, decide_false, bI_true, bI_false, one_ne, Nat.le_refl, Nat.lt_irrefl, cleT, cleF, cltT, cltF, ceqT, ceqF, ↓reduceIte, r24_0, r24_1, r24_2, r24_5, r24_5n, r24_7, r24_7n, r24_9, r24_9n, r24_12, r24_12n, r24_14, r24_15, r24_18, r24_21, r24_22, r24_23, r24_26, r24_27, r24_28, r24_29, r24_32, r24_32n, r24_34, r24_35, r24_38, r24_39, r24_42, r24_43, r24_46, br_townAt q0 q0'' hk, zx_hasTopic hiT, f_has_nI, t1, cz, zO0_5, m3.iff, br_restAt m1 h0]
      · simp (disch := first | omega | assumption | exact Or.inl rfl | exact Or.inr rfl | exact bI_or _ | exact zC81 | exact zC47 | exact zC65 | exact zC0 | exact zC1 | exact zC32 | exact zC70 | exact zC73 | exact ztc (by assumption) | exact zdc (by assumption) | exact zpc (by assumption) | decide) only [Option.some.injEq, exists_eq_left', ex2, Option.toList, List.singleton_append, List.append_nil, List.cons_append, List.nil_append, nI_add, nI_addL, nI_Ladd, pk_mul, nI_mulL, nI_Lmul, nI_subL, pk_sub, nI_divL, sub_dm, nI_leE, nI_ltE, nI_eqE, nI_Lle, nI_leL, nI_Llt, nI_ltL, nI_eqL, va_up_self, va_up_ne, up_up, up_comm, nI_clamp, bI_eq0, not_true_eq_false, not_false_eq_true, Nat.reduceEqDiff, Nat.reduceLeDiff, Nat.reduceAdd, Nat.reduceMul, Nat.one_ne_zero, Nat.zero_ne_one, decide_eq_false_iff_not, decide_eq_true_eq, Bool.false_eq_true, decide_true, decide_false, bI_true, bI_false, one_ne, Nat.le_refl, Nat.lt_irrefl, cleT, cleF, cltT, cltF, ceqT, ceqF, ↓reduceIte, r262_0, r262_1, r262_2, r262_5, r262_8, r262_9, r262_10, r262_13, r262_16, r262_17, r262_18, rf_isTown g0 q0'' hk, rf_isTopic (x := nI t) hR1, f_has_nI, cz]
        exact rl.mpr rfl
    · refine ⟨.int (-1), s, rTown s k, g, ?_, CK_refl s, ?_, rTown_RK k⟩
      · simp (disch := first | omega | assumption | exact Or.inl rfl | exact Or.inr rfl | exact bI_or _ | exact zC81 | exact zC47 | exact zC65 | exact zC0 | exact zC1 | exact zC32 | exact zC70 | exact zC73 | exact ztc (by assumption) | exact zdc (by assumption) | exact zpc (by assumption) | decide) only [Option.some.injEq, exists_eq_left', ex2, Option.toList, List.singleton_append, List.append_nil, List.cons_append, List.nil_append, nI_add, nI_addL, nI_Ladd, pk_mul, nI_mulL, nI_Lmul, nI_subL, pk_sub, nI_divL, sub_dm, nI_leE, nI_ltE, nI_eqE, nI_Lle, nI_leL, nI_Llt, nI_ltL, nI_eqL, va_up_self, va_up_ne, up_up, up_comm, nI_clamp, bI_eq0, not_true_eq_false, not_false_eq_true, Nat.reduceEqDiff, Nat.reduceLeDiff, Nat.reduceAdd, Nat.reduceMul, Nat.one_ne_zero, Nat.zero_ne_one, decide_eq_false_iff_not, decide_eq_true_eq, Bool.false_eq_true, decide_true, decide_false, bI_true, bI_false, one_ne, Nat.le_refl, Nat.lt_irrefl, cleT, cleF, cltT, cltF, ceqT, ceqF, ↓reduceIte, r24_0, r24_1, r24_2, r24_5, r24_5n, r24_7, r24_7n, r24_9, r24_9n, r24_12, r24_12n, r24_14, r24_15, r24_18, r24_21, r24_22, r24_23, r24_26, r24_27, r24_28, r24_29, r24_32, r24_32n, r24_34, r24_35, r24_38, r24_39, r24_42, r24_43, r24_46, br_townAt q0 q0'' hk, zx_hasTopic hiT, f_has_nI, t1, cz]
      · simp (disch := first | omega | assumption | exact Or.inl rfl | exact Or.inr rfl | exact bI_or _ | exact zC81 | exact zC47 | exact zC65 | exact zC0 | exact zC1 | exact zC32 | exact zC70 | exact zC73 | exact ztc (by assumption) | exact zdc (by assumption) | exact zpc (by assumption) | decide) only [Option.some.injEq, exists_eq_left', ex2, Option.toList, List.singleton_append, List.append_nil, List.cons_append, List.nil_append, nI_add, nI_addL, nI_Ladd, pk_mul, nI_mulL, nI_Lmul, nI_subL, pk_sub, nI_divL, sub_dm, nI_leE, nI_ltE, nI_eqE, nI_Lle, nI_leL, nI_Llt, nI_ltL, nI_eqL, va_up_self, va_up_ne, up_up, up_comm, nI_clamp, bI_eq0, not_true_eq_false, not_false_eq_true, Nat.reduceEqDiff, Nat.reduceLeDiff, Nat.reduceAdd, Nat.reduceMul, Nat.one_ne_zero, Nat.zero_ne_one, decide_eq_false_iff_not, decide_eq_true_eq, Bool.false_eq_true, decide_true, decide_false, bI_true, bI_false, one_ne, Nat.le_refl, Nat.lt_irrefl, cleT, cleF, cltT, cltF, ceqT, ceqF, ↓reduceIte, r262_0, r262_1, r262_2, r262_5, r262_8, r262_9, r262_10, r262_13, r262_16, r262_17, r262_18, r262_21, r262_22, rf_isTown q0' q0'' hk, rf_isTopic (x := nI t) hR, f_has_nI, cz]
end RST
