/-! TEXT: tokens -/
section TXA
variable {xs : Nat → Int32} {sl d : Nat} {J : hJk} {s x y : hS} {g : hG}
def isBl (k : Nat) : Bool := decide (k = 32) || decide (k = 10)
def isDg (k : Nat) : Bool := decide (48 ≤ k) && decide (k ≤ 57)
def isLt (k : Nat) : Bool := decide (97 ≤ k) && decide (k ≤ 122)
def rnF (P : Nat → Bool) (b : Nat → Nat) (N : Nat) : Nat → Nat → Nat
  | 0, p => p
  | f + 1, p => if P (b p) = true then rnF P b N f (p + 1) else p
/-- the first place from p on that is the end or not P -/
def rn (P : Nat → Bool) (b : Nat → Nat) (N p : Nat) : Nat := rnF P b N (N - p) p
theorem rn_end {P : Nat → Bool} {b : Nat → Nat} {N p : Nat} (h : N ≤ p) : rn P b N p = p := by
  unfold rn
  rw [show N - p = 0 by omega]
  rfl
theorem rn_go {P : Nat → Bool} {b : Nat → Nat} {N p : Nat} (h : p < N) (hP : P (b p) = true) : rn P b N p = rn P b N (p + 1) := by
  unfold rn
  rw [show N - p = (N - (p + 1)) + 1 by omega, rnF, if_pos hP]
theorem rn_no {P : Nat → Bool} {b : Nat → Nat} {N p : Nat} (hP : P (b p) = false) : rn P b N p = p := by
  unfold rn
  cases N - p with
  | zero => rfl
  | succ f => rw [rnF, if_neg (by rw [hP]; decide)]
theorem rn_prop {P : Nat → Bool} {b : Nat → Nat} {N : Nat} : ∀ k p, p + k = N → p ≤ rn P b N p ∧ rn P b N p ≤ N ∧ (rn P b N p < N → P (b (rn P b N p)) = false) ∧ ∀ i, p ≤ i → i < rn P b N p → P (b i) = true := by
  intro k
  induction k with
  | zero =>
    intro p h
    rw [rn_end (by omega)]
    exact ⟨Nat.le_refl p, by omega, fun q => by omega, fun i h1 h2 => by omega⟩
  | succ k ih =>
    intro p h
    cases c : P (b p) with
    | false =>
      rw [rn_no c]
      exact ⟨Nat.le_refl p, by omega, fun _ => c, fun i h1 h2 => by omega⟩
    | true =>
      obtain ⟨i1, i2, i3, i4⟩ := ih (p + 1) (by omega)
      rw [rn_go (by omega) c]
      refine ⟨by omega, i2, i3, fun i h1 h2 => ?_⟩
      by_cases e : i = p
      · rw [e]; exact c
      · exact i4 i (by omega) h2
/-- a byte as the class has it -/
def sb (k : Nat) : Int32 := (nI k).toInt8.toInt32
theorem sbz_32 : ∀ k, k < 256 → (sb k = 32 ↔ k = 32) ∧ (sb k = 10 ↔ k = 10) ∧ (sb k = 59 ↔ k = 59) := by decide +kernel
theorem sbz_dg : ∀ k, k < 256 → (if sb k < 48 then (0 : Int32) else if 57 < sb k then 0 else 1) = bI (isDg k) ∧ (if sb k < 97 then (0 : Int32) else if 122 < sb k then 0 else 1) = bI (isLt k) := by decide +kernel
theorem sbz_nI : ∀ k, k < 128 → sb k = nI k := by decide +kernel
theorem sbz_ch : ∀ k, k < 256 → ∀ c, c < 128 → (sb k = nI c ↔ k = c) := by
  intro k hk c hc
  by_cases h : k < 128
  · rw [sbz_nI k h, nI_eq (by omega) (by omega)]
  · have q : ∀ k, k < 256 → 128 ≤ k → sb k < 0 := by decide +kernel
    have q1 := q k hk (by omega)
    constructor
    · intro e
      rw [e] at q1
      exact absurd q1 (nI_pos (by omega))
    · intro e; omega
/-- the tape in both: its bytes b, N of them -/
def tpC (s : hS) (b : Nat → Nat) (N : Nat) : Prop := s 32 6 = nI 6 ∧ s 32 7 = nI N ∧ N ≤ 600 ∧ ∀ i, i < N → b i < 256 ∧ s 6 i = sb (b i)
theorem tpC_fr {s' : hS} {b : Nat → Nat} {N : Nat} (h : tpC s b N) (h1 : s' 32 6 = s 32 6) (h2 : s' 32 7 = s 32 7) (h3 : s' 6 = s 6) : tpC s' b N := by
  unfold tpC
  rw [h1, h2, h3]
  exact h
theorem cl_isDigit {k : Nat} (hk : k < 256) {H : mH} {r : Option Value × mH} : Runs xs sl d 89 0 [some (.int (sb k))] [] H r ↔ r = (some (.int (bI (isDg k))), H) := by
  rw [← (sbz_dg k hk).1]
  refine Runs.iff ?_
  by_cases c1 : sb k < 48
  · simp (disch := first | omega | assumption | exact Or.inl rfl | exact Or.inr rfl | exact bI_or _ | exact zC81 | exact zC47 | exact zC65 | exact zC0 | exact zC1 | exact zC32 | exact zC70 | exact zC73 | exact ztc (by assumption) | exact zdc (by assumption) | exact zpc (by assumption) | decide) only [Option.some.injEq, exists_eq_left', ex2, Option.toList, List.singleton_append, List.append_nil, List.cons_append, List.nil_append, nI_add, nI_addL, nI_Ladd, pk_mul, nI_mulL, nI_Lmul, nI_subL, pk_sub, nI_divL, sub_dm, nI_leE, nI_ltE, nI_eqE, nI_Lle, nI_leL, nI_Llt, nI_ltL, nI_eqL, va_up_self, va_up_ne, up_up, up_comm, nI_clamp, bI_eq0, not_true_eq_false, not_false_eq_true, Nat.reduceEqDiff, Nat.reduceLeDiff, Nat.reduceAdd, Nat.reduceMul, Nat.one_ne_zero, Nat.zero_ne_one, decide_eq_false_iff_not, decide_eq_true_eq, Bool.false_eq_true, decide_true, decide_false, bI_true, bI_false, one_ne, Nat.le_refl, Nat.lt_irrefl, cleT, cleF, cltT, cltF, ceqT, ceqF, ↓reduceIte, r89_0, r89_1, r89_3, r89_6, r89_7, r89_9, r89_12, r89_13, r89_16, r89_17, c1]
  · by_cases c2 : 57 < sb k
    · simp (disch := first | omega | assumption | exact Or.inl rfl | exact Or.inr rfl | exact bI_or _ | exact zC81 | exact zC47 | exact zC65 | exact zC0 | exact zC1 | exact zC32 | exact zC70 | exact zC73 | exact ztc (by assumption) | exact zdc (by assumption) | exact zpc (by assumption) | decide) only [Option.some.injEq, exists_eq_left', ex2, Option.toList, List.singleton_append, List.append_nil, List.cons_append, List.nil_append, nI_add, nI_addL, nI_Ladd, pk_mul, nI_mulL, nI_Lmul, nI_subL, pk_sub, nI_divL, sub_dm, nI_leE, nI_ltE, nI_eqE, nI_Lle, nI_leL, nI_Llt, nI_ltL, nI_eqL, va_up_self, va_up_ne, up_up, up_comm, nI_clamp, bI_eq0, not_true_eq_false, not_false_eq_true, Nat.reduceEqDiff, Nat.reduceLeDiff, Nat.reduceAdd, Nat.reduceMul, Nat.one_ne_zero, Nat.zero_ne_one, decide_eq_false_iff_not, decide_eq_true_eq, Bool.false_eq_true, decide_true, decide_false, bI_true, bI_false, one_ne, Nat.le_refl, Nat.lt_irrefl, cleT, cleF, cltT, cltF, ceqT, ceqF, ↓reduceIte, r89_0, r89_1, r89_3, r89_6, r89_7, r89_9, r89_12, r89_13, r89_16, r89_17, c1, c2]
    · simp (disch := first | omega | assumption | exact Or.inl rfl | exact Or.inr rfl | exact bI_or _ | exact zC81 | exact zC47 | exact zC65 | exact zC0 | exact zC1 | exact zC32 | exact zC70 | exact zC73 | exact ztc (by assumption) | exact zdc (by assumption) | exact zpc (by assumption) | decide) only [Option.some.injEq, exists_eq_left', ex2, Option.toList, List.singleton_append, List.append_nil, List.cons_append, List.nil_append, nI_add, nI_addL, nI_Ladd, pk_mul, nI_mulL, nI_Lmul, nI_subL, pk_sub, nI_divL, sub_dm, nI_leE, nI_ltE, nI_eqE, nI_Lle, nI_leL, nI_Llt, nI_ltL, nI_eqL, va_up_self, va_up_ne, up_up, up_comm, nI_clamp, bI_eq0, not_true_eq_false, not_false_eq_true, Nat.reduceEqDiff, Nat.reduceLeDiff, Nat.reduceAdd, Nat.reduceMul, Nat.one_ne_zero, Nat.zero_ne_one, decide_eq_false_iff_not, decide_eq_true_eq, Bool.false_eq_true, decide_true, decide_false, bI_true, bI_false, one_ne, Nat.le_refl, Nat.lt_irrefl, cleT, cleF, cltT, cltF, ceqT, ceqF, ↓reduceIte, r89_0, r89_1, r89_3, r89_6, r89_7, r89_9, r89_12, r89_13, r89_16, r89_17, c1, c2]
theorem cl_isLetter {k : Nat} (hk : k < 256) {H : mH} {r : Option Value × mH} : Runs xs sl d 91 0 [some (.int (sb k))] [] H r ↔ r = (some (.int (bI (isLt k))), H) := by
  rw [← (sbz_dg k hk).2]
  refine Runs.iff ?_
  by_cases c1 : sb k < 97
  · simp (disch := first | omega | assumption | exact Or.inl rfl | exact Or.inr rfl | exact bI_or _ | exact zC81 | exact zC47 | exact zC65 | exact zC0 | exact zC1 | exact zC32 | exact zC70 | exact zC73 | exact ztc (by assumption) | exact zdc (by assumption) | exact zpc (by assumption) | decide) only [Option.some.injEq, exists_eq_left', ex2, Option.toList, List.singleton_append, List.append_nil, List.cons_append, List.nil_append, nI_add, nI_addL, nI_Ladd, pk_mul, nI_mulL, nI_Lmul, nI_subL, pk_sub, nI_divL, sub_dm, nI_leE, nI_ltE, nI_eqE, nI_Lle, nI_leL, nI_Llt, nI_ltL, nI_eqL, va_up_self, va_up_ne, up_up, up_comm, nI_clamp, bI_eq0, not_true_eq_false, not_false_eq_true, Nat.reduceEqDiff, Nat.reduceLeDiff, Nat.reduceAdd, Nat.reduceMul, Nat.one_ne_zero, Nat.zero_ne_one, decide_eq_false_iff_not, decide_eq_true_eq, Bool.false_eq_true, decide_true, decide_false, bI_true, bI_false, one_ne, Nat.le_refl, Nat.lt_irrefl, cleT, cleF, cltT, cltF, ceqT, ceqF, ↓reduceIte, r91_0, r91_1, r91_3, r91_6, r91_7, r91_9, r91_12, r91_13, r91_16, r91_17, c1]
  · by_cases c2 : 122 < sb k
    · simp (disch := first | omega | assumption | exact Or.inl rfl | exact Or.inr rfl | exact bI_or _ | exact zC81 | exact zC47 | exact zC65 | exact zC0 | exact zC1 | exact zC32 | exact zC70 | exact zC73 | exact ztc (by assumption) | exact zdc (by assumption) | exact zpc (by assumption) | decide) only [Option.some.injEq, exists_eq_left', ex2, Option.toList, List.singleton_append, List.append_nil, List.cons_append, List.nil_append, nI_add, nI_addL, nI_Ladd, pk_mul, nI_mulL, nI_Lmul, nI_subL, pk_sub, nI_divL, sub_dm, nI_leE, nI_ltE, nI_eqE, nI_Lle, nI_leL, nI_Llt, nI_ltL, nI_eqL, va_up_self, va_up_ne, up_up, up_comm, nI_clamp, bI_eq0, not_true_eq_false, not_false_eq_true, Nat.reduceEqDiff, Nat.reduceLeDiff, Nat.reduceAdd, Nat.reduceMul, Nat.one_ne_zero, Nat.zero_ne_one, decide_eq_false_iff_not, decide_eq_true_eq, Bool.false_eq_true, decide_true, decide_false, bI_true, bI_false, one_ne, Nat.le_refl, Nat.lt_irrefl, cleT, cleF, cltT, cltF, ceqT, ceqF, ↓reduceIte, r91_0, r91_1, r91_3, r91_6, r91_7, r91_9, r91_12, r91_13, r91_16, r91_17, c1, c2]
    · simp (disch := first | omega | assumption | exact Or.inl rfl | exact Or.inr rfl | exact bI_or _ | exact zC81 | exact zC47 | exact zC65 | exact zC0 | exact zC1 | exact zC32 | exact zC70 | exact zC73 | exact ztc (by assumption) | exact zdc (by assumption) | exact zpc (by assumption) | decide) only [Option.some.injEq, exists_eq_left', ex2, Option.toList, List.singleton_append, List.append_nil, List.cons_append, List.nil_append, nI_add, nI_addL, nI_Ladd, pk_mul, nI_mulL, nI_Lmul, nI_subL, pk_sub, nI_divL, sub_dm, nI_leE, nI_ltE, nI_eqE, nI_Lle, nI_leL, nI_Llt, nI_ltL, nI_eqL, va_up_self, va_up_ne, up_up, up_comm, nI_clamp, bI_eq0, not_true_eq_false, not_false_eq_true, Nat.reduceEqDiff, Nat.reduceLeDiff, Nat.reduceAdd, Nat.reduceMul, Nat.one_ne_zero, Nat.zero_ne_one, decide_eq_false_iff_not, decide_eq_true_eq, Bool.false_eq_true, decide_true, decide_false, bI_true, bI_false, one_ne, Nat.le_refl, Nat.lt_irrefl, cleT, cleF, cltT, cltF, ceqT, ceqF, ↓reduceIte, r91_0, r91_1, r91_3, r91_6, r91_7, r91_9, r91_12, r91_13, r91_16, r91_17, c1, c2]
/-- the place of reading -/
def atS (s : hS) (p : Nat) : hS := va_up s 32 (va_up (s 32) 9 (nI p))
theorem atS_tp {b : Nat → Nat} {N p : Nat} (h : tpC s b N) : tpC (atS s p) b N := tpC_fr h (by unfold atS; simp (disch := first | omega | assumption | exact Or.inl rfl | exact Or.inr rfl | exact bI_or _ | exact zC81 | exact zC47 | exact zC65 | exact zC0 | exact zC1 | exact zC32 | exact zC70 | exact zC73 | exact ztc (by assumption) | exact zdc (by assumption) | exact zpc (by assumption) | decide) only [Option.some.injEq, exists_eq_left', ex2, Option.toList, List.singleton_append, List.append_nil, List.cons_append, List.nil_append, nI_add, nI_addL, nI_Ladd, pk_mul, nI_mulL, nI_Lmul, nI_subL, pk_sub, nI_divL, sub_dm, nI_leE, nI_ltE, nI_eqE, nI_Lle, nI_leL, nI_Llt, nI_ltL, nI_eqL, va_up_self, va_up_ne, up_up, up_comm, nI_clamp, bI_eq0, not_true_eq_false, not_false_eq_true, Nat.reduceEqDiff, Nat.reduceLeDiff, Nat.reduceAdd, Nat.reduceMul, Nat.one_ne_zero, Nat.zero_ne_one, decide_eq_false_iff_not, decide_eq_true_eq, Bool.false_eq_true, decide_true, decide_false, bI_true, bI_false, one_ne, Nat.le_refl, Nat.lt_irrefl, cleT, cleF, cltT, cltF, ceqT, ceqF, ↓reduceIte]) (by unfold atS; simp (disch := first | omega | assumption | exact Or.inl rfl | exact Or.inr rfl | exact bI_or _ | exact zC81 | exact zC47 | exact zC65 | exact zC0 | exact zC1 | exact zC32 | exact zC70 | exact zC73 | exact ztc (by assumption) | exact zdc (by assumption) | exact zpc (by assumption) | decide) only [Option.some.injEq, exists_eq_left', ex2, Option.toList, List.singleton_append, List.append_nil, List.cons_append, List.nil_append, nI_add, nI_addL, nI_Ladd, pk_mul, nI_mulL, nI_Lmul, nI_subL, pk_sub, nI_divL, sub_dm, nI_leE, nI_ltE, nI_eqE, nI_Lle, nI_leL, nI_Llt, nI_ltL, nI_eqL, va_up_self, va_up_ne, up_up, up_comm, nI_clamp, bI_eq0, not_true_eq_false, not_false_eq_true, Nat.reduceEqDiff, Nat.reduceLeDiff, Nat.reduceAdd, Nat.reduceMul, Nat.one_ne_zero, Nat.zero_ne_one, decide_eq_false_iff_not, decide_eq_true_eq, Bool.false_eq_true, decide_true, decide_false, bI_true, bI_false, one_ne, Nat.le_refl, Nat.lt_irrefl, cleT, cleF, cltT, cltF, ceqT, ceqF, ↓reduceIte]) (by unfold atS; simp (disch := first | omega | assumption | exact Or.inl rfl | exact Or.inr rfl | exact bI_or _ | exact zC81 | exact zC47 | exact zC65 | exact zC0 | exact zC1 | exact zC32 | exact zC70 | exact zC73 | exact ztc (by assumption) | exact zdc (by assumption) | exact zpc (by assumption) | decide) only [Option.some.injEq, exists_eq_left', ex2, Option.toList, List.singleton_append, List.append_nil, List.cons_append, List.nil_append, nI_add, nI_addL, nI_Ladd, pk_mul, nI_mulL, nI_Lmul, nI_subL, pk_sub, nI_divL, sub_dm, nI_leE, nI_ltE, nI_eqE, nI_Lle, nI_leL, nI_Llt, nI_ltL, nI_eqL, va_up_self, va_up_ne, up_up, up_comm, nI_clamp, bI_eq0, not_true_eq_false, not_false_eq_true, Nat.reduceEqDiff, Nat.reduceLeDiff, Nat.reduceAdd, Nat.reduceMul, Nat.one_ne_zero, Nat.zero_ne_one, decide_eq_false_iff_not, decide_eq_true_eq, Bool.false_eq_true, decide_true, decide_false, bI_true, bI_false, one_ne, Nat.le_refl, Nat.lt_irrefl, cleT, cleF, cltT, cltF, ceqT, ceqF, ↓reduceIte])
theorem atS_at (s : hS) (p q : Nat) : atS (atS s p) q = atS s q := by unfold atS; simp (disch := first | omega | assumption | exact Or.inl rfl | exact Or.inr rfl | exact bI_or _ | exact zC81 | exact zC47 | exact zC65 | exact zC0 | exact zC1 | exact zC32 | exact zC70 | exact zC73 | exact ztc (by assumption) | exact zdc (by assumption) | exact zpc (by assumption) | decide) only [Option.some.injEq, exists_eq_left', ex2, Option.toList, List.singleton_append, List.append_nil, List.cons_append, List.nil_append, nI_add, nI_addL, nI_Ladd, pk_mul, nI_mulL, nI_Lmul, nI_subL, pk_sub, nI_divL, sub_dm, nI_leE, nI_ltE, nI_eqE, nI_Lle, nI_leL, nI_Llt, nI_ltL, nI_eqL, va_up_self, va_up_ne, up_up, up_comm, nI_clamp, bI_eq0, not_true_eq_false, not_false_eq_true, Nat.reduceEqDiff, Nat.reduceLeDiff, Nat.reduceAdd, Nat.reduceMul, Nat.one_ne_zero, Nat.zero_ne_one, decide_eq_false_iff_not, decide_eq_true_eq, Bool.false_eq_true, decide_true, decide_false, bI_true, bI_false, one_ne, Nat.le_refl, Nat.lt_irrefl, cleT, cleF, cltT, cltF, ceqT, ceqF, ↓reduceIte]
theorem atS_id {p : Nat} (h : s 32 9 = nI p) : atS s p = s := by unfold atS; rw [← h, up_id, up_id]
theorem atS_9 (s : hS) (p : Nat) : atS s p 32 9 = nI p := by unfold atS; simp (disch := first | omega | assumption | exact Or.inl rfl | exact Or.inr rfl | exact bI_or _ | exact zC81 | exact zC47 | exact zC65 | exact zC0 | exact zC1 | exact zC32 | exact zC70 | exact zC73 | exact ztc (by assumption) | exact zdc (by assumption) | exact zpc (by assumption) | decide) only [Option.some.injEq, exists_eq_left', ex2, Option.toList, List.singleton_append, List.append_nil, List.cons_append, List.nil_append, nI_add, nI_addL, nI_Ladd, pk_mul, nI_mulL, nI_Lmul, nI_subL, pk_sub, nI_divL, sub_dm, nI_leE, nI_ltE, nI_eqE, nI_Lle, nI_leL, nI_Llt, nI_ltL, nI_eqL, va_up_self, va_up_ne, up_up, up_comm, nI_clamp, bI_eq0, not_true_eq_false, not_false_eq_true, Nat.reduceEqDiff, Nat.reduceLeDiff, Nat.reduceAdd, Nat.reduceMul, Nat.one_ne_zero, Nat.zero_ne_one, decide_eq_false_iff_not, decide_eq_true_eq, Bool.false_eq_true, decide_true, decide_false, bI_true, bI_false, one_ne, Nat.le_refl, Nat.lt_irrefl, cleT, cleF, cltT, cltF, ceqT, ceqF, ↓reduceIte]
theorem cl_skip {b : Nat → Nat} {N : Nat} {z : Option Value × mH} : ∀ k p (s : hS), p + k = N → tpC s b N → s 32 9 = nI p → Runs xs sl (d) 88 52 [some (.ref (32))] [] (hp J (atS s (rn isBl b N p)) g) z → Runs xs sl (d) 88 0 [some (.ref (32))] [] (hp J (s) g) z := by
  intro k
  induction k with
  | zero =>
    intro p s hk hT h9 hz
    obtain ⟨t1, t2, t3, t4⟩ := id hT
    rw [rn_end (by omega), atS_id h9] at hz
    have e : p = N := by omega
    subst e
    rw [r88_0]
    simp (disch := first | omega | assumption | exact Or.inl rfl | exact Or.inr rfl | exact bI_or _ | exact zC81 | exact zC47 | exact zC65 | exact zC0 | exact zC1 | exact zC32 | exact zC70 | exact zC73 | exact ztc (by assumption) | exact zdc (by assumption) | exact zpc (by assumption) | decide) only [Option.some.injEq, exists_eq_left', ex2, Option.toList, List.singleton_append, List.append_nil, List.cons_append, List.nil_append, nI_add, nI_addL, nI_Ladd, pk_mul, nI_mulL, nI_Lmul, nI_subL, pk_sub, nI_divL, sub_dm, nI_leE, nI_ltE, nI_eqE, nI_Lle, nI_leL, nI_Llt, nI_ltL, nI_eqL, va_up_self, va_up_ne, up_up, up_comm, nI_clamp, bI_eq0, not_true_eq_false, not_false_eq_true, Nat.reduceEqDiff, Nat.reduceLeDiff, Nat.reduceAdd, Nat.reduceMul, Nat.one_ne_zero, Nat.zero_ne_one, decide_eq_false_iff_not, decide_eq_true_eq, Bool.false_eq_true, decide_true, decide_false, bI_true, bI_false, one_ne, Nat.le_refl, Nat.lt_irrefl, cleT, cleF, cltT, cltF, ceqT, ceqF, ↓reduceIte, r88_1, r88_4, r88_5, r88_8, zO32_7, zO32_9, t2, h9]
    exact hz
  | succ k ih =>
    intro p s hk hT h9 hz
    obtain ⟨t1, t2, t3, t4⟩ := id hT
    obtain ⟨u1, u2⟩ := t4 p (by omega)
    obtain ⟨v1, v2, v3⟩ := sbz_32 (b p) u1
    have p600 : p < 600 := by omega
    have nx : Runs xs sl (d) 88 0 [some (.ref (32))] [] (hp J (atS s (p + 1)) g) z → Runs xs sl (d) 88 39 [some (.ref (32))] [] (hp J (s) g) z := by
      intro h
      simp (disch := first | omega | assumption | exact Or.inl rfl | exact Or.inr rfl | exact bI_or _ | exact zC81 | exact zC47 | exact zC65 | exact zC0 | exact zC1 | exact zC32 | exact zC70 | exact zC73 | exact ztc (by assumption) | exact zdc (by assumption) | exact zpc (by assumption) | decide) only [Option.some.injEq, exists_eq_left', ex2, Option.toList, List.singleton_append, List.append_nil, List.cons_append, List.nil_append, nI_add, nI_addL, nI_Ladd, pk_mul, nI_mulL, nI_Lmul, nI_subL, pk_sub, nI_divL, sub_dm, nI_leE, nI_ltE, nI_eqE, nI_Lle, nI_leL, nI_Llt, nI_ltL, nI_eqL, va_up_self, va_up_ne, up_up, up_comm, nI_clamp, bI_eq0, not_true_eq_false, not_false_eq_true, Nat.reduceEqDiff, Nat.reduceLeDiff, Nat.reduceAdd, Nat.reduceMul, Nat.one_ne_zero, Nat.zero_ne_one, decide_eq_false_iff_not, decide_eq_true_eq, Bool.false_eq_true, decide_true, decide_false, bI_true, bI_false, one_ne, Nat.le_refl, Nat.lt_irrefl, cleT, cleF, cltT, cltF, ceqT, ceqF, ↓reduceIte, r88_39, r88_40, r88_41, r88_44, r88_45, r88_46, r88_49, zO32_9, zW32_9, h9]
      exact h
    by_cases c : isBl (b p) = true
    · rw [rn_go (by omega) c] at hz
      have hn := ih (p + 1) (atS s (p + 1)) (by omega) (atS_tp hT) (atS_9 _ _) (by rw [atS_at]; exact hz)
      have hn := nx hn
      by_cases c1 : b p = 32
      · have w1 := eq_true (v1.mpr c1)
        rw [r88_0]
        simp (disch := first | omega | assumption | exact Or.inl rfl | exact Or.inr rfl | exact bI_or _ | exact zC81 | exact zC47 | exact zC65 | exact zC0 | exact zC1 | exact zC32 | exact zC70 | exact zC73 | exact ztc (by assumption) | exact zdc (by assumption) | exact zpc (by assumption) | decide) only [Option.some.injEq, exists_eq_left', ex2, Option.toList, List.singleton_append, List.append_nil, List.cons_append, List.nil_append, nI_add, nI_addL, nI_Ladd, pk_mul, nI_mulL, nI_Lmul, nI_subL, pk_sub, nI_divL, sub_dm, nI_leE, nI_ltE, nI_eqE, nI_Lle, nI_leL, nI_Llt, nI_ltL, nI_eqL, va_up_self, va_up_ne, up_up, up_comm, nI_clamp, bI_eq0, not_true_eq_false, not_false_eq_true, Nat.reduceEqDiff, Nat.reduceLeDiff, Nat.reduceAdd, Nat.reduceMul, Nat.one_ne_zero, Nat.zero_ne_one, decide_eq_false_iff_not, decide_eq_true_eq, Bool.false_eq_true, decide_true, decide_false, bI_true, bI_false, one_ne, Nat.le_refl, Nat.lt_irrefl, cleT, cleF, cltT, cltF, ceqT, ceqF, ↓reduceIte, r88_1, r88_4, r88_5, r88_8, r88_11, r88_12, r88_15, r88_16, r88_19, r88_20, r88_22, zO32_6, zO32_7, zO32_9, zB6, t1, t2, h9, u2, w1]
        exact hn
      · have w1 : ¬ sb (b p) = 32 := fun h => c1 (v1.mp h)
        have c2 : b p = 10 := by
          unfold isBl at c
          rw [decide_eq_false c1, Bool.false_or] at c
          exact of_decide_eq_true c
        have w2 := eq_true (v2.mpr c2)
        rw [r88_0]
        simp (disch := first | omega | assumption | exact Or.inl rfl | exact Or.inr rfl | exact bI_or _ | exact zC81 | exact zC47 | exact zC65 | exact zC0 | exact zC1 | exact zC32 | exact zC70 | exact zC73 | exact ztc (by assumption) | exact zdc (by assumption) | exact zpc (by assumption) | decide) only [Option.some.injEq, exists_eq_left', ex2, Option.toList, List.singleton_append, List.append_nil, List.cons_append, List.nil_append, nI_add, nI_addL, nI_Ladd, pk_mul, nI_mulL, nI_Lmul, nI_subL, pk_sub, nI_divL, sub_dm, nI_leE, nI_ltE, nI_eqE, nI_Lle, nI_leL, nI_Llt, nI_ltL, nI_eqL, va_up_self, va_up_ne, up_up, up_comm, nI_clamp, bI_eq0, not_true_eq_false, not_false_eq_true, Nat.reduceEqDiff, Nat.reduceLeDiff, Nat.reduceAdd, Nat.reduceMul, Nat.one_ne_zero, Nat.zero_ne_one, decide_eq_false_iff_not, decide_eq_true_eq, Bool.false_eq_true, decide_true, decide_false, bI_true, bI_false, one_ne, Nat.le_refl, Nat.lt_irrefl, cleT, cleF, cltT, cltF, ceqT, ceqF, ↓reduceIte, r88_1, r88_4, r88_5, r88_8, r88_11, r88_12, r88_15, r88_16, r88_19, r88_20, r88_22, r88_25, r88_26, r88_29, r88_30, r88_33, r88_34, r88_36, zO32_6, zO32_7, zO32_9, zB6, t1, t2, h9, u2, w1, w2]
        exact hn
    · have c' : isBl (b p) = false := by cases h : isBl (b p) <;> simp_all
      rw [rn_no c', atS_id h9] at hz
      have c12 := Bool.or_eq_false_iff.mp c'
      have w1 : ¬ sb (b p) = 32 := fun h => of_decide_eq_false c12.1 (v1.mp h)
      have w2 : ¬ sb (b p) = 10 := fun h => of_decide_eq_false c12.2 (v2.mp h)
      rw [r88_0]
      simp (disch := first | omega | assumption | exact Or.inl rfl | exact Or.inr rfl | exact bI_or _ | exact zC81 | exact zC47 | exact zC65 | exact zC0 | exact zC1 | exact zC32 | exact zC70 | exact zC73 | exact ztc (by assumption) | exact zdc (by assumption) | exact zpc (by assumption) | decide) only [Option.some.injEq, exists_eq_left', ex2, Option.toList, List.singleton_append, List.append_nil, List.cons_append, List.nil_append, nI_add, nI_addL, nI_Ladd, pk_mul, nI_mulL, nI_Lmul, nI_subL, pk_sub, nI_divL, sub_dm, nI_leE, nI_ltE, nI_eqE, nI_Lle, nI_leL, nI_Llt, nI_ltL, nI_eqL, va_up_self, va_up_ne, up_up, up_comm, nI_clamp, bI_eq0, not_true_eq_false, not_false_eq_true, Nat.reduceEqDiff, Nat.reduceLeDiff, Nat.reduceAdd, Nat.reduceMul, Nat.one_ne_zero, Nat.zero_ne_one, decide_eq_false_iff_not, decide_eq_true_eq, Bool.false_eq_true, decide_true, decide_false, bI_true, bI_false, one_ne, Nat.le_refl, Nat.lt_irrefl, cleT, cleF, cltT, cltF, ceqT, ceqF, ↓reduceIte, r88_1, r88_4, r88_5, r88_8, r88_11, r88_12, r88_15, r88_16, r88_19, r88_20, r88_22, r88_25, r88_26, r88_29, r88_30, r88_33, r88_34, r88_36, zO32_6, zO32_7, zO32_9, zB6, t1, t2, h9, u2, w1, w2]
      exact hz
theorem cl_digits {b : Nat → Nat} {N : Nat} {z : Option Value × mH} : ∀ k p (s : hS), p + k = N → tpC s b N → s 32 9 = nI p → Runs xs sl (d+1) 90 39 [some (.ref (32)), none] [] (hp J (atS s (rn isDg b N p)) g) z → Runs xs sl (d+1) 90 0 [some (.ref (32)), none] [] (hp J (s) g) z := by
  intro k
  induction k with
  | zero =>
    intro p s hk hT h9 hz
    obtain ⟨t1, t2, t3, t4⟩ := id hT
    rw [rn_end (by omega), atS_id h9] at hz
    have e : p = N := by omega
    subst e
    rw [r90_0]
    simp (disch := first | omega | assumption | exact Or.inl rfl | exact Or.inr rfl | exact bI_or _ | exact zC81 | exact zC47 | exact zC65 | exact zC0 | exact zC1 | exact zC32 | exact zC70 | exact zC73 | exact ztc (by assumption) | exact zdc (by assumption) | exact zpc (by assumption) | decide) only [Option.some.injEq, exists_eq_left', ex2, Option.toList, List.singleton_append, List.append_nil, List.cons_append, List.nil_append, nI_add, nI_addL, nI_Ladd, pk_mul, nI_mulL, nI_Lmul, nI_subL, pk_sub, nI_divL, sub_dm, nI_leE, nI_ltE, nI_eqE, nI_Lle, nI_leL, nI_Llt, nI_ltL, nI_eqL, va_up_self, va_up_ne, up_up, up_comm, nI_clamp, bI_eq0, not_true_eq_false, not_false_eq_true, Nat.reduceEqDiff, Nat.reduceLeDiff, Nat.reduceAdd, Nat.reduceMul, Nat.one_ne_zero, Nat.zero_ne_one, decide_eq_false_iff_not, decide_eq_true_eq, Bool.false_eq_true, decide_true, decide_false, bI_true, bI_false, one_ne, Nat.le_refl, Nat.lt_irrefl, cleT, cleF, cltT, cltF, ceqT, ceqF, ↓reduceIte, r90_1, r90_4, r90_5, r90_8, zO32_7, zO32_9, t2, h9]
    exact hz
  | succ k ih =>
    intro p s hk hT h9 hz
    obtain ⟨t1, t2, t3, t4⟩ := id hT
    obtain ⟨u1, u2⟩ := t4 p (by omega)
    have p600 : p < 600 := by omega
    have dg := @cl_isDigit xs sl d (b p) u1
    cases c : isDg (b p)
    · rw [rn_no c, atS_id h9] at hz
      rw [c] at dg
      rw [r90_0]
      simp (disch := first | omega | assumption | exact Or.inl rfl | exact Or.inr rfl | exact bI_or _ | exact zC81 | exact zC47 | exact zC65 | exact zC0 | exact zC1 | exact zC32 | exact zC70 | exact zC73 | exact ztc (by assumption) | exact zdc (by assumption) | exact zpc (by assumption) | decide) only [Option.some.injEq, exists_eq_left', ex2, Option.toList, List.singleton_append, List.append_nil, List.cons_append, List.nil_append, nI_add, nI_addL, nI_Ladd, pk_mul, nI_mulL, nI_Lmul, nI_subL, pk_sub, nI_divL, sub_dm, nI_leE, nI_ltE, nI_eqE, nI_Lle, nI_leL, nI_Llt, nI_ltL, nI_eqL, va_up_self, va_up_ne, up_up, up_comm, nI_clamp, bI_eq0, not_true_eq_false, not_false_eq_true, Nat.reduceEqDiff, Nat.reduceLeDiff, Nat.reduceAdd, Nat.reduceMul, Nat.one_ne_zero, Nat.zero_ne_one, decide_eq_false_iff_not, decide_eq_true_eq, Bool.false_eq_true, decide_true, decide_false, bI_true, bI_false, one_ne, Nat.le_refl, Nat.lt_irrefl, cleT, cleF, cltT, cltF, ceqT, ceqF, ↓reduceIte, r90_1, r90_4, r90_5, r90_8, r90_11, r90_12, r90_15, r90_16, r90_19, r90_20, r90_23, zO32_6, zO32_7, zO32_9, zB6, t1, t2, h9, u2, dg]
      exact hz
    · rw [rn_go (by omega) c] at hz
      rw [c] at dg
      have hn := ih (p + 1) (atS s (p + 1)) (by omega) (atS_tp hT) (atS_9 _ _) (by rw [atS_at]; exact hz)
      rw [r90_0]
      simp (disch := first | omega | assumption | exact Or.inl rfl | exact Or.inr rfl | exact bI_or _ | exact zC81 | exact zC47 | exact zC65 | exact zC0 | exact zC1 | exact zC32 | exact zC70 | exact zC73 | exact ztc (by assumption) | exact zdc (by assumption) | exact zpc (by assumption) | decide) only [Option.some.injEq, exists_eq_left', ex2, Option.toList, List.singleton_append, List.append_nil, List.cons_append, List.nil_append, nI_add, nI_addL, nI_Ladd, pk_mul, nI_mulL, nI_Lmul, nI_subL, pk_sub, nI_divL, sub_dm, nI_leE, nI_ltE, nI_eqE, nI_Lle, nI_leL, nI_Llt, nI_ltL, nI_eqL, va_up_self, va_up_ne, up_up, up_comm, nI_clamp, bI_eq0, not_true_eq_false, not_false_eq_true, Nat.reduceEqDiff, Nat.reduceLeDiff, Nat.reduceAdd, Nat.reduceMul, Nat.one_ne_zero, Nat.zero_ne_one, decide_eq_false_iff_not, decide_eq_true_eq, Bool.false_eq_true, decide_true, decide_false, bI_true, bI_false, one_ne, Nat.le_refl, Nat.lt_irrefl, cleT, cleF, cltT, cltF, ceqT, ceqF, ↓reduceIte, r90_1, r90_4, r90_5, r90_8, r90_11, r90_12, r90_15, r90_16, r90_19, r90_20, r90_23, r90_26, r90_27, r90_28, r90_31, r90_32, r90_33, r90_36, zO32_6, zO32_7, zO32_9, zW32_9, zB6, t1, t2, h9, u2, dg, Bool.true_eq_false]
      exact hn
theorem cl_letters {b : Nat → Nat} {N : Nat} {z : Option Value × mH} : ∀ k p (s : hS), p + k = N → tpC s b N → s 32 9 = nI p → Runs xs sl (d+1) 92 39 [some (.ref (32)), none, none, none] [] (hp J (atS s (rn isLt b N p)) g) z → Runs xs sl (d+1) 92 0 [some (.ref (32)), none, none, none] [] (hp J (s) g) z := by
  intro k
  induction k with
  | zero =>
    intro p s hk hT h9 hz
    obtain ⟨t1, t2, t3, t4⟩ := id hT
    rw [rn_end (by omega), atS_id h9] at hz
    have e : p = N := by omega
    subst e
    rw [r92_0]
    simp (disch := first | omega | assumption | exact Or.inl rfl | exact Or.inr rfl | exact bI_or _ | exact zC81 | exact zC47 | exact zC65 | exact zC0 | exact zC1 | exact zC32 | exact zC70 | exact zC73 | exact ztc (by assumption) | exact zdc (by assumption) | exact zpc (by assumption) | decide) only [Option.some.injEq, exists_eq_left', ex2, Option.toList, List.singleton_append, List.append_nil, List.cons_append, List.nil_append, nI_add, nI_addL, nI_Ladd, pk_mul, nI_mulL, nI_Lmul, nI_subL, pk_sub, nI_divL, sub_dm, nI_leE, nI_ltE, nI_eqE, nI_Lle, nI_leL, nI_Llt, nI_ltL, nI_eqL, va_up_self, va_up_ne, up_up, up_comm, nI_clamp, bI_eq0, not_true_eq_false, not_false_eq_true, Nat.reduceEqDiff, Nat.reduceLeDiff, Nat.reduceAdd, Nat.reduceMul, Nat.one_ne_zero, Nat.zero_ne_one, decide_eq_false_iff_not, decide_eq_true_eq, Bool.false_eq_true, decide_true, decide_false, bI_true, bI_false, one_ne, Nat.le_refl, Nat.lt_irrefl, cleT, cleF, cltT, cltF, ceqT, ceqF, ↓reduceIte, r92_1, r92_4, r92_5, r92_8, zO32_7, zO32_9, t2, h9]
    exact hz
  | succ k ih =>
    intro p s hk hT h9 hz
    obtain ⟨t1, t2, t3, t4⟩ := id hT
    obtain ⟨u1, u2⟩ := t4 p (by omega)
    have p600 : p < 600 := by omega
    have dg := @cl_isLetter xs sl d (b p) u1
    cases c : isLt (b p)
    · rw [rn_no c, atS_id h9] at hz
      rw [c] at dg
      rw [r92_0]
      simp (disch := first | omega | assumption | exact Or.inl rfl | exact Or.inr rfl | exact bI_or _ | exact zC81 | exact zC47 | exact zC65 | exact zC0 | exact zC1 | exact zC32 | exact zC70 | exact zC73 | exact ztc (by assumption) | exact zdc (by assumption) | exact zpc (by assumption) | decide) only [Option.some.injEq, exists_eq_left', ex2, Option.toList, List.singleton_append, List.append_nil, List.cons_append, List.nil_append, nI_add, nI_addL, nI_Ladd, pk_mul, nI_mulL, nI_Lmul, nI_subL, pk_sub, nI_divL, sub_dm, nI_leE, nI_ltE, nI_eqE, nI_Lle, nI_leL, nI_Llt, nI_ltL, nI_eqL, va_up_self, va_up_ne, up_up, up_comm, nI_clamp, bI_eq0, not_true_eq_false, not_false_eq_true, Nat.reduceEqDiff, Nat.reduceLeDiff, Nat.reduceAdd, Nat.reduceMul, Nat.one_ne_zero, Nat.zero_ne_one, decide_eq_false_iff_not, decide_eq_true_eq, Bool.false_eq_true, decide_true, decide_false, bI_true, bI_false, one_ne, Nat.le_refl, Nat.lt_irrefl, cleT, cleF, cltT, cltF, ceqT, ceqF, ↓reduceIte, r92_1, r92_4, r92_5, r92_8, r92_11, r92_12, r92_15, r92_16, r92_19, r92_20, r92_23, zO32_6, zO32_7, zO32_9, zB6, t1, t2, h9, u2, dg]
      exact hz
    · rw [rn_go (by omega) c] at hz
      rw [c] at dg
      have hn := ih (p + 1) (atS s (p + 1)) (by omega) (atS_tp hT) (atS_9 _ _) (by rw [atS_at]; exact hz)
      rw [r92_0]
      simp (disch := first | omega | assumption | exact Or.inl rfl | exact Or.inr rfl | exact bI_or _ | exact zC81 | exact zC47 | exact zC65 | exact zC0 | exact zC1 | exact zC32 | exact zC70 | exact zC73 | exact ztc (by assumption) | exact zdc (by assumption) | exact zpc (by assumption) | decide) only [Option.some.injEq, exists_eq_left', ex2, Option.toList, List.singleton_append, List.append_nil, List.cons_append, List.nil_append, nI_add, nI_addL, nI_Ladd, pk_mul, nI_mulL, nI_Lmul, nI_subL, pk_sub, nI_divL, sub_dm, nI_leE, nI_ltE, nI_eqE, nI_Lle, nI_leL, nI_Llt, nI_ltL, nI_eqL, va_up_self, va_up_ne, up_up, up_comm, nI_clamp, bI_eq0, not_true_eq_false, not_false_eq_true, Nat.reduceEqDiff, Nat.reduceLeDiff, Nat.reduceAdd, Nat.reduceMul, Nat.one_ne_zero, Nat.zero_ne_one, decide_eq_false_iff_not, decide_eq_true_eq, Bool.false_eq_true, decide_true, decide_false, bI_true, bI_false, one_ne, Nat.le_refl, Nat.lt_irrefl, cleT, cleF, cltT, cltF, ceqT, ceqF, ↓reduceIte, r92_1, r92_4, r92_5, r92_8, r92_11, r92_12, r92_15, r92_16, r92_19, r92_20, r92_23, r92_26, r92_27, r92_28, r92_31, r92_32, r92_33, r92_36, zO32_6, zO32_7, zO32_9, zW32_9, zB6, t1, t2, h9, u2, dg, Bool.true_eq_false]
      exact hn
end TXA
