/-! SHARES: the sums over parts of a set, pure and in the machine -/
section DPP
variable {xs : Nat → Int32} {sl d : Nat} {J : hJk} {s x y : hS} {g : hG}
def subF (f : Int32 → Nat → Int32) (set : Nat) : Nat → Nat → Int32 → Int32
  | 0, _, a => a
  | k + 1, p, a => if p = 0 then f a 0 else subF f set k ((p - 1) &&& set) (f a p)
theorem subF_s (f : Int32 → Nat → Int32) {set p : Nat} {a : Int32} : subF f set 257 p a = if p = 0 then f a 0 else subF f set 256 ((p - 1) &&& set) (f a p) := rfl
def bd (B : Int) (x : Int32) : Prop := -B ≤ x.toInt ∧ x.toInt ≤ B
theorem bd_add {A B : Int} {x y : Int32} (h1 : bd A x) (h2 : bd B y) (h : A + B ≤ 100000) : bd (A + B) (x + y) := by
  unfold bd at *
  rw [Int32.toInt_add, Int.bmod_eq_of_le (by omega) (by omega)]
  omega
theorem bd_mono {A B : Int} {x : Int32} (h1 : bd A x) (h : A ≤ B) : bd B x := by
  unfold bd at *
  omega
theorem bd_W {v e : Int32} (hv : ∃ k : Nat, 1 ≤ k ∧ k ≤ 9 ∧ v = nI k) : bd 9 (v * sg e) := by
  obtain ⟨k, k1, k2, rfl⟩ := hv
  have h9 : k = 1 ∨ k = 2 ∨ k = 3 ∨ k = 4 ∨ k = 5 ∨ k = 6 ∨ k = 7 ∨ k = 8 ∨ k = 9 := by omega
  have q : ∀ k, k < 10 → bd 9 (nI k * 0) ∧ bd 9 (nI k * 1) ∧ bd 9 (nI k * (-1)) := by
    unfold bd
    decide +kernel
  obtain ⟨q1, q2, q3⟩ := q k (by omega)
  rcases sg_S e with z | z | z
  · rw [z]; exact q1
  · rw [z]; exact q2
  · rw [z]; exact q3
theorem subF_rel {f f' : Int32 → Nat → Int32} {set : Nat} {Q : Int32 → Prop} (h : ∀ a p, p ≤ set → Q a → f a p = f' a p ∧ Q (f a p)) : ∀ k p a, p ≤ set → Q a → subF f set k p a = subF f' set k p a ∧ Q (subF f set k p a) := by
  intro k
  induction k with
  | zero => exact fun p a _ hq => ⟨rfl, hq⟩
  | succ k ih =>
    intro p a hp' hq
    rw [subF, subF]
    by_cases c : p = 0
    · rw [if_pos c, if_pos c]
      obtain ⟨h1, h2⟩ := h a 0 (Nat.zero_le _) hq
      exact ⟨h1, h2⟩
    · rw [if_neg c, if_neg c]
      obtain ⟨h1, h2⟩ := h a p hp' hq
      rw [← h1]
      exact ih _ _ (Nat.and_le_right) h2
def fC (T W : Nat → Int32) (set : Nat) (a : Int32) (p : Nat) : Int32 := if a < T (set - p) + W p then T (set - p) + W p else a
def fR (G W : Nat → Int32) (set : Nat) (a : Int32) (p : Nat) : Int32 := if G (set - p) = -1000 then a else if G (set - p) + W p ≤ a then a else G (set - p) + W p
def nC (T W : Nat → Int32) (set : Nat) : Int32 := subF (fC T W set) set 257 set (-100000)
def nR (G W : Nat → Int32) (set : Nat) : Int32 := subF (fR G W set) set 257 set (-1000)
/-- the two tables: at first, and behind a house or more -/
def TG0 (N : Nat) (T G : Nat → Int32) : Prop := T 0 = 0 ∧ G 0 = 0 ∧ ∀ v, v < N → v ≠ 0 → T v = -100000 ∧ G v = -1000
def TGj (N j : Nat) (T G : Nat → Int32) : Prop := ∀ v, v < N → T v = G v ∧ bd (9 * j) (T v)
theorem toM1 : (-1000 : Int32).toInt = -1000 := rfl
theorem toM2 : (-100000 : Int32).toInt = -100000 := rfl
theorem sub_lt' {set p : Nat} (hp' : p ≤ set) (hne : p ≠ set) : set - p ≠ 0 := by omega
theorem nx0 {N set : Nat} {T G W : Nat → Int32} (h : TG0 N T G) (hW : ∀ p, p < N → bd 9 (W p)) (hs : set < N) : nC T W set = nR G W set ∧ bd (9 * 1) (nC T W set) := by
  obtain ⟨h1, h2, h3⟩ := h
  have w := hW set hs
  have a0 : fC T W set (-100000) set = W set := by
    unfold fC
    rw [Nat.sub_self, h1, Int32.zero_add, if_pos]
    unfold bd at w
    rw [Int32.lt_iff_toInt_lt, toM2]
    omega
  have b0 : fR G W set (-1000) set = W set := by
    unfold fR
    rw [Nat.sub_self, h2, Int32.zero_add, if_neg (by decide), if_neg]
    unfold bd at w
    rw [Int32.le_iff_toInt_le, toM1]
    omega
  unfold nC nR
  rw [subF_s (fC T W set), subF_s (fR G W set)]
  by_cases c : set = 0
  · subst c
    rw [if_pos rfl, if_pos rfl, a0, b0]
    exact ⟨rfl, w⟩
  · rw [if_neg c, if_neg c, a0, b0]
    have q : ∀ (f : Int32 → Nat → Int32), (∀ p, p < set → f (W set) p = W set) → ∀ k p, p < set → subF f set k p (W set) = W set := by
      intro f hf k
      induction k with
      | zero => exact fun p _ => rfl
      | succ k ih =>
        intro p hp'
        rw [subF]
        by_cases z : p = 0
        · subst z
          rw [if_pos rfl]
          exact hf 0 hp'
        · rw [if_neg z, hf p hp']
          exact ih _ (Nat.lt_of_le_of_lt Nat.and_le_left (by omega))
    have lt : (set - 1) &&& set < set := Nat.lt_of_le_of_lt Nat.and_le_left (by omega)
    rw [q _ (fun p hp' => ?_) 256 _ lt, q _ (fun p hp' => ?_) 256 _ lt]
    · exact ⟨rfl, w⟩
    · unfold fR
      rw [(h3 (set - p) (by omega) (by omega)).2, if_pos rfl]
    · have wp := hW p (by omega)
      unfold fC
      rw [(h3 (set - p) (by omega) (by omega)).1, if_neg]
      unfold bd at w wp
      rw [Int32.lt_iff_toInt_lt, Int32.toInt_add, toM2, Int.bmod_eq_of_le (by omega) (by omega)]
      omega
theorem nxj {N j set : Nat} {T G W : Nat → Int32} (hj : j ≤ 8) (h : TGj N j T G) (hW : ∀ p, p < N → bd 9 (W p)) (hs : set < N) : nC T W set = nR G W set ∧ bd (9 * (j + 1 : Nat)) (nC T W set) := by
  have v0 : ∀ p, p ≤ set → bd (9 * (j + 1 : Nat)) (T (set - p) + W p) := by
    intro p hp'
    have b1 := (h (set - p) (by omega)).2
    have q := bd_add b1 (hW p (by omega)) (by omega)
    exact bd_mono q (by omega)
  have ne : ∀ p, p ≤ set → ¬ G (set - p) = -1000 := by
    intro p hp' z
    have b1 := h (set - p) (by omega)
    rw [b1.1, z] at b1
    have b2 := b1.2
    unfold bd at b2
    rw [toM1] at b2
    omega
  have e0 : ∀ p, p ≤ set → G (set - p) = T (set - p) := fun p hp' => (h (set - p) (by omega)).1.symm
  have a0 : fC T W set (-100000) set = T (set - set) + W set := by
    have w := v0 set (Nat.le_refl _)
    unfold fC
    rw [if_pos]
    unfold bd at w
    rw [Int32.lt_iff_toInt_lt, toM2]
    omega
  have b0 : fR G W set (-1000) set = T (set - set) + W set := by
    have w := v0 set (Nat.le_refl _)
    unfold fR
    rw [if_neg (ne set (Nat.le_refl _)), e0 set (Nat.le_refl _), if_neg]
    unfold bd at w
    rw [Int32.le_iff_toInt_le, toM1]
    omega
  have st : ∀ a p, p ≤ set → bd (9 * (j + 1 : Nat)) a → fC T W set a p = fR G W set a p ∧ bd (9 * (j + 1 : Nat)) (fC T W set a p) := by
    intro a p hp' ha
    unfold fC fR
    rw [if_neg (ne p hp'), e0 p hp']
    by_cases c : a < T (set - p) + W p
    · rw [if_pos c, if_neg (Int32.not_le.mpr c)]
      exact ⟨rfl, v0 p hp'⟩
    · rw [if_neg c, if_pos (Int32.not_lt.mp c)]
      exact ⟨rfl, ha⟩
  unfold nC nR
  rw [subF_s (fC T W set), subF_s (fR G W set)]
  by_cases c : set = 0
  · subst c
    rw [if_pos rfl, if_pos rfl, a0, b0]
    exact ⟨rfl, v0 0 (Nat.le_refl _)⟩
  · rw [if_neg c, if_neg c, a0, b0]
    exact subF_rel st 256 _ _ Nat.and_le_right (v0 set (Nat.le_refl _))
/-- the class's table behind a house -/
theorem ml_inner {a n h L t set : Nat} {v : Int32} (hT : cT s a n h) (ht : t < n) (h8 : s 65 8 = nI t) (hset : set < 256) {l1 : Option Value} {z : Option Value × mH} : ∀ k p am, p < k → p ≤ set → (∀ l5, Runs xs sl (d+1) 69 86 [some (.ref (65)), some (.int (v)), some (.int ( nI set)), some (.int ( subF (fC (s 67) (fun p => v * sg (s 66 (6 * p + t))) set) set k p am)), some (.int ( (-1))), l5] [] (hp J (s) g) z) → ∀ l5, Runs xs sl (d+1) 69 22 [some (.ref (65)), some (.int (v)), some (.int ( nI set)), some (.int (am)), some (.int ( nI p)), l5] [] (hp J (s) g) z := by
  have hn6 := hT.2.2.2.2.1
  have m1 : (-1 : Int32) < 0 := by decide
  intro k
  induction k with
  | zero => exact fun p am hk => absurd hk (by omega)
  | succ k ih =>
    intro p am hk hps hz l5
    rw [r69_22]
    rw [subF] at hz
    have e : (if am < s 67 (set - p) + v * sg (s 66 (6 * p + t)) then s 67 (set - p) + v * sg (s 66 (6 * p + t)) else am) = fC (s 67) (fun p => v * sg (s 66 (6 * p + t))) set am p := rfl
    by_cases c : p = 0
    · subst c
      rw [if_pos rfl] at hz
      simp (disch := first | omega | assumption | exact Or.inl rfl | exact Or.inr rfl | exact bI_or _ | exact zC81 | exact zC47 | exact zC65 | exact zC0 | exact zC1 | exact zC32 | exact zC70 | exact zC73 | exact ztc (by assumption) | exact zdc (by assumption) | exact zpc (by assumption) | decide) only [Option.some.injEq, exists_eq_left', ex2, Option.toList, List.singleton_append, List.append_nil, List.cons_append, List.nil_append, nI_add, nI_addL, nI_Ladd, pk_mul, nI_mulL, nI_Lmul, nI_subL, pk_sub, nI_divL, sub_dm, nI_leE, nI_ltE, nI_eqE, nI_Lle, nI_leL, nI_Llt, nI_ltL, nI_eqL, va_up_self, va_up_ne, up_up, up_comm, nI_clamp, bI_eq0, not_true_eq_false, not_false_eq_true, Nat.reduceEqDiff, Nat.reduceLeDiff, Nat.reduceAdd, Nat.reduceMul, Nat.one_ne_zero, Nat.zero_ne_one, decide_eq_false_iff_not, decide_eq_true_eq, Bool.false_eq_true, decide_true, decide_false, bI_true, bI_false, one_ne, Nat.le_refl, Nat.lt_irrefl, cleT, cleF, cltT, cltF, ceqT, ceqF, ↓reduceIte, r69_24, r69_27, r69_28, r69_31, r69_33, r69_35, r69_36, r69_37, r69_40, r69_41, r69_42, r69_45, r69_47, r69_48, r69_49, r69_52, r69_53, r69_55, r69_56, r69_57, r69_58, r69_60, r69_61, r69_62, r69_65, r69_66, r69_68, r69_71, r69_72, r69_75, r69_77, r69_78, r69_79, r69_80, r69_81, r69_83, zO65_4, zO65_5, zO65_8, h8, zA66, zA67, zx_signum, e]
      rw [r69_22]
      simp (disch := first | omega | assumption | exact Or.inl rfl | exact Or.inr rfl | exact bI_or _ | exact zC81 | exact zC47 | exact zC65 | exact zC0 | exact zC1 | exact zC32 | exact zC70 | exact zC73 | exact ztc (by assumption) | exact zdc (by assumption) | exact zpc (by assumption) | decide) only [Option.some.injEq, exists_eq_left', ex2, Option.toList, List.singleton_append, List.append_nil, List.cons_append, List.nil_append, nI_add, nI_addL, nI_Ladd, pk_mul, nI_mulL, nI_Lmul, nI_subL, pk_sub, nI_divL, sub_dm, nI_leE, nI_ltE, nI_eqE, nI_Lle, nI_leL, nI_Llt, nI_ltL, nI_eqL, va_up_self, va_up_ne, up_up, up_comm, nI_clamp, bI_eq0, not_true_eq_false, not_false_eq_true, Nat.reduceEqDiff, Nat.reduceLeDiff, Nat.reduceAdd, Nat.reduceMul, Nat.one_ne_zero, Nat.zero_ne_one, decide_eq_false_iff_not, decide_eq_true_eq, Bool.false_eq_true, decide_true, decide_false, bI_true, bI_false, one_ne, Nat.le_refl, Nat.lt_irrefl, cleT, cleF, cltT, cltF, ceqT, ceqF, ↓reduceIte, r69_24, m1]
      exact hz _
    · rw [if_neg c] at hz
      have nx := ih ((p - 1) &&& set) (fC (s 67) (fun p => v * sg (s 66 (6 * p + t))) set am p) (Nat.lt_of_le_of_lt Nat.and_le_left (by omega)) Nat.and_le_right hz
      simp (disch := first | omega | assumption | exact Or.inl rfl | exact Or.inr rfl | exact bI_or _ | exact zC81 | exact zC47 | exact zC65 | exact zC0 | exact zC1 | exact zC32 | exact zC70 | exact zC73 | exact ztc (by assumption) | exact zdc (by assumption) | exact zpc (by assumption) | decide) only [Option.some.injEq, exists_eq_left', ex2, Option.toList, List.singleton_append, List.append_nil, List.cons_append, List.nil_append, nI_add, nI_addL, nI_Ladd, pk_mul, nI_mulL, nI_Lmul, nI_subL, pk_sub, nI_divL, sub_dm, nI_leE, nI_ltE, nI_eqE, nI_Lle, nI_leL, nI_Llt, nI_ltL, nI_eqL, va_up_self, va_up_ne, up_up, up_comm, nI_clamp, bI_eq0, not_true_eq_false, not_false_eq_true, Nat.reduceEqDiff, Nat.reduceLeDiff, Nat.reduceAdd, Nat.reduceMul, Nat.one_ne_zero, Nat.zero_ne_one, decide_eq_false_iff_not, decide_eq_true_eq, Bool.false_eq_true, decide_true, decide_false, bI_true, bI_false, one_ne, Nat.le_refl, Nat.lt_irrefl, cleT, cleF, cltT, cltF, ceqT, ceqF, ↓reduceIte, r69_24, r69_27, r69_28, r69_31, r69_33, r69_35, r69_36, r69_37, r69_40, r69_41, r69_42, r69_45, r69_47, r69_48, r69_49, r69_52, r69_53, r69_55, r69_56, r69_57, r69_58, r69_60, r69_61, r69_62, r69_65, r69_66, r69_68, r69_71, r69_72, r69_75, r69_77, r69_78, r69_79, r69_80, r69_81, r69_83, zO65_4, zO65_5, zO65_8, h8, zA66, zA67, zx_signum, e, and_nI]
      exact nx _
theorem m1_step {N i : Nat} (hi : i < N) : nI (N - i) - 1 = nI (N - 1 - i) ∧ (nI (N - i) - 1) + (-1) = nI (N - (i + 1)) - 1 := by
  have e : nI (N - i) - 1 = nI (N - 1 - i) := by
    rw [show N - i = (N - 1 - i) + 1 by omega, nI_pred]
  refine ⟨e, ?_⟩
  rw [e, show N - (i + 1) = N - 1 - i by omega, Int32.sub_eq_add_neg]
theorem ml_addHouse {a n h L t : Nat} {v : Int32} (hT : cT s a n h) (hL : s 47 1 = nI L) (hL8 : L ≤ 8) (ht : t < n) (h8 : s 65 8 = nI t) : ∃ s' : hS, Runs xs sl (d+1) 69 0 [some (.ref (65)), some (.int (v)), none, none, none, none] [] (hp J (s) g) (none, hp J s' g) ∧ (∀ c, c ≠ 67 → s' c = s c) ∧ ∀ set, set < 2 ^ L → s' 67 set = nC (s 67) (fun p => v * sg (s 66 (6 * p + t))) set := by
  have p8 := pw8 hL8
  have p0 : 0 < 2 ^ L := Nat.pow_pos (by decide)
  have ha' : a = 7 ∨ a = 19 ∨ a = 33 ∨ a = 48 := hT.1
  obtain ⟨s1, ⟨q1, q2⟩, q3⟩ := up_loop (Q := fun i (s1 : hS) => (∀ c, c ≠ 67 → s1 c = s c) ∧ ∀ w, w < 2 ^ L → s1 67 w = if 2 ^ L - i ≤ w then nC (s 67) (fun p => v * sg (s 66 (6 * p + t))) w else s 67 w) (P := fun i (s1 : hS) (z : Option Value × mH) => ∀ l3 l4 l5, Runs xs sl (d+1) 69 12 [some (.ref (65)), some (.int (v)), some (.int ( nI (2 ^ L - i) - 1)), l3, l4, l5] [] (hp J (s1) g) z) (2 ^ L) (by
    intro i s1 hi hQ
    obtain ⟨i1, i2⟩ := hQ
    obtain ⟨m1, m2⟩ := m1_step hi
    generalize hset : 2 ^ L - 1 - i = set at *
    have hs256 : set < 256 := by omega
    have hT1 : cT s1 a n h := cT_fr hT (by rw [i1 47 (by decide)]) (i1 a (by omega))
    have g8 : s1 65 8 = nI t := by rw [i1 65 (by decide)]; exact h8
    have e67 : ∀ w, w ≤ set → s1 67 w = s 67 w := fun w hw => by rw [i2 w (by omega), if_neg (by omega)]
    have e66 : s1 66 = s 66 := i1 66 (by decide)
    have en : subF (fC (s1 67) (fun p => v * sg (s1 66 (6 * p + t))) set) set 257 set (-100000) = nC (s 67) (fun p => v * sg (s 66 (6 * p + t))) set := by
      unfold nC
      refine (subF_rel (Q := fun _ => True) (fun a p hp' _ => ⟨?_, trivial⟩) 257 set _ (Nat.le_refl _) trivial).1
      unfold fC
      rw [e67 _ (by omega), e66]
    refine ⟨va_up s1 67 (va_up (s1 67) set (nC (s 67) (fun p => v * sg (s 66 (6 * p + t))) set)), ⟨fun c hc => by rw [va_up_ne _ _ hc]; exact i1 c hc, fun w hw => ?_⟩, fun z hz l3 l4 l5 => ?_⟩
    · rw [va_up_self]
      by_cases e : w = set
      · subst e
        rw [va_up_self, if_pos (by omega)]
      · rw [va_up_ne _ _ e, i2 w hw]
        by_cases k : 2 ^ L - i ≤ w
        · rw [if_pos k, if_pos (by omega)]
        · rw [if_neg k, if_neg (by omega)]
    · rw [r69_12, m1]
      have inn := @ml_inner xs sl d J s1 g a n h L t set v hT1 ht g8 hs256 none z 257 set (-100000) (by omega) (Nat.le_refl _)
      rw [en] at inn
      rw [← m2, m1] at hz
      simp (disch := first | omega | assumption | exact Or.inl rfl | exact Or.inr rfl | exact bI_or _ | exact zC81 | exact zC47 | exact zC65 | exact zC0 | exact zC1 | exact zC32 | exact zC70 | exact zC73 | exact ztc (by assumption) | exact zdc (by assumption) | exact zpc (by assumption) | decide) only [Option.some.injEq, exists_eq_left', ex2, Option.toList, List.singleton_append, List.append_nil, List.cons_append, List.nil_append, nI_add, nI_addL, nI_Ladd, pk_mul, nI_mulL, nI_Lmul, nI_subL, pk_sub, nI_divL, sub_dm, nI_leE, nI_ltE, nI_eqE, nI_Lle, nI_leL, nI_Llt, nI_ltL, nI_eqL, va_up_self, va_up_ne, up_up, up_comm, nI_clamp, bI_eq0, not_true_eq_false, not_false_eq_true, Nat.reduceEqDiff, Nat.reduceLeDiff, Nat.reduceAdd, Nat.reduceMul, Nat.one_ne_zero, Nat.zero_ne_one, decide_eq_false_iff_not, decide_eq_true_eq, Bool.false_eq_true, decide_true, decide_false, bI_true, bI_false, one_ne, Nat.le_refl, Nat.lt_irrefl, cleT, cleF, cltT, cltF, ceqT, ceqF, ↓reduceIte, r69_13, r69_16, r69_18, r69_19, r69_20]
      refine inn ?_ l5
      intro l5
      simp (disch := first | omega | assumption | exact Or.inl rfl | exact Or.inr rfl | exact bI_or _ | exact zC81 | exact zC47 | exact zC65 | exact zC0 | exact zC1 | exact zC32 | exact zC70 | exact zC73 | exact ztc (by assumption) | exact zdc (by assumption) | exact zpc (by assumption) | decide) only [Option.some.injEq, exists_eq_left', ex2, Option.toList, List.singleton_append, List.append_nil, List.cons_append, List.nil_append, nI_add, nI_addL, nI_Ladd, pk_mul, nI_mulL, nI_Lmul, nI_subL, pk_sub, nI_divL, sub_dm, nI_leE, nI_ltE, nI_eqE, nI_Lle, nI_leL, nI_Llt, nI_ltL, nI_eqL, va_up_self, va_up_ne, up_up, up_comm, nI_clamp, bI_eq0, not_true_eq_false, not_false_eq_true, Nat.reduceEqDiff, Nat.reduceLeDiff, Nat.reduceAdd, Nat.reduceMul, Nat.one_ne_zero, Nat.zero_ne_one, decide_eq_false_iff_not, decide_eq_true_eq, Bool.false_eq_true, decide_true, decide_false, bI_true, bI_false, one_ne, Nat.le_refl, Nat.lt_irrefl, cleT, cleF, cltT, cltF, ceqT, ceqF, ↓reduceIte, r69_86, r69_87, r69_90, r69_91, r69_92, r69_93, r69_96, zO65_5, zS67]
      exact hz _ _ _) s ⟨fun c _ => rfl, fun w hw => by rw [if_neg (by omega)]⟩
  refine ⟨s1, ?_, q1, fun set hset => by rw [q2 set hset, if_pos (by omega)]⟩
  have e1 : nI (2 ^ L - 0) - 1 = nI (2 ^ L) - 1 := rfl
  simp (disch := first | omega | assumption | exact zC47) only [r69_0, r69_1, r69_2, r69_5, r69_8, r69_9, r69_10, r69_11, zO65_3, zO47_1, hL, sh1, Option.some.injEq, exists_eq_left']
  refine q3 _ ?_ none none none
  intro l3 l4 l5
  rw [r69_12]
  have z : nI (2 ^ L - 2 ^ L) - 1 < 0 := by
    rw [Nat.sub_self]
    decide
  simp (disch := first | omega | assumption | exact Or.inl rfl | exact Or.inr rfl | exact bI_or _ | exact zC81 | exact zC47 | exact zC65 | exact zC0 | exact zC1 | exact zC32 | exact zC70 | exact zC73 | exact ztc (by assumption) | exact zdc (by assumption) | exact zpc (by assumption) | decide) only [Option.some.injEq, exists_eq_left', ex2, Option.toList, List.singleton_append, List.append_nil, List.cons_append, List.nil_append, nI_add, nI_addL, nI_Ladd, pk_mul, nI_mulL, nI_Lmul, nI_subL, pk_sub, nI_divL, sub_dm, nI_leE, nI_ltE, nI_eqE, nI_Lle, nI_leL, nI_Llt, nI_ltL, nI_eqL, va_up_self, va_up_ne, up_up, up_comm, nI_clamp, bI_eq0, not_true_eq_false, not_false_eq_true, Nat.reduceEqDiff, Nat.reduceLeDiff, Nat.reduceAdd, Nat.reduceMul, Nat.one_ne_zero, Nat.zero_ne_one, decide_eq_false_iff_not, decide_eq_true_eq, Bool.false_eq_true, decide_true, decide_false, bI_true, bI_false, one_ne, Nat.le_refl, Nat.lt_irrefl, cleT, cleF, cltT, cltF, ceqT, ceqF, ↓reduceIte, r69_13, r69_99, z]
end DPP
