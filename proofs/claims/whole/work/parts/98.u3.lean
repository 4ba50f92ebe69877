/-! FITS: the reference's rows, all; and what they count -/
section RW3
variable {xs : Nat → Int32} {sl d : Nat} {J : hJk} {s x y : hS} {g : hG}
theorem rf_rowsOf {c0 n li c : Nat} {kd tp : Nat → Nat} {vv : Nat → Int32} {a1 a2 : Int32} {sk : Nat → Nat → Bool} (hP : rP s c0 n li c kd tp vv) (hsk : ∀ t v, t < n → v < 7 → sk t v = (decide (nI t = a1) && !decide (nI v - 3 = a2))) : ∃ g1 : hG, Runs xs sl (d + 3) 269 0 [some (.ref 81), some (.int a1), some (.int a2), none, none, none, none] [] (hp J s g) (some (.long (lN (sumN (rwF (msF kd tp vv c) sk n) (li + 1)))), hp J s g1) ∧ GK g g1 := by
  have hP' := hP
  obtain ⟨p1, p2, p2', p3, p4, p5, p6, p7, p8, p9⟩ := hP'
  obtain ⟨g1, a1', a2', a3⟩ := @rw_start xs sl (d + 3) J s g a1 a2
  obtain ⟨g2, ⟨q1, q2⟩, q3⟩ := up_loop (Q := fun t (g2 : hG) => GK g g2 ∧ ∀ k, k < 13 → g2 100 k = lN (rwF (msF kd tp vv c) sk t k)) (P := fun t (g2 : hG) (z : Option Value × mH) => ∀ l4 l5 l6, Runs xs sl (d + 3) 269 31 [some (.ref 81), some (.int a1), some (.int a2), some (.int (nI t)), l4, l5, l6] [] (hp J s g2) z) n (by
    intro t g2 ht hQ
    obtain ⟨g3, b1, b2, b3⟩ := @rw_topic xs sl d J s g2 c0 n li c t kd tp vv a1 a2 sk _ hP ht (fun v hv => hsk t v ht hv) hQ.2
    exact ⟨g3, ⟨fun c h1 h2 => (b1 c h1 h2).trans (hQ.1 c h1 h2), b2⟩, b3⟩) g1 ⟨a1', a2'⟩
  refine ⟨g2, a3 _ (q3 _ ?_), q1⟩
  intro l4 l5 l6
  generalize rwF (msF kd tp vv c) sk n = f at *
  rw [r269_31]
  simp (disch := first | omega | assumption | exact Or.inl rfl | exact Or.inr rfl | exact bI_or _ | exact zC81 | exact zC47 | exact zC65 | exact zC0 | exact zC1 | exact zC32 | exact zC70 | exact zC73 | exact ztc (by assumption) | exact zdc (by assumption) | exact zpc (by assumption) | decide) only [Option.some.injEq, exists_eq_left', ex2, Option.toList, List.singleton_append, List.append_nil, List.cons_append, List.nil_append, nI_add, nI_addL, nI_Ladd, pk_mul, nI_mulL, nI_Lmul, nI_subL, pk_sub, nI_divL, sub_dm, nI_leE, nI_ltE, nI_eqE, nI_Lle, nI_leL, nI_Llt, nI_ltL, nI_eqL, va_up_self, va_up_ne, up_up, up_comm, nI_clamp, bI_eq0, not_true_eq_false, not_false_eq_true, Nat.reduceEqDiff, Nat.reduceLeDiff, Nat.reduceAdd, Nat.reduceMul, Nat.one_ne_zero, Nat.zero_ne_one, decide_eq_false_iff_not, decide_eq_true_eq, Bool.false_eq_true, decide_true, decide_false, bI_true, bI_false, one_ne, Nat.le_refl, Nat.lt_irrefl, cleT, cleF, cltT, cltF, ceqT, ceqF, ↓reduceIte, r269_32, r269_33, r269_36, r269_37, r269_40, r269_41, r269_182, r269_183, r269_184, r269_185, zO81_0, zO81_37, p1, zA82, p3]
  refine dn_loop (P := fun i => Runs xs sl (d + 3) 269 187 [some (.ref 81), some (.int a1), some (.int a2), some (.long (lN (sumN f i))), none, some (.int (nI i)), l6] [] (hp J s g2) _) (li + 1) ?_ ?_
  · intro i hi hr
    have e : sumN f (i + 1) = sumN f i + f i := rfl
    have ef := q2 i (by omega)
    rw [e, ← lN_add] at hr
    rw [r269_187]
    simp (disch := first | omega | assumption | exact Or.inl rfl | exact Or.inr rfl | exact bI_or _ | exact zC81 | exact zC47 | exact zC65 | exact zC0 | exact zC1 | exact zC32 | exact zC70 | exact zC73 | exact ztc (by assumption) | exact zdc (by assumption) | exact zpc (by assumption) | decide) only [Option.some.injEq, exists_eq_left', ex2, Option.toList, List.singleton_append, List.append_nil, List.cons_append, List.nil_append, nI_add, nI_addL, nI_Ladd, pk_mul, nI_mulL, nI_Lmul, nI_subL, pk_sub, nI_divL, sub_dm, nI_leE, nI_ltE, nI_eqE, nI_Lle, nI_leL, nI_Llt, nI_ltL, nI_eqL, va_up_self, va_up_ne, up_up, up_comm, nI_clamp, bI_eq0, not_true_eq_false, not_false_eq_true, Nat.reduceEqDiff, Nat.reduceLeDiff, Nat.reduceAdd, Nat.reduceMul, Nat.one_ne_zero, Nat.zero_ne_one, decide_eq_false_iff_not, decide_eq_true_eq, Bool.false_eq_true, decide_true, decide_false, bI_true, bI_false, one_ne, Nat.le_refl, Nat.lt_irrefl, cleT, cleF, cltT, cltF, ceqT, ceqF, ↓reduceIte, r269_189, r269_190, r269_193, r269_194, r269_197, r269_198, r269_199, r269_200, r269_203, r269_204, r269_205, r269_208, r269_210, r269_211, r269_212, r269_213, r269_216, zO81_0, zO81_37, zO81_38, p1, zA82, p5, zJ100, ef]
    exact hr
  · rw [r269_187]
    simp (disch := first | omega | assumption | exact Or.inl rfl | exact Or.inr rfl | exact bI_or _ | exact zC81 | exact zC47 | exact zC65 | exact zC0 | exact zC1 | exact zC32 | exact zC70 | exact zC73 | exact ztc (by assumption) | exact zdc (by assumption) | exact zpc (by assumption) | decide) only [Option.some.injEq, exists_eq_left', ex2, Option.toList, List.singleton_append, List.append_nil, List.cons_append, List.nil_append, nI_add, nI_addL, nI_Ladd, pk_mul, nI_mulL, nI_Lmul, nI_subL, pk_sub, nI_divL, sub_dm, nI_leE, nI_ltE, nI_eqE, nI_Lle, nI_leL, nI_Llt, nI_ltL, nI_eqL, va_up_self, va_up_ne, up_up, up_comm, nI_clamp, bI_eq0, not_true_eq_false, not_false_eq_true, Nat.reduceEqDiff, Nat.reduceLeDiff, Nat.reduceAdd, Nat.reduceMul, Nat.one_ne_zero, Nat.zero_ne_one, decide_eq_false_iff_not, decide_eq_true_eq, Bool.false_eq_true, decide_true, decide_false, bI_true, bI_false, one_ne, Nat.le_refl, Nat.lt_irrefl, cleT, cleF, cltT, cltF, ceqT, ceqF, ↓reduceIte, r269_189, r269_190, r269_193, r269_194, r269_197, r269_198, r269_199, r269_200, r269_219, r269_220, zO81_0, zO81_37, p1, zA82, p5]
theorem rw_all {m : Nat → Nat → Nat} {n : Nat} : rwF m (fun _ _ => false) n = allF m n := by
  unfold rwF allF
  refine it_congr (fun t f ht => ?_)
  funext k
  unfold rwS cst
  exact sumN_congr (fun v _ => if_neg Bool.false_ne_true)
theorem sumN_one {f : Nat → Nat} {v0 : Nat} : ∀ n, v0 < n → sumN (fun v => if v = v0 then f v else 0) n = f v0 := by
  intro n
  have e : ∀ (f : Nat → Nat) n, sumN f (n + 1) = sumN f n + f n := fun _ _ => rfl
  induction n with
  | zero => exact fun h => absurd h (by omega)
  | succ n ih =>
    intro h
    rw [e]
    by_cases c : v0 = n
    · subst c
      rw [if_pos rfl, (sumN_0 v0).mpr (fun i hi => if_neg (by omega))]
      exact Nat.zero_add _
    · rw [ih (by omega), if_neg (by omega)]
      rfl
def oK (top v0 t v : Nat) : Bool := decide (t = top) && !decide (v = v0)
theorem rw_onl {m : Nat → Nat → Nat} {n top v0 : Nat} (hv : v0 < 7) : rwF m (oK top v0) n = onlF m top v0 n := by
  unfold rwF onlF
  refine it_congr (fun t f ht => ?_)
  funext k
  unfold rwS
  by_cases c : t = top
  · rw [if_pos c, ← sumN_one (f := fun v => shf (m t v) f k) 7 hv]
    refine sumN_congr (fun v _ => ?_)
    by_cases c2 : v = v0
    · rw [if_pos c2]
      exact if_neg (by rw [oK, decide_eq_true c2, Bool.not_true, Bool.and_false]; decide)
    · rw [if_neg c2]
      exact if_pos (by rw [oK, decide_eq_true c, decide_eq_false c2]; decide)
  · rw [if_neg c]
    unfold cst
    refine sumN_congr (fun v _ => ?_)
    exact if_neg (by rw [oK, decide_eq_false c, Bool.false_and]; decide)
/-- the rows of one view of one topic, as both count them -/
def FV (m : Nat → Nat → Nat) (n li t v : Nat) : Nat := sumN (onlF m t v n) (li + 1)
def TOT (m : Nat → Nat → Nat) (n li : Nat) : Nat := sumN (allF m n) (li + 1)
theorem FV_sum {m : Nat → Nat → Nat} {n li t : Nat} (ht : t < n) : sumN (FV m n li t) 7 = TOT m n li := by
  unfold TOT
  rw [all_onl n ht, sumN_swap]
  rfl
def leS (B : Nat) (f : Nat → Nat) : Prop := ∀ N, sumN f N ≤ B
theorem shf_leS {B j : Nat} {f : Nat → Nat} (h : leS B f) : leS B (shf j f) := by
  intro N
  cases N with
  | zero => exact Nat.zero_le _
  | succ P =>
    rw [fit_sum]
    exact h _
theorem all_leS (m : Nat → Nat → Nat) : ∀ n, leS (7 ^ n) (allF m n) := by
  intro n
  induction n with
  | zero =>
    intro N
    have e : ∀ (f : Nat → Nat) n, sumN f (n + 1) = sumN f n + f n := fun _ _ => rfl
    have q : ∀ N, sumN dl0 (N + 1) = 1 := by
      intro N
      induction N with
      | zero => rfl
      | succ N ih =>
        rw [e, ih]
        rfl
    cases N with
    | zero => exact Nat.zero_le _
    | succ N => exact Nat.le_of_eq (q N)
  | succ n ih =>
    intro N
    have e : allF m (n + 1) = fun k => sumN (fun v => shf (m n v) (allF m n) k) 7 := rfl
    rw [e, sumN_swap, Nat.pow_succ, Nat.mul_comm]
    exact sumN_le 7 (fun v _ => shf_leS ih N)
theorem TOT_le {m : Nat → Nat → Nat} {n li : Nat} (hn : n ≤ 6) : TOT m n li ≤ 117649 := by
  have h := all_leS m n (li + 1)
  have h2 : 7 ^ n ≤ 7 ^ 6 := Nat.pow_le_pow_right (by decide) hn
  unfold TOT
  have h3 : 7 ^ 6 = 117649 := rfl
  omega
end RW3
