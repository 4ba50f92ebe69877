/-! VISITS in the machine -/
section VIS
variable {xs : Nat → Int32} {sl d : Nat} {J : hJk} {s x y : hS} {g : hG}
/-- the walk as the class has it -/
def wX (vis : Nat → Nat) (home h : Nat) (σ : Nat → Int32) (i : Nat) : Nat := enc (wk vis home h σ i) h
theorem wX_det {vis : Nat → Nat} {home h : Nat} {σ : Nat → Int32} (hh : h ≤ 8) (hs : ∀ u, u < h → isS (σ u)) : ∀ i j, wX vis home h σ i = wX vis home h σ j → wX vis home h σ (i + 1) = wX vis home h σ (j + 1) := by
  intro i j e
  have q := enc_inj hh (wk_S hs i) (wk_S hs j) e
  refine enc_congr (fun u hu => ?_)
  have w : wk vis home h σ (i + 1) u = wk vis home h σ (j + 1) u := stp_congr q hu
  rw [w]
/-- codes to the base of three -/
def dig (v : Int32) : Nat := if v = 0 then 1 else if v = 1 then 2 else 0
def cod (σ : Nat → Int32) (h : Nat) : Nat := it (fun u v => 3 * v + dig (σ u)) h 0
theorem dig_lt (v : Int32) : dig v < 3 := by
  unfold dig
  split
  · omega
  · split <;> omega
theorem cod_lt {σ : Nat → Int32} : ∀ h, cod σ h < 3 ^ h := by
  intro h
  induction h with
  | zero => exact Nat.one_pos
  | succ h ih =>
    have e : cod σ (h + 1) = 3 * cod σ h + dig (σ h) := rfl
    have := dig_lt (σ h)
    rw [e, Nat.pow_succ]
    omega
theorem cod_inj {σ σ' : Nat → Int32} : ∀ h, (∀ u, u < h → isS (σ u)) → (∀ u, u < h → isS (σ' u)) → cod σ h = cod σ' h → ∀ u, u < h → σ u = σ' u := by
  intro h
  induction h with
  | zero => exact fun _ _ _ u hu => absurd hu (by omega)
  | succ h ih =>
    intro s1 s2 e u hu
    have e1 : cod σ (h + 1) = 3 * cod σ h + dig (σ h) := rfl
    have e2 : cod σ' (h + 1) = 3 * cod σ' h + dig (σ' h) := rfl
    have d1 := dig_lt (σ h)
    have d2 := dig_lt (σ' h)
    rw [e1, e2] at e
    by_cases k : u = h
    · subst k
      have e3 : dig (σ u) = dig (σ' u) := by omega
      rcases s1 u hu with q1 | q1 | q1 <;> rcases s2 u hu with q2 | q2 | q2 <;> rw [q1, q2] at e3 ⊢ <;> first | rfl | exact absurd e3 (by decide)
    · exact ih (fun v hv => s1 v (by omega)) (fun v hv => s2 v (by omega)) (by omega) u (by omega)
theorem cod_congr {σ σ' : Nat → Int32} {h : Nat} (e : ∀ u, u < h → σ u = σ' u) : cod σ h = cod σ' h := it_congr (fun u v hu => by rw [e u hu])
theorem pw3 {h : Nat} (hh : h ≤ 8) : 3 ^ h ≤ 6561 := Nat.pow_le_pow_right (by decide) hh
theorem w_rnd {vis : Nat → Nat} {home h : Nat} {σ : Nat → Int32} (hh : h ≤ 8) (hs : ∀ u, u < h → isS (σ u)) : ∃ m l, rnd (wX vis home h σ) m l ∧ m + l ≤ 6561 := by
  refine rnd_ex (c := fun i => cod (wk vis home h σ i) h) (fun i => Nat.lt_of_lt_of_le (cod_lt h) (pw3 hh)) (fun i j => ⟨fun e => ?_, fun e => ?_⟩)
  · have q := cod_inj h (wk_S hs i) (wk_S hs j) e
    exact enc_congr (fun u hu => by rw [q u hu])
  · exact cod_congr (enc_inj hh (wk_S hs i) (wk_S hs j) e)
/-- the class's period -/
theorem br_period_loop {a h home m l : Nat} {vis : Nat → Nat} {σ : Nat → Int32} (hT : tW s a h vis) (hhome : home < 256) (hs : ∀ u, u < h → isS (σ u)) (hr : rnd (wX vis home h σ) m l) (hN : m + l ≤ 6561) : ∀ (k i P st : Nat) (l1 : Int32), i + k = 27000 → 1 ≤ P → P - 1 + st = i + 1 → 1 ≤ st → st ≤ P → P ≤ 2 * (m + l) → (∀ t, 1 ≤ t → t < st → wX vis home h σ (P - 1 + t) ≠ wX vis home h σ (P - 1)) → Runs xs sl (d+2) 165 19 [some (.ref (a)), some (.int (l1)), some (.int ( nI home)), some (.int ( nI (wX vis home h σ (P - 1)))), some (.int ( nI (wX vis home h σ (i + 1)))), some (.int ( nI P)), some (.int ( nI st)), some (.int ( nI i))] [] (hp J (s) g) (some (.int (nI l)), hp J s g) := by
  have hh8 := hT.2.2.1
  have det := wX_det (vis := vis) (home := home) hh8 hs
  have l0 := hr.1
  intro k
  induction k with
  | zero =>
    intro i P st l1 hi hP hps h1 h2 h3
    omega
  | succ k ih =>
    intro i P st l1 hi hP hps h1 h2 h3 h4
    rw [r165_19]
    have b1 : wX vis home h σ (P - 1) < 2 ^ 16 := enc_lt h hh8
    have b2 : wX vis home h σ (i + 1) < 2 ^ 16 := enc_lt h hh8
    by_cases c : wX vis home h σ (i + 1) = wX vis home h σ (P - 1)
    · have q := rnd_eq det hr (i := P - 1) (j := i + 1) (by omega) c.symm
      have e : st = l := by
        by_cases z : l = st
        · exact z.symm
        · have w := rnd_per det hr (P - 1) q.1
          exact absurd w (h4 l (by omega) (by omega))
      subst e
      have c' := eq_true c
      simp (disch := first | omega | assumption | exact Or.inl rfl | exact Or.inr rfl | exact bI_or _ | exact zC81 | exact zC47 | exact zC65 | exact zC0 | exact zC1 | exact zC32 | exact zC70 | exact zC73 | exact ztc (by assumption) | exact zdc (by assumption) | exact zpc (by assumption) | decide) only [Option.some.injEq, exists_eq_left', ex2, Option.toList, List.singleton_append, List.append_nil, List.cons_append, List.nil_append, nI_add, nI_addL, nI_Ladd, pk_mul, nI_mulL, nI_Lmul, nI_subL, pk_sub, nI_divL, sub_dm, nI_leE, nI_ltE, nI_eqE, nI_Lle, nI_leL, nI_Llt, nI_ltL, nI_eqL, va_up_self, va_up_ne, up_up, up_comm, nI_clamp, bI_eq0, not_true_eq_false, not_false_eq_true, Nat.reduceEqDiff, Nat.reduceLeDiff, Nat.reduceAdd, Nat.reduceMul, Nat.one_ne_zero, Nat.zero_ne_one, decide_eq_false_iff_not, decide_eq_true_eq, Bool.false_eq_true, decide_true, decide_false, bI_true, bI_false, one_ne, Nat.le_refl, Nat.lt_irrefl, cleT, cleF, cltT, cltF, ceqT, ceqF, ↓reduceIte, r165_21, r165_23, r165_26, r165_28, r165_29, r165_69, r165_71, c']
    · have st2 := @br_step xs sl d J s g a h home vis (wk vis home h σ (i + 1)) hT hhome (wk_S hs (i + 1))
      have st3 : ∀ {r : Option Value × mH}, Runs xs sl (d+1) 166 0 [some (.ref (a)), some (.int ( nI (wX vis home h σ (i + 1)))), some (.int ( nI home)), none, none, none, none] [] (hp J (s) g) r ↔ r = (some (.int (nI (wX vis home h σ (i + 1 + 1)))), hp J s g) := st2
      by_cases c2 : st = P
      · subst c2
        have nx := ih (i + 1) (2 * st) 1 l1 (by omega) (by omega) (by omega) (by omega) (by omega) (by
          by_cases z1 : m ≤ st - 1
          · by_cases z2 : l ≤ st
            · exfalso
              have w := rnd_per det hr (st - 1) z1
              by_cases z3 : l = st
              · subst z3
                rw [show l - 1 + l = i + 1 by omega] at w
                exact c w
              · exact h4 l (by omega) (by omega) w
            · omega
          · omega) (fun t t1 t2 => absurd t2 (by omega))
        rw [show 2 * st - 1 = i + 1 by omega] at nx
        simp (disch := first | omega | assumption | exact Or.inl rfl | exact Or.inr rfl | exact bI_or _ | exact zC81 | exact zC47 | exact zC65 | exact zC0 | exact zC1 | exact zC32 | exact zC70 | exact zC73 | exact ztc (by assumption) | exact zdc (by assumption) | exact zpc (by assumption) | decide) only [Option.some.injEq, exists_eq_left', ex2, Option.toList, List.singleton_append, List.append_nil, List.cons_append, List.nil_append, nI_add, nI_addL, nI_Ladd, pk_mul, nI_mulL, nI_Lmul, nI_subL, pk_sub, nI_divL, sub_dm, nI_leE, nI_ltE, nI_eqE, nI_Lle, nI_leL, nI_Llt, nI_ltL, nI_eqL, va_up_self, va_up_ne, up_up, up_comm, nI_clamp, bI_eq0, not_true_eq_false, not_false_eq_true, Nat.reduceEqDiff, Nat.reduceLeDiff, Nat.reduceAdd, Nat.reduceMul, Nat.one_ne_zero, Nat.zero_ne_one, decide_eq_false_iff_not, decide_eq_true_eq, Bool.false_eq_true, decide_true, decide_false, bI_true, bI_false, one_ne, Nat.le_refl, Nat.lt_irrefl, cleT, cleF, cltT, cltF, ceqT, ceqF, ↓reduceIte, r165_21, r165_23, r165_26, r165_28, r165_29, r165_32, r165_34, r165_36, r165_39, r165_41, r165_42, r165_44, r165_45, r165_46, r165_48, r165_49, r165_51, r165_51n, r165_52, r165_54, r165_55, r165_58, r165_60, r165_63, r165_66, c, st3]
        exact nx
      · have nx := ih (i + 1) P (st + 1) l1 (by omega) hP (by omega) (by omega) (by omega) h3 (fun t t1 t2 => by
          by_cases z : t = st
          · subst z
            rw [show P - 1 + t = i + 1 by omega]
            exact c
          · exact h4 t t1 (by omega))
        simp (disch := first | omega | assumption | exact Or.inl rfl | exact Or.inr rfl | exact bI_or _ | exact zC81 | exact zC47 | exact zC65 | exact zC0 | exact zC1 | exact zC32 | exact zC70 | exact zC73 | exact ztc (by assumption) | exact zdc (by assumption) | exact zpc (by assumption) | decide) only [Option.some.injEq, exists_eq_left', ex2, Option.toList, List.singleton_append, List.append_nil, List.cons_append, List.nil_append, nI_add, nI_addL, nI_Ladd, pk_mul, nI_mulL, nI_Lmul, nI_subL, pk_sub, nI_divL, sub_dm, nI_leE, nI_ltE, nI_eqE, nI_Lle, nI_leL, nI_Llt, nI_ltL, nI_eqL, va_up_self, va_up_ne, up_up, up_comm, nI_clamp, bI_eq0, not_true_eq_false, not_false_eq_true, Nat.reduceEqDiff, Nat.reduceLeDiff, Nat.reduceAdd, Nat.reduceMul, Nat.one_ne_zero, Nat.zero_ne_one, decide_eq_false_iff_not, decide_eq_true_eq, Bool.false_eq_true, decide_true, decide_false, bI_true, bI_false, one_ne, Nat.le_refl, Nat.lt_irrefl, cleT, cleF, cltT, cltF, ceqT, ceqF, ↓reduceIte, r165_21, r165_23, r165_26, r165_28, r165_29, r165_32, r165_34, r165_36, r165_39, r165_41, r165_42, r165_44, r165_45, r165_46, r165_48, r165_49, r165_51, r165_51n, r165_52, r165_54, r165_55, r165_58, r165_60, r165_63, r165_66, c, st3]
        exact nx
theorem br_period {a h home m l : Nat} {vis : Nat → Nat} {σ : Nat → Int32} (hT : tW s a h vis) (hhome : home < 256) (hs : ∀ u, u < h → isS (σ u)) (hr : rnd (wX vis home h σ) m l) (hN : m + l ≤ 6561) : ∀ {r : Option Value × mH}, Runs xs sl (d+2) 165 0 [some (.ref (a)), some (.int ( nI (enc σ h))), some (.int ( nI home)), none, none, none, none, none] [] (hp J (s) g) r ↔ r = (some (.int (nI l)), hp J s g) := by
  intro r
  refine Runs.iff ?_
  have l0 := hr.1
  have q := @br_period_loop xs sl d J s g a h home m l vis σ hT hhome hs hr hN 27000 0 1 1 (nI (enc σ h)) (by omega) (by omega) (by omega) (by omega) (by omega) (by omega) (fun t t1 t2 => absurd t2 (by omega))
  have st2 := @br_step xs sl d J s g a h home vis σ hT hhome hs
  simp (disch := first | omega | assumption | exact Or.inl rfl | exact Or.inr rfl | exact bI_or _ | exact zC81 | exact zC47 | exact zC65 | exact zC0 | exact zC1 | exact zC32 | exact zC70 | exact zC73 | exact ztc (by assumption) | exact zdc (by assumption) | exact zpc (by assumption) | decide) only [Option.some.injEq, exists_eq_left', ex2, Option.toList, List.singleton_append, List.append_nil, List.cons_append, List.nil_append, nI_add, nI_addL, nI_Ladd, pk_mul, nI_mulL, nI_Lmul, nI_subL, pk_sub, nI_divL, sub_dm, nI_leE, nI_ltE, nI_eqE, nI_Lle, nI_leL, nI_Llt, nI_ltL, nI_eqL, va_up_self, va_up_ne, up_up, up_comm, nI_clamp, bI_eq0, not_true_eq_false, not_false_eq_true, Nat.reduceEqDiff, Nat.reduceLeDiff, Nat.reduceAdd, Nat.reduceMul, Nat.one_ne_zero, Nat.zero_ne_one, decide_eq_false_iff_not, decide_eq_true_eq, Bool.false_eq_true, decide_true, decide_false, bI_true, bI_false, one_ne, Nat.le_refl, Nat.lt_irrefl, cleT, cleF, cltT, cltF, ceqT, ceqF, ↓reduceIte, r165_0, r165_1, r165_2, r165_2n, r165_3, r165_4, r165_5, r165_8, r165_10, r165_11, r165_13, r165_14, r165_16, r165_17, st2]
  exact q
theorem br_tail {a h t m l : Nat} {vis : Nat → Nat} {σ : Nat → Int32} (hT : tW s a h vis) (ht : t < 6) (hs : ∀ u, u < h → isS (σ u)) (e0 : enc (fun u => s (a + 4) (6 * u + t)) h = enc σ h) (hr : rnd (wX vis 0 h σ) m l) (hN : m + l ≤ 6561) : ∀ {r : Option Value × mH}, Runs xs sl (d+3) 162 0 [some (.ref (a)), some (.int ( nI t)), none, none, none, none, none] [] (hp J (s) g) r ↔ r = (some (.int (nI m)), hp J s g) := by
  intro r
  refine Runs.iff ?_
  have hT' := hT
  obtain ⟨ha, hh, hh8, hv⟩ := hT'
  have det := wX_det (vis := vis) (home := 0) hh8 hs
  have l0 := hr.1
  have sgn := @br_signs xs sl (d + 1) J s g a h t ha hh hh8 ht
  rw [e0] at sgn
  have per := @br_period xs sl d J s g a h 0 m l vis σ hT (by decide) hs hr hN
  simp only [show nI 0 = (0 : Int32) from rfl] at per
  have stp' : ∀ i, ∀ {r : Option Value × mH}, Runs xs sl (d+2) 166 0 [some (.ref (a)), some (.int ( nI (wX vis 0 h σ i))), some (.int ( 0)), none, none, none, none] [] (hp J (s) g) r ↔ r = (some (.int (nI (wX vis 0 h σ (i + 1)))), hp J s g) := fun i => @br_step xs sl (d + 1) J s g a h 0 vis (wk vis 0 h σ i) hT (by decide) (wk_S hs i)
  have bd : ∀ i, wX vis 0 h σ i < 2 ^ 16 := fun i => enc_lt h hh8
  simp (disch := first | omega | assumption | exact Or.inl rfl | exact Or.inr rfl | exact bI_or _ | exact zC81 | exact zC47 | exact zC65 | exact zC0 | exact zC1 | exact zC32 | exact zC70 | exact zC73 | exact ztc (by assumption) | exact zdc (by assumption) | exact zpc (by assumption) | decide) only [Option.some.injEq, exists_eq_left', ex2, Option.toList, List.singleton_append, List.append_nil, List.cons_append, List.nil_append, nI_add, nI_addL, nI_Ladd, pk_mul, nI_mulL, nI_Lmul, nI_subL, pk_sub, nI_divL, sub_dm, nI_leE, nI_ltE, nI_eqE, nI_Lle, nI_leL, nI_Llt, nI_ltL, nI_eqL, va_up_self, va_up_ne, up_up, up_comm, nI_clamp, bI_eq0, not_true_eq_false, not_false_eq_true, Nat.reduceEqDiff, Nat.reduceLeDiff, Nat.reduceAdd, Nat.reduceMul, Nat.one_ne_zero, Nat.zero_ne_one, decide_eq_false_iff_not, decide_eq_true_eq, Bool.false_eq_true, decide_true, decide_false, bI_true, bI_false, one_ne, Nat.le_refl, Nat.lt_irrefl, cleT, cleF, cltT, cltF, ceqT, ceqF, ↓reduceIte, r162_0, r162_0n, r162_1, r162_2, r162_5, r162_6, r162_7, r162_8, r162_8n, r162_9, r162_10, r162_11, r162_14, r162_16, r162_17, sgn, per]
  refine dn_loop (P := fun i => Runs xs sl (d+3) 162 19 [some (.ref (a)), some (.int ( nI t)), some (.int ( nI (enc σ h))), some (.int ( nI (wX vis 0 h σ i))), some (.int ( nI l)), some (.int ( nI i)), none] [] (hp J (s) g) _) l ?_ ?_
  · intro i hi hr2
    rw [r162_19]
    simp (disch := first | omega | assumption | exact Or.inl rfl | exact Or.inr rfl | exact bI_or _ | exact zC81 | exact zC47 | exact zC65 | exact zC0 | exact zC1 | exact zC32 | exact zC70 | exact zC73 | exact ztc (by assumption) | exact zdc (by assumption) | exact zpc (by assumption) | decide) only [Option.some.injEq, exists_eq_left', ex2, Option.toList, List.singleton_append, List.append_nil, List.cons_append, List.nil_append, nI_add, nI_addL, nI_Ladd, pk_mul, nI_mulL, nI_Lmul, nI_subL, pk_sub, nI_divL, sub_dm, nI_leE, nI_ltE, nI_eqE, nI_Lle, nI_leL, nI_Llt, nI_ltL, nI_eqL, va_up_self, va_up_ne, up_up, up_comm, nI_clamp, bI_eq0, not_true_eq_false, not_false_eq_true, Nat.reduceEqDiff, Nat.reduceLeDiff, Nat.reduceAdd, Nat.reduceMul, Nat.one_ne_zero, Nat.zero_ne_one, decide_eq_false_iff_not, decide_eq_true_eq, Bool.false_eq_true, decide_true, decide_false, bI_true, bI_false, one_ne, Nat.le_refl, Nat.lt_irrefl, cleT, cleF, cltT, cltF, ceqT, ceqF, ↓reduceIte, r162_21, r162_23, r162_26, r162_26n, r162_27, r162_28, r162_29, r162_32, r162_33, r162_36, stp']
    exact hr2
  · rw [r162_19]
    simp (disch := first | omega | assumption | exact Or.inl rfl | exact Or.inr rfl | exact bI_or _ | exact zC81 | exact zC47 | exact zC65 | exact zC0 | exact zC1 | exact zC32 | exact zC70 | exact zC73 | exact ztc (by assumption) | exact zdc (by assumption) | exact zpc (by assumption) | decide) only [Option.some.injEq, exists_eq_left', ex2, Option.toList, List.singleton_append, List.append_nil, List.cons_append, List.nil_append, nI_add, nI_addL, nI_Ladd, pk_mul, nI_mulL, nI_Lmul, nI_subL, pk_sub, nI_divL, sub_dm, nI_leE, nI_ltE, nI_eqE, nI_Lle, nI_leL, nI_Llt, nI_ltL, nI_eqL, va_up_self, va_up_ne, up_up, up_comm, nI_clamp, bI_eq0, not_true_eq_false, not_false_eq_true, Nat.reduceEqDiff, Nat.reduceLeDiff, Nat.reduceAdd, Nat.reduceMul, Nat.one_ne_zero, Nat.zero_ne_one, decide_eq_false_iff_not, decide_eq_true_eq, Bool.false_eq_true, decide_true, decide_false, bI_true, bI_false, one_ne, Nat.le_refl, Nat.lt_irrefl, cleT, cleF, cltT, cltF, ceqT, ceqF, ↓reduceIte, r162_21, r162_23, r162_39, r162_40, r162_42, r162_43]
    refine dn_loop (P := fun i => Runs xs sl (d+3) 162 45 [some (.ref (a)), some (.int ( nI t)), some (.int ( nI (wX vis 0 h σ i))), some (.int ( nI (wX vis 0 h σ (l + i)))), some (.int ( nI l)), some (.int ( nI i)), some (.int ( nI i))] [] (hp J (s) g) _) m ?_ ?_
    · intro i hi hr2
      rw [r162_45]
      have c : ¬ wX vis 0 h σ i = wX vis 0 h σ (l + i) := by
        intro z
        have := rnd_eq det hr (i := i) (j := l + i) (by omega) z
        omega
      have b1 := bd i
      have b2 := bd (l + i)
      simp (disch := first | omega | assumption | exact Or.inl rfl | exact Or.inr rfl | exact bI_or _ | exact zC81 | exact zC47 | exact zC65 | exact zC0 | exact zC1 | exact zC32 | exact zC70 | exact zC73 | exact ztc (by assumption) | exact zdc (by assumption) | exact zpc (by assumption) | decide) only [Option.some.injEq, exists_eq_left', ex2, Option.toList, List.singleton_append, List.append_nil, List.cons_append, List.nil_append, nI_add, nI_addL, nI_Ladd, pk_mul, nI_mulL, nI_Lmul, nI_subL, pk_sub, nI_divL, sub_dm, nI_leE, nI_ltE, nI_eqE, nI_Lle, nI_leL, nI_Llt, nI_ltL, nI_eqL, va_up_self, va_up_ne, up_up, up_comm, nI_clamp, bI_eq0, not_true_eq_false, not_false_eq_true, Nat.reduceEqDiff, Nat.reduceLeDiff, Nat.reduceAdd, Nat.reduceMul, Nat.one_ne_zero, Nat.zero_ne_one, decide_eq_false_iff_not, decide_eq_true_eq, Bool.false_eq_true, decide_true, decide_false, bI_true, bI_false, one_ne, Nat.le_refl, Nat.lt_irrefl, cleT, cleF, cltT, cltF, ceqT, ceqF, ↓reduceIte, r162_47, r162_49, r162_52, r162_53, r162_54, r162_57, r162_57n, r162_58, r162_59, r162_60, r162_63, r162_64, r162_64n, r162_65, r162_66, r162_67, r162_70, r162_71, r162_74, r162_77, c, stp']
      exact hr2
    · rw [r162_45]
      have c : wX vis 0 h σ m = wX vis 0 h σ (l + m) := by
        have := hr.2.1
        rw [Nat.add_comm l m]
        exact this.symm
      have c' := eq_true c
      have b1 := bd m
      have b2 := bd (l + m)
      simp (disch := first | omega | assumption | exact Or.inl rfl | exact Or.inr rfl | exact bI_or _ | exact zC81 | exact zC47 | exact zC65 | exact zC0 | exact zC1 | exact zC32 | exact zC70 | exact zC73 | exact ztc (by assumption) | exact zdc (by assumption) | exact zpc (by assumption) | decide) only [Option.some.injEq, exists_eq_left', ex2, Option.toList, List.singleton_append, List.append_nil, List.cons_append, List.nil_append, nI_add, nI_addL, nI_Ladd, pk_mul, nI_mulL, nI_Lmul, nI_subL, pk_sub, nI_divL, sub_dm, nI_leE, nI_ltE, nI_eqE, nI_Lle, nI_leL, nI_Llt, nI_ltL, nI_eqL, va_up_self, va_up_ne, up_up, up_comm, nI_clamp, bI_eq0, not_true_eq_false, not_false_eq_true, Nat.reduceEqDiff, Nat.reduceLeDiff, Nat.reduceAdd, Nat.reduceMul, Nat.one_ne_zero, Nat.zero_ne_one, decide_eq_false_iff_not, decide_eq_true_eq, Bool.false_eq_true, decide_true, decide_false, bI_true, bI_false, one_ne, Nat.le_refl, Nat.lt_irrefl, cleT, cleF, cltT, cltF, ceqT, ceqF, ↓reduceIte, r162_47, r162_49, r162_52, r162_53, r162_54, r162_80, r162_82, c']
/-- which are to stay at home: by periods -/
def heF (p : Nat → Bool) (h : Nat) : Nat := it (fun set best => if (decide (bc set < bc best) && p set) = true then set else best) (2 ^ h) (2 ^ h - 1)
theorem heF_lt {p : Nat → Bool} {h : Nat} : ∀ i, i ≤ 2 ^ h → it (fun set best => if (decide (bc set < bc best) && p set) = true then set else best) i (2 ^ h - 1) < 2 ^ h := by
  have p0 : 0 < 2 ^ h := Nat.pow_pos (by decide)
  refine it_inv (fun _ b => b < 2 ^ h) (by omega) ?_
  intro i b hi hb
  split
  · exact hi
  · exact hb
theorem br_fewestHermits {a h t : Nat} {vis : Nat → Nat} {σ : Nat → Int32} {pr : Nat → Nat} (hT : tW s a h vis) (ht : t < 6) (hs : ∀ u, u < h → isS (σ u)) (e0 : enc (fun u => s (a + 4) (6 * u + t)) h = enc σ h) (hr : ∀ home, home < 2 ^ h → ∃ m, rnd (wX vis home h σ) m (pr home) ∧ m + pr home ≤ 6561) : ∀ {r : Option Value × mH}, Runs xs sl (d+3) 168 0 [some (.ref (a)), some (.int ( nI t)), none, none, none] [] (hp J (s) g) r ↔ r = (some (.int (nI (heF (fun k => decide (pr k = 1)) h))), hp J s g) := by
  intro r
  refine Runs.iff ?_
  have hT' := hT
  obtain ⟨ha, hh, hh8, hv⟩ := hT'
  have p8 := pw8 hh8
  have p0 : 0 < 2 ^ h := Nat.pow_pos (by decide)
  have sgn := @br_signs xs sl (d + 1) J s g a h t ha hh hh8 ht
  rw [e0] at sgn
  simp (disch := first | omega | assumption | exact Or.inl rfl | exact Or.inr rfl | exact bI_or _ | exact zC81 | exact zC47 | exact zC65 | exact zC0 | exact zC1 | exact zC32 | exact zC70 | exact zC73 | exact ztc (by assumption) | exact zdc (by assumption) | exact zpc (by assumption) | decide) only [Option.some.injEq, exists_eq_left', ex2, Option.toList, List.singleton_append, List.append_nil, List.cons_append, List.nil_append, nI_add, nI_addL, nI_Ladd, pk_mul, nI_mulL, nI_Lmul, nI_subL, pk_sub, nI_divL, sub_dm, nI_leE, nI_ltE, nI_eqE, nI_Lle, nI_leL, nI_Llt, nI_ltL, nI_eqL, va_up_self, va_up_ne, up_up, up_comm, nI_clamp, bI_eq0, not_true_eq_false, not_false_eq_true, Nat.reduceEqDiff, Nat.reduceLeDiff, Nat.reduceAdd, Nat.reduceMul, Nat.one_ne_zero, Nat.zero_ne_one, decide_eq_false_iff_not, decide_eq_true_eq, Bool.false_eq_true, decide_true, decide_false, bI_true, bI_false, one_ne, Nat.le_refl, Nat.lt_irrefl, cleT, cleF, cltT, cltF, ceqT, ceqF, ↓reduceIte, r168_0, r168_0n, r168_1, r168_2, r168_5, r168_6, r168_7, r168_7n, r168_8, r168_11, r168_12, r168_13, r168_14, r168_15, r168_16, sgn, ztc, zto0, ztw0, zto1, ztw1, zto2, ztw2, zto3, ztw3, zto4, ztw4, zto5, zto6, zto7, zto8, zto9, zto10, zto11, ztl1, zta1, zts1, ztl2, zta2, zts2, ztl3, zta3, zts3, ztl4, zta4, zts4, ztl5, zta5, zts5, ztl6, zta6, zts6, ztl7, zta7, zts7, hh, sh1]
  unfold heF
  refine dn_loop (P := fun i => Runs xs sl (d+3) 168 18 [some (.ref (a)), some (.int ( nI t)), some (.int ( nI (enc σ h))), some (.int ( nI (it (fun set best => if (decide (bc set < bc best) && decide (pr set = 1)) = true then set else best) i (2 ^ h - 1)))), some (.int ( nI i))] [] (hp J (s) g) _) (2 ^ h) ?_ ?_
  · intro i hi hr2
    rw [r168_18]
    have b := heF_lt (p := fun k => decide (pr k = 1)) (h := h) i (by omega)
    rw [it] at hr2
    generalize it (fun set best => if (decide (bc set < bc best) && decide (pr set = 1)) = true then set else best) i (2 ^ h - 1) = be at *
    have b1 := @zx_bitCount xs sl (d + 2) (hp J s g) i (by omega)
    have b2 := @zx_bitCount xs sl (d + 2) (hp J s g) be (by omega)
    have l1 := @bc_le i
    have l2 := @bc_le be
    obtain ⟨m, r1, r2⟩ := hr i hi
    have per := @br_period xs sl d J s g a h i m (pr i) vis σ hT (by omega) hs r1 r2
    by_cases c1 : bc i < bc be
    · by_cases c2 : pr i = 1
      · simp only [c1, c2, decide_true, Bool.and_self, ↓reduceIte] at hr2
        simp (disch := first | omega | assumption | exact Or.inl rfl | exact Or.inr rfl | exact bI_or _ | exact zC81 | exact zC47 | exact zC65 | exact zC0 | exact zC1 | exact zC32 | exact zC70 | exact zC73 | exact ztc (by assumption) | exact zdc (by assumption) | exact zpc (by assumption) | decide) only [Option.some.injEq, exists_eq_left', ex2, Option.toList, List.singleton_append, List.append_nil, List.cons_append, List.nil_append, nI_add, nI_addL, nI_Ladd, pk_mul, nI_mulL, nI_Lmul, nI_subL, pk_sub, nI_divL, sub_dm, nI_leE, nI_ltE, nI_eqE, nI_Lle, nI_leL, nI_Llt, nI_ltL, nI_eqL, va_up_self, va_up_ne, up_up, up_comm, nI_clamp, bI_eq0, not_true_eq_false, not_false_eq_true, Nat.reduceEqDiff, Nat.reduceLeDiff, Nat.reduceAdd, Nat.reduceMul, Nat.one_ne_zero, Nat.zero_ne_one, decide_eq_false_iff_not, decide_eq_true_eq, Bool.false_eq_true, decide_true, decide_false, bI_true, bI_false, one_ne, Nat.le_refl, Nat.lt_irrefl, cleT, cleF, cltT, cltF, ceqT, ceqF, ↓reduceIte, r168_20, r168_21, r168_21n, r168_22, r168_25, r168_26, r168_29, r168_31, r168_34, r168_35, r168_38, r168_41, r168_41n, r168_42, r168_43, r168_45, r168_48, r168_49, r168_52, r168_54, r168_55, r168_58, ztc, zto0, ztw0, zto1, ztw1, zto2, ztw2, zto3, ztw3, zto4, ztw4, zto5, zto6, zto7, zto8, zto9, zto10, zto11, ztl1, zta1, zts1, ztl2, zta2, zts2, ztl3, zta3, zts3, ztl4, zta4, zts4, ztl5, zta5, zts5, ztl6, zta6, zts6, ztl7, zta7, zts7, hh, sh1, b1, b2, per]
        exact hr2
      · simp only [c1, c2, decide_true, decide_false, Bool.and_false, Bool.false_eq_true, ↓reduceIte] at hr2
        simp (disch := first | omega | assumption | exact Or.inl rfl | exact Or.inr rfl | exact bI_or _ | exact zC81 | exact zC47 | exact zC65 | exact zC0 | exact zC1 | exact zC32 | exact zC70 | exact zC73 | exact ztc (by assumption) | exact zdc (by assumption) | exact zpc (by assumption) | decide) only [Option.some.injEq, exists_eq_left', ex2, Option.toList, List.singleton_append, List.append_nil, List.cons_append, List.nil_append, nI_add, nI_addL, nI_Ladd, pk_mul, nI_mulL, nI_Lmul, nI_subL, pk_sub, nI_divL, sub_dm, nI_leE, nI_ltE, nI_eqE, nI_Lle, nI_leL, nI_Llt, nI_ltL, nI_eqL, va_up_self, va_up_ne, up_up, up_comm, nI_clamp, bI_eq0, not_true_eq_false, not_false_eq_true, Nat.reduceEqDiff, Nat.reduceLeDiff, Nat.reduceAdd, Nat.reduceMul, Nat.one_ne_zero, Nat.zero_ne_one, decide_eq_false_iff_not, decide_eq_true_eq, Bool.false_eq_true, decide_true, decide_false, bI_true, bI_false, one_ne, Nat.le_refl, Nat.lt_irrefl, cleT, cleF, cltT, cltF, ceqT, ceqF, ↓reduceIte, r168_20, r168_21, r168_21n, r168_22, r168_25, r168_26, r168_29, r168_31, r168_34, r168_35, r168_38, r168_41, r168_41n, r168_42, r168_43, r168_45, r168_48, r168_49, r168_52, r168_54, r168_55, r168_58, ztc, zto0, ztw0, zto1, ztw1, zto2, ztw2, zto3, ztw3, zto4, ztw4, zto5, zto6, zto7, zto8, zto9, zto10, zto11, ztl1, zta1, zts1, ztl2, zta2, zts2, ztl3, zta3, zts3, ztl4, zta4, zts4, ztl5, zta5, zts5, ztl6, zta6, zts6, ztl7, zta7, zts7, hh, sh1, b1, b2, per]
        exact hr2
    · simp only [c1, decide_false, Bool.false_and, Bool.false_eq_true, ↓reduceIte] at hr2
      simp (disch := first | omega | assumption | exact Or.inl rfl | exact Or.inr rfl | exact bI_or _ | exact zC81 | exact zC47 | exact zC65 | exact zC0 | exact zC1 | exact zC32 | exact zC70 | exact zC73 | exact ztc (by assumption) | exact zdc (by assumption) | exact zpc (by assumption) | decide) only [Option.some.injEq, exists_eq_left', ex2, Option.toList, List.singleton_append, List.append_nil, List.cons_append, List.nil_append, nI_add, nI_addL, nI_Ladd, pk_mul, nI_mulL, nI_Lmul, nI_subL, pk_sub, nI_divL, sub_dm, nI_leE, nI_ltE, nI_eqE, nI_Lle, nI_leL, nI_Llt, nI_ltL, nI_eqL, va_up_self, va_up_ne, up_up, up_comm, nI_clamp, bI_eq0, not_true_eq_false, not_false_eq_true, Nat.reduceEqDiff, Nat.reduceLeDiff, Nat.reduceAdd, Nat.reduceMul, Nat.one_ne_zero, Nat.zero_ne_one, decide_eq_false_iff_not, decide_eq_true_eq, Bool.false_eq_true, decide_true, decide_false, bI_true, bI_false, one_ne, Nat.le_refl, Nat.lt_irrefl, cleT, cleF, cltT, cltF, ceqT, ceqF, ↓reduceIte, r168_20, r168_21, r168_21n, r168_22, r168_25, r168_26, r168_29, r168_31, r168_34, r168_35, r168_38, r168_41, r168_41n, r168_42, r168_43, r168_45, r168_48, r168_49, r168_52, r168_54, r168_55, r168_58, ztc, zto0, ztw0, zto1, ztw1, zto2, ztw2, zto3, ztw3, zto4, ztw4, zto5, zto6, zto7, zto8, zto9, zto10, zto11, ztl1, zta1, zts1, ztl2, zta2, zts2, ztl3, zta3, zts3, ztl4, zta4, zts4, ztl5, zta5, zts5, ztl6, zta6, zts6, ztl7, zta7, zts7, hh, sh1, b1, b2]
      exact hr2
  · rw [r168_18]
    simp (disch := first | omega | assumption | exact Or.inl rfl | exact Or.inr rfl | exact bI_or _ | exact zC81 | exact zC47 | exact zC65 | exact zC0 | exact zC1 | exact zC32 | exact zC70 | exact zC73 | exact ztc (by assumption) | exact zdc (by assumption) | exact zpc (by assumption) | decide) only [Option.some.injEq, exists_eq_left', ex2, Option.toList, List.singleton_append, List.append_nil, List.cons_append, List.nil_append, nI_add, nI_addL, nI_Ladd, pk_mul, nI_mulL, nI_Lmul, nI_subL, pk_sub, nI_divL, sub_dm, nI_leE, nI_ltE, nI_eqE, nI_Lle, nI_leL, nI_Llt, nI_ltL, nI_eqL, va_up_self, va_up_ne, up_up, up_comm, nI_clamp, bI_eq0, not_true_eq_false, not_false_eq_true, Nat.reduceEqDiff, Nat.reduceLeDiff, Nat.reduceAdd, Nat.reduceMul, Nat.one_ne_zero, Nat.zero_ne_one, decide_eq_false_iff_not, decide_eq_true_eq, Bool.false_eq_true, decide_true, decide_false, bI_true, bI_false, one_ne, Nat.le_refl, Nat.lt_irrefl, cleT, cleF, cltT, cltF, ceqT, ceqF, ↓reduceIte, r168_20, r168_21, r168_21n, r168_22, r168_25, r168_26, r168_61, r168_62, ztc, zto0, ztw0, zto1, ztw1, zto2, ztw2, zto3, ztw3, zto4, ztw4, zto5, zto6, zto7, zto8, zto9, zto10, zto11, ztl1, zta1, zts1, ztl2, zta2, zts2, ztl3, zta3, zts3, ztl4, zta4, zts4, ztl5, zta5, zts5, ztl6, zta6, zts6, ztl7, zta7, zts7, hh, sh1]
end VIS
