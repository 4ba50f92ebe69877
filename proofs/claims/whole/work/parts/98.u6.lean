/-! FITS, alike -/
section FTS
variable {xs : Nat → Int32} {sl d : Nat} {J : hJk} {s x y : hS} {g : hG}
def GuessOK (s : hS) : Prop := ∃ w, GW s w
def CG (s x : hS) : Prop := ∀ c, (1 ≤ c ∧ c < 31) ∨ 81 ≤ c → x c = s c
def SameG (xs : Nat → Int32) (sl : Nat) (J : hJk) (s : hS) (g : hG) (M M' : Nat) (L L' : mL) : Prop := ∃ (v : Value) (x y : hS) (g' : hG), Runs xs sl 999 M 0 L [] (hp J s g) (some v, hp J x g) ∧ CG s x ∧ GuessOK x ∧ Runs xs sl 999 M' 0 L' [] (hp J x g) (some v, hp J y g') ∧ RK x y
theorem CG_refl (s : hS) : CG s s := fun _ _ => rfl
def kdF (R : Nat → Int32) (i : Nat) : Nat := (R (3 * i)).toNatClampNeg
def tpF (R : Nat → Int32) (i : Nat) : Nat := (R (3 * i + 1)).toNatClampNeg
def vvF (R : Nat → Int32) (i : Nat) : Int32 := R (3 * i + 2)
theorem pT_of {k n li c : Nat} (hk : k < 2) (h : PlateQ s (s 82) (17 + 12 * k) (1190 + 39 * k) n li c) : pT s (17 + 12 * k) n li c (kdF (s (18 + 12 * k))) (tpF (s (18 + 12 * k))) (vvF (s (18 + 12 * k))) := by
  obtain ⟨⟨a1, a2, a3, a4⟩, ⟨b1, b2, b3⟩, ⟨d1, d2, d3⟩, tr, rw'⟩ := h
  have e18 : 17 + 12 * k + 1 = 18 + 12 * k := by omega
  rw [e18] at tr rw'
  refine ⟨isP_of hk, by omega, a1, a4, b1, b3, d1, d3, fun i hi => ?_⟩
  rw [e18]
  obtain ⟨k', t', h1, h2, h3, h4, h5⟩ := rw' i hi
  have e1 : kdF (s (18 + 12 * k)) i = k' := nI_cl h3 (by omega)
  have e2 : tpF (s (18 + 12 * k)) i = t' := nI_cl h4 (by omega)
  rw [e1, e2]
  exact ⟨h3, by omega, h4, h2, rfl⟩
theorem rP_of {k n li c : Nat} {x : hS} (hk : k < 2) (h : PlateQ s (s 82) (17 + 12 * k) (1190 + 39 * k) n li c) (e82 : x 82 = s 82) : rP (rPlate x k) (1190 + 39 * k) n li c (kdF (s (18 + 12 * k))) (tpF (s (18 + 12 * k))) (vvF (s (18 + 12 * k))) := by
  obtain ⟨⟨a1, a2, a3, a4⟩, ⟨b1, b2, b3⟩, ⟨d1, d2, d3⟩, tr, rw'⟩ := h
  have e18 : 17 + 12 * k + 1 = 18 + 12 * k := by omega
  rw [e18] at tr rw'
  have f82 : rPlate x k 82 = s 82 := ((rPlate_RK k).1 82 (by omega)).trans e82
  have f26 : rPlate x k 81 37 = nI (1190 + 39 * k) := by simp (disch := first | omega | assumption | exact Or.inl rfl | exact Or.inr rfl | exact bI_or _ | exact zC81 | exact zC47 | exact zC65 | exact zC0 | exact zC1 | exact zC32 | exact zC70 | exact zC73 | exact ztc (by assumption) | exact zdc (by assumption) | exact zpc (by assumption) | decide) only [Option.some.injEq, exists_eq_left', ex2, Option.toList, List.singleton_append, List.append_nil, List.cons_append, List.nil_append, nI_add, nI_addL, nI_Ladd, pk_mul, nI_mulL, nI_Lmul, nI_subL, pk_sub, nI_divL, sub_dm, nI_leE, nI_ltE, nI_eqE, nI_Lle, nI_leL, nI_Llt, nI_ltL, nI_eqL, va_up_self, va_up_ne, up_up, up_comm, nI_clamp, bI_eq0, not_true_eq_false, not_false_eq_true, Nat.reduceEqDiff, Nat.reduceLeDiff, Nat.reduceAdd, Nat.reduceMul, Nat.one_ne_zero, Nat.zero_ne_one, decide_eq_false_iff_not, decide_eq_true_eq, Bool.false_eq_true, decide_true, decide_false, bI_true, bI_false, one_ne, Nat.le_refl, Nat.lt_irrefl, cleT, cleF, cltT, cltF, ceqT, ceqF, ↓reduceIte, rPlate]
  unfold rP
  rw [f82]
  refine ⟨f26, by omega, by omega, a2, a4, b2, b3, d2, d3, fun i hi => ?_⟩
  obtain ⟨k', t', h1, h2, h3, h4, h5⟩ := rw' i hi
  have e1 : kdF (s (18 + 12 * k)) i = k' := nI_cl h3 (by omega)
  have e2 : tpF (s (18 + 12 * k)) i = t' := nI_cl h4 (by omega)
  rw [e1, e2]
  refine ⟨(tr (3 * i) (by omega)).trans h3, h1, ?_, h2, ?_⟩
  · have := tr (3 * i + 1) (by omega)
    rw [← Nat.add_assoc] at this
    exact this.trans h4
  · have := tr (3 * i + 2) (by omega)
    rw [← Nat.add_assoc] at this
    exact this
theorem ex_0 {f : Nat → Nat} {b : Bool} (h : ∀ v, v < 7 → f v = 0) : it (exS f b) 7 (-9) = -9 := by
  have q : ∀ n, n ≤ 7 → it (exS f b) n (-9) = -9 := by
    intro n
    induction n with
    | zero => exact fun _ => rfl
    | succ n ih =>
      intro hn
      have e : it (exS f b) (n + 1) (-9) = exS f b n (it (exS f b) n (-9)) := rfl
      rw [e, ih (by omega)]
      have := h n (by omega)
      exact if_neg (fun z => by omega)
  exact q 7 (Nat.le_refl _)
set_option maxHeartbeats 1000000 in
theorem pm_fits (hI : ToldR s (s 82)) (hG : GuessOK s) (p q : Int32) : SameG xs sl J s g 27 265 [some (.ref 0), some (.int p), some (.int q), none, none, none] [some (.ref 81), some (.int p), some (.int q), none, none, none] := by
  obtain ⟨c0, c1, c2, len, -, -, ⟨q0, q0', q0''⟩, -, -, -, -, -, hT⟩ := hI
  rcases has_cases p (n := c2) (by omega) with h | ⟨k, hk, rfl⟩
  · have oo := @rf_isOf xs sl 997 J s g 2 c2 p (by decide) q0' q0''
    simp only [show nI 2 = (2 : Int32) from rfl] at oo
    rw [h] at oo
    refine ⟨.long (-9), s, s, g, ?_, CG_refl s, hG, ?_, RK_refl s⟩
    · simp (disch := first | omega | assumption | exact Or.inl rfl | exact Or.inr rfl | exact bI_or _ | exact zC81 | exact zC47 | exact zC65 | exact zC0 | exact zC1 | exact zC32 | exact zC70 | exact zC73 | exact ztc (by assumption) | exact zdc (by assumption) | exact zpc (by assumption) | decide) only [Option.some.injEq, exists_eq_left', ex2, Option.toList, List.singleton_append, List.append_nil, List.cons_append, List.nil_append, nI_add, nI_addL, nI_Ladd, pk_mul, nI_mulL, nI_Lmul, nI_subL, pk_sub, nI_divL, sub_dm, nI_leE, nI_ltE, nI_eqE, nI_Lle, nI_leL, nI_Llt, nI_ltL, nI_eqL, va_up_self, va_up_ne, up_up, up_comm, nI_clamp, bI_eq0, not_true_eq_false, not_false_eq_true, Nat.reduceEqDiff, Nat.reduceLeDiff, Nat.reduceAdd, Nat.reduceMul, Nat.one_ne_zero, Nat.zero_ne_one, decide_eq_false_iff_not, decide_eq_true_eq, Bool.false_eq_true, decide_true, decide_false, bI_true, bI_false, one_ne, Nat.le_refl, Nat.lt_irrefl, cleT, cleF, cltT, cltF, ceqT, ceqF, ↓reduceIte, r27_0, r27_1, r27_2, r27_5, r27_5n, r27_6, r27_6n, r27_7, r27_7n, r27_10, r27_11, r27_14, r27_17, br_plateNo q0 h]
    · simp (disch := first | omega | assumption | exact Or.inl rfl | exact Or.inr rfl | exact bI_or _ | exact zC81 | exact zC47 | exact zC65 | exact zC0 | exact zC1 | exact zC32 | exact zC70 | exact zC73 | exact ztc (by assumption) | exact zdc (by assumption) | exact zpc (by assumption) | decide) only [Option.some.injEq, exists_eq_left', ex2, Option.toList, List.singleton_append, List.append_nil, List.cons_append, List.nil_append, nI_add, nI_addL, nI_Ladd, pk_mul, nI_mulL, nI_Lmul, nI_subL, pk_sub, nI_divL, sub_dm, nI_leE, nI_ltE, nI_eqE, nI_Lle, nI_leL, nI_Llt, nI_ltL, nI_eqL, va_up_self, va_up_ne, up_up, up_comm, nI_clamp, bI_eq0, not_true_eq_false, not_false_eq_true, Nat.reduceEqDiff, Nat.reduceLeDiff, Nat.reduceAdd, Nat.reduceMul, Nat.one_ne_zero, Nat.zero_ne_one, decide_eq_false_iff_not, decide_eq_true_eq, Bool.false_eq_true, decide_true, decide_false, bI_true, bI_false, one_ne, Nat.le_refl, Nat.lt_irrefl, cleT, cleF, cltT, cltF, ceqT, ceqF, ↓reduceIte, r265_0, r265_1, r265_2, r265_3, r265_6, r265_9, r265_12, oo]
  obtain ⟨n, li, c, hQ⟩ := hT k hk
  have hP := pT_of (by omega) hQ
  have hR := fun (x : hS) (e : x 82 = s 82) => rP_of (x := x) (by omega) hQ e
  obtain ⟨⟨a1, a2, n1, n6⟩, -, -, -, -⟩ := hQ
  have hd : ∀ (x : hS) z, x 82 = s 82 → Runs xs sl 999 265 22 [some (.ref 81), some (.int (nI k)), some (.int q), none, none, none] [] (hp J (rPlate x k) g) z → Runs xs sl 999 265 0 [some (.ref 81), some (.int (nI k)), some (.int q), none, none, none] [] (hp J x g) z := by
    intro x z e82 hz
    have oo := @rf_isOf xs sl 997 J x g 2 c2 (nI k) (by decide) (by rw [e82]; exact q0') q0''
    simp only [show nI 2 = (2 : Int32) from rfl] at oo
    rw [f_has_nI (by omega) (by omega), decide_eq_true hk] at oo
    have q2 := @rf_placeOf xs sl 998 J x g 2 k (by decide) (by omega)
    simp only [show nI 2 = (2 : Int32) from rfl] at q2
    simp (disch := first | omega | assumption | exact Or.inl rfl | exact Or.inr rfl | exact bI_or _ | exact zC81 | exact zC47 | exact zC65 | exact zC0 | exact zC1 | exact zC32 | exact zC70 | exact zC73 | exact ztc (by assumption) | exact zdc (by assumption) | exact zpc (by assumption) | decide) only [Option.some.injEq, exists_eq_left', ex2, Option.toList, List.singleton_append, List.append_nil, List.cons_append, List.nil_append, nI_add, nI_addL, nI_Ladd, pk_mul, nI_mulL, nI_Lmul, nI_subL, pk_sub, nI_divL, sub_dm, nI_leE, nI_ltE, nI_eqE, nI_Lle, nI_leL, nI_Llt, nI_ltL, nI_eqL, va_up_self, va_up_ne, up_up, up_comm, nI_clamp, bI_eq0, not_true_eq_false, not_false_eq_true, Nat.reduceEqDiff, Nat.reduceLeDiff, Nat.reduceAdd, Nat.reduceMul, Nat.one_ne_zero, Nat.zero_ne_one, decide_eq_false_iff_not, decide_eq_true_eq, Bool.false_eq_true, decide_true, decide_false, bI_true, bI_false, one_ne, Nat.le_refl, Nat.lt_irrefl, cleT, cleF, cltT, cltF, ceqT, ceqF, ↓reduceIte, r265_0, r265_1, r265_2, r265_3, r265_6, r265_9, r265_12, r265_13, r265_14, r265_15, r265_16, r265_19, oo, q2, zW81_37]
    exact hz
  generalize kdF (s (18 + 12 * k)) = kd at *
  generalize tpF (s (18 + 12 * k)) = tp at *
  generalize vvF (s (18 + 12 * k)) = vv at *
  have TB : TOT (msF kd tp vv c) n li ≤ 117649 := TOT_le n6
  have z10 : ¬ (10 : Int32) = 0 := by decide
  have out : ∀ (x : hS), x 82 = s 82 → ¬ q = 0 → ¬ q = 1 → ¬ q = 2 → f_isIn q 10 29 = 0 → ∃ g', Runs xs sl 999 265 22 [some (.ref 81), some (.int (nI k)), some (.int q), none, none, none] [] (hp J (rPlate x k) g) (some (.long (-9)), hp J (rPlate x k) g') := by
    intro x e82 y0 y1 y2 y3
    obtain ⟨g1, r1, r2⟩ := @rf_rowAll xs sl 995 J (rPlate x k) g _ n li c kd tp vv (hR x e82)
    refine ⟨g1, ?_⟩
    generalize TOT (msF kd tp vv c) n li = T at *
    by_cases c : lg_cmp (lN T) 0 = 0
    · have c' := eq_true c
      simp (disch := first | omega | assumption | exact Or.inl rfl | exact Or.inr rfl | exact bI_or _ | exact zC81 | exact zC47 | exact zC65 | exact zC0 | exact zC1 | exact zC32 | exact zC70 | exact zC73 | exact ztc (by assumption) | exact zdc (by assumption) | exact zpc (by assumption) | decide) only [Option.some.injEq, exists_eq_left', ex2, Option.toList, List.singleton_append, List.append_nil, List.cons_append, List.nil_append, nI_add, nI_addL, nI_Ladd, pk_mul, nI_mulL, nI_Lmul, nI_subL, pk_sub, nI_divL, sub_dm, nI_leE, nI_ltE, nI_eqE, nI_Lle, nI_leL, nI_Llt, nI_ltL, nI_eqL, va_up_self, va_up_ne, up_up, up_comm, nI_clamp, bI_eq0, not_true_eq_false, not_false_eq_true, Nat.reduceEqDiff, Nat.reduceLeDiff, Nat.reduceAdd, Nat.reduceMul, Nat.one_ne_zero, Nat.zero_ne_one, decide_eq_false_iff_not, decide_eq_true_eq, Bool.false_eq_true, decide_true, decide_false, bI_true, bI_false, one_ne, Nat.le_refl, Nat.lt_irrefl, cleT, cleF, cltT, cltF, ceqT, ceqF, ↓reduceIte, r265_22, r265_23, r265_24, r265_27, r265_28, r265_31, r265_32, r265_33, r265_34, r265_35, r265_36, r265_39, r265_40, r265_41, r265_44, r265_45, r265_46, r265_47, r265_48, r265_49, r265_52, r265_55, r1.iff, y0, y1, c']
    · simp (disch := first | omega | assumption | exact Or.inl rfl | exact Or.inr rfl | exact bI_or _ | exact zC81 | exact zC47 | exact zC65 | exact zC0 | exact zC1 | exact zC32 | exact zC70 | exact zC73 | exact ztc (by assumption) | exact zdc (by assumption) | exact zpc (by assumption) | decide) only [Option.some.injEq, exists_eq_left', ex2, Option.toList, List.singleton_append, List.append_nil, List.cons_append, List.nil_append, nI_add, nI_addL, nI_Ladd, pk_mul, nI_mulL, nI_Lmul, nI_subL, pk_sub, nI_divL, sub_dm, nI_leE, nI_ltE, nI_eqE, nI_Lle, nI_leL, nI_Llt, nI_ltL, nI_eqL, va_up_self, va_up_ne, up_up, up_comm, nI_clamp, bI_eq0, not_true_eq_false, not_false_eq_true, Nat.reduceEqDiff, Nat.reduceLeDiff, Nat.reduceAdd, Nat.reduceMul, Nat.one_ne_zero, Nat.zero_ne_one, decide_eq_false_iff_not, decide_eq_true_eq, Bool.false_eq_true, decide_true, decide_false, bI_true, bI_false, one_ne, Nat.le_refl, Nat.lt_irrefl, cleT, cleF, cltT, cltF, ceqT, ceqF, ↓reduceIte, r265_22, r265_23, r265_24, r265_27, r265_28, r265_31, r265_32, r265_33, r265_34, r265_35, r265_36, r265_39, r265_40, r265_41, r265_44, r265_45, r265_46, r265_47, r265_48, r265_49, r265_52, r265_55, r265_56, r265_57, r265_58, r265_61, r265_62, r265_65, r265_66, r265_67, r265_68, r265_70, r265_71, r265_73, r265_74, r265_76, r265_78, r265_81, r265_84, r265_86, r265_87, r265_90, r265_91, r265_94, r265_95, r265_98, r265_99, r265_101, r265_102, r265_104, r265_107, r265_108, r265_111, r265_112, r265_115, r265_116, r265_119, r265_122, r1.iff, y0, y1, y2, c, rf_isInE, y3]
  by_cases cq : q < 0
  · have y : ∀ j, j < 10 → ¬ q = nI j := by
      intro j hj e
      have z : ∀ j, j < 10 → ¬ nI j < 0 := by decide +kernel
      exact z j hj (e ▸ cq)
    obtain ⟨g', r1⟩ := out s rfl (y 0 (by decide)) (y 1 (by decide)) (y 2 (by decide)) (isInNeg cq (by decide))
    refine ⟨.long (-9), s, rPlate s k, g', ?_, CG_refl s, hG, hd s _ rfl r1, rPlate_RK k⟩
    have cq' := Int32.not_le.mpr cq
    simp (disch := first | omega | assumption | exact Or.inl rfl | exact Or.inr rfl | exact bI_or _ | exact zC81 | exact zC47 | exact zC65 | exact zC0 | exact zC1 | exact zC32 | exact zC70 | exact zC73 | exact ztc (by assumption) | exact zdc (by assumption) | exact zpc (by assumption) | decide) only [Option.some.injEq, exists_eq_left', ex2, Option.toList, List.singleton_append, List.append_nil, List.cons_append, List.nil_append, nI_add, nI_addL, nI_Ladd, pk_mul, nI_mulL, nI_Lmul, nI_subL, pk_sub, nI_divL, sub_dm, nI_leE, nI_ltE, nI_eqE, nI_Lle, nI_leL, nI_Llt, nI_ltL, nI_eqL, va_up_self, va_up_ne, up_up, up_comm, nI_clamp, bI_eq0, not_true_eq_false, not_false_eq_true, Nat.reduceEqDiff, Nat.reduceLeDiff, Nat.reduceAdd, Nat.reduceMul, Nat.one_ne_zero, Nat.zero_ne_one, decide_eq_false_iff_not, decide_eq_true_eq, Bool.false_eq_true, decide_true, decide_false, bI_true, bI_false, one_ne, Nat.le_refl, Nat.lt_irrefl, cleT, cleF, cltT, cltF, ceqT, ceqF, ↓reduceIte, r27_0, r27_1, r27_2, r27_5, r27_5n, r27_6, r27_6n, r27_7, r27_7n, r27_10, r27_11, r27_14, r27_17, br_plateAt q0 q0'' hk, cq']
  obtain ⟨w, hw, rfl⟩ := nI_of cq
  obtain ⟨w0, hW⟩ := hG
  obtain ⟨s1, w1, b1, b2, b3, b4, b5, b6⟩ := @gs_weigh xs sl 994 J s g (17 + 12 * k) n li c w0 kd tp vv hP hW
  have e82 : s1 82 = s 82 := b3 82 (by omega)
  have cg : CG s s1 := fun j hj => b3 j (by omega)
  have hip := isP_of (k := k) (by omega)
  have hn : s1 (17 + 12 * k) 0 = nI n := by rw [b3 _ (by omega)]; exact a1
  have m12 : ∀ t v, msF kd tp vv c t v ≤ 12 := fun t v => by
    have q := msF_le (kd := kd) (tp := tp) (vv := vv) (c := c) (t := t) (v := v)
    have q2 : c ≤ 12 := hP.2.2.2.2.2.2.2.1
    omega
  have hF : ∀ t v, t < n → v < 7 → s1 77 (7 * t + v) = nI (FV (msF kd tp vv c) n li t v) := b6
  have fb : ∀ t v, t < n → v < 7 → FV (msF kd tp vv c) n li t v ≤ 117649 := fun t v ht hv => FV_le n6 ht hv
  have cls : ∀ (v : Int64) (x : hS), Runs xs sl 999 27 26 [some (.ref 0), some (.int (nI k)), some (.int (nI w)), some (.ref (17 + 12 * k)), none, none] [] (hp J s1 g) (some (.long v), hp J x g) → Runs xs sl 999 27 0 [some (.ref 0), some (.int (nI k)), some (.int (nI w)), none, none, none] [] (hp J s g) (some (.long v), hp J x g) := by
    intro v x hx
    simp (disch := first | omega | assumption | exact Or.inl rfl | exact Or.inr rfl | exact bI_or _ | exact zC81 | exact zC47 | exact zC65 | exact zC0 | exact zC1 | exact zC32 | exact zC70 | exact zC73 | exact ztc (by assumption) | exact zdc (by assumption) | exact zpc (by assumption) | decide) only [Option.some.injEq, exists_eq_left', ex2, Option.toList, List.singleton_append, List.append_nil, List.cons_append, List.nil_append, nI_add, nI_addL, nI_Ladd, pk_mul, nI_mulL, nI_Lmul, nI_subL, pk_sub, nI_divL, sub_dm, nI_leE, nI_ltE, nI_eqE, nI_Lle, nI_leL, nI_Llt, nI_ltL, nI_eqL, va_up_self, va_up_ne, up_up, up_comm, nI_clamp, bI_eq0, not_true_eq_false, not_false_eq_true, Nat.reduceEqDiff, Nat.reduceLeDiff, Nat.reduceAdd, Nat.reduceMul, Nat.one_ne_zero, Nat.zero_ne_one, decide_eq_false_iff_not, decide_eq_true_eq, Bool.false_eq_true, decide_true, decide_false, bI_true, bI_false, one_ne, Nat.le_refl, Nat.lt_irrefl, cleT, cleF, cltT, cltF, ceqT, ceqF, ↓reduceIte, r27_0, r27_1, r27_2, r27_5, r27_5n, r27_6, r27_6n, r27_7, r27_7n, r27_10, r27_11, r27_14, r27_17, r27_18, r27_19, r27_22, r27_22n, r27_23, br_plateAt q0 q0'' hk, zO0_6, b1.iff]
    exact hx
  have gk : GuessOK s1 := ⟨w1, b2⟩
  have rk := rPlate_RK (s := s1) k
  by_cases w9 : w < 10
  · have c10 : ∀ (v : Int32) (x : hS), Runs xs sl 998 54 0 [some (.ref 73), some (.int (nI w))] [] (hp J s1 g) (some (.int v), hp J x g) → Runs xs sl 999 27 26 [some (.ref 0), some (.int (nI k)), some (.int (nI w)), some (.ref (17 + 12 * k)), none, none] [] (hp J s1 g) (some (.long v.toInt64), hp J x g) := by
      intro v x hx
      have d1 : w / 10 = 0 := by omega
      have d2 : w % 10 = w := by omega
      simp (disch := first | omega | assumption | exact Or.inl rfl | exact Or.inr rfl | exact bI_or _ | exact zC81 | exact zC47 | exact zC65 | exact zC0 | exact zC1 | exact zC32 | exact zC70 | exact zC73 | exact ztc (by assumption) | exact zdc (by assumption) | exact zpc (by assumption) | decide) only [Option.some.injEq, exists_eq_left', ex2, Option.toList, List.singleton_append, List.append_nil, List.cons_append, List.nil_append, nI_add, nI_addL, nI_Ladd, pk_mul, nI_mulL, nI_Lmul, nI_subL, pk_sub, nI_divL, sub_dm, nI_leE, nI_ltE, nI_eqE, nI_Lle, nI_leL, nI_Llt, nI_ltL, nI_eqL, va_up_self, va_up_ne, up_up, up_comm, nI_clamp, bI_eq0, not_true_eq_false, not_false_eq_true, Nat.reduceEqDiff, Nat.reduceLeDiff, Nat.reduceAdd, Nat.reduceMul, Nat.one_ne_zero, Nat.zero_ne_one, decide_eq_false_iff_not, decide_eq_true_eq, Bool.false_eq_true, decide_true, decide_false, bI_true, bI_false, one_ne, Nat.le_refl, Nat.lt_irrefl, cleT, cleF, cltT, cltF, ceqT, ceqF, ↓reduceIte, r27_26, r27_27, r27_29, r27_30, r27_30_1, r27_32, r27_33, r27_35, r27_36, r27_38, r27_40, r27_43, r27_44, r27_47, r27_49, r27_52, r27_53, zO0_6, d1, d2, Nat.sub_zero, hx.iff]
    have cf := @gs_countFitting xs sl 997 J s1 g (FV (msF kd tp vv c) n li 0) (fun v hv => by
      have := hF 0 v (by omega) hv
      rw [show 7 * 0 + v = v by omega] at this
      exact this)
    rw [FV_sum (by omega)] at cf
    by_cases e0 : w = 0
    · subst e0
      obtain ⟨g1, r1, r2⟩ := @rf_rowAll xs sl 995 J (rPlate s1 k) g _ n li c kd tp vv (hR s1 e82)
      generalize TOT (msF kd tp vv c) n li = T at *
      have tl : (nI T).toInt64 = lN T := nI_l (by omega)
      refine ⟨.long (nI T).toInt64, s1, rPlate s1 k, g1, cls _ _ (c10 _ _ ?_), cg, gk, hd s1 _ e82 ?_, rk⟩
      · simp (disch := first | omega | assumption | exact Or.inl rfl | exact Or.inr rfl | exact bI_or _ | exact zC81 | exact zC47 | exact zC65 | exact zC0 | exact zC1 | exact zC32 | exact zC70 | exact zC73 | exact ztc (by assumption) | exact zdc (by assumption) | exact zpc (by assumption) | decide) only [Option.some.injEq, exists_eq_left', ex2, Option.toList, List.singleton_append, List.append_nil, List.cons_append, List.nil_append, nI_add, nI_addL, nI_Ladd, pk_mul, nI_mulL, nI_Lmul, nI_subL, pk_sub, nI_divL, sub_dm, nI_leE, nI_ltE, nI_eqE, nI_Lle, nI_leL, nI_Llt, nI_ltL, nI_eqL, va_up_self, va_up_ne, up_up, up_comm, nI_clamp, bI_eq0, not_true_eq_false, not_false_eq_true, Nat.reduceEqDiff, Nat.reduceLeDiff, Nat.reduceAdd, Nat.reduceMul, Nat.one_ne_zero, Nat.zero_ne_one, decide_eq_false_iff_not, decide_eq_true_eq, Bool.false_eq_true, decide_true, decide_false, bI_true, bI_false, one_ne, Nat.le_refl, Nat.lt_irrefl, cleT, cleF, cltT, cltF, ceqT, ceqF, ↓reduceIte, r54_0, r54_1_c0, r54_28, r54_29, r54_32, show nI 0 = (0 : Int32) from rfl, cf]
      · rw [tl]
        simp (disch := first | omega | assumption | exact Or.inl rfl | exact Or.inr rfl | exact bI_or _ | exact zC81 | exact zC47 | exact zC65 | exact zC0 | exact zC1 | exact zC32 | exact zC70 | exact zC73 | exact ztc (by assumption) | exact zdc (by assumption) | exact zpc (by assumption) | decide) only [Option.some.injEq, exists_eq_left', ex2, Option.toList, List.singleton_append, List.append_nil, List.cons_append, List.nil_append, nI_add, nI_addL, nI_Ladd, pk_mul, nI_mulL, nI_Lmul, nI_subL, pk_sub, nI_divL, sub_dm, nI_leE, nI_ltE, nI_eqE, nI_Lle, nI_leL, nI_Llt, nI_ltL, nI_eqL, va_up_self, va_up_ne, up_up, up_comm, nI_clamp, bI_eq0, not_true_eq_false, not_false_eq_true, Nat.reduceEqDiff, Nat.reduceLeDiff, Nat.reduceAdd, Nat.reduceMul, Nat.one_ne_zero, Nat.zero_ne_one, decide_eq_false_iff_not, decide_eq_true_eq, Bool.false_eq_true, decide_true, decide_false, bI_true, bI_false, one_ne, Nat.le_refl, Nat.lt_irrefl, cleT, cleF, cltT, cltF, ceqT, ceqF, ↓reduceIte, r265_22, r265_23, r265_24, r265_27, r265_28, r265_31, r265_32, r265_33, r265_34, r265_35, r265_36, r265_39, r265_40, r265_41, r265_44, r265_45, r1.iff]
    by_cases e1 : w = 1
    · subst e1
      have fl := @gs_fewestLies xs sl 996 J s1 g (17 + 12 * k) n (msF kd tp vv c) hip b4 hn n6 (fun t v ht hv => ⟨b5 t v ht hv, m12 t v⟩)
      have rl := @rf_fewestLies xs sl 995 J (rPlate s1 k) g _ n li c kd tp vv (hR s1 e82)
      have e9 : sumN (fun t => mnF (msF kd tp vv c t) 7 99) n = sumN (fun t => mnF (msF kd tp vv c t) 7 12) n := sumN_congr (fun t _ => mnF_99 (fun v => m12 t v))
      rw [e9] at rl
      generalize sumN (fun t => mnF (msF kd tp vv c t) 7 12) n = T at *
      refine ⟨.long (nI T).toInt64, s1, rPlate s1 k, g, cls _ _ (c10 _ _ ?_), cg, gk, hd s1 _ e82 ?_, rk⟩
      · simp (disch := first | omega | assumption | exact Or.inl rfl | exact Or.inr rfl | exact bI_or _ | exact zC81 | exact zC47 | exact zC65 | exact zC0 | exact zC1 | exact zC32 | exact zC70 | exact zC73 | exact ztc (by assumption) | exact zdc (by assumption) | exact zpc (by assumption) | decide) only [Option.some.injEq, exists_eq_left', ex2, Option.toList, List.singleton_append, List.append_nil, List.cons_append, List.nil_append, nI_add, nI_addL, nI_Ladd, pk_mul, nI_mulL, nI_Lmul, nI_subL, pk_sub, nI_divL, sub_dm, nI_leE, nI_ltE, nI_eqE, nI_Lle, nI_leL, nI_Llt, nI_ltL, nI_eqL, va_up_self, va_up_ne, up_up, up_comm, nI_clamp, bI_eq0, not_true_eq_false, not_false_eq_true, Nat.reduceEqDiff, Nat.reduceLeDiff, Nat.reduceAdd, Nat.reduceMul, Nat.one_ne_zero, Nat.zero_ne_one, decide_eq_false_iff_not, decide_eq_true_eq, Bool.false_eq_true, decide_true, decide_false, bI_true, bI_false, one_ne, Nat.le_refl, Nat.lt_irrefl, cleT, cleF, cltT, cltF, ceqT, ceqF, ↓reduceIte, r54_0, r54_1_c1, r54_33, r54_34, r54_37, show nI 1 = (1 : Int32) from rfl, fl]
      · simp (disch := first | omega | assumption | exact Or.inl rfl | exact Or.inr rfl | exact bI_or _ | exact zC81 | exact zC47 | exact zC65 | exact zC0 | exact zC1 | exact zC32 | exact zC70 | exact zC73 | exact ztc (by assumption) | exact zdc (by assumption) | exact zpc (by assumption) | decide) only [Option.some.injEq, exists_eq_left', ex2, Option.toList, List.singleton_append, List.append_nil, List.cons_append, List.nil_append, nI_add, nI_addL, nI_Ladd, pk_mul, nI_mulL, nI_Lmul, nI_subL, pk_sub, nI_divL, sub_dm, nI_leE, nI_ltE, nI_eqE, nI_Lle, nI_leL, nI_Llt, nI_ltL, nI_eqL, va_up_self, va_up_ne, up_up, up_comm, nI_clamp, bI_eq0, not_true_eq_false, not_false_eq_true, Nat.reduceEqDiff, Nat.reduceLeDiff, Nat.reduceAdd, Nat.reduceMul, Nat.one_ne_zero, Nat.zero_ne_one, decide_eq_false_iff_not, decide_eq_true_eq, Bool.false_eq_true, decide_true, decide_false, bI_true, bI_false, one_ne, Nat.le_refl, Nat.lt_irrefl, cleT, cleF, cltT, cltF, ceqT, ceqF, ↓reduceIte, r265_22, r265_23, r265_24, r265_27, r265_28, r265_31, r265_32, rl]
    by_cases e2 : w = 2
    · subst e2
      obtain ⟨g1, r1, r2⟩ := @rf_rowAll xs sl 995 J (rPlate s1 k) g _ n li c kd tp vv (hR s1 e82)
      by_cases c0 : TOT (msF kd tp vv c) n li = 0
      · rw [c0] at r1 cf
        refine ⟨.long (-9), s1, rPlate s1 k, g1, cls _ _ (c10 (-9) _ ?_), cg, gk, hd s1 _ e82 ?_, rk⟩
        · simp (disch := first | omega | assumption | exact Or.inl rfl | exact Or.inr rfl | exact bI_or _ | exact zC81 | exact zC47 | exact zC65 | exact zC0 | exact zC1 | exact zC32 | exact zC70 | exact zC73 | exact ztc (by assumption) | exact zdc (by assumption) | exact zpc (by assumption) | decide) only [Option.some.injEq, exists_eq_left', ex2, Option.toList, List.singleton_append, List.append_nil, List.cons_append, List.nil_append, nI_add, nI_addL, nI_Ladd, pk_mul, nI_mulL, nI_Lmul, nI_subL, pk_sub, nI_divL, sub_dm, nI_leE, nI_ltE, nI_eqE, nI_Lle, nI_leL, nI_Llt, nI_ltL, nI_eqL, va_up_self, va_up_ne, up_up, up_comm, nI_clamp, bI_eq0, not_true_eq_false, not_false_eq_true, Nat.reduceEqDiff, Nat.reduceLeDiff, Nat.reduceAdd, Nat.reduceMul, Nat.one_ne_zero, Nat.zero_ne_one, decide_eq_false_iff_not, decide_eq_true_eq, Bool.false_eq_true, decide_true, decide_false, bI_true, bI_false, one_ne, Nat.le_refl, Nat.lt_irrefl, cleT, cleF, cltT, cltF, ceqT, ceqF, ↓reduceIte, r54_0, r54_1_c2, r54_38, r54_39, r54_42, r54_45, r54_47, r54_50, r54_51, r54_54, show nI 2 = (2 : Int32) from rfl, cf]
        · have z : lg_cmp (lN 0) 0 = 0 := by decide
          have z' := eq_true z
          simp (disch := first | omega | assumption | exact Or.inl rfl | exact Or.inr rfl | exact bI_or _ | exact zC81 | exact zC47 | exact zC65 | exact zC0 | exact zC1 | exact zC32 | exact zC70 | exact zC73 | exact ztc (by assumption) | exact zdc (by assumption) | exact zpc (by assumption) | decide) only [Option.some.injEq, exists_eq_left', ex2, Option.toList, List.singleton_append, List.append_nil, List.cons_append, List.nil_append, nI_add, nI_addL, nI_Ladd, pk_mul, nI_mulL, nI_Lmul, nI_subL, pk_sub, nI_divL, sub_dm, nI_leE, nI_ltE, nI_eqE, nI_Lle, nI_leL, nI_Llt, nI_ltL, nI_eqL, va_up_self, va_up_ne, up_up, up_comm, nI_clamp, bI_eq0, not_true_eq_false, not_false_eq_true, Nat.reduceEqDiff, Nat.reduceLeDiff, Nat.reduceAdd, Nat.reduceMul, Nat.one_ne_zero, Nat.zero_ne_one, decide_eq_false_iff_not, decide_eq_true_eq, Bool.false_eq_true, decide_true, decide_false, bI_true, bI_false, one_ne, Nat.le_refl, Nat.lt_irrefl, cleT, cleF, cltT, cltF, ceqT, ceqF, ↓reduceIte, r265_22, r265_23, r265_24, r265_27, r265_28, r265_31, r265_32, r265_33, r265_34, r265_35, r265_36, r265_39, r265_40, r265_41, r265_44, r265_45, r265_46, r265_47, r265_48, r265_49, r265_52, r265_55, r1.iff, z']
      · obtain ⟨s2, t1, t2⟩ := @gs_nextTry xs sl 994 J s1 g (17 + 12 * k) n (FV (msF kd tp vv c) n li) hip b4 hn n6 hF (fun t ht => by rw [FV_sum ht]; omega)
        have f82 : s2 82 = s 82 := (t2 82 (by decide)).trans e82
        obtain ⟨g1, r1, r2⟩ := @rf_rowAll xs sl 995 J (rPlate s2 k) g _ n li c kd tp vv (hR s2 f82)
        obtain ⟨g2, r3, r4⟩ := @rf_nextCrumb xs sl 993 J (rPlate s2 k) g1 _ n li c kd tp vv (hR s2 f82)
        rw [← nx_rn n1 (by
          obtain ⟨-, j, hj, z⟩ := mx7_is (gsum (FV (msF kd tp vv c) n li 0) 1 7)
          rw [z]
          refine Nat.lt_of_le_of_lt (gsum_le _) ?_
          rw [FV_sum (by omega)]
          omega)] at r3
        generalize (it (nxS n (fun k t => mx7 (gsum (FV (msF kd tp vv c) n li t) k 7))) 24 (-9, 1000000)).1 = A at *
        generalize TOT (msF kd tp vv c) n li = T at *
        have z : ¬ lg_cmp (lN T) 0 = 0 := fun z => c0 ((lN_eq (a := T) (b := 0) (by omega) (by omega)).mp ((lg_cmp_eq _ _).mp z))
        have z2 : ¬ nI T = 0 := fun z => c0 ((nI_eqE (a := T) (b := 0) (by omega) (by omega)).mp z)
        refine ⟨.long A.toInt64, s2, rPlate s2 k, g2, cls _ _ (c10 A _ ?_), fun j hj => (t2 j (by omega)).trans (cg j hj), ?_, hd s2 _ f82 ?_, rPlate_RK k⟩
        · simp (disch := first | omega | assumption | exact Or.inl rfl | exact Or.inr rfl | exact bI_or _ | exact zC81 | exact zC47 | exact zC65 | exact zC0 | exact zC1 | exact zC32 | exact zC70 | exact zC73 | exact ztc (by assumption) | exact zdc (by assumption) | exact zpc (by assumption) | decide) only [Option.some.injEq, exists_eq_left', ex2, Option.toList, List.singleton_append, List.append_nil, List.cons_append, List.nil_append, nI_add, nI_addL, nI_Ladd, pk_mul, nI_mulL, nI_Lmul, nI_subL, pk_sub, nI_divL, sub_dm, nI_leE, nI_ltE, nI_eqE, nI_Lle, nI_leL, nI_Llt, nI_ltL, nI_eqL, va_up_self, va_up_ne, up_up, up_comm, nI_clamp, bI_eq0, not_true_eq_false, not_false_eq_true, Nat.reduceEqDiff, Nat.reduceLeDiff, Nat.reduceAdd, Nat.reduceMul, Nat.one_ne_zero, Nat.zero_ne_one, decide_eq_false_iff_not, decide_eq_true_eq, Bool.false_eq_true, decide_true, decide_false, bI_true, bI_false, one_ne, Nat.le_refl, Nat.lt_irrefl, cleT, cleF, cltT, cltF, ceqT, ceqF, ↓reduceIte, r54_0, r54_1_c2, r54_38, r54_39, r54_42, r54_45, r54_47, r54_50, r54_51, r54_54, show nI 2 = (2 : Int32) from rfl, cf, z2, t1.iff]
        · obtain ⟨x1, x2, x3⟩ := b2
          exact ⟨w1, x1, by rw [t2 73 (by decide)]; exact x2, by rw [t2 73 (by decide)]; exact x3⟩
        · simp (disch := first | omega | assumption | exact Or.inl rfl | exact Or.inr rfl | exact bI_or _ | exact zC81 | exact zC47 | exact zC65 | exact zC0 | exact zC1 | exact zC32 | exact zC70 | exact zC73 | exact ztc (by assumption) | exact zdc (by assumption) | exact zpc (by assumption) | decide) only [Option.some.injEq, exists_eq_left', ex2, Option.toList, List.singleton_append, List.append_nil, List.cons_append, List.nil_append, nI_add, nI_addL, nI_Ladd, pk_mul, nI_mulL, nI_Lmul, nI_subL, pk_sub, nI_divL, sub_dm, nI_leE, nI_ltE, nI_eqE, nI_Lle, nI_leL, nI_Llt, nI_ltL, nI_eqL, va_up_self, va_up_ne, up_up, up_comm, nI_clamp, bI_eq0, not_true_eq_false, not_false_eq_true, Nat.reduceEqDiff, Nat.reduceLeDiff, Nat.reduceAdd, Nat.reduceMul, Nat.one_ne_zero, Nat.zero_ne_one, decide_eq_false_iff_not, decide_eq_true_eq, Bool.false_eq_true, decide_true, decide_false, bI_true, bI_false, one_ne, Nat.le_refl, Nat.lt_irrefl, cleT, cleF, cltT, cltF, ceqT, ceqF, ↓reduceIte, r265_22, r265_23, r265_24, r265_27, r265_28, r265_31, r265_32, r265_33, r265_34, r265_35, r265_36, r265_39, r265_40, r265_41, r265_44, r265_45, r265_46, r265_47, r265_48, r265_49, r265_52, r265_55, r265_56, r265_57, r265_58, r265_61, r265_62, r265_65, r265_66, r1.iff, z, r3.iff]
    have y : ∀ j, j < 3 → ¬ nI w = nI j := fun j hj e => by
      have := (nI_eqE (a := w) (b := j) (by omega) (by omega)).mp e
      omega
    have yi : f_isIn (nI w) 10 29 = 0 := if_pos (by
      have := (nI_ltE (a := w) (b := 10) (by omega) (by omega)).mpr w9
      exact this)
    obtain ⟨g', r1⟩ := out s1 e82 (y 0 (by decide)) (y 1 (by decide)) (y 2 (by decide)) yi
    refine ⟨.long (-9), s1, rPlate s1 k, g', cls _ _ (c10 (-9) _ ?_), cg, gk, hd s1 _ e82 r1, rk⟩
    have z := nI_toInt (n := w) (by omega)
    simp (disch := first | omega | assumption | exact Or.inl rfl | exact Or.inr rfl | exact bI_or _ | exact zC81 | exact zC47 | exact zC65 | exact zC0 | exact zC1 | exact zC32 | exact zC70 | exact zC73 | exact ztc (by assumption) | exact zdc (by assumption) | exact zpc (by assumption) | decide) only [Option.some.injEq, exists_eq_left', ex2, Option.toList, List.singleton_append, List.append_nil, List.cons_append, List.nil_append, nI_add, nI_addL, nI_Ladd, pk_mul, nI_mulL, nI_Lmul, nI_subL, pk_sub, nI_divL, sub_dm, nI_leE, nI_ltE, nI_eqE, nI_Lle, nI_leL, nI_Llt, nI_ltL, nI_eqL, va_up_self, va_up_ne, up_up, up_comm, nI_clamp, bI_eq0, not_true_eq_false, not_false_eq_true, Nat.reduceEqDiff, Nat.reduceLeDiff, Nat.reduceAdd, Nat.reduceMul, Nat.one_ne_zero, Nat.zero_ne_one, decide_eq_false_iff_not, decide_eq_true_eq, Bool.false_eq_true, decide_true, decide_false, bI_true, bI_false, one_ne, Nat.le_refl, Nat.lt_irrefl, cleT, cleF, cltT, cltF, ceqT, ceqF, ↓reduceIte, r54_0, r54_1_d (u0 := nI w) (Or.inr (by rw [z]; omega)), r54_55, r54_57]
  have y : ∀ j, j < 3 → ¬ nI w = nI j := fun j hj e => by
    have := (nI_eqE (a := w) (b := j) (by omega) (by omega)).mp e
    omega
  have y0 : ¬ nI w = 0 := y 0 (by decide)
  have y1 : ¬ nI w = 1 := y 1 (by decide)
  have y2 : ¬ nI w = 2 := y 2 (by decide)
  by_cases w30 : 30 ≤ w
  · have yi : f_isIn (nI w) 10 29 = 0 := by
      have l1 : ¬ nI w < 10 := fun z => by
        have := (nI_ltE (a := w) (b := 10) (by omega) (by omega)).mp z
        omega
      have l2 : (29 : Int32) < nI w := (nI_ltE (a := 29) (b := w) (by omega) (by omega)).mpr (by omega)
      rw [f_isIn, if_neg l1, if_pos l2]
    obtain ⟨g', r1⟩ := out s1 e82 y0 y1 y2 yi
    refine ⟨.long (-9), s1, rPlate s1 k, g', cls _ _ ?_, cg, gk, hd s1 _ e82 r1, rk⟩
    simp (disch := first | omega | assumption | exact Or.inl rfl | exact Or.inr rfl | exact bI_or _ | exact zC81 | exact zC47 | exact zC65 | exact zC0 | exact zC1 | exact zC32 | exact zC70 | exact zC73 | exact ztc (by assumption) | exact zdc (by assumption) | exact zpc (by assumption) | decide) only [Option.some.injEq, exists_eq_left', ex2, Option.toList, List.singleton_append, List.append_nil, List.cons_append, List.nil_append, nI_add, nI_addL, nI_Ladd, pk_mul, nI_mulL, nI_Lmul, nI_subL, pk_sub, nI_divL, sub_dm, nI_leE, nI_ltE, nI_eqE, nI_Lle, nI_leL, nI_Llt, nI_ltL, nI_eqL, va_up_self, va_up_ne, up_up, up_comm, nI_clamp, bI_eq0, not_true_eq_false, not_false_eq_true, Nat.reduceEqDiff, Nat.reduceLeDiff, Nat.reduceAdd, Nat.reduceMul, Nat.one_ne_zero, Nat.zero_ne_one, decide_eq_false_iff_not, decide_eq_true_eq, Bool.false_eq_true, decide_true, decide_false, bI_true, bI_false, one_ne, Nat.le_refl, Nat.lt_irrefl, cleT, cleF, cltT, cltF, ceqT, ceqF, ↓reduceIte, r27_26, r27_27, r27_29, r27_30, r27_30_1, r27_32, r27_33, r27_35, r27_36, r27_38, r27_40, r27_43, r27_44, r27_47, r27_49, r27_52, r27_53, r27_54, r27_56, r27_57, r27_60, r27_62, r27_62n, r27_63, r27_66, r27_69, r27_72, zO0_6]
  have yi : f_isIn (nI w) 10 29 = 1 := by
    have l1 : ¬ nI w < 10 := fun z => by
      have := (nI_ltE (a := w) (b := 10) (by omega) (by omega)).mp z
      omega
    have l2 : ¬ (29 : Int32) < nI w := fun z => by
      have := (nI_ltE (a := 29) (b := w) (by omega) (by omega)).mp z
      omega
    rw [f_isIn, if_neg l1, if_neg l2]
  have X := hR s1 e82
  have f37 : rPlate s1 k 81 37 = nI (1190 + 39 * k) := X.1
  have fn : rPlate s1 k 82 (1190 + 39 * k) = nI n := X.2.2.2.1
  obtain ⟨g1, r1, r2⟩ := @rf_rowAll xs sl 995 J (rPlate s1 k) g _ n li c kd tp vv X
  by_cases ct : w % 10 < n
  · have ex := fun b => @rf_extreme xs sl 994 J (rPlate s1 k) g1 _ n li c (w % 10) b kd tp vv X ct
    have lv := @gs_leastView xs sl 998 J s1 g (w % 10) (FV (msF kd tp vv c) n li (w % 10)) (by omega) (fun v hv => hF _ v ct hv) (fun v hv => Nat.le_trans (fb _ v ct hv) (by decide))
    have mv := @gs_mostView xs sl 998 J s1 g (w % 10) (FV (msF kd tp vv c) n li (w % 10)) (by omega) (fun v hv => hF _ v ct hv) (fun v hv => Nat.le_trans (fb _ v ct hv) (by decide))
    rw [lv_ex] at lv
    rw [mv_ex] at mv
    have zz : TOT (msF kd tp vv c) n li = 0 → ∀ b, it (exS (FV (msF kd tp vv c) n li (w % 10)) b) 7 (-9) = -9 := fun z b => ex_0 (fun v hv => by
      have h1 := FV_sum (m := msF kd tp vv c) (li := li) ct
      have h3 : sumN (FV (msF kd tp vv c) n li (w % 10)) (v + 1) ≤ sumN (FV (msF kd tp vv c) n li (w % 10)) 7 := sumN_up 7 (by omega)
      have e : sumN (FV (msF kd tp vv c) n li (w % 10)) (v + 1) = sumN (FV (msF kd tp vv c) n li (w % 10)) v + FV (msF kd tp vv c) n li (w % 10) v := rfl
      omega)
    have tn : TOT (msF kd tp vv c) n li ≠ 0 → ¬ lg_cmp (lN (TOT (msF kd tp vv c) n li)) 0 = 0 := fun h z => h ((lN_eq (a := TOT (msF kd tp vv c) n li) (b := 0) (by omega) (by omega)).mp ((lg_cmp_eq _ _).mp z))
    generalize TOT (msF kd tp vv c) n li = T at *
    generalize FV (msF kd tp vv c) n li (w % 10) = f at *
    have z0 : lg_cmp (lN 0) 0 = 0 := by decide
    have z0' := eq_true z0
    by_cases w20 : w < 20
    · obtain ⟨g2, r3, r4⟩ := ex false
      rw [bI_false] at r3
      have d1 : w / 10 = 1 := by omega
      by_cases c0 : T = 0
      · rw [zz c0] at lv
        subst c0
        refine ⟨.long (-9), s1, rPlate s1 k, g1, cls _ _ ?_, cg, gk, hd s1 _ e82 ?_, rk⟩
        · simp (disch := first | omega | assumption | exact Or.inl rfl | exact Or.inr rfl | exact bI_or _ | exact zC81 | exact zC47 | exact zC65 | exact zC0 | exact zC1 | exact zC32 | exact zC70 | exact zC73 | exact ztc (by assumption) | exact zdc (by assumption) | exact zpc (by assumption) | decide) only [Option.some.injEq, exists_eq_left', ex2, Option.toList, List.singleton_append, List.append_nil, List.cons_append, List.nil_append, nI_add, nI_addL, nI_Ladd, pk_mul, nI_mulL, nI_Lmul, nI_subL, pk_sub, nI_divL, sub_dm, nI_leE, nI_ltE, nI_eqE, nI_Lle, nI_leL, nI_Llt, nI_ltL, nI_eqL, va_up_self, va_up_ne, up_up, up_comm, nI_clamp, bI_eq0, not_true_eq_false, not_false_eq_true, Nat.reduceEqDiff, Nat.reduceLeDiff, Nat.reduceAdd, Nat.reduceMul, Nat.one_ne_zero, Nat.zero_ne_one, decide_eq_false_iff_not, decide_eq_true_eq, Bool.false_eq_true, decide_true, decide_false, bI_true, bI_false, one_ne, Nat.le_refl, Nat.lt_irrefl, cleT, cleF, cltT, cltF, ceqT, ceqF, ↓reduceIte, r27_26, r27_27, r27_29, r27_30, r27_30_1, r27_32, r27_33, r27_35, r27_36, r27_38, r27_40, r27_43, r27_44, r27_47, r27_49, r27_52, r27_53, r27_54, r27_56, r27_57, r27_60, r27_62, r27_62n, r27_63, r27_66, r27_69, r27_72, r27_73, r27_75, r27_76, r27_79, r27_80, r27_83, r27_85, r27_88, r27_89, r27_92, r27_93, r27_96, r27_98, r27_101, r27_102, zO0_6, zpc, zpo0, zpw0, zpo1, zpw1, zpo2, zpw2, zpo3, zpl1, zpa1, zps1, hn, lv]
          rfl
        · simp (disch := first | omega | assumption | exact Or.inl rfl | exact Or.inr rfl | exact bI_or _ | exact zC81 | exact zC47 | exact zC65 | exact zC0 | exact zC1 | exact zC32 | exact zC70 | exact zC73 | exact ztc (by assumption) | exact zdc (by assumption) | exact zpc (by assumption) | decide) only [Option.some.injEq, exists_eq_left', ex2, Option.toList, List.singleton_append, List.append_nil, List.cons_append, List.nil_append, nI_add, nI_addL, nI_Ladd, pk_mul, nI_mulL, nI_Lmul, nI_subL, pk_sub, nI_divL, sub_dm, nI_leE, nI_ltE, nI_eqE, nI_Lle, nI_leL, nI_Llt, nI_ltL, nI_eqL, va_up_self, va_up_ne, up_up, up_comm, nI_clamp, bI_eq0, not_true_eq_false, not_false_eq_true, Nat.reduceEqDiff, Nat.reduceLeDiff, Nat.reduceAdd, Nat.reduceMul, Nat.one_ne_zero, Nat.zero_ne_one, decide_eq_false_iff_not, decide_eq_true_eq, Bool.false_eq_true, decide_true, decide_false, bI_true, bI_false, one_ne, Nat.le_refl, Nat.lt_irrefl, cleT, cleF, cltT, cltF, ceqT, ceqF, ↓reduceIte, r265_22, r265_23, r265_24, r265_27, r265_28, r265_31, r265_32, r265_33, r265_34, r265_35, r265_36, r265_39, r265_40, r265_41, r265_44, r265_45, r265_46, r265_47, r265_48, r265_49, r265_52, r265_55, r1.iff, y0, y1, z0']
      · have z := tn c0
        generalize it (exS f false) 7 (-9) = A at *
        refine ⟨.long A.toInt64, s1, rPlate s1 k, g2, cls _ _ ?_, cg, gk, hd s1 _ e82 ?_, rk⟩
        · simp (disch := first | omega | assumption | exact Or.inl rfl | exact Or.inr rfl | exact bI_or _ | exact zC81 | exact zC47 | exact zC65 | exact zC0 | exact zC1 | exact zC32 | exact zC70 | exact zC73 | exact ztc (by assumption) | exact zdc (by assumption) | exact zpc (by assumption) | decide) only [Option.some.injEq, exists_eq_left', ex2, Option.toList, List.singleton_append, List.append_nil, List.cons_append, List.nil_append, nI_add, nI_addL, nI_Ladd, pk_mul, nI_mulL, nI_Lmul, nI_subL, pk_sub, nI_divL, sub_dm, nI_leE, nI_ltE, nI_eqE, nI_Lle, nI_leL, nI_Llt, nI_ltL, nI_eqL, va_up_self, va_up_ne, up_up, up_comm, nI_clamp, bI_eq0, not_true_eq_false, not_false_eq_true, Nat.reduceEqDiff, Nat.reduceLeDiff, Nat.reduceAdd, Nat.reduceMul, Nat.one_ne_zero, Nat.zero_ne_one, decide_eq_false_iff_not, decide_eq_true_eq, Bool.false_eq_true, decide_true, decide_false, bI_true, bI_false, one_ne, Nat.le_refl, Nat.lt_irrefl, cleT, cleF, cltT, cltF, ceqT, ceqF, ↓reduceIte, r27_26, r27_27, r27_29, r27_30, r27_30_1, r27_32, r27_33, r27_35, r27_36, r27_38, r27_40, r27_43, r27_44, r27_47, r27_49, r27_52, r27_53, r27_54, r27_56, r27_57, r27_60, r27_62, r27_62n, r27_63, r27_66, r27_69, r27_72, r27_73, r27_75, r27_76, r27_79, r27_80, r27_83, r27_85, r27_88, r27_89, r27_92, r27_93, r27_96, r27_98, r27_101, r27_102, zO0_6, zpc, zpo0, zpw0, zpo1, zpw1, zpo2, zpw2, zpo3, zpl1, zpa1, zps1, hn, lv]
        · simp (disch := first | omega | assumption | exact Or.inl rfl | exact Or.inr rfl | exact bI_or _ | exact zC81 | exact zC47 | exact zC65 | exact zC0 | exact zC1 | exact zC32 | exact zC70 | exact zC73 | exact ztc (by assumption) | exact zdc (by assumption) | exact zpc (by assumption) | decide) only [Option.some.injEq, exists_eq_left', ex2, Option.toList, List.singleton_append, List.append_nil, List.cons_append, List.nil_append, nI_add, nI_addL, nI_Ladd, pk_mul, nI_mulL, nI_Lmul, nI_subL, pk_sub, nI_divL, sub_dm, nI_leE, nI_ltE, nI_eqE, nI_Lle, nI_leL, nI_Llt, nI_ltL, nI_eqL, va_up_self, va_up_ne, up_up, up_comm, nI_clamp, bI_eq0, not_true_eq_false, not_false_eq_true, Nat.reduceEqDiff, Nat.reduceLeDiff, Nat.reduceAdd, Nat.reduceMul, Nat.one_ne_zero, Nat.zero_ne_one, decide_eq_false_iff_not, decide_eq_true_eq, Bool.false_eq_true, decide_true, decide_false, bI_true, bI_false, one_ne, Nat.le_refl, Nat.lt_irrefl, cleT, cleF, cltT, cltF, ceqT, ceqF, ↓reduceIte, r265_22, r265_23, r265_24, r265_27, r265_28, r265_31, r265_32, r265_33, r265_34, r265_35, r265_36, r265_39, r265_40, r265_41, r265_44, r265_45, r265_46, r265_47, r265_48, r265_49, r265_52, r265_55, r265_56, r265_57, r265_58, r265_61, r265_62, r265_65, r265_66, r265_67, r265_68, r265_70, r265_71, r265_73, r265_74, r265_76, r265_78, r265_81, r265_84, r265_86, r265_87, r265_90, r265_91, r265_94, r265_95, r265_98, r265_99, r265_101, r265_102, r265_104, r265_107, r265_108, r265_111, r265_112, r265_115, r265_116, r265_119, r265_122, r1.iff, y0, y1, y2, z, rf_isInE, yi, zO81_0, zO81_37, f37, zA82, fn, r3.iff]
    · obtain ⟨g2, r3, r4⟩ := ex true
      rw [bI_true] at r3
      have d1 : w / 10 = 2 := by omega
      by_cases c0 : T = 0
      · rw [zz c0] at mv
        subst c0
        refine ⟨.long (-9), s1, rPlate s1 k, g1, cls _ _ ?_, cg, gk, hd s1 _ e82 ?_, rk⟩
        · simp (disch := first | omega | assumption | exact Or.inl rfl | exact Or.inr rfl | exact bI_or _ | exact zC81 | exact zC47 | exact zC65 | exact zC0 | exact zC1 | exact zC32 | exact zC70 | exact zC73 | exact ztc (by assumption) | exact zdc (by assumption) | exact zpc (by assumption) | decide) only [Option.some.injEq, exists_eq_left', ex2, Option.toList, List.singleton_append, List.append_nil, List.cons_append, List.nil_append, nI_add, nI_addL, nI_Ladd, pk_mul, nI_mulL, nI_Lmul, nI_subL, pk_sub, nI_divL, sub_dm, nI_leE, nI_ltE, nI_eqE, nI_Lle, nI_leL, nI_Llt, nI_ltL, nI_eqL, va_up_self, va_up_ne, up_up, up_comm, nI_clamp, bI_eq0, not_true_eq_false, not_false_eq_true, Nat.reduceEqDiff, Nat.reduceLeDiff, Nat.reduceAdd, Nat.reduceMul, Nat.one_ne_zero, Nat.zero_ne_one, decide_eq_false_iff_not, decide_eq_true_eq, Bool.false_eq_true, decide_true, decide_false, bI_true, bI_false, one_ne, Nat.le_refl, Nat.lt_irrefl, cleT, cleF, cltT, cltF, ceqT, ceqF, ↓reduceIte, r27_26, r27_27, r27_29, r27_30, r27_30_1, r27_32, r27_33, r27_35, r27_36, r27_38, r27_40, r27_43, r27_44, r27_47, r27_49, r27_52, r27_53, r27_54, r27_56, r27_57, r27_60, r27_62, r27_62n, r27_63, r27_66, r27_69, r27_72, r27_73, r27_75, r27_76, r27_79, r27_80, r27_83, r27_85, r27_88, r27_89, r27_92, r27_93, r27_96, r27_98, r27_101, r27_102, zO0_6, zpc, zpo0, zpw0, zpo1, zpw1, zpo2, zpw2, zpo3, zpl1, zpa1, zps1, hn, mv]
          rfl
        · simp (disch := first | omega | assumption | exact Or.inl rfl | exact Or.inr rfl | exact bI_or _ | exact zC81 | exact zC47 | exact zC65 | exact zC0 | exact zC1 | exact zC32 | exact zC70 | exact zC73 | exact ztc (by assumption) | exact zdc (by assumption) | exact zpc (by assumption) | decide) only [Option.some.injEq, exists_eq_left', ex2, Option.toList, List.singleton_append, List.append_nil, List.cons_append, List.nil_append, nI_add, nI_addL, nI_Ladd, pk_mul, nI_mulL, nI_Lmul, nI_subL, pk_sub, nI_divL, sub_dm, nI_leE, nI_ltE, nI_eqE, nI_Lle, nI_leL, nI_Llt, nI_ltL, nI_eqL, va_up_self, va_up_ne, up_up, up_comm, nI_clamp, bI_eq0, not_true_eq_false, not_false_eq_true, Nat.reduceEqDiff, Nat.reduceLeDiff, Nat.reduceAdd, Nat.reduceMul, Nat.one_ne_zero, Nat.zero_ne_one, decide_eq_false_iff_not, decide_eq_true_eq, Bool.false_eq_true, decide_true, decide_false, bI_true, bI_false, one_ne, Nat.le_refl, Nat.lt_irrefl, cleT, cleF, cltT, cltF, ceqT, ceqF, ↓reduceIte, r265_22, r265_23, r265_24, r265_27, r265_28, r265_31, r265_32, r265_33, r265_34, r265_35, r265_36, r265_39, r265_40, r265_41, r265_44, r265_45, r265_46, r265_47, r265_48, r265_49, r265_52, r265_55, r1.iff, y0, y1, z0']
      · have z := tn c0
        generalize it (exS f true) 7 (-9) = A at *
        refine ⟨.long A.toInt64, s1, rPlate s1 k, g2, cls _ _ ?_, cg, gk, hd s1 _ e82 ?_, rk⟩
        · simp (disch := first | omega | assumption | exact Or.inl rfl | exact Or.inr rfl | exact bI_or _ | exact zC81 | exact zC47 | exact zC65 | exact zC0 | exact zC1 | exact zC32 | exact zC70 | exact zC73 | exact ztc (by assumption) | exact zdc (by assumption) | exact zpc (by assumption) | decide) only [Option.some.injEq, exists_eq_left', ex2, Option.toList, List.singleton_append, List.append_nil, List.cons_append, List.nil_append, nI_add, nI_addL, nI_Ladd, pk_mul, nI_mulL, nI_Lmul, nI_subL, pk_sub, nI_divL, sub_dm, nI_leE, nI_ltE, nI_eqE, nI_Lle, nI_leL, nI_Llt, nI_ltL, nI_eqL, va_up_self, va_up_ne, up_up, up_comm, nI_clamp, bI_eq0, not_true_eq_false, not_false_eq_true, Nat.reduceEqDiff, Nat.reduceLeDiff, Nat.reduceAdd, Nat.reduceMul, Nat.one_ne_zero, Nat.zero_ne_one, decide_eq_false_iff_not, decide_eq_true_eq, Bool.false_eq_true, decide_true, decide_false, bI_true, bI_false, one_ne, Nat.le_refl, Nat.lt_irrefl, cleT, cleF, cltT, cltF, ceqT, ceqF, ↓reduceIte, r27_26, r27_27, r27_29, r27_30, r27_30_1, r27_32, r27_33, r27_35, r27_36, r27_38, r27_40, r27_43, r27_44, r27_47, r27_49, r27_52, r27_53, r27_54, r27_56, r27_57, r27_60, r27_62, r27_62n, r27_63, r27_66, r27_69, r27_72, r27_73, r27_75, r27_76, r27_79, r27_80, r27_83, r27_85, r27_88, r27_89, r27_92, r27_93, r27_96, r27_98, r27_101, r27_102, zO0_6, zpc, zpo0, zpw0, zpo1, zpw1, zpo2, zpw2, zpo3, zpl1, zpa1, zps1, hn, mv]
        · simp (disch := first | omega | assumption | exact Or.inl rfl | exact Or.inr rfl | exact bI_or _ | exact zC81 | exact zC47 | exact zC65 | exact zC0 | exact zC1 | exact zC32 | exact zC70 | exact zC73 | exact ztc (by assumption) | exact zdc (by assumption) | exact zpc (by assumption) | decide) only [Option.some.injEq, exists_eq_left', ex2, Option.toList, List.singleton_append, List.append_nil, List.cons_append, List.nil_append, nI_add, nI_addL, nI_Ladd, pk_mul, nI_mulL, nI_Lmul, nI_subL, pk_sub, nI_divL, sub_dm, nI_leE, nI_ltE, nI_eqE, nI_Lle, nI_leL, nI_Llt, nI_ltL, nI_eqL, va_up_self, va_up_ne, up_up, up_comm, nI_clamp, bI_eq0, not_true_eq_false, not_false_eq_true, Nat.reduceEqDiff, Nat.reduceLeDiff, Nat.reduceAdd, Nat.reduceMul, Nat.one_ne_zero, Nat.zero_ne_one, decide_eq_false_iff_not, decide_eq_true_eq, Bool.false_eq_true, decide_true, decide_false, bI_true, bI_false, one_ne, Nat.le_refl, Nat.lt_irrefl, cleT, cleF, cltT, cltF, ceqT, ceqF, ↓reduceIte, r265_22, r265_23, r265_24, r265_27, r265_28, r265_31, r265_32, r265_33, r265_34, r265_35, r265_36, r265_39, r265_40, r265_41, r265_44, r265_45, r265_46, r265_47, r265_48, r265_49, r265_52, r265_55, r265_56, r265_57, r265_58, r265_61, r265_62, r265_65, r265_66, r265_67, r265_68, r265_70, r265_71, r265_73, r265_74, r265_76, r265_78, r265_81, r265_84, r265_86, r265_87, r265_90, r265_91, r265_94, r265_95, r265_98, r265_99, r265_101, r265_102, r265_104, r265_107, r265_108, r265_111, r265_112, r265_115, r265_116, r265_119, r265_122, r1.iff, y0, y1, y2, z, rf_isInE, yi, zO81_0, zO81_37, f37, zA82, fn, r3.iff]
  · have d1 : w / 10 = 1 ∨ w / 10 = 2 := by omega
    have ct' : n ≤ w % 10 := by omega
    refine ⟨.long (-9), s1, rPlate s1 k, g1, cls _ _ ?_, cg, gk, hd s1 _ e82 ?_, rk⟩
    · simp (disch := first | omega | assumption | exact Or.inl rfl | exact Or.inr rfl | exact bI_or _ | exact zC81 | exact zC47 | exact zC65 | exact zC0 | exact zC1 | exact zC32 | exact zC70 | exact zC73 | exact ztc (by assumption) | exact zdc (by assumption) | exact zpc (by assumption) | decide) only [Option.some.injEq, exists_eq_left', ex2, Option.toList, List.singleton_append, List.append_nil, List.cons_append, List.nil_append, nI_add, nI_addL, nI_Ladd, pk_mul, nI_mulL, nI_Lmul, nI_subL, pk_sub, nI_divL, sub_dm, nI_leE, nI_ltE, nI_eqE, nI_Lle, nI_leL, nI_Llt, nI_ltL, nI_eqL, va_up_self, va_up_ne, up_up, up_comm, nI_clamp, bI_eq0, not_true_eq_false, not_false_eq_true, Nat.reduceEqDiff, Nat.reduceLeDiff, Nat.reduceAdd, Nat.reduceMul, Nat.one_ne_zero, Nat.zero_ne_one, decide_eq_false_iff_not, decide_eq_true_eq, Bool.false_eq_true, decide_true, decide_false, bI_true, bI_false, one_ne, Nat.le_refl, Nat.lt_irrefl, cleT, cleF, cltT, cltF, ceqT, ceqF, ↓reduceIte, r27_26, r27_27, r27_29, r27_30, r27_30_1, r27_32, r27_33, r27_35, r27_36, r27_38, r27_40, r27_43, r27_44, r27_47, r27_49, r27_52, r27_53, r27_54, r27_56, r27_57, r27_60, r27_62, r27_62n, r27_63, r27_66, r27_69, r27_72, zO0_6, zpc, zpo0, zpw0, zpo1, zpw1, zpo2, zpw2, zpo3, zpl1, zpa1, zps1, hn]
    · generalize TOT (msF kd tp vv c) n li = T at *
      by_cases z : lg_cmp (lN T) 0 = 0
      · have z' := eq_true z
        simp (disch := first | omega | assumption | exact Or.inl rfl | exact Or.inr rfl | exact bI_or _ | exact zC81 | exact zC47 | exact zC65 | exact zC0 | exact zC1 | exact zC32 | exact zC70 | exact zC73 | exact ztc (by assumption) | exact zdc (by assumption) | exact zpc (by assumption) | decide) only [Option.some.injEq, exists_eq_left', ex2, Option.toList, List.singleton_append, List.append_nil, List.cons_append, List.nil_append, nI_add, nI_addL, nI_Ladd, pk_mul, nI_mulL, nI_Lmul, nI_subL, pk_sub, nI_divL, sub_dm, nI_leE, nI_ltE, nI_eqE, nI_Lle, nI_leL, nI_Llt, nI_ltL, nI_eqL, va_up_self, va_up_ne, up_up, up_comm, nI_clamp, bI_eq0, not_true_eq_false, not_false_eq_true, Nat.reduceEqDiff, Nat.reduceLeDiff, Nat.reduceAdd, Nat.reduceMul, Nat.one_ne_zero, Nat.zero_ne_one, decide_eq_false_iff_not, decide_eq_true_eq, Bool.false_eq_true, decide_true, decide_false, bI_true, bI_false, one_ne, Nat.le_refl, Nat.lt_irrefl, cleT, cleF, cltT, cltF, ceqT, ceqF, ↓reduceIte, r265_22, r265_23, r265_24, r265_27, r265_28, r265_31, r265_32, r265_33, r265_34, r265_35, r265_36, r265_39, r265_40, r265_41, r265_44, r265_45, r265_46, r265_47, r265_48, r265_49, r265_52, r265_55, r1.iff, y0, y1, z']
      · simp (disch := first | omega | assumption | exact Or.inl rfl | exact Or.inr rfl | exact bI_or _ | exact zC81 | exact zC47 | exact zC65 | exact zC0 | exact zC1 | exact zC32 | exact zC70 | exact zC73 | exact ztc (by assumption) | exact zdc (by assumption) | exact zpc (by assumption) | decide) only [Option.some.injEq, exists_eq_left', ex2, Option.toList, List.singleton_append, List.append_nil, List.cons_append, List.nil_append, nI_add, nI_addL, nI_Ladd, pk_mul, nI_mulL, nI_Lmul, nI_subL, pk_sub, nI_divL, sub_dm, nI_leE, nI_ltE, nI_eqE, nI_Lle, nI_leL, nI_Llt, nI_ltL, nI_eqL, va_up_self, va_up_ne, up_up, up_comm, nI_clamp, bI_eq0, not_true_eq_false, not_false_eq_true, Nat.reduceEqDiff, Nat.reduceLeDiff, Nat.reduceAdd, Nat.reduceMul, Nat.one_ne_zero, Nat.zero_ne_one, decide_eq_false_iff_not, decide_eq_true_eq, Bool.false_eq_true, decide_true, decide_false, bI_true, bI_false, one_ne, Nat.le_refl, Nat.lt_irrefl, cleT, cleF, cltT, cltF, ceqT, ceqF, ↓reduceIte, r265_22, r265_23, r265_24, r265_27, r265_28, r265_31, r265_32, r265_33, r265_34, r265_35, r265_36, r265_39, r265_40, r265_41, r265_44, r265_45, r265_46, r265_47, r265_48, r265_49, r265_52, r265_55, r265_56, r265_57, r265_58, r265_61, r265_62, r265_65, r265_66, r265_67, r265_68, r265_70, r265_71, r265_73, r265_74, r265_76, r265_78, r265_81, r265_84, r265_86, r265_87, r265_90, r265_91, r265_94, r265_95, r265_98, r265_99, r265_101, r265_102, r265_104, r265_107, r265_108, r265_111, r265_112, r265_115, r265_116, r265_119, r265_122, r1.iff, y0, y1, y2, z, rf_isInE, yi, zO81_0, zO81_37, f37, zA82, fn]
end FTS
