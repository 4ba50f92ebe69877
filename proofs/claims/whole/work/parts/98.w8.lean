/-! SWAY, alike -/
section SWW
variable {xs : Nat → Int32} {sl d : Nat} {J : hJk} {s x y : hS} {g : hG}
theorem bcn_pow : ∀ M, M < 256 → ∀ L, L < 9 → M < 2 ^ L → bcN M ≤ L := by decide +kernel
/-- what sway looks for -/
def swA (W : Nat → Bool) (L : Nat) (v : Option Nat) : Prop := match v with
  | none => ∀ M, M < 2 ^ L → W M = false
  | some B => B < 2 ^ L ∧ W B = true ∧ (∀ M, M < 2 ^ L → bcN M < bcN B → W M = false) ∧ ∀ M, M < 2 ^ L → bcN M = bcN B → W M = true → B ≤ M
theorem swA_eq {W : Nat → Bool} {L : Nat} {v v' : Option Nat} (h : swA W L v) (h' : swA W L v') : v = v' := by
  cases v with
  | none =>
    cases v' with
    | none => rfl
    | some B => have := h B h'.1; rw [h'.2.1] at this; cases this
  | some A =>
    cases v' with
    | none => have := h' A h.1; rw [h.2.1] at this; cases this
    | some B =>
      obtain ⟨a1, a2, a3, a4⟩ := h
      obtain ⟨b1, b2, b3, b4⟩ := h'
      have e : bcN A = bcN B := by
        rcases Nat.lt_trichotomy (bcN A) (bcN B) with q | q | q
        · have := b3 A a1 q; rw [a2] at this; cases this
        · exact q
        · have := a3 B b1 q; rw [b2] at this; cases this
      have q1 := a4 B b1 e.symm b2
      have q2 := b4 A a1 e a2
      exact congrArg some (by omega)
set_option maxHeartbeats 2000000 in
theorem ml_winOver {a n h L u t : Nat} (hT : cT s a n h) (hL : s 47 1 = nI L) (hL8 : L ≤ 8) (hu : u < h) (ht : t < n) (hVw : ∀ l t, l < L → t < n → vw (s 57 (6 * l + t))) (hmw : ∀ t, t < n → vw (s 56 (6 * u + t))) : ∃ (s' : hS) (v : Option Nat), Runs xs sl (d+8+1+1+1) 76 0 [some (.ref (65)), some (.int ( nI u)), some (.int ( nI t)), none] [] (hp J (s) g) (some (.int (oI v)), hp J s' g) ∧ (∀ c, c ≠ 65 → c ≠ 68 → c ≠ 69 → s' c = s c) ∧ swA (swW n (fun l t => s 57 (6 * l + t)) (s (a + 2) u) t (fun t => s 56 (6 * u + t))) L v := by
  have n6 : n ≤ 6 := hT.2.2.2.2.1
  have a31 : a < 31 := hT.2.1
  have p8 := pw8 hL8
  generalize hV : (fun l t => s 57 (6 * l + t)) = V
  generalize hst : s (a + 2) u = st
  generalize hm0 : (fun t => s 56 (6 * u + t)) = m0
  have eV : ∀ l t, s 57 (6 * l + t) = V l t := fun l t => by rw [← hV]
  have em : ∀ t, s 56 (6 * u + t) = m0 t := fun t => by rw [← hm0]
  have sit := @ml_sit xs sl (d + 8 + 1) J s g a n h u t hT hu
  generalize hs1 : sitS s a u t = s1 at sit
  have b0 : ∀ c, c ≠ 65 → c ≠ 68 → s1 c = s c := fun c h1 h2 => by rw [← hs1, sitS, va_up_ne _ _ h2, va_up_ne _ _ h1]
  have b1 : s1 65 8 = nI t := by rw [← hs1, sitS]; simp (disch := first | omega | assumption | exact Or.inl rfl | exact Or.inr rfl | exact bI_or _ | exact zC81 | exact zC47 | exact zC65 | exact zC0 | exact zC1 | exact zC32 | exact zC70 | exact zC73 | exact ztc (by assumption) | exact zdc (by assumption) | exact zpc (by assumption) | decide) only [Option.some.injEq, exists_eq_left', ex2, Option.toList, List.singleton_append, List.append_nil, List.cons_append, List.nil_append, nI_add, nI_addL, nI_Ladd, pk_mul, nI_mulL, nI_Lmul, nI_subL, pk_sub, nI_divL, sub_dm, nI_leE, nI_ltE, nI_eqE, nI_Lle, nI_leL, nI_Llt, nI_ltL, nI_eqL, va_up_self, va_up_ne, up_up, up_comm, nI_clamp, bI_eq0, not_true_eq_false, not_false_eq_true, Nat.reduceEqDiff, Nat.reduceLeDiff, Nat.reduceAdd, Nat.reduceMul, Nat.one_ne_zero, Nat.zero_ne_one, decide_eq_false_iff_not, decide_eq_true_eq, Bool.false_eq_true, decide_true, decide_false, bI_true, bI_false, one_ne, Nat.le_refl, Nat.lt_irrefl, cleT, cleF, cltT, cltF, ceqT, ceqF, ↓reduceIte]
  have b2 : s1 65 9 = st := by rw [← hs1, sitS]; simp (disch := first | omega | assumption | exact Or.inl rfl | exact Or.inr rfl | exact bI_or _ | exact zC81 | exact zC47 | exact zC65 | exact zC0 | exact zC1 | exact zC32 | exact zC70 | exact zC73 | exact ztc (by assumption) | exact zdc (by assumption) | exact zpc (by assumption) | decide) only [Option.some.injEq, exists_eq_left', ex2, Option.toList, List.singleton_append, List.append_nil, List.cons_append, List.nil_append, nI_add, nI_addL, nI_Ladd, pk_mul, nI_mulL, nI_Lmul, nI_subL, pk_sub, nI_divL, sub_dm, nI_leE, nI_ltE, nI_eqE, nI_Lle, nI_leL, nI_Llt, nI_ltL, nI_eqL, va_up_self, va_up_ne, up_up, up_comm, nI_clamp, bI_eq0, not_true_eq_false, not_false_eq_true, Nat.reduceEqDiff, Nat.reduceLeDiff, Nat.reduceAdd, Nat.reduceMul, Nat.one_ne_zero, Nat.zero_ne_one, decide_eq_false_iff_not, decide_eq_true_eq, Bool.false_eq_true, decide_true, decide_false, bI_true, bI_false, one_ne, Nat.le_refl, Nat.lt_irrefl, cleT, cleF, cltT, cltF, ceqT, ceqF, ↓reduceIte]; exact hst
  have b3 : ∀ t, t < n → s1 68 t = m0 t := fun t ht => by rw [← hs1, sitS, va_up_self, pk_cpy_in (by omega) (by omega), ← em t]; congr 1
  have lif := @ml_lifting xs sl (d + 8 + 1 + 1) J s1 g L t (fun l => V l t) (by rw [b0 47 (by decide) (by decide)]; exact hL) hL8 b1 (by omega) (fun l hl => by rw [b0 57 (by decide) (by decide)]; exact eV l t)
  generalize hs2 : va_up s1 65 (va_up (s1 65) 11 (nI (ltN (fun l => V l t) L))) = s2 at lif
  have fil := @zx_fill xs sl (d + 8 + 1 + 1) J s2 g 69 2048 0 (fun s => zL69) (fun s i v hi => zS69 hi) (by decide)
  generalize hs3 : va_up s2 69 (va_cpy (fun _ => (0 : Int32)) (s2 69) 0 0 2048) = s3 at fil
  generalize hs4 : va_up s3 65 (va_up (s3 65) 12 256) = s4
  have c0 : ∀ c, c ≠ 65 → c ≠ 68 → c ≠ 69 → s4 c = s c := fun c h1 h2 h3 => by rw [← hs4, va_up_ne _ _ h1, ← hs3, va_up_ne _ _ h3, ← hs2, va_up_ne _ _ h1, b0 c h1 h2]
  have c8 : s4 65 8 = nI t := by rw [← hs4, ← hs3, ← hs2]; simp (disch := first | omega | assumption | exact Or.inl rfl | exact Or.inr rfl | exact bI_or _ | exact zC81 | exact zC47 | exact zC65 | exact zC0 | exact zC1 | exact zC32 | exact zC70 | exact zC73 | exact ztc (by assumption) | exact zdc (by assumption) | exact zpc (by assumption) | decide) only [Option.some.injEq, exists_eq_left', ex2, Option.toList, List.singleton_append, List.append_nil, List.cons_append, List.nil_append, nI_add, nI_addL, nI_Ladd, pk_mul, nI_mulL, nI_Lmul, nI_subL, pk_sub, nI_divL, sub_dm, nI_leE, nI_ltE, nI_eqE, nI_Lle, nI_leL, nI_Llt, nI_ltL, nI_eqL, va_up_self, va_up_ne, up_up, up_comm, nI_clamp, bI_eq0, not_true_eq_false, not_false_eq_true, Nat.reduceEqDiff, Nat.reduceLeDiff, Nat.reduceAdd, Nat.reduceMul, Nat.one_ne_zero, Nat.zero_ne_one, decide_eq_false_iff_not, decide_eq_true_eq, Bool.false_eq_true, decide_true, decide_false, bI_true, bI_false, one_ne, Nat.le_refl, Nat.lt_irrefl, cleT, cleF, cltT, cltF, ceqT, ceqF, ↓reduceIte]; exact b1
  have c9 : s4 65 9 = st := by rw [← hs4, ← hs3, ← hs2]; simp (disch := first | omega | assumption | exact Or.inl rfl | exact Or.inr rfl | exact bI_or _ | exact zC81 | exact zC47 | exact zC65 | exact zC0 | exact zC1 | exact zC32 | exact zC70 | exact zC73 | exact ztc (by assumption) | exact zdc (by assumption) | exact zpc (by assumption) | decide) only [Option.some.injEq, exists_eq_left', ex2, Option.toList, List.singleton_append, List.append_nil, List.cons_append, List.nil_append, nI_add, nI_addL, nI_Ladd, pk_mul, nI_mulL, nI_Lmul, nI_subL, pk_sub, nI_divL, sub_dm, nI_leE, nI_ltE, nI_eqE, nI_Lle, nI_leL, nI_Llt, nI_ltL, nI_eqL, va_up_self, va_up_ne, up_up, up_comm, nI_clamp, bI_eq0, not_true_eq_false, not_false_eq_true, Nat.reduceEqDiff, Nat.reduceLeDiff, Nat.reduceAdd, Nat.reduceMul, Nat.one_ne_zero, Nat.zero_ne_one, decide_eq_false_iff_not, decide_eq_true_eq, Bool.false_eq_true, decide_true, decide_false, bI_true, bI_false, one_ne, Nat.le_refl, Nat.lt_irrefl, cleT, cleF, cltT, cltF, ceqT, ceqF, ↓reduceIte]; exact b2
  have c11 : s4 65 11 = nI (ltN (fun l => V l t) L) := by rw [← hs4, ← hs3, ← hs2]; simp (disch := first | omega | assumption | exact Or.inl rfl | exact Or.inr rfl | exact bI_or _ | exact zC81 | exact zC47 | exact zC65 | exact zC0 | exact zC1 | exact zC32 | exact zC70 | exact zC73 | exact ztc (by assumption) | exact zdc (by assumption) | exact zpc (by assumption) | decide) only [Option.some.injEq, exists_eq_left', ex2, Option.toList, List.singleton_append, List.append_nil, List.cons_append, List.nil_append, nI_add, nI_addL, nI_Ladd, pk_mul, nI_mulL, nI_Lmul, nI_subL, pk_sub, nI_divL, sub_dm, nI_leE, nI_ltE, nI_eqE, nI_Lle, nI_leL, nI_Llt, nI_ltL, nI_eqL, va_up_self, va_up_ne, up_up, up_comm, nI_clamp, bI_eq0, not_true_eq_false, not_false_eq_true, Nat.reduceEqDiff, Nat.reduceLeDiff, Nat.reduceAdd, Nat.reduceMul, Nat.one_ne_zero, Nat.zero_ne_one, decide_eq_false_iff_not, decide_eq_true_eq, Bool.false_eq_true, decide_true, decide_false, bI_true, bI_false, one_ne, Nat.le_refl, Nat.lt_irrefl, cleT, cleF, cltT, cltF, ceqT, ceqF, ↓reduceIte]
  have c12 : s4 65 12 = nI 256 := by rw [← hs4]; simp (disch := first | omega | assumption | exact Or.inl rfl | exact Or.inr rfl | exact bI_or _ | exact zC81 | exact zC47 | exact zC65 | exact zC0 | exact zC1 | exact zC32 | exact zC70 | exact zC73 | exact ztc (by assumption) | exact zdc (by assumption) | exact zpc (by assumption) | decide) only [Option.some.injEq, exists_eq_left', ex2, Option.toList, List.singleton_append, List.append_nil, List.cons_append, List.nil_append, nI_add, nI_addL, nI_Ladd, pk_mul, nI_mulL, nI_Lmul, nI_subL, pk_sub, nI_divL, sub_dm, nI_leE, nI_ltE, nI_eqE, nI_Lle, nI_leL, nI_Llt, nI_ltL, nI_eqL, va_up_self, va_up_ne, up_up, up_comm, nI_clamp, bI_eq0, not_true_eq_false, not_false_eq_true, Nat.reduceEqDiff, Nat.reduceLeDiff, Nat.reduceAdd, Nat.reduceMul, Nat.one_ne_zero, Nat.zero_ne_one, decide_eq_false_iff_not, decide_eq_true_eq, Bool.false_eq_true, decide_true, decide_false, bI_true, bI_false, one_ne, Nat.le_refl, Nat.lt_irrefl, cleT, cleF, cltT, cltF, ceqT, ceqF, ↓reduceIte]; rfl
  have c68 : ∀ t, t < n → s4 68 t = m0 t := fun t ht => by rw [← hs4, va_up_ne _ _ (by decide), ← hs3, va_up_ne _ _ (by decide), ← hs2, va_up_ne _ _ (by decide)]; exact b3 t ht
  have c69 : ∀ lim2, lim2 ≤ 8 → ∀ m' U', (∀ t, t < n → vw (m' t)) → U' < 256 → ¬ prs n lim2 s4 m' U' := by
    intro lim2 h1 m' U' hm' hU' q
    have kl' := kyN_lt (lim := lim2) n6 (fun t ht => (dgO_of (hm' t ht)).1) hU' h1
    have hh := hsN_lt (nI (kyM m' n U' lim2))
    unfold prs at q
    rw [← hs4, va_up_ne _ _ (by decide), ← hs3, va_up_self, pk_cpy_in (by omega) (by omega)] at q
    have k0 : 0 < kyM m' n U' lim2 := Nat.succ_pos _
    exact nI_ne0 k0 (show kyN _ n U' lim2 < 2 ^ 31 by omega) q.symm
  have loop : ∀ j, j ≤ L + 1 → ∀ s5 : hS, (∀ c, c ≠ 65 → c ≠ 68 → c ≠ 69 → s5 c = s c) → (∀ i, i ≠ 10 → s5 65 i = s4 65 i) → (∀ t, t < n → s5 68 t = m0 t) → (∀ lim2, L + 1 - j ≤ lim2 → lim2 ≤ 8 → ∀ m' U', (∀ t, t < n → vw (m' t)) → U' < 256 → ¬ prs n lim2 s5 m' U') → (∀ M, M < 2 ^ L → bcN M < L + 1 - j → swW n V st t m0 M = false) → ∃ (s' : hS) (v : Option Nat), Runs xs sl (d+8+1+1+1) 76 27 [some (.ref (65)), some (.int ( nI u)), some (.int ( nI t)), some (.int ( nI (L + 1 - j)))] [] (hp J (s5) g) (some (.int (oI v)), hp J s' g) ∧ (∀ c, c ≠ 65 → c ≠ 68 → c ≠ 69 → s' c = s c) ∧ swA (swW n V st t m0) L v := by
    intro j
    induction j with
    | zero =>
      intro _ s5 f1 f2 f3 f4 f5
      have g1 : s5 47 1 = nI L := by rw [f1 47 (by decide) (by decide) (by decide)]; exact hL
      have g12 : s5 65 12 = nI 256 := by rw [f2 12 (by decide)]; exact c12
      refine ⟨s5, none, ?_, f1, fun M hM => f5 M hM ?_⟩
      · rw [Nat.sub_zero, r76_27]
        simp (disch := first | omega | assumption | exact Or.inl rfl | exact Or.inr rfl | exact bI_or _ | exact zC81 | exact zC47 | exact zC65 | exact zC0 | exact zC1 | exact zC32 | exact zC70 | exact zC73 | exact ztc (by assumption) | exact zdc (by assumption) | exact zpc (by assumption) | decide) only [Option.some.injEq, exists_eq_left', ex2, Option.toList, List.singleton_append, List.append_nil, List.cons_append, List.nil_append, nI_add, nI_addL, nI_Ladd, pk_mul, nI_mulL, nI_Lmul, nI_subL, pk_sub, nI_divL, sub_dm, nI_leE, nI_ltE, nI_eqE, nI_Lle, nI_leL, nI_Llt, nI_ltL, nI_eqL, va_up_self, va_up_ne, up_up, up_comm, nI_clamp, bI_eq0, not_true_eq_false, not_false_eq_true, Nat.reduceEqDiff, Nat.reduceLeDiff, Nat.reduceAdd, Nat.reduceMul, Nat.one_ne_zero, Nat.zero_ne_one, decide_eq_false_iff_not, decide_eq_true_eq, Bool.false_eq_true, decide_true, decide_false, bI_true, bI_false, one_ne, Nat.le_refl, Nat.lt_irrefl, cleT, cleF, cltT, cltF, ceqT, ceqF, ↓reduceIte, r76_28, r76_29, r76_32, r76_35, r76_65, r76_66, r76_69, r76_72, r76_75, r76_76, r76_79, r76_80, r76_83, zO65_3, zO65_12, zO47_1, g1, g12, oI]
      · have := bcn_pow M (by omega) L (by omega) hM
        omega
    | succ j ih =>
      intro hj s5 f1 f2 f3 f4 f5
      have ih := ih (by omega)
      have lv : L + 1 - j = L + 1 - (j + 1) + 1 := by omega
      rw [lv] at ih
      have kL : L + 1 - (j + 1) ≤ L := by omega
      generalize L + 1 - (j + 1) = k at *
      have g1 : s5 47 1 = nI L := by rw [f1 47 (by decide) (by decide) (by decide)]; exact hL
      have g12 : s5 65 12 = nI 256 := by rw [f2 12 (by decide)]; exact c12
      generalize hs6 : va_up s5 65 (va_up (s5 65) 10 (nI k)) = s6
      have k0 : ∀ c, c ≠ 65 → s6 c = s5 c := fun c h1 => by rw [← hs6, va_up_ne _ _ h1]
      have k65 : ∀ i, i ≠ 10 → s6 65 i = s4 65 i := fun i hi => by rw [← hs6, va_up_self, va_up_ne _ _ hi]; exact f2 i hi
      have hT6 : cT s6 a n h := cT_fr hT (by rw [k0 47 (by decide), f1 47 (by decide) (by decide) (by decide)]) (by rw [k0 a (by omega), f1 a (by omega) (by omega) (by omega)])
      have root : nodeP n L V st m0 [] m0 0 := ⟨List.nodup_nil, fun l h => absurd h List.not_mem_nil, rfl, rfl, fun _ _ => rfl⟩
      obtain ⟨s7, B, r1, r2, r3, r4, r5, r6, r7, r8, r9⟩ := @ml_search xs sl d J g s6 a n h L t k st V m0 hT6 (by rw [k0 47 (by decide)]; exact g1) hL8 ((k65 8 (by decide)).trans c8) ht ((k65 9 (by decide)).trans c9) (by rw [← hs6]; simp (disch := first | omega | assumption | exact Or.inl rfl | exact Or.inr rfl | exact bI_or _ | exact zC81 | exact zC47 | exact zC65 | exact zC0 | exact zC1 | exact zC32 | exact zC70 | exact zC73 | exact ztc (by assumption) | exact zdc (by assumption) | exact zpc (by assumption) | decide) only [Option.some.injEq, exists_eq_left', ex2, Option.toList, List.singleton_append, List.append_nil, List.cons_append, List.nil_append, nI_add, nI_addL, nI_Ladd, pk_mul, nI_mulL, nI_Lmul, nI_subL, pk_sub, nI_divL, sub_dm, nI_leE, nI_ltE, nI_eqE, nI_Lle, nI_leL, nI_Llt, nI_ltL, nI_eqL, va_up_self, va_up_ne, up_up, up_comm, nI_clamp, bI_eq0, not_true_eq_false, not_false_eq_true, Nat.reduceEqDiff, Nat.reduceLeDiff, Nat.reduceAdd, Nat.reduceMul, Nat.one_ne_zero, Nat.zero_ne_one, decide_eq_false_iff_not, decide_eq_true_eq, Bool.false_eq_true, decide_true, decide_false, bI_true, bI_false, one_ne, Nat.le_refl, Nat.lt_irrefl, cleT, cleF, cltT, cltF, ceqT, ceqF, ↓reduceIte]) (by omega) ((k65 11 (by decide)).trans c11) (fun l t => by rw [k0 57 (by decide), f1 57 (by decide) (by decide) (by decide)]; exact eV l t) (fun l t hl ht => by rw [← eV]; exact hVw l t hl ht) f5 8 0 0 256 s6 [] m0 (by omega) rfl (Nat.zero_le k) root (fun t ht => by rw [← em]; exact hmw t ht) ⟨fun _ _ _ _ => rfl, fun _ _ => rfl⟩ ((k65 12 (by decide)).trans c12) (Nat.le_refl 256) (fun t ht => by rw [k0 68 (by decide), Nat.mul_zero, Nat.zero_add]; exact f3 t ht) (fun m' U' a1 a2 a3 => by
        exfalso
        unfold prs at a3
        rw [k0 69 (by decide)] at a3
        exact f4 k (Nat.le_refl k) (by omega) m' U' a1 a2 a3)
      have r1' : Runs xs sl (d+8+1+1) 78 0 [some (.ref (65)), some (.int ( 0)), some (.int ( 0)), none, none] [] (hp J (s6) g) (none, hp J s7 g) := r1
      have fr7 : ∀ c, c ≠ 65 → c ≠ 68 → c ≠ 69 → s7 c = s c := fun c h1 h2 h3 => by rw [r2.1 c h1 h2 h3, k0 c h1]; exact f1 c h1 h2 h3
      have g17 : s7 47 1 = nI L := by rw [fr7 47 (by decide) (by decide) (by decide)]; exact hL
      have nW : B = 256 → ∀ M, M < 2 ^ L → bcN M < k + 1 → swW n V st t m0 M = false := by
        intro hB M hM hb
        by_cases c : bcN M < k
        · exact f5 M hM c
        · cases cw : swW n V st t m0 M with
          | false => rfl
          | true =>
            obtain ⟨r, hr⟩ := W_suc ht hL8 f5 hM (by omega) cw
            have := r8 r M hr (by omega)
            omega
      by_cases cB : B = 256
      · subst cB
        obtain ⟨s', v, q1, q2, q3⟩ := ih s7 fr7 (fun i hi => by
          by_cases e12 : i = 12
          · subst e12; rw [r4]; exact c12.symm
          · rw [r2.2 i e12]; exact k65 i hi) (fun t ht => by
          have := r3 t (by omega)
          rw [this, k0 68 (by decide)]
          exact f3 t ht) (fun lim2 h1 h2 m' U' a1 a2 a3 => by
          have z := r9 lim2 h2 (by omega) m' U' a1 a2 a3
          unfold prs at z
          rw [k0 69 (by decide)] at z
          exact f4 lim2 (by omega) h2 m' U' a1 a2 z) (nW rfl)
        refine ⟨s', v, ?_, q2, q3⟩
        rw [r76_27]
        simp (disch := first | omega | assumption | exact Or.inl rfl | exact Or.inr rfl | exact bI_or _ | exact zC81 | exact zC47 | exact zC65 | exact zC0 | exact zC1 | exact zC32 | exact zC70 | exact zC73 | exact ztc (by assumption) | exact zdc (by assumption) | exact zpc (by assumption) | decide) only [Option.some.injEq, exists_eq_left', ex2, Option.toList, List.singleton_append, List.append_nil, List.cons_append, List.nil_append, nI_add, nI_addL, nI_Ladd, pk_mul, nI_mulL, nI_Lmul, nI_subL, pk_sub, nI_divL, sub_dm, nI_leE, nI_ltE, nI_eqE, nI_Lle, nI_leL, nI_Llt, nI_ltL, nI_eqL, va_up_self, va_up_ne, up_up, up_comm, nI_clamp, bI_eq0, not_true_eq_false, not_false_eq_true, Nat.reduceEqDiff, Nat.reduceLeDiff, Nat.reduceAdd, Nat.reduceMul, Nat.one_ne_zero, Nat.zero_ne_one, decide_eq_false_iff_not, decide_eq_true_eq, Bool.false_eq_true, decide_true, decide_false, bI_true, bI_false, one_ne, Nat.le_refl, Nat.lt_irrefl, cleT, cleF, cltT, cltF, ceqT, ceqF, ↓reduceIte, r76_28, r76_29, r76_32, r76_35, r76_38, r76_39, r76_42, r76_45, r76_48, r76_49, r76_50, r76_53, r76_54, r76_55, r76_56, r76_59, r76_62, zO65_3, zO65_12, zW65_10, zO47_1, g1, g12, hs6, r1'.iff]
        exact q1
      · have hB := r6.resolve_left cB
        refine ⟨s7, some B, ?_, fr7, hB.1, hB.2.1, fun M hM hb => f5 M hM (by omega), fun M hM hb hw => ?_⟩
        · rw [r76_27]
          simp (disch := first | omega | assumption | exact Or.inl rfl | exact Or.inr rfl | exact bI_or _ | exact zC81 | exact zC47 | exact zC65 | exact zC0 | exact zC1 | exact zC32 | exact zC70 | exact zC73 | exact ztc (by assumption) | exact zdc (by assumption) | exact zpc (by assumption) | decide) only [Option.some.injEq, exists_eq_left', ex2, Option.toList, List.singleton_append, List.append_nil, List.cons_append, List.nil_append, nI_add, nI_addL, nI_Ladd, pk_mul, nI_mulL, nI_Lmul, nI_subL, pk_sub, nI_divL, sub_dm, nI_leE, nI_ltE, nI_eqE, nI_Lle, nI_leL, nI_Llt, nI_ltL, nI_eqL, va_up_self, va_up_ne, up_up, up_comm, nI_clamp, bI_eq0, not_true_eq_false, not_false_eq_true, Nat.reduceEqDiff, Nat.reduceLeDiff, Nat.reduceAdd, Nat.reduceMul, Nat.one_ne_zero, Nat.zero_ne_one, decide_eq_false_iff_not, decide_eq_true_eq, Bool.false_eq_true, decide_true, decide_false, bI_true, bI_false, one_ne, Nat.le_refl, Nat.lt_irrefl, cleT, cleF, cltT, cltF, ceqT, ceqF, ↓reduceIte, r76_28, r76_29, r76_32, r76_35, r76_38, r76_39, r76_42, r76_45, r76_48, r76_49, r76_50, r76_53, r76_54, r76_55, r76_56, r76_59, r76_62, zO65_3, zO65_12, zW65_10, zO47_1, g1, g12, hs6, r1'.iff]
          rw [r76_27]
          have B8 : B < 256 := by omega
          by_cases c2 : k + 1 ≤ L
          · have c2' : ¬ L < k + 1 := by omega
            simp (disch := first | omega | assumption | exact Or.inl rfl | exact Or.inr rfl | exact bI_or _ | exact zC81 | exact zC47 | exact zC65 | exact zC0 | exact zC1 | exact zC32 | exact zC70 | exact zC73 | exact ztc (by assumption) | exact zdc (by assumption) | exact zpc (by assumption) | decide) only [Option.some.injEq, exists_eq_left', ex2, Option.toList, List.singleton_append, List.append_nil, List.cons_append, List.nil_append, nI_add, nI_addL, nI_Ladd, pk_mul, nI_mulL, nI_Lmul, nI_subL, pk_sub, nI_divL, sub_dm, nI_leE, nI_ltE, nI_eqE, nI_Lle, nI_leL, nI_Llt, nI_ltL, nI_eqL, va_up_self, va_up_ne, up_up, up_comm, nI_clamp, bI_eq0, not_true_eq_false, not_false_eq_true, Nat.reduceEqDiff, Nat.reduceLeDiff, Nat.reduceAdd, Nat.reduceMul, Nat.one_ne_zero, Nat.zero_ne_one, decide_eq_false_iff_not, decide_eq_true_eq, Bool.false_eq_true, decide_true, decide_false, bI_true, bI_false, one_ne, Nat.le_refl, Nat.lt_irrefl, cleT, cleF, cltT, cltF, ceqT, ceqF, ↓reduceIte, r76_28, r76_29, r76_32, r76_35, r76_38, r76_39, r76_42, r76_45, r76_65, r76_66, r76_69, r76_72, r76_75, r76_76, r76_79, r76_80, r76_83, zO65_3, zO65_12, zO47_1, g17, r4, c2', cB, oI]
          · have c2' : L < k + 1 := by omega
            simp (disch := first | omega | assumption | exact Or.inl rfl | exact Or.inr rfl | exact bI_or _ | exact zC81 | exact zC47 | exact zC65 | exact zC0 | exact zC1 | exact zC32 | exact zC70 | exact zC73 | exact ztc (by assumption) | exact zdc (by assumption) | exact zpc (by assumption) | decide) only [Option.some.injEq, exists_eq_left', ex2, Option.toList, List.singleton_append, List.append_nil, List.cons_append, List.nil_append, nI_add, nI_addL, nI_Ladd, pk_mul, nI_mulL, nI_Lmul, nI_subL, pk_sub, nI_divL, sub_dm, nI_leE, nI_ltE, nI_eqE, nI_Lle, nI_leL, nI_Llt, nI_ltL, nI_eqL, va_up_self, va_up_ne, up_up, up_comm, nI_clamp, bI_eq0, not_true_eq_false, not_false_eq_true, Nat.reduceEqDiff, Nat.reduceLeDiff, Nat.reduceAdd, Nat.reduceMul, Nat.one_ne_zero, Nat.zero_ne_one, decide_eq_false_iff_not, decide_eq_true_eq, Bool.false_eq_true, decide_true, decide_false, bI_true, bI_false, one_ne, Nat.le_refl, Nat.lt_irrefl, cleT, cleF, cltT, cltF, ceqT, ceqF, ↓reduceIte, r76_28, r76_29, r76_32, r76_35, r76_38, r76_39, r76_42, r76_45, r76_65, r76_66, r76_69, r76_72, r76_75, r76_76, r76_79, r76_80, r76_83, zO65_3, zO65_12, zO47_1, g17, r4, c2', cB, oI]
        · have ebk : bcN B = k := by
            rcases Nat.lt_or_ge (bcN B) k with q | q
            · have := f5 B hB.1 q
              rw [hB.2.1] at this
              cases this
            · omega
          obtain ⟨r, hr⟩ := W_suc ht hL8 f5 hM (by omega) hw
          exact r8 r M hr (by omega)
  obtain ⟨s', v, q1, q2, q3⟩ := loop (L + 1) (Nat.le_refl _) s4 c0 (fun _ _ => rfl) c68 (fun lim2 _ h2 => c69 lim2 h2) (fun M _ hb => by rw [Nat.sub_self] at hb; omega)
  rw [Nat.sub_self] at q1
  refine ⟨s', v, ?_, q2, q3⟩
  simp (disch := first | omega | assumption | exact Or.inl rfl | exact Or.inr rfl | exact bI_or _ | exact zC81 | exact zC47 | exact zC65 | exact zC0 | exact zC1 | exact zC32 | exact zC70 | exact zC73 | exact ztc (by assumption) | exact zdc (by assumption) | exact zpc (by assumption) | decide) only [Option.some.injEq, exists_eq_left', ex2, Option.toList, List.singleton_append, List.append_nil, List.cons_append, List.nil_append, nI_add, nI_addL, nI_Ladd, pk_mul, nI_mulL, nI_Lmul, nI_subL, pk_sub, nI_divL, sub_dm, nI_leE, nI_ltE, nI_eqE, nI_Lle, nI_leL, nI_Llt, nI_ltL, nI_eqL, va_up_self, va_up_ne, up_up, up_comm, nI_clamp, bI_eq0, not_true_eq_false, not_false_eq_true, Nat.reduceEqDiff, Nat.reduceLeDiff, Nat.reduceAdd, Nat.reduceMul, Nat.one_ne_zero, Nat.zero_ne_one, decide_eq_false_iff_not, decide_eq_true_eq, Bool.false_eq_true, decide_true, decide_false, bI_true, bI_false, one_ne, Nat.le_refl, Nat.lt_irrefl, cleT, cleF, cltT, cltF, ceqT, ceqF, ↓reduceIte, r76_0, r76_1, r76_2, r76_3, r76_6, r76_7, r76_10, r76_11, r76_14, r76_15, r76_18, r76_19, r76_22, r76_25, r76_26, sit, lif, fil, zO65_7, zW65_12, hs4]
  exact q1
def swO (b : Int32) (v : Option Nat) : Int32 := match v with
  | none => -1
  | some B => if b = 0 then nI (bcN B) else nI B
theorem rf_swayLoop {t0 n h u t L : Nat} {st : Int32} {V : Nat → Nat → Int32} {m0 : Nat → Int32} {b : Int32} {l1 : Option Value} (hT : rT s t0 n h) (hL : s 81 23 = nI L) (hL8 : L ≤ 8) (hu : u < 8) (ht : t < n) (hst : s 82 (t0 + 13 + u) = st) (hV : ∀ l t, s 88 (6 * l + t) = V l t) (hm0 : ∀ t, s 82 (t0 + 29 + 6 * u + t) = m0 t) : ∀ j, j ≤ L + 1 → ∀ s3 : hS, (∀ c, c ≠ 92 → c ≠ 96 → s3 c = s c) → (∀ M, M < 2 ^ L → bcN M < L + 1 - j → swW n V st t m0 M = false) → ∃ (s' : hS) (v : Option Nat), (∀ l6, Runs xs sl (d+1+1+1) 242 33 [some (.ref (81)), l1, some (.int ( nI u)), some (.int ( nI t)), some (.int (b)), some (.int ( nI (L + 1 - j))), l6] [] (hp J (s3) g) (some (.int (swO b v)), hp J s' g)) ∧ (∀ c, c ≠ 92 → c ≠ 96 → s' c = s c) ∧ swA (swW n V st t m0) L v := by
  have p8 := pw8 hL8
  intro j
  induction j with
  | zero =>
    intro _ s3 f1 f2
    have g23 : s3 81 23 = nI L := by rw [f1 81 (by decide) (by decide)]; exact hL
    refine ⟨s3, none, fun l6 => ?_, f1, fun M hM => f2 M hM ?_⟩
    · rw [Nat.sub_zero, r242_33]
      simp (disch := first | omega | assumption | exact Or.inl rfl | exact Or.inr rfl | exact bI_or _ | exact zC81 | exact zC47 | exact zC65 | exact zC0 | exact zC1 | exact zC32 | exact zC70 | exact zC73 | exact ztc (by assumption) | exact zdc (by assumption) | exact zpc (by assumption) | decide) only [Option.some.injEq, exists_eq_left', ex2, Option.toList, List.singleton_append, List.append_nil, List.cons_append, List.nil_append, nI_add, nI_addL, nI_Ladd, pk_mul, nI_mulL, nI_Lmul, nI_subL, pk_sub, nI_divL, sub_dm, nI_leE, nI_ltE, nI_eqE, nI_Lle, nI_leL, nI_Llt, nI_ltL, nI_eqL, va_up_self, va_up_ne, up_up, up_comm, nI_clamp, bI_eq0, not_true_eq_false, not_false_eq_true, Nat.reduceEqDiff, Nat.reduceLeDiff, Nat.reduceAdd, Nat.reduceMul, Nat.one_ne_zero, Nat.zero_ne_one, decide_eq_false_iff_not, decide_eq_true_eq, Bool.false_eq_true, decide_true, decide_false, bI_true, bI_false, one_ne, Nat.le_refl, Nat.lt_irrefl, cleT, cleF, cltT, cltF, ceqT, ceqF, ↓reduceIte, r242_35, r242_36, r242_39, r242_102, r242_103, zO81_23, g23, swO]
    · have := bcn_pow M (by omega) L (by omega) hM
      omega
  | succ j ih =>
    intro hj s3 f1 f2
    have ih := ih (by omega)
    have lv : L + 1 - j = L + 1 - (j + 1) + 1 := by omega
    rw [lv] at ih
    have kL : L + 1 - (j + 1) ≤ L := by omega
    generalize L + 1 - (j + 1) = k at *
    have g23 : s3 81 23 = nI L := by rw [f1 81 (by decide) (by decide)]; exact hL
    obtain ⟨s4, q1, q2⟩ := @rf_sets xs sl d J s g t0 n h u t L k st V m0 b l1 hT hL hL8 hu ht (by omega) hst hV hm0 (2 ^ L) 0 s3 (Nat.zero_add _) f1
    have hk : ¬ L < k := by omega
    cases e : (List.range' 0 (2 ^ L)).find? (fun v => decide (bcN v = k) && swW n V st t m0 v) with
    | none =>
      rw [e] at q2
      dsimp only at q2
      have e' := List.find?_range'_eq_none.mp e
      obtain ⟨s', v, r1, r2, r3⟩ := ih s4 q1 (fun M hM hb => by
        by_cases c : bcN M < k
        · exact f2 M hM c
        · have z := e' M (Nat.zero_le M) (by omega)
          rw [decide_eq_true (show bcN M = k by omega), Bool.true_and, Bool.not_eq_true'] at z
          exact z)
      refine ⟨s', v, fun l6 => ?_, r2, r3⟩
      have q3 := q2 _ (fun l6 => r1 l6)
      rw [r242_33]
      simp (disch := first | omega | assumption | exact Or.inl rfl | exact Or.inr rfl | exact bI_or _ | exact zC81 | exact zC47 | exact zC65 | exact zC0 | exact zC1 | exact zC32 | exact zC70 | exact zC73 | exact ztc (by assumption) | exact zdc (by assumption) | exact zpc (by assumption) | decide) only [Option.some.injEq, exists_eq_left', ex2, Option.toList, List.singleton_append, List.append_nil, List.cons_append, List.nil_append, nI_add, nI_addL, nI_Ladd, pk_mul, nI_mulL, nI_Lmul, nI_subL, pk_sub, nI_divL, sub_dm, nI_leE, nI_ltE, nI_eqE, nI_Lle, nI_leL, nI_Llt, nI_ltL, nI_eqL, va_up_self, va_up_ne, up_up, up_comm, nI_clamp, bI_eq0, not_true_eq_false, not_false_eq_true, Nat.reduceEqDiff, Nat.reduceLeDiff, Nat.reduceAdd, Nat.reduceMul, Nat.one_ne_zero, Nat.zero_ne_one, decide_eq_false_iff_not, decide_eq_true_eq, Bool.false_eq_true, decide_true, decide_false, bI_true, bI_false, one_ne, Nat.le_refl, Nat.lt_irrefl, cleT, cleF, cltT, cltF, ceqT, ceqF, ↓reduceIte, r242_35, r242_36, r242_39, r242_42, r242_43, zO81_23, g23, hk]
      exact q3
    | some w =>
      rw [e] at q2
      dsimp only at q2
      obtain ⟨e1, e2, e3⟩ := List.find?_range'_eq_some.mp e
      have e1' := Bool.and_eq_true_iff.mp e1
      have ew : bcN w = k := of_decide_eq_true e1'.1
      have wL : w < 2 ^ L := by
        have := List.mem_range'_1.mp e2
        omega
      refine ⟨s4, some w, fun l6 => ?_, q1, wL, e1'.2, fun M hM hb => f2 M hM (by omega), fun M hM hb hw => ?_⟩
      · unfold swO
        dsimp only
        rw [ew]
        rw [r242_33]
        simp (disch := first | omega | assumption | exact Or.inl rfl | exact Or.inr rfl | exact bI_or _ | exact zC81 | exact zC47 | exact zC65 | exact zC0 | exact zC1 | exact zC32 | exact zC70 | exact zC73 | exact ztc (by assumption) | exact zdc (by assumption) | exact zpc (by assumption) | decide) only [Option.some.injEq, exists_eq_left', ex2, Option.toList, List.singleton_append, List.append_nil, List.cons_append, List.nil_append, nI_add, nI_addL, nI_Ladd, pk_mul, nI_mulL, nI_Lmul, nI_subL, pk_sub, nI_divL, sub_dm, nI_leE, nI_ltE, nI_eqE, nI_Lle, nI_leL, nI_Llt, nI_ltL, nI_eqL, va_up_self, va_up_ne, up_up, up_comm, nI_clamp, bI_eq0, not_true_eq_false, not_false_eq_true, Nat.reduceEqDiff, Nat.reduceLeDiff, Nat.reduceAdd, Nat.reduceMul, Nat.one_ne_zero, Nat.zero_ne_one, decide_eq_false_iff_not, decide_eq_true_eq, Bool.false_eq_true, decide_true, decide_false, bI_true, bI_false, one_ne, Nat.le_refl, Nat.lt_irrefl, cleT, cleF, cltT, cltF, ceqT, ceqF, ↓reduceIte, r242_35, r242_36, r242_39, r242_42, r242_43, zO81_23, g23, hk]
        exact q2
      · rcases Nat.lt_or_ge M w with c | c
        · have z := e3 M (Nat.zero_le M) c
          rw [decide_eq_true (show bcN M = k by omega), Bool.true_and, hw] at z
          cases z
        · exact c
theorem swP_congr {n c t : Nat} {V V' : Nat → Nat → Int32} {st : Int32} {m m' : Nat → Int32} (ht : t < n) (hV : ∀ l t, l < c → t < n → V l t = V' l t) (h : ∀ t, t < n → m t = m' t) {M : Nat} (hM : M < 2 ^ c) (hc : c ≤ 8) : swW n V st t m M = swW n V' st t m' M := by
  have p8 := pw8 hc
  have b8 : bcN M ≤ 8 := bc_le
  have mem := ord_mem 8 M (by omega) b8
  unfold swW
  have key : ∀ L : List (List Nat), (∀ o ∈ L, ∀ l ∈ o, l < c) → L.any (swP n V st t m) = L.any (swP n V' st t m') := by
    intro L
    induction L with
    | nil => intro _; rw [List.any_nil, List.any_nil]
    | cons o L ih =>
      intro hL
      rw [List.any_cons, List.any_cons, ih (fun o ho => hL o (List.mem_cons_of_mem _ ho))]
      obtain ⟨h1, h2⟩ := eL_V (st := st) hV o m m' true (hL o List.mem_cons_self) h
      have e : swP n V st t m o = swP n V' st t m' o := by
        unfold swP
        rw [h1 t ht, h2]
      rw [e]
  refine key _ (fun o ho l hl => ?_)
  obtain ⟨l8, lb⟩ := (mem o ho).2.1 l hl
  rcases Nat.lt_or_ge l c with h9 | h9
  · exact h9
  · have h10 : M < 2 ^ l := Nat.lt_of_lt_of_le hM (Nat.pow_le_pow_right (by decide) h9)
    rw [Nat.div_eq_of_lt h10] at lb
    exact absurd lb (by decide)
theorem swA_congr {W W' : Nat → Bool} {L : Nat} {v : Option Nat} (h : ∀ M, M < 2 ^ L → W M = W' M) (q : swA W L v) : swA W' L v := by
  cases v with
  | none => exact fun M hM => by rw [← h M hM]; exact q M hM
  | some B =>
    obtain ⟨a1, a2, a3, a4⟩ := q
    exact ⟨a1, by rw [← h B a1]; exact a2, fun M hM hb => by rw [← h M hM]; exact a3 M hM hb, fun M hM hb hw => a4 M hM hb (by rw [h M hM]; exact hw)⟩
set_option maxHeartbeats 2000000 in
theorem pm_sway (hI : ToldR s (s 82)) (p q w b : Int32) : Same xs sl J s g 36 242 [some (.ref 0), some (.int p), some (.int q), some (.int w), some (.int b), none, none] [some (.ref 81), some (.int p), some (.int q), some (.int w), some (.int b), none, none] := by
  obtain ⟨c0, c1, c2, len, ⟨q0, q0', q0''⟩, -, -, -, -, -, hT, -, -⟩ := hI
  rcases has_cases p (n := c0) (by omega) with h | ⟨k, hk, rfl⟩
  · refine ⟨.int (-1), s, s, g, ?_, CK_refl s, ?_, RK_refl s⟩
    · simp (disch := first | omega | assumption | exact Or.inl rfl | exact Or.inr rfl | exact bI_or _ | exact zC81 | exact zC47 | exact zC65 | exact zC0 | exact zC1 | exact zC32 | exact zC70 | exact zC73 | exact ztc (by assumption) | exact zdc (by assumption) | exact zpc (by assumption) | decide) only [Option.some.injEq, exists_eq_left', ex2, Option.toList, List.singleton_append, List.append_nil, List.cons_append, List.nil_append, nI_add, nI_addL, nI_Ladd, pk_mul, nI_mulL, nI_Lmul, nI_subL, pk_sub, nI_divL, sub_dm, nI_leE, nI_ltE, nI_eqE, nI_Lle, nI_leL, nI_Llt, nI_ltL, nI_eqL, va_up_self, va_up_ne, up_up, up_comm, nI_clamp, bI_eq0, not_true_eq_false, not_false_eq_true, Nat.reduceEqDiff, Nat.reduceLeDiff, Nat.reduceAdd, Nat.reduceMul, Nat.one_ne_zero, Nat.zero_ne_one, decide_eq_false_iff_not, decide_eq_true_eq, Bool.false_eq_true, decide_true, decide_false, bI_true, bI_false, one_ne, Nat.le_refl, Nat.lt_irrefl, cleT, cleF, cltT, cltF, ceqT, ceqF, ↓reduceIte, r36_0, r36_1, r36_2, r36_5, r36_5n, r36_7, r36_7n, r36_9, r36_9n, r36_12, r36_12n, r36_14, r36_15, r36_18, r36_21, r36_21n, r36_23, r36_24, r36_27, r36_30, r36_31, br_townNo q0 h]
    · simp (disch := first | omega | assumption | exact Or.inl rfl | exact Or.inr rfl | exact bI_or _ | exact zC81 | exact zC47 | exact zC65 | exact zC0 | exact zC1 | exact zC32 | exact zC70 | exact zC73 | exact ztc (by assumption) | exact zdc (by assumption) | exact zpc (by assumption) | decide) only [Option.some.injEq, exists_eq_left', ex2, Option.toList, List.singleton_append, List.append_nil, List.cons_append, List.nil_append, nI_add, nI_addL, nI_Ladd, pk_mul, nI_mulL, nI_Lmul, nI_subL, pk_sub, nI_divL, sub_dm, nI_leE, nI_ltE, nI_eqE, nI_Lle, nI_leL, nI_Llt, nI_ltL, nI_eqL, va_up_self, va_up_ne, up_up, up_comm, nI_clamp, bI_eq0, not_true_eq_false, not_false_eq_true, Nat.reduceEqDiff, Nat.reduceLeDiff, Nat.reduceAdd, Nat.reduceMul, Nat.one_ne_zero, Nat.zero_ne_one, decide_eq_false_iff_not, decide_eq_true_eq, Bool.false_eq_true, decide_true, decide_false, bI_true, bI_false, one_ne, Nat.le_refl, Nat.lt_irrefl, cleT, cleF, cltT, cltF, ceqT, ceqF, ↓reduceIte, r242_0, r242_1, r242_2, r242_5, r242_8, r242_9, r242_10, r242_13, r242_16, r242_17, r242_18, r242_21, r242_24, r242_25, rf_townNo q0' q0'' h]
  obtain ⟨n, li, h, sa, c, hQ⟩ := hT k hk
  have hR := rTown_rT (s := s) (by omega) hQ
  have hiT := isT_of (k := k) (by omega)
  obtain ⟨X, cb, hC, x1, vv, mi, mk⟩ := @begun xs sl J s g k n li h sa c c0 hk q0' q0'' hQ
  obtain ⟨⟨t1, t2, t3, t4⟩, -, ⟨t5, t6, t7⟩, -, ⟨t8, t9, c8⟩, tv, -, -, tm, -, -⟩ := hQ
  rcases has_cases q (n := h) (by omega) with hy | ⟨u, hu, rfl⟩
  · refine ⟨.int (-1), s, rTown s k, g, ?_, CK_refl s, ?_, rTown_RK k⟩
    · simp (disch := first | omega | assumption | exact Or.inl rfl | exact Or.inr rfl | exact bI_or _ | exact zC81 | exact zC47 | exact zC65 | exact zC0 | exact zC1 | exact zC32 | exact zC70 | exact zC73 | exact ztc (by assumption) | exact zdc (by assumption) | exact zpc (by assumption) | decide) only [Option.some.injEq, exists_eq_left', ex2, Option.toList, List.singleton_append, List.append_nil, List.cons_append, List.nil_append, nI_add, nI_addL, nI_Ladd, pk_mul, nI_mulL, nI_Lmul, nI_subL, pk_sub, nI_divL, sub_dm, nI_leE, nI_ltE, nI_eqE, nI_Lle, nI_leL, nI_Llt, nI_ltL, nI_eqL, va_up_self, va_up_ne, up_up, up_comm, nI_clamp, bI_eq0, not_true_eq_false, not_false_eq_true, Nat.reduceEqDiff, Nat.reduceLeDiff, Nat.reduceAdd, Nat.reduceMul, Nat.one_ne_zero, Nat.zero_ne_one, decide_eq_false_iff_not, decide_eq_true_eq, Bool.false_eq_true, decide_true, decide_false, bI_true, bI_false, one_ne, Nat.le_refl, Nat.lt_irrefl, cleT, cleF, cltT, cltF, ceqT, ceqF, ↓reduceIte, r36_0, r36_1, r36_2, r36_5, r36_5n, r36_7, r36_7n, r36_9, r36_9n, r36_12, r36_12n, r36_14, r36_15, r36_18, r36_21, r36_21n, r36_23, r36_24, r36_27, r36_30, r36_31, br_townAt q0 q0'' hk, zx_hasHouse hiT, t5, hy]
    · simp (disch := first | omega | assumption | exact Or.inl rfl | exact Or.inr rfl | exact bI_or _ | exact zC81 | exact zC47 | exact zC65 | exact zC0 | exact zC1 | exact zC32 | exact zC70 | exact zC73 | exact ztc (by assumption) | exact zdc (by assumption) | exact zpc (by assumption) | decide) only [Option.some.injEq, exists_eq_left', ex2, Option.toList, List.singleton_append, List.append_nil, List.cons_append, List.nil_append, nI_add, nI_addL, nI_Ladd, pk_mul, nI_mulL, nI_Lmul, nI_subL, pk_sub, nI_divL, sub_dm, nI_leE, nI_ltE, nI_eqE, nI_Lle, nI_leL, nI_Llt, nI_ltL, nI_eqL, va_up_self, va_up_ne, up_up, up_comm, nI_clamp, bI_eq0, not_true_eq_false, not_false_eq_true, Nat.reduceEqDiff, Nat.reduceLeDiff, Nat.reduceAdd, Nat.reduceMul, Nat.one_ne_zero, Nat.zero_ne_one, decide_eq_false_iff_not, decide_eq_true_eq, Bool.false_eq_true, decide_true, decide_false, bI_true, bI_false, one_ne, Nat.le_refl, Nat.lt_irrefl, cleT, cleF, cltT, cltF, ceqT, ceqF, ↓reduceIte, r242_0, r242_1, r242_2, r242_5, r242_8, r242_9, r242_10, r242_13, r242_16, r242_17, r242_18, r242_21, r242_24, r242_25, rf_isTown q0' q0'' hk, rf_isHouse (x := q) hR, hy]
  rcases has_cases w (n := n) (by omega) with hw | ⟨t, ht, rfl⟩
  · refine ⟨.int (-1), s, rTown s k, g, ?_, CK_refl s, ?_, rTown_RK k⟩
    · simp (disch := first | omega | assumption | exact Or.inl rfl | exact Or.inr rfl | exact bI_or _ | exact zC81 | exact zC47 | exact zC65 | exact zC0 | exact zC1 | exact zC32 | exact zC70 | exact zC73 | exact ztc (by assumption) | exact zdc (by assumption) | exact zpc (by assumption) | decide) only [Option.some.injEq, exists_eq_left', ex2, Option.toList, List.singleton_append, List.append_nil, List.cons_append, List.nil_append, nI_add, nI_addL, nI_Ladd, pk_mul, nI_mulL, nI_Lmul, nI_subL, pk_sub, nI_divL, sub_dm, nI_leE, nI_ltE, nI_eqE, nI_Lle, nI_leL, nI_Llt, nI_ltL, nI_eqL, va_up_self, va_up_ne, up_up, up_comm, nI_clamp, bI_eq0, not_true_eq_false, not_false_eq_true, Nat.reduceEqDiff, Nat.reduceLeDiff, Nat.reduceAdd, Nat.reduceMul, Nat.one_ne_zero, Nat.zero_ne_one, decide_eq_false_iff_not, decide_eq_true_eq, Bool.false_eq_true, decide_true, decide_false, bI_true, bI_false, one_ne, Nat.le_refl, Nat.lt_irrefl, cleT, cleF, cltT, cltF, ceqT, ceqF, ↓reduceIte, r36_0, r36_1, r36_2, r36_5, r36_5n, r36_7, r36_7n, r36_9, r36_9n, r36_12, r36_12n, r36_14, r36_15, r36_18, r36_21, r36_21n, r36_23, r36_24, r36_27, r36_30, r36_31, br_townAt q0 q0'' hk, zx_hasHouse hiT, zx_hasTopic hiT, f_has_nI, t1, t5, hw]
    · simp (disch := first | omega | assumption | exact Or.inl rfl | exact Or.inr rfl | exact bI_or _ | exact zC81 | exact zC47 | exact zC65 | exact zC0 | exact zC1 | exact zC32 | exact zC70 | exact zC73 | exact ztc (by assumption) | exact zdc (by assumption) | exact zpc (by assumption) | decide) only [Option.some.injEq, exists_eq_left', ex2, Option.toList, List.singleton_append, List.append_nil, List.cons_append, List.nil_append, nI_add, nI_addL, nI_Ladd, pk_mul, nI_mulL, nI_Lmul, nI_subL, pk_sub, nI_divL, sub_dm, nI_leE, nI_ltE, nI_eqE, nI_Lle, nI_leL, nI_Llt, nI_ltL, nI_eqL, va_up_self, va_up_ne, up_up, up_comm, nI_clamp, bI_eq0, not_true_eq_false, not_false_eq_true, Nat.reduceEqDiff, Nat.reduceLeDiff, Nat.reduceAdd, Nat.reduceMul, Nat.one_ne_zero, Nat.zero_ne_one, decide_eq_false_iff_not, decide_eq_true_eq, Bool.false_eq_true, decide_true, decide_false, bI_true, bI_false, one_ne, Nat.le_refl, Nat.lt_irrefl, cleT, cleF, cltT, cltF, ceqT, ceqF, ↓reduceIte, r242_0, r242_1, r242_2, r242_5, r242_8, r242_9, r242_10, r242_13, r242_16, r242_17, r242_18, r242_21, r242_24, r242_25, rf_isTown q0' q0'' hk, rf_isHouse (x := nI u) hR, rf_isTopic (x := w) hR, f_has_nI, hw]
  have p8 := pw8 c8
  have u8 : u < 8 := by omega
  obtain ⟨x2, v, m1, m2, m3⟩ := @ml_winOver xs sl 987 J X g (7 + 12 * k) n h c u t hC.1 x1 c8 hu ht (fun l t hl ht => vv.1 l t hl ht) (fun t ht => by rw [mi _ (by omega)]; exact (tm _ (by omega)).1)
  obtain ⟨Y, r1, r2, r3, r4, r5, r6, r7, r8, r9, r10⟩ := mk x2 (fun j hj => m2 j (by omega) (by omega) (by omega))
  obtain ⟨y2, v', l1, l2, l3⟩ := @rf_swayLoop xs sl 996 J Y g (610 + 129 * k) n h u t c (Y 82 (610 + 129 * k + 13 + u)) (fun l t => Y 88 (6 * l + t)) (fun t => Y 82 (610 + 129 * k + 29 + 6 * u + t)) b (some (.int (nI k))) r5.1 r6 c8 u8 ht rfl (fun _ _ => rfl) (fun _ => rfl) (c + 1) (Nat.le_refl _) Y (fun _ _ _ => rfl) (fun M _ hb => by rw [Nat.sub_self] at hb; omega)
  rw [Nat.sub_self] at l1
  have es : Y 82 (610 + 129 * k + 13 + u) = X (7 + 12 * k + 2) u := (r9.2.2.2 u hu).symm
  have em : ∀ t, t < n → X 56 (6 * u + t) = Y 82 (610 + 129 * k + 29 + 6 * u + t) := by
    intro t ht
    rw [mi _ (by omega), r10]
    have w1 := (tm (6 * u + t) (by omega)).2
    rw [← Nat.add_assoc] at w1
    exact w1.symm
  rw [es] at l3
  have vv' : v = v' := swA_eq (swA_congr (fun M hM => swP_congr ht (fun l t hl ht => r8.2.2.1 l t hl ht) em hM c8) m3) l3
  subst vv'
  have ck : CK s x2 := CK_trans (CI_CK hC) (fun j hj => m2 j (by omega) (by omega) (by omega))
  have rk : RK x2 y2 := RK_trans r7 ⟨fun j hj => l2 j (by omega) (by omega), by rw [l2 81 (by decide) (by decide)]⟩
  have r4' := @r4 995
  have l1' := l1 none
  have refr : Runs xs sl (999) 242 0 [some (.ref (81)), some (.int ( nI k)), some (.int ( nI u)), some (.int ( nI t)), some (.int (b)), none, none] [] (hp J (x2) g) (some (.int (swO b v)), hp J y2 g) := by
    simp (disch := first | omega | assumption | exact Or.inl rfl | exact Or.inr rfl | exact bI_or _ | exact zC81 | exact zC47 | exact zC65 | exact zC0 | exact zC1 | exact zC32 | exact zC70 | exact zC73 | exact ztc (by assumption) | exact zdc (by assumption) | exact zpc (by assumption) | decide) only [Option.some.injEq, exists_eq_left', ex2, Option.toList, List.singleton_append, List.append_nil, List.cons_append, List.nil_append, nI_add, nI_addL, nI_Ladd, pk_mul, nI_mulL, nI_Lmul, nI_subL, pk_sub, nI_divL, sub_dm, nI_leE, nI_ltE, nI_eqE, nI_Lle, nI_leL, nI_Llt, nI_ltL, nI_eqL, va_up_self, va_up_ne, up_up, up_comm, nI_clamp, bI_eq0, not_true_eq_false, not_false_eq_true, Nat.reduceEqDiff, Nat.reduceLeDiff, Nat.reduceAdd, Nat.reduceMul, Nat.one_ne_zero, Nat.zero_ne_one, decide_eq_false_iff_not, decide_eq_true_eq, Bool.false_eq_true, decide_true, decide_false, bI_true, bI_false, one_ne, Nat.le_refl, Nat.lt_irrefl, cleT, cleF, cltT, cltF, ceqT, ceqF, ↓reduceIte, r242_0, r242_1, r242_2, r242_5, r242_8, r242_9, r242_10, r242_13, r242_16, r242_17, r242_18, r242_21, r242_24, r242_25, r242_26, r242_27, r242_30, r242_31, r1, rf_isHouse (x := nI u) r2, rf_isTopic (x := nI t) r2, f_has_nI, r4']
    exact l1'
  refine ⟨.int (swO b v), x2, y2, g, ?_, ck, refr, rk⟩
  cases v with
  | none =>
    by_cases cb0 : b = 0
    · have cb0' := eq_true cb0
      simp (disch := first | omega | assumption | exact Or.inl rfl | exact Or.inr rfl | exact bI_or _ | exact zC81 | exact zC47 | exact zC65 | exact zC0 | exact zC1 | exact zC32 | exact zC70 | exact zC73 | exact ztc (by assumption) | exact zdc (by assumption) | exact zpc (by assumption) | decide) only [Option.some.injEq, exists_eq_left', ex2, Option.toList, List.singleton_append, List.append_nil, List.cons_append, List.nil_append, nI_add, nI_addL, nI_Ladd, pk_mul, nI_mulL, nI_Lmul, nI_subL, pk_sub, nI_divL, sub_dm, nI_leE, nI_ltE, nI_eqE, nI_Lle, nI_leL, nI_Llt, nI_ltL, nI_eqL, va_up_self, va_up_ne, up_up, up_comm, nI_clamp, bI_eq0, not_true_eq_false, not_false_eq_true, Nat.reduceEqDiff, Nat.reduceLeDiff, Nat.reduceAdd, Nat.reduceMul, Nat.one_ne_zero, Nat.zero_ne_one, decide_eq_false_iff_not, decide_eq_true_eq, Bool.false_eq_true, decide_true, decide_false, bI_true, bI_false, one_ne, Nat.le_refl, Nat.lt_irrefl, cleT, cleF, cltT, cltF, ceqT, ceqF, ↓reduceIte, r36_0, r36_1, r36_2, r36_5, r36_5n, r36_7, r36_7n, r36_9, r36_9n, r36_12, r36_12n, r36_14, r36_15, r36_18, r36_21, r36_21n, r36_23, r36_24, r36_27, r36_30, r36_31, r36_32, r36_33, r36_36, r36_36n, r36_38, r36_41, r36_42, r36_45, r36_46, r36_47, r36_50, r36_50_1, r36_52, r36_54, r36_57, r36_59, r36_60, r36_63, r36_65, r36_68, r36_70, r36_73, br_townAt q0 q0'' hk, zx_hasHouse hiT, zx_hasTopic hiT, f_has_nI, t1, t5, zO0_3, zO0_4, cb, m1.iff, oI, swO, cb0']
    · simp (disch := first | omega | assumption | exact Or.inl rfl | exact Or.inr rfl | exact bI_or _ | exact zC81 | exact zC47 | exact zC65 | exact zC0 | exact zC1 | exact zC32 | exact zC70 | exact zC73 | exact ztc (by assumption) | exact zdc (by assumption) | exact zpc (by assumption) | decide) only [Option.some.injEq, exists_eq_left', ex2, Option.toList, List.singleton_append, List.append_nil, List.cons_append, List.nil_append, nI_add, nI_addL, nI_Ladd, pk_mul, nI_mulL, nI_Lmul, nI_subL, pk_sub, nI_divL, sub_dm, nI_leE, nI_ltE, nI_eqE, nI_Lle, nI_leL, nI_Llt, nI_ltL, nI_eqL, va_up_self, va_up_ne, up_up, up_comm, nI_clamp, bI_eq0, not_true_eq_false, not_false_eq_true, Nat.reduceEqDiff, Nat.reduceLeDiff, Nat.reduceAdd, Nat.reduceMul, Nat.one_ne_zero, Nat.zero_ne_one, decide_eq_false_iff_not, decide_eq_true_eq, Bool.false_eq_true, decide_true, decide_false, bI_true, bI_false, one_ne, Nat.le_refl, Nat.lt_irrefl, cleT, cleF, cltT, cltF, ceqT, ceqF, ↓reduceIte, r36_0, r36_1, r36_2, r36_5, r36_5n, r36_7, r36_7n, r36_9, r36_9n, r36_12, r36_12n, r36_14, r36_15, r36_18, r36_21, r36_21n, r36_23, r36_24, r36_27, r36_30, r36_31, r36_32, r36_33, r36_36, r36_36n, r36_38, r36_41, r36_42, r36_45, r36_46, r36_47, r36_50, r36_50_1, r36_52, r36_54, r36_57, r36_59, r36_60, r36_63, r36_65, r36_68, r36_70, r36_73, br_townAt q0 q0'' hk, zx_hasHouse hiT, zx_hasTopic hiT, f_has_nI, t1, t5, zO0_3, zO0_4, cb, m1.iff, oI, swO, cb0]
  | some B =>
    have B8 : B < 256 := by have := m3.1; omega
    have b2 : ∀ {r : Option Value × mH}, Runs xs sl 998 287 0 [some (.int (nI B))] [] (hp J x2 g) r ↔ r = (some (.int (nI (bcN B))), hp J x2 g) := zx_bitCount B8
    have nm : ¬ nI B = -1 := by
      intro z
      have h0 := nI_pos (n := B) (by omega)
      rw [z] at h0
      exact h0 (by decide)
    by_cases cb0 : b = 0
    · have cb0' := eq_true cb0
      simp (disch := first | omega | assumption | exact Or.inl rfl | exact Or.inr rfl | exact bI_or _ | exact zC81 | exact zC47 | exact zC65 | exact zC0 | exact zC1 | exact zC32 | exact zC70 | exact zC73 | exact ztc (by assumption) | exact zdc (by assumption) | exact zpc (by assumption) | decide) only [Option.some.injEq, exists_eq_left', ex2, Option.toList, List.singleton_append, List.append_nil, List.cons_append, List.nil_append, nI_add, nI_addL, nI_Ladd, pk_mul, nI_mulL, nI_Lmul, nI_subL, pk_sub, nI_divL, sub_dm, nI_leE, nI_ltE, nI_eqE, nI_Lle, nI_leL, nI_Llt, nI_ltL, nI_eqL, va_up_self, va_up_ne, up_up, up_comm, nI_clamp, bI_eq0, not_true_eq_false, not_false_eq_true, Nat.reduceEqDiff, Nat.reduceLeDiff, Nat.reduceAdd, Nat.reduceMul, Nat.one_ne_zero, Nat.zero_ne_one, decide_eq_false_iff_not, decide_eq_true_eq, Bool.false_eq_true, decide_true, decide_false, bI_true, bI_false, one_ne, Nat.le_refl, Nat.lt_irrefl, cleT, cleF, cltT, cltF, ceqT, ceqF, ↓reduceIte, r36_0, r36_1, r36_2, r36_5, r36_5n, r36_7, r36_7n, r36_9, r36_9n, r36_12, r36_12n, r36_14, r36_15, r36_18, r36_21, r36_21n, r36_23, r36_24, r36_27, r36_30, r36_31, r36_32, r36_33, r36_36, r36_36n, r36_38, r36_41, r36_42, r36_45, r36_46, r36_47, r36_50, r36_50_1, r36_52, r36_54, r36_57, r36_59, r36_60, r36_63, r36_65, r36_68, r36_70, r36_73, br_townAt q0 q0'' hk, zx_hasHouse hiT, zx_hasTopic hiT, f_has_nI, t1, t5, zO0_3, zO0_4, cb, m1.iff, oI, swO, cb0', nm, b2]
    · simp (disch := first | omega | assumption | exact Or.inl rfl | exact Or.inr rfl | exact bI_or _ | exact zC81 | exact zC47 | exact zC65 | exact zC0 | exact zC1 | exact zC32 | exact zC70 | exact zC73 | exact ztc (by assumption) | exact zdc (by assumption) | exact zpc (by assumption) | decide) only [Option.some.injEq, exists_eq_left', ex2, Option.toList, List.singleton_append, List.append_nil, List.cons_append, List.nil_append, nI_add, nI_addL, nI_Ladd, pk_mul, nI_mulL, nI_Lmul, nI_subL, pk_sub, nI_divL, sub_dm, nI_leE, nI_ltE, nI_eqE, nI_Lle, nI_leL, nI_Llt, nI_ltL, nI_eqL, va_up_self, va_up_ne, up_up, up_comm, nI_clamp, bI_eq0, not_true_eq_false, not_false_eq_true, Nat.reduceEqDiff, Nat.reduceLeDiff, Nat.reduceAdd, Nat.reduceMul, Nat.one_ne_zero, Nat.zero_ne_one, decide_eq_false_iff_not, decide_eq_true_eq, Bool.false_eq_true, decide_true, decide_false, bI_true, bI_false, one_ne, Nat.le_refl, Nat.lt_irrefl, cleT, cleF, cltT, cltF, ceqT, ceqF, ↓reduceIte, r36_0, r36_1, r36_2, r36_5, r36_5n, r36_7, r36_7n, r36_9, r36_9n, r36_12, r36_12n, r36_14, r36_15, r36_18, r36_21, r36_21n, r36_23, r36_24, r36_27, r36_30, r36_31, r36_32, r36_33, r36_36, r36_36n, r36_38, r36_41, r36_42, r36_45, r36_46, r36_47, r36_50, r36_50_1, r36_52, r36_54, r36_57, r36_59, r36_60, r36_63, r36_65, r36_68, r36_70, r36_73, br_townAt q0 q0'' hk, zx_hasHouse hiT, zx_hasTopic hiT, f_has_nI, t1, t5, zO0_3, zO0_4, cb, m1.iff, oI, swO, cb0]
end SWW
