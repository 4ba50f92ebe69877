/-! SWAY: the class's search -/
section SWS
variable {xs : Nat → Int32} {sl d : Nat} {J : hJk} {s x y : hS} {g : hG}
def dgO (x : Int32) : Nat := (x + 3).toNatClampNeg
theorem dgO_of {x : Int32} (h : vw x) : dgO x < 7 ∧ x = nI (dgO x) - 3 := by
  obtain ⟨k, hk, rfl⟩ := h
  have q : ∀ k, k < 7 → dgO (nI k - 3) = k := by decide +kernel
  rw [q k hk]
  exact ⟨hk, rfl⟩
theorem dgO_inj {x y : Int32} (hx : vw x) (hy : vw y) (h : dgO x = dgO y) : x = y := by rw [(dgO_of hx).2, (dgO_of hy).2, h]
def kyM (m : Nat → Int32) (n U lim : Nat) : Nat := kyN (fun t => dgO (m t)) n U lim
def prs (n lim : Nat) (s : hS) (m : Nat → Int32) (U : Nat) : Prop := s 69 (hsN (nI (kyM m n U lim))) = nI (kyM m n U lim)
def DNm (n : Nat) (V : Nat → Nat → Int32) (st : Int32) (t L lim B : Nat) (m : Nat → Int32) (U : Nat) : Prop := ∀ r M, suc n V st t L r m U M → bcN M = lim → B ≤ M
theorem DNm_mono {n t L lim B B' U : Nat} {V : Nat → Nat → Int32} {st : Int32} {m : Nat → Int32} (h : DNm n V st t L lim B m U) (hB : B' ≤ B) : DNm n V st t L lim B' m U := fun r M q e => Nat.le_trans hB (h r M q e)
def FrS (s0 s : hS) : Prop := (∀ c, c ≠ 65 → c ≠ 68 → c ≠ 69 → s c = s0 c) ∧ ∀ j, j ≠ 12 → s 65 j = s0 65 j
theorem way_nI : ∀ i, i < 4 → (1 : Int32) - (nI i - 3) = nI (4 - i) := by decide +kernel
theorem dig_le : ∀ i, i < 7 → (nI i - (3 : Int32) ≤ 0 ↔ i ≤ 3) := by decide +kernel
theorem bc_255 : ∀ U, U < 256 → bcN U = 8 → ∀ l, l < 8 → U / 2 ^ l % 2 = 1 := by decide +kernel
theorem bit_or {U l : Nat} (hU : U < 256) (hl : l < 8) (h : U / 2 ^ l % 2 = 0) : U ||| 2 ^ l = U + 2 ^ l := by
  have q : ∀ U, U < 256 → ∀ l, l < 8 → U / 2 ^ l % 2 = 0 → U ||| 2 ^ l = U + 2 ^ l := by decide +kernel
  exact q U hU l hl h
theorem andn_bit {F U l : Nat} (hF : F < 256) (hU : U < 256) (hl : l < 8) (h1 : F / 2 ^ l % 2 = 1) (h2 : U / 2 ^ l % 2 = 0) : (F &&& (255 ^^^ U)) / 2 ^ l % 2 = 1 := by
  have e : ∀ X : Nat, X / 2 ^ l % 2 = 1 ↔ X.testBit l = true := by
    intro X
    rw [Nat.testBit_eq_decide_div_mod_eq, decide_eq_true_eq]
  rw [e] at h1 ⊢
  have h3 : U.testBit l = false := by
    cases c : U.testBit l with
    | false => rfl
    | true => rw [← e] at c; omega
  have h4 : ∀ i, i < 8 → (255 : Nat).testBit i = true := by decide
  rw [Nat.testBit_and, Nat.testBit_xor, h1, h3, h4 l hl]
  rfl
theorem hopeless_no {n t L lim k U i : Nat} {V : Nat → Nat → Int32} {st : Int32} {m : Nat → Int32} {B : Nat} (hL : L ≤ 8) (hV : ∀ l, l < L → vw (V l t)) (hU : U < 256) (hbc : bcN U = k) (hi : i < 7) (em : m t = nI i - 3) (h : (decide (lim - k < 4 - i) || decide (bcN (ltN (fun l => V l t) L &&& (255 ^^^ U)) < min (4 - i) 2)) = true) : DNm n V st t L lim B m U := by
  intro r M q e
  exfalso
  obtain ⟨a1, a2, a3, a4⟩ := suc_set hL r m U M hU q
  obtain ⟨b1, b2⟩ := suc_need hV r m U M i hi em q
  have hF := ltN_lt (fun l => V l t) L
  have p8 := pw8 hL
  rcases Bool.or_eq_true_iff.mp h with h | h
  · have := of_decide_eq_true h
    omega
  · have h' := of_decide_eq_true h
    have le := nodup_bc (r.filter (fun l => decide (0 < V l t))) (ltN (fun l => V l t) L &&& (255 ^^^ U)) (Nat.lt_of_le_of_lt Nat.and_le_left (by omega)) (a1.sublist List.filter_sublist) (fun l hl => by
      obtain ⟨l1, l2⟩ := List.mem_filter.mp hl
      obtain ⟨l3, l4⟩ := a2 l l1
      exact ⟨by omega, andn_bit (by omega) hU (by omega) (ltN_bit (fun l => V l t) L hL l l3 (of_decide_eq_true l2)) l4⟩)
    unfold needN at b2
    omega
/-- keys of other limits do not come -/
def OTH (n lim : Nat) (s s' : hS) : Prop := ∀ lim2, lim2 ≤ 8 → lim2 ≠ lim → ∀ m' U', (∀ t, t < n → vw (m' t)) → U' < 256 → prs n lim2 s' m' U' → prs n lim2 s m' U'
theorem OTH_of {n lim : Nat} {s s' : hS} (h : s' 69 = s 69) : OTH n lim s s' := fun _ _ _ m' U' _ _ q => by
  unfold prs at q ⊢
  rw [h] at q
  exact q
theorem OTH_trans {n lim : Nat} {s s' s2 : hS} (h1 : OTH n lim s s') (h2 : OTH n lim s' s2) : OTH n lim s s2 := fun l2 a b m' U' c e q => h1 l2 a b m' U' c e (h2 l2 a b m' U' c e q)
theorem OTH_seS {n lim U : Nat} {s : hS} {m : Nat → Int32} (n6 : n ≤ 6) (hm : ∀ t, t < n → vw (m t)) (hU : U < 256) (hlim : lim ≤ 8) : OTH n lim s (seS s (kyM m n U lim)) := by
  intro lim2 a1 a2 m' U' hm' hU' q
  unfold prs at q ⊢
  rw [seS, va_up_self] at q
  have kl := kyN_lt (lim := lim) n6 (fun t ht => (dgO_of (hm t ht)).1) hU hlim
  have kl' := kyN_lt (lim := lim2) n6 (fun t ht => (dgO_of (hm' t ht)).1) hU' a1
  by_cases c9 : hsN (nI (kyM m' n U' lim2)) = hsN (nI (kyM m n U lim))
  · rw [c9, va_up_self] at q
    have e9 : kyM m n U lim = kyM m' n U' lim2 := (nI_eq (show kyN _ n U lim < 2 ^ 31 by omega) (show kyN _ n U' lim2 < 2 ^ 31 by omega)).mp q
    unfold kyM kyN at e9
    omega
  · rw [va_up_ne _ _ c9] at q
    exact q
set_option maxHeartbeats 4000000 in
theorem ml_search {s0 : hS} {a n h L t lim : Nat} {st : Int32} {V : Nat → Nat → Int32} {m0 : Nat → Int32} (hT : cT s0 a n h) (hL : s0 47 1 = nI L) (hL8 : L ≤ 8) (h8 : s0 65 8 = nI t) (ht : t < n) (h9 : s0 65 9 = st) (h10 : s0 65 10 = nI lim) (hlim : lim ≤ 8) (h11 : s0 65 11 = nI (ltN (fun l => V l t) L)) (hV : ∀ l t, s0 57 (6 * l + t) = V l t) (hVw : ∀ l t, l < L → t < n → vw (V l t)) (hno : ∀ M, M < 2 ^ L → bcN M < lim → swW n V st t m0 M = false) : ∀ (u k U B : Nat) (s : hS) (o : List Nat) (m : Nat → Int32), k + u = 8 → o.length = k → k ≤ lim → nodeP n L V st m0 o m U → (∀ t, t < n → vw (m t)) → FrS s0 s → s 65 12 = nI B → B ≤ 256 → (∀ t, t < n → s 68 (6 * k + t) = m t) → (∀ m' U', (∀ t, t < n → vw (m' t)) → U' < 256 → prs n lim s m' U' → DNm n V st t L lim B m' U' ∨ bcN U' < k) → ∃ (s' : hS) (B' : Nat), Runs xs sl (d+u+1+1) 78 0 [some (.ref (65)), some (.int ( nI k)), some (.int ( nI U)), none, none] [] (hp J (s) g) (none, hp J s' g) ∧ FrS s0 s' ∧ (∀ j, j < 6 * (k + 1) → s' 68 j = s 68 j) ∧ s' 65 12 = nI B' ∧ B' ≤ B ∧ (B' = B ∨ (B' < 2 ^ L ∧ swW n V st t m0 B' = true ∧ bcN B' ≤ lim)) ∧ (∀ m' U', (∀ t, t < n → vw (m' t)) → U' < 256 → prs n lim s' m' U' → prs n lim s m' U' ∨ DNm n V st t L lim B' m' U') ∧ DNm n V st t L lim B' m U ∧ OTH n lim s s' := by
  have n6 : n ≤ 6 := hT.2.2.2.2.1
  have p8 := pw8 hL8
  have a31 : a < 31 := hT.2.1
  have hF := ltN_lt (fun l => V l t) L
  intro u
  induction u with
  | zero =>
    intro k U B s o m hk ho hkl hN hm hF1 hB hB2 hlv hpre
    obtain ⟨u1, u2, u3⟩ := node_set hL8 hN
    have e8 : s 65 8 = nI t := (hF1.2 8 (by decide)).trans h8
    obtain ⟨i7, ei⟩ := dgO_of (hm t ht)
    have elv := hlv t ht
    have k8 : k = 8 := by omega
    subst k8
    by_cases c : 0 < m t
    · have c' : ¬ m t ≤ 0 := Int32.not_le.mpr c
      refine ⟨va_up s 65 (va_up (s 65) 12 (nI (min B U))), min B U, ?_, ⟨fun c h1 _ _ => by rw [va_up_ne _ _ h1]; exact hF1.1 c h1 (by assumption) (by assumption), fun j hj => by rw [va_up_self, va_up_ne _ _ hj]; exact hF1.2 j hj⟩, fun j _ => by rw [va_up_ne _ _ (by decide)], by rw [va_up_self, va_up_self], by omega, ?_, fun m' U' _ _ q => Or.inl (by unfold prs at q ⊢; rw [va_up_ne _ _ (by decide)] at q; exact q), fun r M q e => ?_, OTH_of (va_up_ne _ _ (by decide))⟩
      · by_cases c2 : U < B
        · rw [show min B U = U by omega]
          simp (disch := first | omega | assumption | exact Or.inl rfl | exact Or.inr rfl | exact bI_or _ | exact zC81 | exact zC47 | exact zC65 | exact zC0 | exact zC1 | exact zC32 | exact zC70 | exact zC73 | exact ztc (by assumption) | exact zdc (by assumption) | exact zpc (by assumption) | decide) only [Option.some.injEq, exists_eq_left', ex2, Option.toList, List.singleton_append, List.append_nil, List.cons_append, List.nil_append, nI_add, nI_addL, nI_Ladd, pk_mul, nI_mulL, nI_Lmul, nI_subL, pk_sub, nI_divL, sub_dm, nI_leE, nI_ltE, nI_eqE, nI_Lle, nI_leL, nI_Llt, nI_ltL, nI_eqL, va_up_self, va_up_ne, up_up, up_comm, nI_clamp, bI_eq0, not_true_eq_false, not_false_eq_true, Nat.reduceEqDiff, Nat.reduceLeDiff, Nat.reduceAdd, Nat.reduceMul, Nat.one_ne_zero, Nat.zero_ne_one, decide_eq_false_iff_not, decide_eq_true_eq, Bool.false_eq_true, decide_true, decide_false, bI_true, bI_false, one_ne, Nat.le_refl, Nat.lt_irrefl, cleT, cleF, cltT, cltF, ceqT, ceqF, ↓reduceIte, r78_0, r78_1, r78_4, r78_5, r78_7, r78_8, r78_9, r78_12, r78_13, r78_14, r78_15, r78_16, r78_19, r78_20, r78_21, r78_24, r78_25, r78_28, r78_31, zO65_6, zO65_8, zO65_12, zW65_12, zA68, e8, elv, c', hB, c2]
        · rw [show min B U = B by omega]
          simp (disch := first | omega | assumption | exact Or.inl rfl | exact Or.inr rfl | exact bI_or _ | exact zC81 | exact zC47 | exact zC65 | exact zC0 | exact zC1 | exact zC32 | exact zC70 | exact zC73 | exact ztc (by assumption) | exact zdc (by assumption) | exact zpc (by assumption) | decide) only [Option.some.injEq, exists_eq_left', ex2, Option.toList, List.singleton_append, List.append_nil, List.cons_append, List.nil_append, nI_add, nI_addL, nI_Ladd, pk_mul, nI_mulL, nI_Lmul, nI_subL, pk_sub, nI_divL, sub_dm, nI_leE, nI_ltE, nI_eqE, nI_Lle, nI_leL, nI_Llt, nI_ltL, nI_eqL, va_up_self, va_up_ne, up_up, up_comm, nI_clamp, bI_eq0, not_true_eq_false, not_false_eq_true, Nat.reduceEqDiff, Nat.reduceLeDiff, Nat.reduceAdd, Nat.reduceMul, Nat.one_ne_zero, Nat.zero_ne_one, decide_eq_false_iff_not, decide_eq_true_eq, Bool.false_eq_true, decide_true, decide_false, bI_true, bI_false, one_ne, Nat.le_refl, Nat.lt_irrefl, cleT, cleF, cltT, cltF, ceqT, ceqF, ↓reduceIte, r78_0, r78_1, r78_4, r78_5, r78_7, r78_8, r78_9, r78_12, r78_13, r78_14, r78_15, r78_16, r78_19, r78_20, r78_21, r78_24, r78_25, r78_28, r78_31, zO65_6, zO65_8, zO65_12, zW65_12, zA68, e8, elv, c', hB, c2]
      · by_cases c2 : U < B
        · exact Or.inr ⟨by omega, by rw [show min B U = U by omega]; exact node_W ht hL8 hN c, by rw [show min B U = U by omega]; omega⟩
        · exact Or.inl (by omega)
      · cases r with
        | nil => have := q.2; omega
        | cons l r =>
          obtain ⟨a1, a2, a3, a4⟩ := suc_set hL8 _ m U M (by omega) q
          have w := node_W ht hL8 hN c
          rw [List.length_cons] at a3
          rw [hno U u1 (by omega)] at w
          cases w
    · have c' : m t ≤ 0 := Int32.not_lt.mp c
      refine ⟨s, B, ?_, hF1, fun _ _ => rfl, hB, Nat.le_refl B, Or.inl rfl, fun m' U' _ _ q => Or.inl q, fun r M q e => ?_, OTH_of rfl⟩
      · simp (disch := first | omega | assumption | exact Or.inl rfl | exact Or.inr rfl | exact bI_or _ | exact zC81 | exact zC47 | exact zC65 | exact zC0 | exact zC1 | exact zC32 | exact zC70 | exact zC73 | exact ztc (by assumption) | exact zdc (by assumption) | exact zpc (by assumption) | decide) only [Option.some.injEq, exists_eq_left', ex2, Option.toList, List.singleton_append, List.append_nil, List.cons_append, List.nil_append, nI_add, nI_addL, nI_Ladd, pk_mul, nI_mulL, nI_Lmul, nI_subL, pk_sub, nI_divL, sub_dm, nI_leE, nI_ltE, nI_eqE, nI_Lle, nI_leL, nI_Llt, nI_ltL, nI_eqL, va_up_self, va_up_ne, up_up, up_comm, nI_clamp, bI_eq0, not_true_eq_false, not_false_eq_true, Nat.reduceEqDiff, Nat.reduceLeDiff, Nat.reduceAdd, Nat.reduceMul, Nat.one_ne_zero, Nat.zero_ne_one, decide_eq_false_iff_not, decide_eq_true_eq, Bool.false_eq_true, decide_true, decide_false, bI_true, bI_false, one_ne, Nat.le_refl, Nat.lt_irrefl, cleT, cleF, cltT, cltF, ceqT, ceqF, ↓reduceIte, r78_0, r78_1, r78_4, r78_5, r78_7, r78_8, r78_9, r78_12, r78_13, r78_14, r78_15, r78_16, r78_19, r78_20, r78_21, r78_24, r78_25, r78_28, r78_31, r78_32, r78_33, r78_35, r78_59, zO65_6, zO65_8, zA68, e8, elv, c']
      · exfalso
        cases r with
        | nil => exact c q.1
        | cons l r =>
          obtain ⟨q1, q2, -⟩ := q
          have := bc_255 U (by omega) (by omega) l (by omega)
          omega
  | succ u ih =>
    intro k U B s o m hk ho hkl hN hm hF1 hB hB2 hlv hpre
    obtain ⟨u1, u2, u3⟩ := node_set hL8 hN
    have e8 : s 65 8 = nI t := (hF1.2 8 (by decide)).trans h8
    obtain ⟨i7, ei⟩ := dgO_of (hm t ht)
    have elv := hlv t ht
    have k8 : k < 8 := by omega
    have ed : d + (u + 1) + 1 + 1 = (d + u + 1) + 1 + 1 := by omega
    rw [ed]
    generalize d + u + 1 = e at ih ⊢
    by_cases c : 0 < m t
    · have c' : ¬ m t ≤ 0 := Int32.not_le.mpr c
      refine ⟨va_up s 65 (va_up (s 65) 12 (nI (min B U))), min B U, ?_, ⟨fun c h1 _ _ => by rw [va_up_ne _ _ h1]; exact hF1.1 c h1 (by assumption) (by assumption), fun j hj => by rw [va_up_self, va_up_ne _ _ hj]; exact hF1.2 j hj⟩, fun j _ => by rw [va_up_ne _ _ (by decide)], by rw [va_up_self, va_up_self], by omega, ?_, fun m' U' _ _ q => Or.inl (by unfold prs at q ⊢; rw [va_up_ne _ _ (by decide)] at q; exact q), fun r M q e => ?_, OTH_of (va_up_ne _ _ (by decide))⟩
      · by_cases c2 : U < B
        · rw [show min B U = U by omega]
          simp (disch := first | omega | assumption | exact Or.inl rfl | exact Or.inr rfl | exact bI_or _ | exact zC81 | exact zC47 | exact zC65 | exact zC0 | exact zC1 | exact zC32 | exact zC70 | exact zC73 | exact ztc (by assumption) | exact zdc (by assumption) | exact zpc (by assumption) | decide) only [Option.some.injEq, exists_eq_left', ex2, Option.toList, List.singleton_append, List.append_nil, List.cons_append, List.nil_append, nI_add, nI_addL, nI_Ladd, pk_mul, nI_mulL, nI_Lmul, nI_subL, pk_sub, nI_divL, sub_dm, nI_leE, nI_ltE, nI_eqE, nI_Lle, nI_leL, nI_Llt, nI_ltL, nI_eqL, va_up_self, va_up_ne, up_up, up_comm, nI_clamp, bI_eq0, not_true_eq_false, not_false_eq_true, Nat.reduceEqDiff, Nat.reduceLeDiff, Nat.reduceAdd, Nat.reduceMul, Nat.one_ne_zero, Nat.zero_ne_one, decide_eq_false_iff_not, decide_eq_true_eq, Bool.false_eq_true, decide_true, decide_false, bI_true, bI_false, one_ne, Nat.le_refl, Nat.lt_irrefl, cleT, cleF, cltT, cltF, ceqT, ceqF, ↓reduceIte, r78_0, r78_1, r78_4, r78_5, r78_7, r78_8, r78_9, r78_12, r78_13, r78_14, r78_15, r78_16, r78_19, r78_20, r78_21, r78_24, r78_25, r78_28, r78_31, zO65_6, zO65_8, zO65_12, zW65_12, zA68, e8, elv, c', hB, c2]
        · rw [show min B U = B by omega]
          simp (disch := first | omega | assumption | exact Or.inl rfl | exact Or.inr rfl | exact bI_or _ | exact zC81 | exact zC47 | exact zC65 | exact zC0 | exact zC1 | exact zC32 | exact zC70 | exact zC73 | exact ztc (by assumption) | exact zdc (by assumption) | exact zpc (by assumption) | decide) only [Option.some.injEq, exists_eq_left', ex2, Option.toList, List.singleton_append, List.append_nil, List.cons_append, List.nil_append, nI_add, nI_addL, nI_Ladd, pk_mul, nI_mulL, nI_Lmul, nI_subL, pk_sub, nI_divL, sub_dm, nI_leE, nI_ltE, nI_eqE, nI_Lle, nI_leL, nI_Llt, nI_ltL, nI_eqL, va_up_self, va_up_ne, up_up, up_comm, nI_clamp, bI_eq0, not_true_eq_false, not_false_eq_true, Nat.reduceEqDiff, Nat.reduceLeDiff, Nat.reduceAdd, Nat.reduceMul, Nat.one_ne_zero, Nat.zero_ne_one, decide_eq_false_iff_not, decide_eq_true_eq, Bool.false_eq_true, decide_true, decide_false, bI_true, bI_false, one_ne, Nat.le_refl, Nat.lt_irrefl, cleT, cleF, cltT, cltF, ceqT, ceqF, ↓reduceIte, r78_0, r78_1, r78_4, r78_5, r78_7, r78_8, r78_9, r78_12, r78_13, r78_14, r78_15, r78_16, r78_19, r78_20, r78_21, r78_24, r78_25, r78_28, r78_31, zO65_6, zO65_8, zO65_12, zW65_12, zA68, e8, elv, c', hB, c2]
      · by_cases c2 : U < B
        · exact Or.inr ⟨by omega, by rw [show min B U = U by omega]; exact node_W ht hL8 hN c, by rw [show min B U = U by omega]; omega⟩
        · exact Or.inl (by omega)
      · cases r with
        | nil => have := q.2; omega
        | cons l r =>
          obtain ⟨a1, a2, a3, a4⟩ := suc_set hL8 _ m U M (by omega) q
          have w := node_W ht hL8 hN c
          rw [List.length_cons] at a3
          rw [hno U u1 (by omega)] at w
          cases w
    have c' : m t ≤ 0 := Int32.not_lt.mp c
    have i3 : dgO (m t) ≤ 3 := by
      rw [ei] at c'
      exact (dig_le _ i7).mp c'
    have ewy : (1 : Int32) - m t = nI (4 - dgO (m t)) := by
      have := way_nI (dgO (m t)) (by omega)
      rw [← ei] at this
      exact this
    have e10 : s 65 10 = nI lim := (hF1.2 10 (by decide)).trans h10
    have e11 : s 65 11 = nI (ltN (fun l => V l t) L) := (hF1.2 11 (by decide)).trans h11
    have hop := @ml_hopeless xs sl e J s g k U (ltN (fun l => V l t) L) (4 - dgO (m t)) lim e10 e11 (by omega) (by omega) hkl hlim (by omega)
    cases cH : (decide (lim - k < 4 - dgO (m t)) || decide (bcN (ltN (fun l => V l t) L &&& (255 ^^^ U)) < min (4 - dgO (m t)) 2))
    case true =>
      rw [cH] at hop
      refine ⟨s, B, ?_, hF1, fun _ _ => rfl, hB, Nat.le_refl B, Or.inl rfl, fun m' U' _ _ q => Or.inl q, hopeless_no hL8 (fun l hl => hVw l t hl ht) (by omega) (by omega) i7 ei cH, OTH_of rfl⟩
      simp (disch := first | omega | assumption | exact Or.inl rfl | exact Or.inr rfl | exact bI_or _ | exact zC81 | exact zC47 | exact zC65 | exact zC0 | exact zC1 | exact zC32 | exact zC70 | exact zC73 | exact ztc (by assumption) | exact zdc (by assumption) | exact zpc (by assumption) | decide) only [Option.some.injEq, exists_eq_left', ex2, Option.toList, List.singleton_append, List.append_nil, List.cons_append, List.nil_append, nI_add, nI_addL, nI_Ladd, pk_mul, nI_mulL, nI_Lmul, nI_subL, pk_sub, nI_divL, sub_dm, nI_leE, nI_ltE, nI_eqE, nI_Lle, nI_leL, nI_Llt, nI_ltL, nI_eqL, va_up_self, va_up_ne, up_up, up_comm, nI_clamp, bI_eq0, not_true_eq_false, not_false_eq_true, Nat.reduceEqDiff, Nat.reduceLeDiff, Nat.reduceAdd, Nat.reduceMul, Nat.one_ne_zero, Nat.zero_ne_one, decide_eq_false_iff_not, decide_eq_true_eq, Bool.false_eq_true, decide_true, decide_false, bI_true, bI_false, one_ne, Nat.le_refl, Nat.lt_irrefl, cleT, cleF, cltT, cltF, ceqT, ceqF, ↓reduceIte, r78_0, r78_1, r78_4, r78_5, r78_7, r78_8, r78_9, r78_12, r78_13, r78_14, r78_15, r78_16, r78_19, r78_20, r78_21, r78_24, r78_25, r78_28, r78_31, r78_32, r78_33, r78_35, r78_38, r78_39, r78_40, r78_41, r78_42, r78_43, r78_44, r78_47, r78_50, r78_51, r78_52, r78_53, r78_56, r78_59, zO65_6, zO65_8, zA68, e8, elv, c', ewy, hop, Bool.true_eq_false]
    rw [cH] at hop
    have lk : k + 1 ≤ lim := by
      have := (Bool.or_eq_false_iff.mp cH).1
      have := of_decide_eq_false this
      omega
    have hT1 : cT s a n h := cT_fr hT (by rw [hF1.1 47 (by decide) (by decide) (by decide)]) (hF1.1 a (by omega) (by omega) (by omega))
    have sn := @ml_isSeen xs sl (e + 1) J s g a n h k U lim (fun t => dgO (m t)) hT1 e10 hlim (by omega) (by omega) (fun t ht => ⟨(dgO_of (hm t ht)).1, by rw [hlv t ht]; exact (dgO_of (hm t ht)).2⟩)
    by_cases cS : s 69 (hsN (nI (kyN (fun t => dgO (m t)) n U lim))) = nI (kyN (fun t => dgO (m t)) n U lim)
    · have sn' : ∀ {r : Option Value × mH}, Runs xs sl (e+1) 80 0 [some (.ref (65)), some (.int ( nI k)), some (.int ( nI U)), none, none] [] (hp J (s) g) r ↔ r = (some (.int 1), hp J s g) := by
        intro r
        rw [sn, decide_eq_true cS, if_pos cS]
        rfl
      refine ⟨s, B, ?_, hF1, fun _ _ => rfl, hB, Nat.le_refl B, Or.inl rfl, fun m' U' _ _ q => Or.inl q, ?_, OTH_of rfl⟩
      · simp (disch := first | omega | assumption | exact Or.inl rfl | exact Or.inr rfl | exact bI_or _ | exact zC81 | exact zC47 | exact zC65 | exact zC0 | exact zC1 | exact zC32 | exact zC70 | exact zC73 | exact ztc (by assumption) | exact zdc (by assumption) | exact zpc (by assumption) | decide) only [Option.some.injEq, exists_eq_left', ex2, Option.toList, List.singleton_append, List.append_nil, List.cons_append, List.nil_append, nI_add, nI_addL, nI_Ladd, pk_mul, nI_mulL, nI_Lmul, nI_subL, pk_sub, nI_divL, sub_dm, nI_leE, nI_ltE, nI_eqE, nI_Lle, nI_leL, nI_Llt, nI_ltL, nI_eqL, va_up_self, va_up_ne, up_up, up_comm, nI_clamp, bI_eq0, not_true_eq_false, not_false_eq_true, Nat.reduceEqDiff, Nat.reduceLeDiff, Nat.reduceAdd, Nat.reduceMul, Nat.one_ne_zero, Nat.zero_ne_one, decide_eq_false_iff_not, decide_eq_true_eq, Bool.false_eq_true, decide_true, decide_false, bI_true, bI_false, one_ne, Nat.le_refl, Nat.lt_irrefl, cleT, cleF, cltT, cltF, ceqT, ceqF, ↓reduceIte, r78_0, r78_1, r78_4, r78_5, r78_7, r78_8, r78_9, r78_12, r78_13, r78_14, r78_15, r78_16, r78_19, r78_20, r78_21, r78_24, r78_25, r78_28, r78_31, r78_32, r78_33, r78_35, r78_38, r78_39, r78_40, r78_41, r78_42, r78_43, r78_44, r78_47, r78_50, r78_51, r78_52, r78_53, r78_56, r78_59, zO65_6, zO65_8, zA68, e8, elv, c', ewy, hop, sn']
      · rcases hpre m U hm (by omega) cS with q | q
        · exact q
        · omega
    have sn' : ∀ {r : Option Value × mH}, Runs xs sl (e+1) 80 0 [some (.ref (65)), some (.int ( nI k)), some (.int ( nI U)), none, none] [] (hp J (s) g) r ↔ r = (some (.int 0), hp J (seS s (kyM m n U lim)) g) := by
      intro r
      rw [sn, decide_eq_false cS, if_neg cS]
      rfl
    have kl := kyN_lt (lim := lim) n6 (fun t ht => (dgO_of (hm t ht)).1) (show U < 256 by omega) hlim
    generalize hs1 : seS s (kyM m n U lim) = sA at sn'
    have sA0 : ∀ c, c ≠ 69 → sA c = s c := fun c hc => by rw [← hs1, seS, va_up_ne _ _ hc]
    have own : ∀ m' U', (∀ t, t < n → vw (m' t)) → U' < 256 → prs n lim sA m' U' → prs n lim s m' U' ∨ (U' = U ∧ ∀ t, t < n → m' t = m t) := by
      intro m' U' hm' hU' q
      unfold prs at q ⊢
      rw [← hs1, seS, va_up_self] at q
      by_cases c9 : hsN (nI (kyM m' n U' lim)) = hsN (nI (kyM m n U lim))
      · rw [c9, va_up_self] at q
        have kl' := kyN_lt (lim := lim) n6 (fun t ht => (dgO_of (hm' t ht)).1) hU' hlim
        have e9 : kyM m n U lim = kyM m' n U' lim := (nI_eq (show kyN _ n U lim < 2 ^ 31 by omega) (show kyN _ n U' lim < 2 ^ 31 by omega)).mp q
        obtain ⟨z1, z2⟩ := kyN_inj (fun t ht => (dgO_of (hm t ht)).1) (fun t ht => (dgO_of (hm' t ht)).1) (by omega) hU' e9
        exact Or.inr ⟨z1.symm, fun t ht => (dgO_inj (hm t ht) (hm' t ht) (z2 t ht)).symm⟩
      · rw [va_up_ne _ _ c9] at q
        exact Or.inl q
    have loop : ∀ j, j ≤ L → ∀ (s1 : hS) (B1 : Nat), FrS s0 s1 → (∀ q, q < 6 * (k + 1) → s1 68 q = s 68 q) → s1 65 12 = nI B1 → B1 ≤ 256 → (∀ m' U', (∀ t, t < n → vw (m' t)) → U' < 256 → prs n lim s1 m' U' → DNm n V st t L lim B1 m' U' ∨ bcN U' < k + 1) → ∃ (s' : hS) (B' : Nat), Runs xs sl (e+1+1) 78 63 [some (.ref (65)), some (.int ( nI k)), some (.int ( nI U)), some (.int ( m t)), some (.int ( nI (L - j)))] [] (hp J (s1) g) (none, hp J s' g) ∧ FrS s0 s' ∧ (∀ q, q < 6 * (k + 1) → s' 68 q = s 68 q) ∧ s' 65 12 = nI B' ∧ B' ≤ B1 ∧ (B' = B1 ∨ (B' < 2 ^ L ∧ swW n V st t m0 B' = true ∧ bcN B' ≤ lim)) ∧ (∀ m' U', (∀ t, t < n → vw (m' t)) → U' < 256 → prs n lim s' m' U' → prs n lim s1 m' U' ∨ DNm n V st t L lim B' m' U') ∧ (∀ l, L - j ≤ l → l < L → U / 2 ^ l % 2 = 0 → agF n m (V l) st = true → mvF n m (V l) = true → DNm n V st t L lim B' (fun t => nmF 1 (m t) (V l t)) (U + 2 ^ l)) ∧ OTH n lim s1 s' := by
      intro j
      induction j with
      | zero =>
        intro hj s1 B1 f1 f2 f3 f4 f5
        have g1 : s1 47 1 = nI L := by rw [f1.1 47 (by decide) (by decide) (by decide)]; exact hL
        refine ⟨s1, B1, ?_, f1, f2, f3, Nat.le_refl B1, Or.inl rfl, fun m' U' _ _ q => Or.inl q, fun l h1 h2 => by omega, OTH_of rfl⟩
        rw [Nat.sub_zero, r78_63]
        simp (disch := first | omega | assumption | exact Or.inl rfl | exact Or.inr rfl | exact bI_or _ | exact zC81 | exact zC47 | exact zC65 | exact zC0 | exact zC1 | exact zC32 | exact zC70 | exact zC73 | exact ztc (by assumption) | exact zdc (by assumption) | exact zpc (by assumption) | decide) only [Option.some.injEq, exists_eq_left', ex2, Option.toList, List.singleton_append, List.append_nil, List.cons_append, List.nil_append, nI_add, nI_addL, nI_Ladd, pk_mul, nI_mulL, nI_Lmul, nI_subL, pk_sub, nI_divL, sub_dm, nI_leE, nI_ltE, nI_eqE, nI_Lle, nI_leL, nI_Llt, nI_ltL, nI_eqL, va_up_self, va_up_ne, up_up, up_comm, nI_clamp, bI_eq0, not_true_eq_false, not_false_eq_true, Nat.reduceEqDiff, Nat.reduceLeDiff, Nat.reduceAdd, Nat.reduceMul, Nat.one_ne_zero, Nat.zero_ne_one, decide_eq_false_iff_not, decide_eq_true_eq, Bool.false_eq_true, decide_true, decide_false, bI_true, bI_false, one_ne, Nat.le_refl, Nat.lt_irrefl, cleT, cleF, cltT, cltF, ceqT, ceqF, ↓reduceIte, r78_65, r78_66, r78_69, r78_72, r78_149, zO65_3, zO47_1, g1]
      | succ j ihj =>
        intro hj s1 B1 f1 f2 f3 f4 f5
        have ihj := ihj (by omega)
        have lv : L - j = L - (j + 1) + 1 := by omega
        rw [lv] at ihj
        have lL : L - (j + 1) < L := by omega
        generalize L - (j + 1) = l at *
        have g1 : s1 47 1 = nI L := by rw [f1.1 47 (by decide) (by decide) (by decide)]; exact hL
        have g9 : s1 65 9 = st := by rw [f1.2 9 (by decide)]; exact h9
        have bi := bit_nI (k := U) (l := l) (by omega) (by omega)
        have lv1 : ∀ t, t < n → s1 68 (6 * k + t) = m t := fun t ht => by rw [f2 _ (by omega)]; exact hlv t ht
        -- a loaf that is passed over
        have skip : Runs xs sl (e+1+1) 78 63 [some (.ref (65)), some (.int ( nI k)), some (.int ( nI U)), some (.int ( m t)), some (.int ( nI l))] [] (hp J (s1) g) = Runs xs sl (e+1+1) 78 63 [some (.ref (65)), some (.int ( nI k)), some (.int ( nI U)), some (.int ( m t)), some (.int ( nI l))] [] (hp J (s1) g) := rfl
        by_cases cb : U / 2 ^ l % 2 = 1
        · rw [cb] at bi
          obtain ⟨s', B', r1, r2, r3, r4, r5, r6, r7, r8, r9⟩ := ihj s1 B1 f1 f2 f3 f4 f5
          refine ⟨s', B', ?_, r2, r3, r4, r5, r6, r7, fun l2 h1 h2 h3 h4 h5 => ?_, r9⟩
          · rw [r78_63]
            simp (disch := first | omega | assumption | exact Or.inl rfl | exact Or.inr rfl | exact bI_or _ | exact zC81 | exact zC47 | exact zC65 | exact zC0 | exact zC1 | exact zC32 | exact zC70 | exact zC73 | exact ztc (by assumption) | exact zdc (by assumption) | exact zpc (by assumption) | decide) only [Option.some.injEq, exists_eq_left', ex2, Option.toList, List.singleton_append, List.append_nil, List.cons_append, List.nil_append, nI_add, nI_addL, nI_Ladd, pk_mul, nI_mulL, nI_Lmul, nI_subL, pk_sub, nI_divL, sub_dm, nI_leE, nI_ltE, nI_eqE, nI_Lle, nI_leL, nI_Llt, nI_ltL, nI_eqL, va_up_self, va_up_ne, up_up, up_comm, nI_clamp, bI_eq0, not_true_eq_false, not_false_eq_true, Nat.reduceEqDiff, Nat.reduceLeDiff, Nat.reduceAdd, Nat.reduceMul, Nat.one_ne_zero, Nat.zero_ne_one, decide_eq_false_iff_not, decide_eq_true_eq, Bool.false_eq_true, decide_true, decide_false, bI_true, bI_false, one_ne, Nat.le_refl, Nat.lt_irrefl, cleT, cleF, cltT, cltF, ceqT, ceqF, ↓reduceIte, r78_65, r78_66, r78_69, r78_72, r78_75, r78_76, r78_78, r78_79, r78_80, r78_81, r78_84, r78_85, r78_88, r78_89, r78_92, r78_93, r78_95, r78_96, r78_98, r78_99, r78_102, r78_105, r78_108, r78_109, r78_112, r78_113, r78_116, r78_117, r78_118, r78_121, r78_123, r78_124, r78_127, r78_130, r78_131, r78_132, r78_133, r78_134, r78_135, r78_136, r78_138, r78_139, r78_140, r78_143, r78_146, zO65_3, zO47_1, g1, bi]
            exact r1
          · by_cases e2 : l2 = l
            · subst e2; omega
            · exact r8 l2 (by omega) h2 h3 h4 h5
        have cb0 : U / 2 ^ l % 2 = 0 := by omega
        rw [cb0] at bi
        have hT2 : cT s1 a n h := cT_fr hT (by rw [f1.1 47 (by decide) (by decide) (by decide)]) (f1.1 a (by omega) (by omega) (by omega))
        have ag := @sc_isAgreed xs sl (e + 1) J s1 g a 68 n h (6 * k) l st hT2 isR68 (by show _ ≤ 54; omega) (by omega)
        have eA : agF n (fun t => s1 68 (6 * k + t)) (fun t => s1 57 (6 * l + t)) st = agF n m (V l) st := agF_eq lv1 (fun t ht => by rw [f1.1 57 (by decide) (by decide) (by decide)]; exact hV l t)
        rw [eA] at ag
        cases cA : agF n m (V l) st
        · rw [cA] at ag
          obtain ⟨s', B', r1, r2, r3, r4, r5, r6, r7, r8, r9⟩ := ihj s1 B1 f1 f2 f3 f4 f5
          refine ⟨s', B', ?_, r2, r3, r4, r5, r6, r7, fun l2 h1 h2 h3 h4 h5 => ?_, r9⟩
          · rw [r78_63]
            simp (disch := first | omega | assumption | exact Or.inl rfl | exact Or.inr rfl | exact bI_or _ | exact zC81 | exact zC47 | exact zC65 | exact zC0 | exact zC1 | exact zC32 | exact zC70 | exact zC73 | exact ztc (by assumption) | exact zdc (by assumption) | exact zpc (by assumption) | decide) only [Option.some.injEq, exists_eq_left', ex2, Option.toList, List.singleton_append, List.append_nil, List.cons_append, List.nil_append, nI_add, nI_addL, nI_Ladd, pk_mul, nI_mulL, nI_Lmul, nI_subL, pk_sub, nI_divL, sub_dm, nI_leE, nI_ltE, nI_eqE, nI_Lle, nI_leL, nI_Llt, nI_ltL, nI_eqL, va_up_self, va_up_ne, up_up, up_comm, nI_clamp, bI_eq0, not_true_eq_false, not_false_eq_true, Nat.reduceEqDiff, Nat.reduceLeDiff, Nat.reduceAdd, Nat.reduceMul, Nat.one_ne_zero, Nat.zero_ne_one, decide_eq_false_iff_not, decide_eq_true_eq, Bool.false_eq_true, decide_true, decide_false, bI_true, bI_false, one_ne, Nat.le_refl, Nat.lt_irrefl, cleT, cleF, cltT, cltF, ceqT, ceqF, ↓reduceIte, r78_65, r78_66, r78_69, r78_72, r78_75, r78_76, r78_78, r78_79, r78_80, r78_81, r78_84, r78_85, r78_88, r78_89, r78_92, r78_93, r78_95, r78_96, r78_98, r78_99, r78_102, r78_105, r78_108, r78_109, r78_112, r78_113, r78_116, r78_117, r78_118, r78_121, r78_123, r78_124, r78_127, r78_130, r78_131, r78_132, r78_133, r78_134, r78_135, r78_136, r78_138, r78_139, r78_140, r78_143, r78_146, zO65_3, zO65_6, zO65_9, zO47_1, g1, g9, bi, ag]
            exact r1
          · by_cases e2 : l2 = l
            · subst e2; rw [cA] at h4; cases h4
            · exact r8 l2 (by omega) h2 h3 h4 h5
        rw [cA] at ag
        have dp := @ml_deeper xs sl e J s1 g k k8
        generalize hs2 : va_up s1 68 (va_cpy (s1 68) (s1 68) (6 * k) (6 * (k + 1)) 6) = s2 at dp
        have b0 : ∀ c, c ≠ 68 → s2 c = s1 c := fun c hc => by rw [← hs2, va_up_ne _ _ hc]
        have b1 : ∀ t, t < n → s2 68 (6 * (k + 1) + t) = m t := by
          intro t ht
          rw [← hs2, va_up_self, pk_cpy_in (by omega) (by omega), show 6 * k + (6 * (k + 1) + t - 6 * (k + 1)) = 6 * k + t by omega]
          exact lv1 t ht
        have b2 : ∀ q, q < 6 * (k + 1) → s2 68 q = s1 68 q := by
          intro q hq
          rw [← hs2, va_up_self, pk_cpy_out (by omega)]
        have hT3 : cT s2 a n h := cT_fr hT2 (by rw [b0 47 (by decide)]) (b0 a (by omega))
        have bt' := @sc_bite xs sl e J s2 g a 68 n h (6 * (k + 1)) l 1 hT3 isR68 (by show _ ≤ 54; omega) (by omega) (Or.inl rfl)
        have eM : mvF n (fun t => s2 68 (6 * (k + 1) + t)) (fun t => s2 57 (6 * l + t)) = mvF n m (V l) := by
          have e57 : (fun t => s2 57 (6 * l + t)) = V l := funext (fun t => by rw [b0 57 (by decide), f1.1 57 (by decide) (by decide) (by decide)]; exact hV l t)
          rw [e57]
          exact mvF_congr b1
        rw [eM] at bt'
        generalize hs3 : va_up s2 68 (va_cpy (fun t => nmF 1 (s2 68 (6 * (k + 1) + t)) (s2 57 (6 * l + t))) (s2 68) 0 (6 * (k + 1)) n) = s3 at bt'
        have d0 : ∀ c, c ≠ 68 → s3 c = s1 c := fun c hc => by rw [← hs3, va_up_ne _ _ hc]; exact b0 c hc
        have d1 : ∀ t, t < n → s3 68 (6 * (k + 1) + t) = nmF 1 (m t) (V l t) := by
          intro t ht
          rw [← hs3, va_up_self, pk_cpy_in (by omega) (by omega), show 0 + (6 * (k + 1) + t - 6 * (k + 1)) = t by omega, b1 t ht, b0 57 (by decide), f1.1 57 (by decide) (by decide) (by decide), hV]
        have d2 : ∀ q, q < 6 * (k + 1) → s3 68 q = s1 68 q := by
          intro q hq
          rw [← hs3, va_up_self, pk_cpy_out (by omega)]
          exact b2 q hq
        have f1' : FrS s0 s3 := ⟨fun c h1 h2 h3 => by rw [d0 c h2]; exact f1.1 c h1 h2 h3, fun j hj => by rw [d0 65 (by decide)]; exact f1.2 j hj⟩
        have f3' : s3 65 12 = nI B1 := by rw [d0 65 (by decide)]; exact f3
        have p3 : ∀ m' U', prs n lim s3 m' U' ↔ prs n lim s1 m' U' := fun m' U' => by unfold prs; rw [d0 69 (by decide)]
        have g1' : s2 47 1 = nI L := by rw [b0 47 (by decide)]; exact g1
        cases cM : mvF n m (V l)
        · rw [cM] at bt'
          obtain ⟨s', B', r1, r2, r3, r4, r5, r6, r7, r8, r9⟩ := ihj s3 B1 f1' (fun q hq => by rw [d2 q hq]; exact f2 q hq) f3' f4 (fun m' U' a1 a2 a3 => f5 m' U' a1 a2 ((p3 m' U').mp a3))
          refine ⟨s', B', ?_, r2, r3, r4, r5, r6, fun m' U' a1 a2 a3 => (r7 m' U' a1 a2 a3).imp (p3 m' U').mp id, fun l2 h1 h2 h3 h4 h5 => ?_, OTH_trans (OTH_of (d0 69 (by decide))) r9⟩
          · rw [r78_63]
            simp (disch := first | omega | assumption | exact Or.inl rfl | exact Or.inr rfl | exact bI_or _ | exact zC81 | exact zC47 | exact zC65 | exact zC0 | exact zC1 | exact zC32 | exact zC70 | exact zC73 | exact ztc (by assumption) | exact zdc (by assumption) | exact zpc (by assumption) | decide) only [Option.some.injEq, exists_eq_left', ex2, Option.toList, List.singleton_append, List.append_nil, List.cons_append, List.nil_append, nI_add, nI_addL, nI_Ladd, pk_mul, nI_mulL, nI_Lmul, nI_subL, pk_sub, nI_divL, sub_dm, nI_leE, nI_ltE, nI_eqE, nI_Lle, nI_leL, nI_Llt, nI_ltL, nI_eqL, va_up_self, va_up_ne, up_up, up_comm, nI_clamp, bI_eq0, not_true_eq_false, not_false_eq_true, Nat.reduceEqDiff, Nat.reduceLeDiff, Nat.reduceAdd, Nat.reduceMul, Nat.one_ne_zero, Nat.zero_ne_one, decide_eq_false_iff_not, decide_eq_true_eq, Bool.false_eq_true, decide_true, decide_false, bI_true, bI_false, one_ne, Nat.le_refl, Nat.lt_irrefl, cleT, cleF, cltT, cltF, ceqT, ceqF, ↓reduceIte, r78_65, r78_66, r78_69, r78_72, r78_75, r78_76, r78_78, r78_79, r78_80, r78_81, r78_84, r78_85, r78_88, r78_89, r78_92, r78_93, r78_95, r78_96, r78_98, r78_99, r78_102, r78_105, r78_108, r78_109, r78_112, r78_113, r78_116, r78_117, r78_118, r78_121, r78_123, r78_124, r78_127, r78_130, r78_131, r78_132, r78_133, r78_134, r78_135, r78_136, r78_138, r78_139, r78_140, r78_143, r78_146, zO65_3, zO65_6, zO65_9, zO47_1, g1, g9, bi, ag, dp, bt', Bool.true_eq_false]
            exact r1
          · by_cases e2 : l2 = l
            · subst e2; rw [cM] at h5; cases h5
            · exact r8 l2 (by omega) h2 h3 h4 h5
        rw [cM] at bt'
        have nd := node_go hL8 hN lL cb0 cA
        have ob := bit_or (show U < 256 by omega) (show l < 8 by omega) cb0
        obtain ⟨s4, B4, i1, i2, i3, i4, i5, i6, i7, i8, i9⟩ := ih (k + 1) (U + 2 ^ l) B1 s3 (o ++ [l]) (fun t => nmF 1 (m t) (V l t)) (by omega) (by rw [List.length_append, ho]; rfl) lk nd (fun t ht => vw_nmF (hm t ht) (hVw l t lL ht)) f1' f3' f4 d1 (fun m' U' a1 a2 a3 => f5 m' U' a1 a2 ((p3 m' U').mp a3))
        obtain ⟨s', B', r1, r2, r3, r4, r5, r6, r7, r8, r9⟩ := ihj s4 B4 i2 (fun q hq => by rw [i3 q (by omega), d2 q hq]; exact f2 q hq) i4 (by omega) (fun m' U' a1 a2 a3 => by
          rcases i7 m' U' a1 a2 a3 with z | z
          · exact (f5 m' U' a1 a2 ((p3 m' U').mp z)).imp (fun w => DNm_mono w i5) id
          · exact Or.inl z)
        refine ⟨s', B', ?_, r2, r3, r4, by omega, ?_, fun m' U' a1 a2 a3 => ?_, fun l2 h1 h2 h3 h4 h5 => ?_, OTH_trans (OTH_trans (OTH_of (d0 69 (by decide))) i9) r9⟩
        · rw [r78_63]
          simp (disch := first | omega | assumption | exact Or.inl rfl | exact Or.inr rfl | exact bI_or _ | exact zC81 | exact zC47 | exact zC65 | exact zC0 | exact zC1 | exact zC32 | exact zC70 | exact zC73 | exact ztc (by assumption) | exact zdc (by assumption) | exact zpc (by assumption) | decide) only [Option.some.injEq, exists_eq_left', ex2, Option.toList, List.singleton_append, List.append_nil, List.cons_append, List.nil_append, nI_add, nI_addL, nI_Ladd, pk_mul, nI_mulL, nI_Lmul, nI_subL, pk_sub, nI_divL, sub_dm, nI_leE, nI_ltE, nI_eqE, nI_Lle, nI_leL, nI_Llt, nI_ltL, nI_eqL, va_up_self, va_up_ne, up_up, up_comm, nI_clamp, bI_eq0, not_true_eq_false, not_false_eq_true, Nat.reduceEqDiff, Nat.reduceLeDiff, Nat.reduceAdd, Nat.reduceMul, Nat.one_ne_zero, Nat.zero_ne_one, decide_eq_false_iff_not, decide_eq_true_eq, Bool.false_eq_true, decide_true, decide_false, bI_true, bI_false, one_ne, Nat.le_refl, Nat.lt_irrefl, cleT, cleF, cltT, cltF, ceqT, ceqF, ↓reduceIte, r78_65, r78_66, r78_69, r78_72, r78_75, r78_76, r78_78, r78_79, r78_80, r78_81, r78_84, r78_85, r78_88, r78_89, r78_92, r78_93, r78_95, r78_96, r78_98, r78_99, r78_102, r78_105, r78_108, r78_109, r78_112, r78_113, r78_116, r78_117, r78_118, r78_121, r78_123, r78_124, r78_127, r78_130, r78_131, r78_132, r78_133, r78_134, r78_135, r78_136, r78_138, r78_139, r78_140, r78_143, r78_146, zO65_3, zO65_6, zO65_9, zO47_1, g1, g9, bi, ag, dp, bt', sh1, or_nI, ob, i1.iff, Bool.true_eq_false]
          exact r1
        · rcases r6 with z | z
          · rw [z]
            exact i6
          · exact Or.inr z
        · rcases r7 m' U' a1 a2 a3 with z | z
          · exact (i7 m' U' a1 a2 z).imp (p3 m' U').mp (fun w => DNm_mono w r5)
          · exact Or.inr z
        · by_cases e2 : l2 = l
          · subst e2
            exact DNm_mono i8 r5
          · exact r8 l2 (by omega) h2 h3 h4 h5
    have f1A : FrS s0 sA := ⟨fun c h1 h2 h3 => by rw [sA0 c h3]; exact hF1.1 c h1 h2 h3, fun j hj => by rw [sA0 65 (by decide)]; exact hF1.2 j hj⟩
    obtain ⟨s', B', r1, r2, r3, r4, r5, r6, r7, r8, r9⟩ := loop L (Nat.le_refl L) sA B f1A (fun q _ => by rw [sA0 68 (by decide)]) (by rw [sA0 65 (by decide)]; exact hB) hB2 (fun m' U' a1 a2 a3 => by
      rcases own m' U' a1 a2 a3 with z | ⟨z, -⟩
      · exact (hpre m' U' a1 a2 z).imp id (fun w => by omega)
      · exact Or.inr (by rw [z]; omega))
    rw [Nat.sub_self] at r1 r8
    have done : DNm n V st t L lim B' m U := by
      intro r M q e9
      cases r with
      | nil => exact absurd q.1 c
      | cons l r =>
        obtain ⟨q1, q2, q3, q4, q5⟩ := q
        exact r8 l (Nat.zero_le l) q1 q2 q3 q4 r M q5 e9
    refine ⟨s', B', ?_, r2, r3, r4, r5, r6, fun m' U' a1 a2 a3 => ?_, done, OTH_trans (by rw [← hs1]; exact OTH_seS n6 hm (by omega) hlim) r9⟩
    · simp (disch := first | omega | assumption | exact Or.inl rfl | exact Or.inr rfl | exact bI_or _ | exact zC81 | exact zC47 | exact zC65 | exact zC0 | exact zC1 | exact zC32 | exact zC70 | exact zC73 | exact ztc (by assumption) | exact zdc (by assumption) | exact zpc (by assumption) | decide) only [Option.some.injEq, exists_eq_left', ex2, Option.toList, List.singleton_append, List.append_nil, List.cons_append, List.nil_append, nI_add, nI_addL, nI_Ladd, pk_mul, nI_mulL, nI_Lmul, nI_subL, pk_sub, nI_divL, sub_dm, nI_leE, nI_ltE, nI_eqE, nI_Lle, nI_leL, nI_Llt, nI_ltL, nI_eqL, va_up_self, va_up_ne, up_up, up_comm, nI_clamp, bI_eq0, not_true_eq_false, not_false_eq_true, Nat.reduceEqDiff, Nat.reduceLeDiff, Nat.reduceAdd, Nat.reduceMul, Nat.one_ne_zero, Nat.zero_ne_one, decide_eq_false_iff_not, decide_eq_true_eq, Bool.false_eq_true, decide_true, decide_false, bI_true, bI_false, one_ne, Nat.le_refl, Nat.lt_irrefl, cleT, cleF, cltT, cltF, ceqT, ceqF, ↓reduceIte, r78_0, r78_1, r78_4, r78_5, r78_7, r78_8, r78_9, r78_12, r78_13, r78_14, r78_15, r78_16, r78_19, r78_20, r78_21, r78_24, r78_25, r78_28, r78_31, r78_32, r78_33, r78_35, r78_38, r78_39, r78_40, r78_41, r78_42, r78_43, r78_44, r78_47, r78_50, r78_51, r78_52, r78_53, r78_56, r78_59, r78_60, r78_61, zO65_6, zO65_8, zA68, e8, elv, c', ewy, hop, sn']
      exact r1
    · rcases r7 m' U' a1 a2 a3 with z | z
      · rcases own m' U' a1 a2 z with w | ⟨w1, w2⟩
        · exact Or.inl w
        · right
          intro r M q e9
          rw [w1] at q
          exact done r M (suc_congr ht r m' m U M w2 q) e9
      · exact Or.inr z
end SWS
