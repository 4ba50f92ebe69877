/-! FEAST: the class goes through all orders -/
section OR9
variable {xs : Nat → Int32} {sl d : Nat} {J : hJk} {s x y : hS} {g : hG}
theorem cp_lev {p q : Nat} (h1 : p + 6 ≤ 54) (h2 : q + 6 ≤ 54) : hCp (hp J s g) 68 68 (nI p) (nI q) 6 = some (hp J (va_up s 68 (va_cpy (s 68) (s 68) p q 6)) g) := hcp_int (c := 6) rfl rfl (by decide) (by decide) h1 h2
theorem ml_deeper {k : Nat} (hk : k < 8) {r : Option Value × mH} : Runs xs sl (d+1) 75 0 [some (.ref (65)), some (.int ( nI k)), none] [] (hp J (s) g) r ↔ r = (some (.int ( nI (6 * (k + 1)))), hp J (va_up s 68 (va_cpy (s 68) (s 68) (6 * k) (6 * (k + 1)) 6)) g) := by
  refine Runs.iff ?_
  simp (disch := first | omega | assumption | exact Or.inl rfl | exact Or.inr rfl | exact bI_or _ | exact zC81 | exact zC47 | exact zC65 | exact zC0 | exact zC1 | exact zC32 | exact zC70 | exact zC73 | exact ztc (by assumption) | exact zdc (by assumption) | exact zpc (by assumption) | decide) only [Option.some.injEq, exists_eq_left', ex2, Option.toList, List.singleton_append, List.append_nil, List.cons_append, List.nil_append, nI_add, nI_addL, nI_Ladd, pk_mul, nI_mulL, nI_Lmul, nI_subL, pk_sub, nI_divL, sub_dm, nI_leE, nI_ltE, nI_eqE, nI_Lle, nI_leL, nI_Llt, nI_ltL, nI_eqL, va_up_self, va_up_ne, up_up, up_comm, nI_clamp, bI_eq0, not_true_eq_false, not_false_eq_true, Nat.reduceEqDiff, Nat.reduceLeDiff, Nat.reduceAdd, Nat.reduceMul, Nat.one_ne_zero, Nat.zero_ne_one, decide_eq_false_iff_not, decide_eq_true_eq, Bool.false_eq_true, decide_true, decide_false, bI_true, bI_false, one_ne, Nat.le_refl, Nat.lt_irrefl, cleT, cleF, cltT, cltF, ceqT, ceqF, ↓reduceIte, r75_0, r75_1, r75_2, r75_3, r75_5, r75_6, r75_7, r75_8, r75_11, r75_12, r75_14, r75_15, r75_16, r75_19, r75_20, r75_22, r75_25, r75_26, zO65_6, cp_lev]
def lfS (s : hS) (k t : Nat) (b : Bool) : hS := va_up s 65 (va_up (va_up (va_up (s 65) 0 (if s 65 0 < s 68 (6 * k + t) then s 68 (6 * k + t) else s 65 0)) 1 (if s 68 (6 * k + t) < s 65 1 then s 68 (6 * k + t) else s 65 1)) 2 (s 65 2 + bI b))
theorem ml_leaf {k t : Nat} {b : Bool} (hk : k ≤ 8) (ht : t < 6) (h8 : s 65 8 = nI t) : Runs xs sl (d+1) 74 0 [some (.ref (65)), some (.int ( nI k)), some (.int ( nI 0)), some (.int ( bI b)), none, none, none] [] (hp J (s) g) (none, hp J (lfS s k t b) g) := by
  unfold lfS
  cases b
  · simp (disch := first | omega | assumption | exact Or.inl rfl | exact Or.inr rfl | exact bI_or _ | exact zC81 | exact zC47 | exact zC65 | exact zC0 | exact zC1 | exact zC32 | exact zC70 | exact zC73 | exact ztc (by assumption) | exact zdc (by assumption) | exact zpc (by assumption) | decide) only [Option.some.injEq, exists_eq_left', ex2, Option.toList, List.singleton_append, List.append_nil, List.cons_append, List.nil_append, nI_add, nI_addL, nI_Ladd, pk_mul, nI_mulL, nI_Lmul, nI_subL, pk_sub, nI_divL, sub_dm, nI_leE, nI_ltE, nI_eqE, nI_Lle, nI_leL, nI_Llt, nI_ltL, nI_eqL, va_up_self, va_up_ne, up_up, up_comm, nI_clamp, bI_eq0, not_true_eq_false, not_false_eq_true, Nat.reduceEqDiff, Nat.reduceLeDiff, Nat.reduceAdd, Nat.reduceMul, Nat.one_ne_zero, Nat.zero_ne_one, decide_eq_false_iff_not, decide_eq_true_eq, Bool.false_eq_true, decide_true, decide_false, bI_true, bI_false, one_ne, Nat.le_refl, Nat.lt_irrefl, cleT, cleF, cltT, cltF, ceqT, ceqF, ↓reduceIte, r74_0, r74_1, r74_4, r74_5, r74_7, r74_10, r74_11, r74_12, r74_15, r74_16, r74_19, r74_20, r74_22, r74_23, r74_24, r74_27, r74_28, r74_29, r74_32, r74_35, r74_36, r74_37, r74_40, r74_41, r74_44, r74_45, r74_47, r74_48, r74_49, r74_52, r74_53, r74_54, r74_57, r74_60, r74_61, r74_62, r74_65, r74_66, r74_69, r74_70, r74_73, r74_74, r74_75, r74_78, zC65, zO65_0, zW65_0, zO65_1, zW65_1, zO65_2, zW65_2, zO65_3, zO65_4, zO65_5, zO65_6, zO65_7, zO65_8, zW65_8, zO65_9, zW65_9, zO65_10, zW65_10, zO65_11, zW65_11, zO65_12, zW65_12, zL68, zA68, zS68, h8]
  · simp (disch := first | omega | assumption | exact Or.inl rfl | exact Or.inr rfl | exact bI_or _ | exact zC81 | exact zC47 | exact zC65 | exact zC0 | exact zC1 | exact zC32 | exact zC70 | exact zC73 | exact ztc (by assumption) | exact zdc (by assumption) | exact zpc (by assumption) | decide) only [Option.some.injEq, exists_eq_left', ex2, Option.toList, List.singleton_append, List.append_nil, List.cons_append, List.nil_append, nI_add, nI_addL, nI_Ladd, pk_mul, nI_mulL, nI_Lmul, nI_subL, pk_sub, nI_divL, sub_dm, nI_leE, nI_ltE, nI_eqE, nI_Lle, nI_leL, nI_Llt, nI_ltL, nI_eqL, va_up_self, va_up_ne, up_up, up_comm, nI_clamp, bI_eq0, not_true_eq_false, not_false_eq_true, Nat.reduceEqDiff, Nat.reduceLeDiff, Nat.reduceAdd, Nat.reduceMul, Nat.one_ne_zero, Nat.zero_ne_one, decide_eq_false_iff_not, decide_eq_true_eq, Bool.false_eq_true, decide_true, decide_false, bI_true, bI_false, one_ne, Nat.le_refl, Nat.lt_irrefl, cleT, cleF, cltT, cltF, ceqT, ceqF, ↓reduceIte, r74_0, r74_1, r74_4, r74_5, r74_7, r74_10, r74_11, r74_12, r74_15, r74_16, r74_19, r74_20, r74_22, r74_23, r74_24, r74_27, r74_28, r74_29, r74_32, r74_35, r74_36, r74_37, r74_40, r74_41, r74_44, r74_45, r74_47, r74_48, r74_49, r74_52, r74_53, r74_54, r74_57, r74_60, r74_61, r74_62, r74_65, r74_66, r74_69, r74_70, r74_73, r74_74, r74_75, r74_78, zC65, zO65_0, zW65_0, zO65_1, zW65_1, zO65_2, zW65_2, zO65_3, zO65_4, zO65_5, zO65_6, zO65_7, zO65_8, zW65_8, zO65_9, zW65_9, zO65_10, zW65_10, zO65_11, zW65_11, zO65_12, zW65_12, zL68, zA68, zS68, h8]
def FrM (s0 s : hS) : Prop := (∀ c, c ≠ 65 → c ≠ 68 → s c = s0 c) ∧ ∀ j, 3 ≤ j → s 65 j = s0 65 j
def acM (s : hS) : Int32 × Int32 × Int32 := (s 65 0, s 65 1, s 65 2)
theorem tl_nil {u m L : Nat} (hm : m < 2 ^ L) (hL : L ≤ 8) : ∀ i, i ≤ 8 - L → tlL u m i = [] := by
  intro i
  induction i with
  | zero => exact fun _ => rfl
  | succ i ih =>
    intro hi
    have h1 : m < 2 ^ (7 - i) := Nat.lt_of_lt_of_le hm (Nat.pow_le_pow_right (by decide) (by omega))
    rw [tlL_s, Nat.div_eq_of_lt h1, beq_f (by decide), cond_false]
    exact ih (by omega)
theorem ml_leafE {s0 : hS} {n t k : Nat} {st : Int32} {V : Nat → Nat → Int32} {p : Nat → Int32} {b : Bool} (hk : k ≤ 8) (ht : t < n) (hn : n ≤ 6) (h8 : s0 65 8 = nI t) (hF : FrM s0 s) (hp' : ∀ t, t < n → s 68 (6 * k + t) = p t) : ∃ s' : hS, Runs xs sl (d+1) 74 0 [some (.ref (65)), some (.int ( nI k)), some (.int ( nI 0)), some (.int ( bI b)), none, none, none] [] (hp J (s) g) (none, hp J s' g) ∧ FrM s0 s' ∧ (∀ j, j < 6 * (k + 1) → s' 68 j = s 68 j) ∧ acM s' = feF n V st t (p, b) [[]] (acM s) := by
  have e8 : s 65 8 = nI t := (hF.2 8 (by decide)).trans h8
  refine ⟨lfS s k t b, ml_leaf hk (by omega) e8, ⟨fun c h1 h2 => ?_, fun j hj => ?_⟩, fun j _ => ?_, ?_⟩
  · rw [lfS, va_up_ne _ _ h1]
    exact hF.1 c h1 h2
  · rw [lfS, va_up_self, va_up_ne _ _ (by omega), va_up_ne _ _ (by omega), va_up_ne _ _ (by omega)]
    exact hF.2 j hj
  · rw [lfS, va_up_ne _ _ (by decide)]
  · have e := hp' t ht
    unfold acM lfS
    simp (disch := first | omega | assumption | exact Or.inl rfl | exact Or.inr rfl | exact bI_or _ | exact zC81 | exact zC47 | exact zC65 | exact zC0 | exact zC1 | exact zC32 | exact zC70 | exact zC73 | exact ztc (by assumption) | exact zdc (by assumption) | exact zpc (by assumption) | decide) only [Option.some.injEq, exists_eq_left', ex2, Option.toList, List.singleton_append, List.append_nil, List.cons_append, List.nil_append, nI_add, nI_addL, nI_Ladd, pk_mul, nI_mulL, nI_Lmul, nI_subL, pk_sub, nI_divL, sub_dm, nI_leE, nI_ltE, nI_eqE, nI_Lle, nI_leL, nI_Llt, nI_ltL, nI_eqL, va_up_self, va_up_ne, up_up, up_comm, nI_clamp, bI_eq0, not_true_eq_false, not_false_eq_true, Nat.reduceEqDiff, Nat.reduceLeDiff, Nat.reduceAdd, Nat.reduceMul, Nat.one_ne_zero, Nat.zero_ne_one, decide_eq_false_iff_not, decide_eq_true_eq, Bool.false_eq_true, decide_true, decide_false, bI_true, bI_false, one_ne, Nat.le_refl, Nat.lt_irrefl, cleT, cleF, cltT, cltF, ceqT, ceqF, ↓reduceIte, e]
    rfl
set_option maxHeartbeats 1000000 in
theorem ml_through {s0 : hS} {a n h L t : Nat} {st : Int32} {V : Nat → Nat → Int32} (hT : cT s0 a n h) (hL : s0 47 1 = nI L) (hL8 : L ≤ 8) (h8 : s0 65 8 = nI t) (ht : t < n) (h9 : s0 65 9 = st) (hV : ∀ l t, s0 57 (6 * l + t) = V l t) : ∀ (u m k : Nat) (s : hS) (p : Nat → Int32) (b : Bool), m < 2 ^ L → bcN m ≤ u → k + u ≤ 8 → FrM s0 s → (∀ t, t < n → s 68 (6 * k + t) = p t) → ∃ s' : hS, Runs xs sl (d+u+1+1) 74 0 [some (.ref (65)), some (.int ( nI k)), some (.int ( nI m)), some (.int ( bI b)), none, none, none] [] (hp J (s) g) (none, hp J s' g) ∧ FrM s0 s' ∧ (∀ j, j < 6 * (k + 1) → s' 68 j = s 68 j) ∧ acM s' = feF n V st t (p, b) (ordL u m) (acM s) := by
  have n6 : n ≤ 6 := hT.2.2.2.2.1
  have p8 := pw8 hL8
  have a31 : a < 31 := hT.2.1
  intro u
  induction u with
  | zero =>
    intro m k s p b hm hb hk hF hp'
    have e : m = 0 := Classical.byContradiction (fun c => by have := bcn_pos m (by omega) c; omega)
    subst e
    exact ml_leafE (by omega) ht n6 h8 hF hp'
  | succ u ih =>
    intro m k s p b hm hb hk hF hp'
    by_cases c0 : m = 0
    · subst c0
      exact ml_leafE (by omega) ht n6 h8 hF hp'
    · rw [ordL_s, beq_f c0, cond_false]
      have k8 : k < 8 := by omega
      have ed : d + (u + 1) + 1 + 1 = (d + u + 1) + 1 + 1 := by omega
      rw [ed]
      generalize d + u + 1 = e at ih ⊢
      have loop : ∀ j, j ≤ L → ∀ s1 : hS, FrM s0 s1 → (∀ q, q < 6 * (k + 1) → s1 68 q = s 68 q) → ∀ l5 l6, ∃ s' : hS, Runs xs sl (e+1+1) 74 82 [some (.ref (65)), some (.int ( nI k)), some (.int ( nI m)), some (.int ( bI b)), some (.int ( nI (L - j))), l5, l6] [] (hp J (s1) g) (none, hp J s' g) ∧ FrM s0 s' ∧ (∀ q, q < 6 * (k + 1) → s' 68 q = s 68 q) ∧ acM s' = feF n V st t (p, b) (tlL u m (8 - L + j)) (acM s1) := by
        intro j
        induction j with
        | zero =>
          intro hj s1 hF1 hk1 l5 l6
          have g1 : s1 47 1 = nI L := by rw [hF1.1 47 (by decide) (by decide)]; exact hL
          refine ⟨s1, ?_, hF1, hk1, ?_⟩
          · rw [Nat.sub_zero, r74_82]
            simp (disch := first | omega | assumption | exact Or.inl rfl | exact Or.inr rfl | exact bI_or _ | exact zC81 | exact zC47 | exact zC65 | exact zC0 | exact zC1 | exact zC32 | exact zC70 | exact zC73 | exact ztc (by assumption) | exact zdc (by assumption) | exact zpc (by assumption) | decide) only [Option.some.injEq, exists_eq_left', ex2, Option.toList, List.singleton_append, List.append_nil, List.cons_append, List.nil_append, nI_add, nI_addL, nI_Ladd, pk_mul, nI_mulL, nI_Lmul, nI_subL, pk_sub, nI_divL, sub_dm, nI_leE, nI_ltE, nI_eqE, nI_Lle, nI_leL, nI_Llt, nI_ltL, nI_eqL, va_up_self, va_up_ne, up_up, up_comm, nI_clamp, bI_eq0, not_true_eq_false, not_false_eq_true, Nat.reduceEqDiff, Nat.reduceLeDiff, Nat.reduceAdd, Nat.reduceMul, Nat.one_ne_zero, Nat.zero_ne_one, decide_eq_false_iff_not, decide_eq_true_eq, Bool.false_eq_true, decide_true, decide_false, bI_true, bI_false, one_ne, Nat.le_refl, Nat.lt_irrefl, cleT, cleF, cltT, cltF, ceqT, ceqF, ↓reduceIte, r74_84, r74_85, r74_88, r74_91, r74_186, zO65_3, zO47_1, g1]
          · rw [Nat.add_zero, tl_nil hm hL8 (8 - L) (Nat.le_refl _)]
            rfl
        | succ j ihj =>
          intro hj s1 hF1 hk1 l5 l6
          have ihj := ihj (by omega)
          have lv : L - j = L - (j + 1) + 1 := by omega
          have el : 7 - (8 - L + j) = L - (j + 1) := by omega
          have e8 : 8 - L + (j + 1) = (8 - L + j) + 1 := by omega
          rw [lv] at ihj
          rw [e8, tlL_s, el]
          have lL : L - (j + 1) < L := by omega
          generalize L - (j + 1) = l at *
          have g1 : s1 47 1 = nI L := by rw [hF1.1 47 (by decide) (by decide)]; exact hL
          have g9 : s1 65 9 = st := by rw [hF1.2 9 (by decide)]; exact h9
          have bi := bit_nI (k := m) (l := l) (by omega) (by omega)
          by_cases c : m / 2 ^ l % 2 = 1
          · rw [c] at bi
            rw [beq_t c, cond_true, feF_pre]
            have dp := @ml_deeper xs sl e J s1 g k k8
            generalize hs2 : va_up s1 68 (va_cpy (s1 68) (s1 68) (6 * k) (6 * (k + 1)) 6) = s2 at dp
            have b0 : ∀ c, c ≠ 68 → s2 c = s1 c := fun c hc => by rw [← hs2, va_up_ne _ _ hc]
            have b1 : ∀ t, t < n → s2 68 (6 * (k + 1) + t) = p t := by
              intro t ht
              rw [← hs2, va_up_self, pk_cpy_in (by omega) (by omega), show 6 * k + (6 * (k + 1) + t - 6 * (k + 1)) = 6 * k + t by omega, hk1 _ (by omega)]
              exact hp' t ht
            have b2 : ∀ q, q < 6 * (k + 1) → s2 68 q = s1 68 q := by
              intro q hq
              rw [← hs2, va_up_self, pk_cpy_out (by omega)]
            have hT2 : cT s2 a n h := cT_fr hT (by rw [b0 47 (by decide), hF1.1 47 (by decide) (by decide)]) (by rw [b0 a (by omega), hF1.1 a (by omega) (by omega)])
            have ag := @sc_isAgreed xs sl (e + 1) J s2 g a 68 n h (6 * (k + 1)) l st hT2 isR68 (by show _ ≤ 54; omega) (by omega)
            have eA : agF n (fun t => s2 68 (6 * (k + 1) + t)) (fun t => s2 57 (6 * l + t)) st = agF n p (V l) st := agF_eq b1 (fun t ht => by rw [b0 57 (by decide), hF1.1 57 (by decide) (by decide)]; exact hV l t)
            rw [eA] at ag
            obtain ⟨w1, w2, w3⟩ := bcn_sub m (by omega) l (by omega) c
            have sb : nI m - nI (2 ^ l) = nI (m - 2 ^ l) := pk_sub w2
            have g9' : s2 65 9 = st := by rw [b0 65 (by decide)]; exact g9
            cases cA : agF n p (V l) st
            · rw [cA] at ag
              have eE : eS n V st l p = p := by unfold eS; rw [cA, if_neg (by decide)]
              obtain ⟨s4, i1, i2, i3, i4⟩ := ih (m - 2 ^ l) (k + 1) s2 p (b && false) (Nat.lt_of_le_of_lt (Nat.sub_le _ _) hm) (by omega) (by omega) ⟨fun c h1 h2 => by rw [b0 c h2]; exact hF1.1 c h1 h2, fun j hj => by rw [b0 65 (by decide)]; exact hF1.2 j hj⟩ b1
              obtain ⟨s', r1, r2, r3, r4⟩ := ihj s4 i2 (fun q hq => by rw [i3 q (by omega), b2 q hq]; exact hk1 q hq) (some (.int (nI (6 * (k + 1))))) (some (.int 0))
              refine ⟨s', ?_, r2, r3, ?_⟩
              · rw [Bool.and_false, bI_false] at i1
                rw [r74_82]
                cases b
                · simp (disch := first | omega | assumption | exact Or.inl rfl | exact Or.inr rfl | exact bI_or _ | exact zC81 | exact zC47 | exact zC65 | exact zC0 | exact zC1 | exact zC32 | exact zC70 | exact zC73 | exact ztc (by assumption) | exact zdc (by assumption) | exact zpc (by assumption) | decide) only [Option.some.injEq, exists_eq_left', ex2, Option.toList, List.singleton_append, List.append_nil, List.cons_append, List.nil_append, nI_add, nI_addL, nI_Ladd, pk_mul, nI_mulL, nI_Lmul, nI_subL, pk_sub, nI_divL, sub_dm, nI_leE, nI_ltE, nI_eqE, nI_Lle, nI_leL, nI_Llt, nI_ltL, nI_eqL, va_up_self, va_up_ne, up_up, up_comm, nI_clamp, bI_eq0, not_true_eq_false, not_false_eq_true, Nat.reduceEqDiff, Nat.reduceLeDiff, Nat.reduceAdd, Nat.reduceMul, Nat.one_ne_zero, Nat.zero_ne_one, decide_eq_false_iff_not, decide_eq_true_eq, Bool.false_eq_true, decide_true, decide_false, bI_true, bI_false, one_ne, Nat.le_refl, Nat.lt_irrefl, cleT, cleF, cltT, cltF, ceqT, ceqF, ↓reduceIte, r74_84, r74_85, r74_88, r74_91, r74_94, r74_95, r74_97, r74_98, r74_99, r74_100, r74_103, r74_104, r74_105, r74_108, r74_110, r74_111, r74_114, r74_115, r74_118, r74_120, r74_122, r74_123, r74_126, r74_129, r74_131, r74_133, r74_136, r74_137, r74_140, r74_141, r74_144, r74_146, r74_148, r74_149, r74_152, r74_153, r74_154, r74_155, r74_156, r74_157, r74_158, r74_159, r74_161, r74_162, r74_163, r74_164, r74_167, r74_169, r74_172, r74_173, r74_176, r74_177, r74_180, r74_183, zO65_3, zO65_6, zO65_9, zO47_1, g1, g9', bi, dp, ag, sb, sh1, i1.iff]
                  exact r1
                · simp (disch := first | omega | assumption | exact Or.inl rfl | exact Or.inr rfl | exact bI_or _ | exact zC81 | exact zC47 | exact zC65 | exact zC0 | exact zC1 | exact zC32 | exact zC70 | exact zC73 | exact ztc (by assumption) | exact zdc (by assumption) | exact zpc (by assumption) | decide) only [Option.some.injEq, exists_eq_left', ex2, Option.toList, List.singleton_append, List.append_nil, List.cons_append, List.nil_append, nI_add, nI_addL, nI_Ladd, pk_mul, nI_mulL, nI_Lmul, nI_subL, pk_sub, nI_divL, sub_dm, nI_leE, nI_ltE, nI_eqE, nI_Lle, nI_leL, nI_Llt, nI_ltL, nI_eqL, va_up_self, va_up_ne, up_up, up_comm, nI_clamp, bI_eq0, not_true_eq_false, not_false_eq_true, Nat.reduceEqDiff, Nat.reduceLeDiff, Nat.reduceAdd, Nat.reduceMul, Nat.one_ne_zero, Nat.zero_ne_one, decide_eq_false_iff_not, decide_eq_true_eq, Bool.false_eq_true, decide_true, decide_false, bI_true, bI_false, one_ne, Nat.le_refl, Nat.lt_irrefl, cleT, cleF, cltT, cltF, ceqT, ceqF, ↓reduceIte, r74_84, r74_85, r74_88, r74_91, r74_94, r74_95, r74_97, r74_98, r74_99, r74_100, r74_103, r74_104, r74_105, r74_108, r74_110, r74_111, r74_114, r74_115, r74_118, r74_120, r74_122, r74_123, r74_126, r74_129, r74_131, r74_133, r74_136, r74_137, r74_140, r74_141, r74_144, r74_146, r74_148, r74_149, r74_152, r74_153, r74_154, r74_155, r74_156, r74_157, r74_158, r74_159, r74_161, r74_162, r74_163, r74_164, r74_167, r74_169, r74_172, r74_173, r74_176, r74_177, r74_180, r74_183, zO65_3, zO65_6, zO65_9, zO47_1, g1, g9', bi, dp, ag, sb, sh1, i1.iff]
                  exact r1
              · rw [r4, i4, eE]
                unfold acM
                rw [b0 65 (by decide)]
            · rw [cA] at ag
              have eE : ∀ t, eS n V st l p t = nmF 1 (p t) (V l t) := fun t => by unfold eS; rw [if_pos cA]
              have bt' := @sc_bite xs sl e J s2 g a 68 n h (6 * (k + 1)) l 1 hT2 isR68 (by show _ ≤ 54; omega) (by omega) (Or.inl rfl)
              generalize hs3 : va_up s2 68 (va_cpy (fun t => nmF 1 (s2 68 (6 * (k + 1) + t)) (s2 57 (6 * l + t))) (s2 68) 0 (6 * (k + 1)) n) = s3 at bt'
              have d0 : ∀ c, c ≠ 68 → s3 c = s1 c := fun c hc => by rw [← hs3, va_up_ne _ _ hc]; exact b0 c hc
              have d1 : ∀ t, t < n → s3 68 (6 * (k + 1) + t) = eS n V st l p t := by
                intro t ht
                rw [← hs3, va_up_self, pk_cpy_in (by omega) (by omega), show 0 + (6 * (k + 1) + t - 6 * (k + 1)) = t by omega, b1 t ht, b0 57 (by decide), hF1.1 57 (by decide) (by decide), hV, eE]
              have d2 : ∀ q, q < 6 * (k + 1) → s3 68 q = s1 68 q := by
                intro q hq
                rw [← hs3, va_up_self, pk_cpy_out (by omega)]
                exact b2 q hq
              obtain ⟨s4, i1, i2, i3, i4⟩ := ih (m - 2 ^ l) (k + 1) s3 (eS n V st l p) (b && true) (Nat.lt_of_le_of_lt (Nat.sub_le _ _) hm) (by omega) (by omega) ⟨fun c h1 h2 => by rw [d0 c h2]; exact hF1.1 c h1 h2, fun j hj => by rw [d0 65 (by decide)]; exact hF1.2 j hj⟩ d1
              obtain ⟨s', r1, r2, r3, r4⟩ := ihj s4 i2 (fun q hq => by rw [i3 q (by omega), d2 q hq]; exact hk1 q hq) (some (.int (nI (6 * (k + 1))))) (some (.int 1))
              refine ⟨s', ?_, r2, r3, ?_⟩
              · rw [Bool.and_true] at i1
                rw [r74_82]
                cases b
                · rw [bI_false] at i1
                  simp (disch := first | omega | assumption | exact Or.inl rfl | exact Or.inr rfl | exact bI_or _ | exact zC81 | exact zC47 | exact zC65 | exact zC0 | exact zC1 | exact zC32 | exact zC70 | exact zC73 | exact ztc (by assumption) | exact zdc (by assumption) | exact zpc (by assumption) | decide) only [Option.some.injEq, exists_eq_left', ex2, Option.toList, List.singleton_append, List.append_nil, List.cons_append, List.nil_append, nI_add, nI_addL, nI_Ladd, pk_mul, nI_mulL, nI_Lmul, nI_subL, pk_sub, nI_divL, sub_dm, nI_leE, nI_ltE, nI_eqE, nI_Lle, nI_leL, nI_Llt, nI_ltL, nI_eqL, va_up_self, va_up_ne, up_up, up_comm, nI_clamp, bI_eq0, not_true_eq_false, not_false_eq_true, Nat.reduceEqDiff, Nat.reduceLeDiff, Nat.reduceAdd, Nat.reduceMul, Nat.one_ne_zero, Nat.zero_ne_one, decide_eq_false_iff_not, decide_eq_true_eq, Bool.false_eq_true, decide_true, decide_false, bI_true, bI_false, one_ne, Nat.le_refl, Nat.lt_irrefl, cleT, cleF, cltT, cltF, ceqT, ceqF, ↓reduceIte, r74_84, r74_85, r74_88, r74_91, r74_94, r74_95, r74_97, r74_98, r74_99, r74_100, r74_103, r74_104, r74_105, r74_108, r74_110, r74_111, r74_114, r74_115, r74_118, r74_120, r74_122, r74_123, r74_126, r74_129, r74_131, r74_133, r74_136, r74_137, r74_140, r74_141, r74_144, r74_146, r74_148, r74_149, r74_152, r74_153, r74_154, r74_155, r74_156, r74_157, r74_158, r74_159, r74_161, r74_162, r74_163, r74_164, r74_167, r74_169, r74_172, r74_173, r74_176, r74_177, r74_180, r74_183, zO65_3, zO65_6, zO65_9, zO47_1, g1, g9', bi, dp, ag, bt', sb, sh1, i1.iff]
                  exact r1
                · rw [bI_true] at i1
                  simp (disch := first | omega | assumption | exact Or.inl rfl | exact Or.inr rfl | exact bI_or _ | exact zC81 | exact zC47 | exact zC65 | exact zC0 | exact zC1 | exact zC32 | exact zC70 | exact zC73 | exact ztc (by assumption) | exact zdc (by assumption) | exact zpc (by assumption) | decide) only [Option.some.injEq, exists_eq_left', ex2, Option.toList, List.singleton_append, List.append_nil, List.cons_append, List.nil_append, nI_add, nI_addL, nI_Ladd, pk_mul, nI_mulL, nI_Lmul, nI_subL, pk_sub, nI_divL, sub_dm, nI_leE, nI_ltE, nI_eqE, nI_Lle, nI_leL, nI_Llt, nI_ltL, nI_eqL, va_up_self, va_up_ne, up_up, up_comm, nI_clamp, bI_eq0, not_true_eq_false, not_false_eq_true, Nat.reduceEqDiff, Nat.reduceLeDiff, Nat.reduceAdd, Nat.reduceMul, Nat.one_ne_zero, Nat.zero_ne_one, decide_eq_false_iff_not, decide_eq_true_eq, Bool.false_eq_true, decide_true, decide_false, bI_true, bI_false, one_ne, Nat.le_refl, Nat.lt_irrefl, cleT, cleF, cltT, cltF, ceqT, ceqF, ↓reduceIte, r74_84, r74_85, r74_88, r74_91, r74_94, r74_95, r74_97, r74_98, r74_99, r74_100, r74_103, r74_104, r74_105, r74_108, r74_110, r74_111, r74_114, r74_115, r74_118, r74_120, r74_122, r74_123, r74_126, r74_129, r74_131, r74_133, r74_136, r74_137, r74_140, r74_141, r74_144, r74_146, r74_148, r74_149, r74_152, r74_153, r74_154, r74_155, r74_156, r74_157, r74_158, r74_159, r74_161, r74_162, r74_163, r74_164, r74_167, r74_169, r74_172, r74_173, r74_176, r74_177, r74_180, r74_183, zO65_3, zO65_6, zO65_9, zO47_1, g1, g9', bi, dp, ag, bt', sb, sh1, i1.iff]
                  exact r1
              · rw [r4, i4]
                unfold acM
                rw [d0 65 (by decide)]
          · have c' : m / 2 ^ l % 2 = 0 := by omega
            rw [c'] at bi
            rw [beq_f c, cond_false]
            obtain ⟨s', r1, r2, r3, r4⟩ := ihj s1 hF1 hk1 l5 l6
            refine ⟨s', ?_, r2, r3, r4⟩
            rw [r74_82]
            simp (disch := first | omega | assumption | exact Or.inl rfl | exact Or.inr rfl | exact bI_or _ | exact zC81 | exact zC47 | exact zC65 | exact zC0 | exact zC1 | exact zC32 | exact zC70 | exact zC73 | exact ztc (by assumption) | exact zdc (by assumption) | exact zpc (by assumption) | decide) only [Option.some.injEq, exists_eq_left', ex2, Option.toList, List.singleton_append, List.append_nil, List.cons_append, List.nil_append, nI_add, nI_addL, nI_Ladd, pk_mul, nI_mulL, nI_Lmul, nI_subL, pk_sub, nI_divL, sub_dm, nI_leE, nI_ltE, nI_eqE, nI_Lle, nI_leL, nI_Llt, nI_ltL, nI_eqL, va_up_self, va_up_ne, up_up, up_comm, nI_clamp, bI_eq0, not_true_eq_false, not_false_eq_true, Nat.reduceEqDiff, Nat.reduceLeDiff, Nat.reduceAdd, Nat.reduceMul, Nat.one_ne_zero, Nat.zero_ne_one, decide_eq_false_iff_not, decide_eq_true_eq, Bool.false_eq_true, decide_true, decide_false, bI_true, bI_false, one_ne, Nat.le_refl, Nat.lt_irrefl, cleT, cleF, cltT, cltF, ceqT, ceqF, ↓reduceIte, r74_84, r74_85, r74_88, r74_91, r74_94, r74_95, r74_97, r74_98, r74_99, r74_100, r74_103, r74_104, r74_105, r74_108, r74_110, r74_111, r74_114, r74_115, r74_118, r74_120, r74_122, r74_123, r74_126, r74_129, r74_131, r74_133, r74_136, r74_137, r74_140, r74_141, r74_144, r74_146, r74_148, r74_149, r74_152, r74_153, r74_154, r74_155, r74_156, r74_157, r74_158, r74_159, r74_161, r74_162, r74_163, r74_164, r74_167, r74_169, r74_172, r74_173, r74_176, r74_177, r74_180, r74_183, zO65_3, zO47_1, g1, bi]
            exact r1
      obtain ⟨s', r1, r2, r3, r4⟩ := loop L (Nat.le_refl L) s hF (fun _ _ => rfl) none none
      rw [Nat.sub_self] at r1
      rw [show 8 - L + L = 8 by omega] at r4
      refine ⟨s', ?_, r2, r3, r4⟩
      simp (disch := first | omega | assumption | exact Or.inl rfl | exact Or.inr rfl | exact bI_or _ | exact zC81 | exact zC47 | exact zC65 | exact zC0 | exact zC1 | exact zC32 | exact zC70 | exact zC73 | exact ztc (by assumption) | exact zdc (by assumption) | exact zpc (by assumption) | decide) only [Option.some.injEq, exists_eq_left', ex2, Option.toList, List.singleton_append, List.append_nil, List.cons_append, List.nil_append, nI_add, nI_addL, nI_Ladd, pk_mul, nI_mulL, nI_Lmul, nI_subL, pk_sub, nI_divL, sub_dm, nI_leE, nI_ltE, nI_eqE, nI_Lle, nI_leL, nI_Llt, nI_ltL, nI_eqL, va_up_self, va_up_ne, up_up, up_comm, nI_clamp, bI_eq0, not_true_eq_false, not_false_eq_true, Nat.reduceEqDiff, Nat.reduceLeDiff, Nat.reduceAdd, Nat.reduceMul, Nat.one_ne_zero, Nat.zero_ne_one, decide_eq_false_iff_not, decide_eq_true_eq, Bool.false_eq_true, decide_true, decide_false, bI_true, bI_false, one_ne, Nat.le_refl, Nat.lt_irrefl, cleT, cleF, cltT, cltF, ceqT, ceqF, ↓reduceIte, r74_0, r74_1, r74_4, r74_5, r74_7, r74_79, r74_80, c0]
      exact r1
end OR9
