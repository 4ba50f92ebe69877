/-! SETS OF LOAVES, eaten by numbers: both sides -/
section SET
variable {xs : Nat → Int32} {sl d : Nat} {J : hJk} {s x y : hS} {g : hG}
/-- six minds behind a loaf, if it is in the set -/
def eaS (n : Nat) (V : Nat → Nat → Int32) (st : Int32) (set l : Nat) (m : Nat → Int32) : Nat → Int32 := if (set.testBit l && agF n m (V l) st) = true then (fun t => nmF 1 (m t) (V l t)) else m
def eaF (n : Nat) (V : Nat → Nat → Int32) (st : Int32) (set L : Nat) (m : Nat → Int32) : Nat → Int32 := it (eaS n V st set) L m
theorem eaS_congr {n set l : Nat} {V V' : Nat → Nat → Int32} {st : Int32} {m m' : Nat → Int32} (hV : ∀ t, t < n → V l t = V' l t) (hm : ∀ t, t < n → m t = m' t) : ∀ t, t < n → eaS n V st set l m t = eaS n V' st set l m' t := by
  intro t ht
  unfold eaS
  rw [agF_eq hm hV]
  split
  · dsimp only
    rw [hm t ht, hV t ht]
  · exact hm t ht
theorem eaF_congr {n set : Nat} {V V' : Nat → Nat → Int32} {st : Int32} {m m' : Nat → Int32} (L : Nat) (hV : ∀ l t, l < L → t < n → V l t = V' l t) (hm : ∀ t, t < n → m t = m' t) : ∀ t, t < n → eaF n V st set L m t = eaF n V' st set L m' t := by
  have q : ∀ i, i ≤ L → ∀ t, t < n → it (eaS n V st set) i m t = it (eaS n V' st set) i m' t := by
    intro i
    induction i with
    | zero => exact fun _ => hm
    | succ i ih => exact fun hi => eaS_congr (fun t ht => hV i t (by omega) ht) (ih (by omega))
  exact q L (Nat.le_refl L)
theorem eaF_low {n : Nat} {V : Nat → Nat → Int32} {st : Int32} {m : Nat → Int32} {a b : Nat} (L : Nat) (h : ∀ l, l < L → a.testBit l = b.testBit l) : eaF n V st a L m = eaF n V st b L m := it_congr (fun l m hl => by unfold eaS; rw [h l hl])
theorem eaF_cut {n set l : Nat} {V : Nat → Nat → Int32} {st : Int32} {m : Nat → Int32} (hs : set < 2 ^ l) : ∀ k, eaF n V st set (l + k) m = eaF n V st set l m := by
  intro k
  induction k with
  | zero => rfl
  | succ k ih =>
    have e : eaF n V st set (l + k + 1) m = eaS n V st set (l + k) (eaF n V st set (l + k) m) := rfl
    rw [show l + (k + 1) = l + k + 1 by omega, e, ih, eaS, tb_lt hs (by omega), Bool.false_and]
    rfl
theorem tb_top {l j : Nat} (hj : j < 2 ^ l) : (2 ^ l + j).testBit l = true ∧ ∀ i, i < l → (2 ^ l + j).testBit i = j.testBit i := by
  have e : 2 ^ l + j = j ||| 2 ^ l := by rw [or_pow hj, Nat.add_comm]
  rw [e]
  refine ⟨by rw [Nat.testBit_or, Nat.testBit_two_pow_self, Bool.or_true], fun i hi => ?_⟩
  rw [Nat.testBit_or, Nat.testBit_two_pow_of_ne (by omega), Bool.or_false]
theorem eaF_top {n l j L : Nat} {V : Nat → Nat → Int32} {st : Int32} {m : Nat → Int32} (hl : l < L) (hj : j < 2 ^ l) : eaF n V st (2 ^ l + j) L m = if agF n (eaF n V st j L m) (V l) st = true then (fun t => nmF 1 (eaF n V st j L m t) (V l t)) else eaF n V st j L m := by
  have lt : 2 ^ l + j < 2 ^ (l + 1) := by
    rw [Nat.pow_succ]
    omega
  have c1 := eaF_cut (n := n) (V := V) (st := st) (m := m) lt (L - (l + 1))
  have c2 := eaF_cut (n := n) (V := V) (st := st) (m := m) hj (L - l)
  rw [show l + 1 + (L - (l + 1)) = L by omega] at c1
  rw [show l + (L - l) = L by omega] at c2
  obtain ⟨t1, t2⟩ := tb_top hj
  have e : eaF n V st (2 ^ l + j) (l + 1) m = eaS n V st (2 ^ l + j) l (eaF n V st (2 ^ l + j) l m) := rfl
  rw [c1, e, eaF_low l t2, c2, eaS, t1, Bool.true_and]
/-- the class: behind each set the minds of a house -/
theorem cp_after {p q : Nat} (h1 : p + 6 ≤ 1536) (h2 : q + 6 ≤ 1536) : hCp (hp J s g) 66 66 (nI p) (nI q) 6 = some (hp J (va_up s 66 (va_cpy (s 66) (s 66) p q 6)) g) := hcp_int (c := 6) rfl rfl (by decide) (by decide) h1 h2
theorem cp_house {u : Nat} (hu : u < 8) : hCp (hp J s g) 56 66 (nI (6 * u)) 0 6 = some (hp J (va_up s 66 (va_cpy (s 56) (s 66) (6 * u) 0 6)) g) := hcp_int (q := 0) (c := 6) rfl rfl (by decide) (by decide) (by omega) (by decide)
set_option maxHeartbeats 1000000 in
theorem ml_eatSets {a n h L u : Nat} (hT : cT s a n h) (hL : s 47 1 = nI L) (hL8 : L ≤ 8) (hu : u < h) : ∃ s' : hS, Runs xs sl (d+2) 68 0 [some (.ref (65)), some (.int ( nI u)), none, none, none] [] (hp J (s) g) (none, hp J s' g) ∧ (∀ c, c ≠ 66 → s' c = s c) ∧ ∀ set, set < 2 ^ L → ∀ t, t < n → s' 66 (6 * set + t) = eaF n (fun l t => s 57 (6 * l + t)) (s (a + 2) u) set L (fun t => s 56 (6 * u + t)) t := by
  have hT' := hT
  obtain ⟨ha, h31, h47, hn, hn6, hh, hh8⟩ := hT'
  have ha' : a = 7 ∨ a = 19 ∨ a = 33 ∨ a = 48 := ha
  have i66 := isR66
  have j66 := rl66
  have p8 := pw8 hL8
  generalize hst : s (a + 2) u = st
  generalize hV : (fun l t => s 57 (6 * l + t)) = V
  generalize hm0 : (fun t => s 56 (6 * u + t)) = m0
  have eV : ∀ l t, s 57 (6 * l + t) = V l t := fun l t => by rw [← hV]
  generalize hs0 : va_up s 66 (va_cpy (s 56) (s 66) (6 * u) 0 6) = s0
  have a0 : ∀ c, c ≠ 66 → s0 c = s c := fun c hc => by rw [← hs0, va_up_ne _ _ hc]
  have a1 : ∀ t, t < n → s0 66 t = eaF n V st 0 L m0 t := by
    intro t ht
    have z := eaF_cut (n := n) (V := V) (st := st) (m := m0) (set := 0) (l := 0) Nat.one_pos L
    rw [Nat.zero_add] at z
    rw [z, ← hs0, va_up_self, pk_cpy_in (by omega) (by omega), ← hm0]
    rfl
  obtain ⟨s1, ⟨q1, q2⟩, q3⟩ := up_loop (Q := fun l (s1 : hS) => (∀ c, c ≠ 66 → s1 c = s c) ∧ ∀ set, set < 2 ^ l → ∀ t, t < n → s1 66 (6 * set + t) = eaF n V st set L m0 t) (P := fun l (s1 : hS) (z : Option Value × mH) => ∀ l3 l4, Runs xs sl (d+2) 68 23 [some (.ref (65)), some (.int ( nI u)), some (.int ( nI l)), l3, l4] [] (hp J (s1) g) z) L (by
    intro l s1 hl hQ
    obtain ⟨i1, i2⟩ := hQ
    have pl : 2 ^ (l + 1) ≤ 2 ^ L := Nat.pow_le_pow_right (by decide) hl
    have pl2 : 2 ^ (l + 1) = 2 * 2 ^ l := by rw [Nat.pow_succ]; omega
    obtain ⟨s2, ⟨w1, w2⟩, w3⟩ := up_loop (Q := fun j (s2 : hS) => (∀ c, c ≠ 66 → s2 c = s c) ∧ ∀ set, set < 2 ^ l + j → ∀ t, t < n → s2 66 (6 * set + t) = eaF n V st set L m0 t) (P := fun j (s2 : hS) (z : Option Value × mH) => ∀ l4, Runs xs sl (d+2) 68 38 [some (.ref (65)), some (.int ( nI u)), some (.int ( nI l)), some (.int ( nI (2 ^ l + j))), l4] [] (hp J (s2) g) z) (2 ^ l) (by
      intro j s2 hj hQ2
      obtain ⟨k1, k2⟩ := hQ2
      generalize hs3 : va_up s2 66 (va_cpy (s2 66) (s2 66) (6 * j) (6 * (2 ^ l + j)) 6) = s3
      have b0 : ∀ c, c ≠ 66 → s3 c = s c := fun c hc => by rw [← hs3, va_up_ne _ _ hc]; exact k1 c hc
      have b1 : ∀ t, t < n → s3 66 (6 * (2 ^ l + j) + t) = eaF n V st j L m0 t := by
        intro t ht
        rw [← hs3, va_up_self, pk_cpy_in (by omega) (by omega), show 6 * j + (6 * (2 ^ l + j) + t - 6 * (2 ^ l + j)) = 6 * j + t by omega]
        exact k2 j (by omega) t ht
      have b2 : ∀ set, set < 2 ^ l + j → ∀ t, t < n → s3 66 (6 * set + t) = eaF n V st set L m0 t := by
        intro set hset t ht
        rw [← hs3, va_up_self, pk_cpy_out (by omega)]
        exact k2 set hset t ht
      have hT3 : cT s3 a n h := cT_fr hT (by rw [b0 47 (by decide)]) (b0 a (by omega))
      have e3 : s3 (a + 2) u = st := by rw [b0 (a + 2) (by omega)]; exact hst
      have g1 : s2 47 1 = nI L := by rw [k1 47 (by decide)]; exact hL
      have g2 : s3 47 0 = nI a := hT3.2.2.1
      have g3 : s3 (a + 2) u = st := e3
      have ag := @sc_isAgreed xs sl (d + 1) J s3 g a 66 n h (6 * (2 ^ l + j)) l st hT3 i66 (by rw [j66]; omega) (by omega)
      have eA : agF n (fun t => s3 66 (6 * (2 ^ l + j) + t)) (fun t => s3 57 (6 * l + t)) st = agF n (eaF n V st j L m0) (V l) st := agF_eq (fun t ht => b1 t ht) (fun t ht => by rw [b0 57 (by decide)]; exact eV l t)
      rw [eA] at ag
      have tp := eaF_top (n := n) (V := V) (st := st) (m := m0) hl hj
      have cpa := @cp_after J s2 g (6 * j) (6 * (2 ^ l + j)) (by omega) (by omega)
      rw [hs3] at cpa
      have es : 2 ^ l + j - 2 ^ l = j := by omega
      cases c : agF n (eaF n V st j L m0) (V l) st
      · rw [c, if_neg (by decide)] at tp
        rw [c] at ag
        refine ⟨s3, ⟨b0, fun set hset t ht => ?_⟩, fun z hz l4 => ?_⟩
        · by_cases e : set = 2 ^ l + j
          · rw [e, tp]
            exact b1 t ht
          · exact b2 set (by omega) t ht
        · rw [r68_38]
          simp (disch := first | omega | assumption | exact Or.inl rfl | exact Or.inr rfl | exact bI_or _ | exact zC81 | exact zC47 | exact zC65 | exact zC0 | exact zC1 | exact zC32 | exact zC70 | exact zC73 | exact ztc (by assumption) | exact zdc (by assumption) | exact zpc (by assumption) | decide) only [Option.some.injEq, exists_eq_left', ex2, Option.toList, List.singleton_append, List.append_nil, List.cons_append, List.nil_append, nI_add, nI_addL, nI_Ladd, pk_mul, nI_mulL, nI_Lmul, nI_subL, pk_sub, nI_divL, sub_dm, nI_leE, nI_ltE, nI_eqE, nI_Lle, nI_leL, nI_Llt, nI_ltL, nI_eqL, va_up_self, va_up_ne, up_up, up_comm, nI_clamp, bI_eq0, not_true_eq_false, not_false_eq_true, Nat.reduceEqDiff, Nat.reduceLeDiff, Nat.reduceAdd, Nat.reduceMul, Nat.one_ne_zero, Nat.zero_ne_one, decide_eq_false_iff_not, decide_eq_true_eq, Bool.false_eq_true, decide_true, decide_false, bI_true, bI_false, one_ne, Nat.le_refl, Nat.lt_irrefl, cleT, cleF, cltT, cltF, ceqT, ceqF, ↓reduceIte, r68_39, r68_40, r68_41, r68_42, r68_45, r68_46, r68_48, r68_49, r68_51, r68_52, r68_55, r68_56, r68_57, r68_58, r68_59, r68_60, r68_62, r68_63, r68_64, r68_67, r68_69, r68_71, r68_74, r68_75, r68_78, r68_79, r68_82, r68_84, r68_85, r68_86, r68_89, r68_92, r68_95, r68_96, r68_97, r68_100, r68_103, r68_104, r68_107, r68_108, r68_111, r68_113, r68_114, r68_115, r68_118, r68_119, r68_122, zO65_3, zO65_4, zC47, zO47_0, zW47_0, zO47_1, zW47_1, zO47_2, zO47_3, zO47_4, zW47_4, zO47_5, zO47_6, zO47_7, zO47_8, zO47_9, zO47_10, zO47_11, ztc, zto0, ztw0, zto1, ztw1, zto2, ztw2, zto3, ztw3, zto4, ztw4, zto5, zto6, zto7, zto8, zto9, zto10, zto11, ztl1, zta1, zts1, ztl2, zta2, zts2, ztl3, zta3, zts3, ztl4, zta4, zts4, ztl5, zta5, zts5, ztl6, zta6, zts6, ztl7, zta7, zts7, sh1, sh2, es, cpa, g2, g3, ag]
          exact hz _
      · rw [c, if_pos rfl] at tp
        rw [c] at ag
        have bi := @sc_bite xs sl d J s3 g a 66 n h (6 * (2 ^ l + j)) l 1 hT3 i66 (by rw [j66]; omega) (by omega) (Or.inl rfl)
        refine ⟨va_up s3 66 (va_cpy (fun t => nmF 1 (s3 66 (6 * (2 ^ l + j) + t)) (s3 57 (6 * l + t))) (s3 66) 0 (6 * (2 ^ l + j)) n), ⟨fun c hc => by rw [va_up_ne _ _ hc]; exact b0 c hc, fun set hset t ht => ?_⟩, fun z hz l4 => ?_⟩
        · rw [va_up_self]
          by_cases e : set = 2 ^ l + j
          · rw [e, tp, pk_cpy_in (by omega) (by omega), show 0 + (6 * (2 ^ l + j) + t - 6 * (2 ^ l + j)) = t by omega, b1 t ht, b0 57 (by decide), eV]
          · rw [pk_cpy_out (by omega)]
            exact b2 set (by omega) t ht
        · rw [r68_38]
          simp (disch := first | omega | assumption | exact Or.inl rfl | exact Or.inr rfl | exact bI_or _ | exact zC81 | exact zC47 | exact zC65 | exact zC0 | exact zC1 | exact zC32 | exact zC70 | exact zC73 | exact ztc (by assumption) | exact zdc (by assumption) | exact zpc (by assumption) | decide) only [Option.some.injEq, exists_eq_left', ex2, Option.toList, List.singleton_append, List.append_nil, List.cons_append, List.nil_append, nI_add, nI_addL, nI_Ladd, pk_mul, nI_mulL, nI_Lmul, nI_subL, pk_sub, nI_divL, sub_dm, nI_leE, nI_ltE, nI_eqE, nI_Lle, nI_leL, nI_Llt, nI_ltL, nI_eqL, va_up_self, va_up_ne, up_up, up_comm, nI_clamp, bI_eq0, not_true_eq_false, not_false_eq_true, Nat.reduceEqDiff, Nat.reduceLeDiff, Nat.reduceAdd, Nat.reduceMul, Nat.one_ne_zero, Nat.zero_ne_one, decide_eq_false_iff_not, decide_eq_true_eq, Bool.false_eq_true, decide_true, decide_false, bI_true, bI_false, one_ne, Nat.le_refl, Nat.lt_irrefl, cleT, cleF, cltT, cltF, ceqT, ceqF, ↓reduceIte, r68_39, r68_40, r68_41, r68_42, r68_45, r68_46, r68_48, r68_49, r68_51, r68_52, r68_55, r68_56, r68_57, r68_58, r68_59, r68_60, r68_62, r68_63, r68_64, r68_67, r68_69, r68_71, r68_74, r68_75, r68_78, r68_79, r68_82, r68_84, r68_85, r68_86, r68_89, r68_92, r68_95, r68_96, r68_97, r68_100, r68_103, r68_104, r68_107, r68_108, r68_111, r68_113, r68_114, r68_115, r68_118, r68_119, r68_122, zO65_3, zO65_4, zC47, zO47_0, zW47_0, zO47_1, zW47_1, zO47_2, zO47_3, zO47_4, zW47_4, zO47_5, zO47_6, zO47_7, zO47_8, zO47_9, zO47_10, zO47_11, ztc, zto0, ztw0, zto1, ztw1, zto2, ztw2, zto3, ztw3, zto4, ztw4, zto5, zto6, zto7, zto8, zto9, zto10, zto11, ztl1, zta1, zts1, ztl2, zta2, zts2, ztl3, zta3, zts3, ztl4, zta4, zts4, ztl5, zta5, zts5, ztl6, zta6, zts6, ztl7, zta7, zts7, sh1, sh2, es, cpa, g2, g3, ag, bi, Bool.true_eq_false]
          exact hz _) s1 ⟨i1, fun set hset t ht => i2 set (by omega) t ht⟩
    refine ⟨s2, ⟨w1, fun set hset t ht => w2 set (by omega) t ht⟩, fun z hz l3 l4 => ?_⟩
    have g1 : s1 47 1 = nI L := by rw [i1 47 (by decide)]; exact hL
    rw [r68_23]
    simp (disch := first | omega | assumption | exact Or.inl rfl | exact Or.inr rfl | exact bI_or _ | exact zC81 | exact zC47 | exact zC65 | exact zC0 | exact zC1 | exact zC32 | exact zC70 | exact zC73 | exact ztc (by assumption) | exact zdc (by assumption) | exact zpc (by assumption) | decide) only [Option.some.injEq, exists_eq_left', ex2, Option.toList, List.singleton_append, List.append_nil, List.cons_append, List.nil_append, nI_add, nI_addL, nI_Ladd, pk_mul, nI_mulL, nI_Lmul, nI_subL, pk_sub, nI_divL, sub_dm, nI_leE, nI_ltE, nI_eqE, nI_Lle, nI_leL, nI_Llt, nI_ltL, nI_eqL, va_up_self, va_up_ne, up_up, up_comm, nI_clamp, bI_eq0, not_true_eq_false, not_false_eq_true, Nat.reduceEqDiff, Nat.reduceLeDiff, Nat.reduceAdd, Nat.reduceMul, Nat.one_ne_zero, Nat.zero_ne_one, decide_eq_false_iff_not, decide_eq_true_eq, Bool.false_eq_true, decide_true, decide_false, bI_true, bI_false, one_ne, Nat.le_refl, Nat.lt_irrefl, cleT, cleF, cltT, cltF, ceqT, ceqF, ↓reduceIte, r68_24, r68_25, r68_28, r68_31, r68_34, r68_35, r68_36, r68_37, zO65_3, zC47, zO47_0, zW47_0, zO47_1, zW47_1, zO47_2, zO47_3, zO47_4, zW47_4, zO47_5, zO47_6, zO47_7, zO47_8, zO47_9, zO47_10, zO47_11, g1, sh1]
    refine w3 z ?_ l4
    intro l4
    rw [r68_38]
    simp (disch := first | omega | assumption | exact Or.inl rfl | exact Or.inr rfl | exact bI_or _ | exact zC81 | exact zC47 | exact zC65 | exact zC0 | exact zC1 | exact zC32 | exact zC70 | exact zC73 | exact ztc (by assumption) | exact zdc (by assumption) | exact zpc (by assumption) | decide) only [Option.some.injEq, exists_eq_left', ex2, Option.toList, List.singleton_append, List.append_nil, List.cons_append, List.nil_append, nI_add, nI_addL, nI_Ladd, pk_mul, nI_mulL, nI_Lmul, nI_subL, pk_sub, nI_divL, sub_dm, nI_leE, nI_ltE, nI_eqE, nI_Lle, nI_leL, nI_Llt, nI_ltL, nI_eqL, va_up_self, va_up_ne, up_up, up_comm, nI_clamp, bI_eq0, not_true_eq_false, not_false_eq_true, Nat.reduceEqDiff, Nat.reduceLeDiff, Nat.reduceAdd, Nat.reduceMul, Nat.one_ne_zero, Nat.zero_ne_one, decide_eq_false_iff_not, decide_eq_true_eq, Bool.false_eq_true, decide_true, decide_false, bI_true, bI_false, one_ne, Nat.le_refl, Nat.lt_irrefl, cleT, cleF, cltT, cltF, ceqT, ceqF, ↓reduceIte, r68_39, r68_40, r68_41, r68_42, r68_125, r68_128, sh2]
    exact hz _ _) s0 ⟨a0, fun set hset t ht => by
      have e : set = 0 := by
        rw [Nat.pow_zero] at hset
        omega
      rw [e, Nat.mul_zero, Nat.zero_add]
      exact a1 t ht⟩
  refine ⟨s1, ?_, q1, q2⟩
  have u8 : u < 8 := by omega
  have ch := @cp_house J s g u u8
  rw [hs0] at ch
  simp (disch := first | omega | assumption | exact Or.inl rfl | exact Or.inr rfl | exact bI_or _ | exact zC81 | exact zC47 | exact zC65 | exact zC0 | exact zC1 | exact zC32 | exact zC70 | exact zC73 | exact ztc (by assumption) | exact zdc (by assumption) | exact zpc (by assumption) | decide) only [Option.some.injEq, exists_eq_left', ex2, Option.toList, List.singleton_append, List.append_nil, List.cons_append, List.nil_append, nI_add, nI_addL, nI_Ladd, pk_mul, nI_mulL, nI_Lmul, nI_subL, pk_sub, nI_divL, sub_dm, nI_leE, nI_ltE, nI_eqE, nI_Lle, nI_leL, nI_Llt, nI_ltL, nI_eqL, va_up_self, va_up_ne, up_up, up_comm, nI_clamp, bI_eq0, not_true_eq_false, not_false_eq_true, Nat.reduceEqDiff, Nat.reduceLeDiff, Nat.reduceAdd, Nat.reduceMul, Nat.one_ne_zero, Nat.zero_ne_one, decide_eq_false_iff_not, decide_eq_true_eq, Bool.false_eq_true, decide_true, decide_false, bI_true, bI_false, one_ne, Nat.le_refl, Nat.lt_irrefl, cleT, cleF, cltT, cltF, ceqT, ceqF, ↓reduceIte, r68_0, r68_1, r68_4, r68_7, r68_8, r68_10, r68_11, r68_12, r68_15, r68_16, r68_18, r68_21, r68_22, zO65_3, zO65_4, zO47_2, ch]
  refine q3 _ ?_ none none
  intro l3 l4
  have g1 : s1 47 1 = nI L := by rw [q1 47 (by decide)]; exact hL
  rw [r68_23]
  simp (disch := first | omega | assumption | exact Or.inl rfl | exact Or.inr rfl | exact bI_or _ | exact zC81 | exact zC47 | exact zC65 | exact zC0 | exact zC1 | exact zC32 | exact zC70 | exact zC73 | exact ztc (by assumption) | exact zdc (by assumption) | exact zpc (by assumption) | decide) only [Option.some.injEq, exists_eq_left', ex2, Option.toList, List.singleton_append, List.append_nil, List.cons_append, List.nil_append, nI_add, nI_addL, nI_Ladd, pk_mul, nI_mulL, nI_Lmul, nI_subL, pk_sub, nI_divL, sub_dm, nI_leE, nI_ltE, nI_eqE, nI_Lle, nI_leL, nI_Llt, nI_ltL, nI_eqL, va_up_self, va_up_ne, up_up, up_comm, nI_clamp, bI_eq0, not_true_eq_false, not_false_eq_true, Nat.reduceEqDiff, Nat.reduceLeDiff, Nat.reduceAdd, Nat.reduceMul, Nat.one_ne_zero, Nat.zero_ne_one, decide_eq_false_iff_not, decide_eq_true_eq, Bool.false_eq_true, decide_true, decide_false, bI_true, bI_false, one_ne, Nat.le_refl, Nat.lt_irrefl, cleT, cleF, cltT, cltF, ceqT, ceqF, ↓reduceIte, r68_24, r68_25, r68_28, r68_31, r68_131, zO65_3, zC47, zO47_0, zW47_0, zO47_1, zW47_1, zO47_2, zO47_3, zO47_4, zW47_4, zO47_5, zO47_6, zO47_7, zO47_8, zO47_9, zO47_10, zO47_11, g1]
end SET
