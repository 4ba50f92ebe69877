/-! AGREE, alike -/
section AGE
variable {xs : Nat → Int32} {sl d : Nat} {J : hJk} {s x y : hS} {g : hG}
theorem bv7 : ∀ k, k < 5 → ∀ i, i < 7 → ∀ j, j < 7 → ∀ b : Bool, ∃ m, m < 7 ∧ bvF k (nI i - 3) (nI j - 3) b = nI m - 3 := by decide +kernel
theorem bvF_vw {k : Nat} {la pa : Int32} {b : Bool} (hk : k < 5) (h1 : vw la) (h2 : vw pa) : vw (bvF k la pa b) := by
  obtain ⟨i, hi, rfl⟩ := h1
  obtain ⟨j, hj, rfl⟩ := h2
  exact bv7 k hk i hi j hj b
theorem vw0 : vw 0 := ⟨3, by decide, rfl⟩
/-- views within -3 .. 3, of the loaves, by the ovens -/
def VV (n L : Nat) (x : hS) : Prop := VW (x 57) L n ∧ (∀ i, i < 24 → vw (x 61 i)) ∧ ∀ i, i < 24 → vw (x 62 i)
theorem VV_says {n L o t : Nat} {v : Int32} (h : VV n L x) (ho : o < 4) (ht : t < 6) (hv : vw v) : VV n L (saysG 61 62 63 x o t v) := by
  obtain ⟨h1, h2, h3⟩ := h
  have b0 : saysG 61 62 63 x o t v 57 = x 57 := saysG_fr (by decide) (by decide) (by decide)
  have b1 : saysG 61 62 63 x o t v 61 = va_up (x 61) (6 * o + t) v := by simp (disch := first | omega | assumption | exact Or.inl rfl | exact Or.inr rfl | exact bI_or _ | exact zC81 | exact zC47 | exact zC65 | exact zC0 | exact zC1 | exact zC32 | exact zC70 | exact zC73 | exact ztc (by assumption) | exact zdc (by assumption) | exact zpc (by assumption) | decide) only [Option.some.injEq, exists_eq_left', ex2, Option.toList, List.singleton_append, List.append_nil, List.cons_append, List.nil_append, nI_add, nI_addL, nI_Ladd, pk_mul, nI_mulL, nI_Lmul, nI_subL, pk_sub, nI_divL, sub_dm, nI_leE, nI_ltE, nI_eqE, nI_Lle, nI_leL, nI_Llt, nI_ltL, nI_eqL, va_up_self, va_up_ne, up_up, up_comm, nI_clamp, bI_eq0, not_true_eq_false, not_false_eq_true, Nat.reduceEqDiff, Nat.reduceLeDiff, Nat.reduceAdd, Nat.reduceMul, Nat.one_ne_zero, Nat.zero_ne_one, decide_eq_false_iff_not, decide_eq_true_eq, Bool.false_eq_true, decide_true, decide_false, bI_true, bI_false, one_ne, Nat.le_refl, Nat.lt_irrefl, cleT, cleF, cltT, cltF, ceqT, ceqF, ↓reduceIte, saysG]
  have b2 : saysG 61 62 63 x o t v 62 = va_up (x 62) (6 * o + t) (x 61 (6 * o + t)) := by simp (disch := first | omega | assumption | exact Or.inl rfl | exact Or.inr rfl | exact bI_or _ | exact zC81 | exact zC47 | exact zC65 | exact zC0 | exact zC1 | exact zC32 | exact zC70 | exact zC73 | exact ztc (by assumption) | exact zdc (by assumption) | exact zpc (by assumption) | decide) only [Option.some.injEq, exists_eq_left', ex2, Option.toList, List.singleton_append, List.append_nil, List.cons_append, List.nil_append, nI_add, nI_addL, nI_Ladd, pk_mul, nI_mulL, nI_Lmul, nI_subL, pk_sub, nI_divL, sub_dm, nI_leE, nI_ltE, nI_eqE, nI_Lle, nI_leL, nI_Llt, nI_ltL, nI_eqL, va_up_self, va_up_ne, up_up, up_comm, nI_clamp, bI_eq0, not_true_eq_false, not_false_eq_true, Nat.reduceEqDiff, Nat.reduceLeDiff, Nat.reduceAdd, Nat.reduceMul, Nat.one_ne_zero, Nat.zero_ne_one, decide_eq_false_iff_not, decide_eq_true_eq, Bool.false_eq_true, decide_true, decide_false, bI_true, bI_false, one_ne, Nat.le_refl, Nat.lt_irrefl, cleT, cleF, cltT, cltF, ceqT, ceqF, ↓reduceIte, saysG]
  refine ⟨by rw [b0]; exact h1, fun i hi => ?_, fun i hi => ?_⟩
  · rw [b1]
    by_cases e : i = 6 * o + t
    · rw [e, va_up_self]
      exact hv
    · rw [va_up_ne _ _ e]
      exact h2 i hi
  · rw [b2]
    by_cases e : i = 6 * o + t
    · rw [e, va_up_self]
      exact h2 _ (by omega)
    · rw [va_up_ne _ _ e]
      exact h3 i hi
theorem VV_loaf {n L k o : Nat} {age : Int32} (h : VV n L x) (hn : n ≤ 6) (hk : k < 5) (ho : o < 4) : VV n (L + 1) (cLoaf x n L k o age) := by
  obtain ⟨h1, h2, h3⟩ := h
  have b1 : cLoaf x n L k o age 57 = va_cpy (fun t => bvF k (x 61 (6 * o + t)) (x 62 (6 * o + t)) (decide (nI t = x 63 o))) (x 57) 0 (6 * L) n := by simp (disch := first | omega | assumption | exact Or.inl rfl | exact Or.inr rfl | exact bI_or _ | exact zC81 | exact zC47 | exact zC65 | exact zC0 | exact zC1 | exact zC32 | exact zC70 | exact zC73 | exact ztc (by assumption) | exact zdc (by assumption) | exact zpc (by assumption) | decide) only [Option.some.injEq, exists_eq_left', ex2, Option.toList, List.singleton_append, List.append_nil, List.cons_append, List.nil_append, nI_add, nI_addL, nI_Ladd, pk_mul, nI_mulL, nI_Lmul, nI_subL, pk_sub, nI_divL, sub_dm, nI_leE, nI_ltE, nI_eqE, nI_Lle, nI_leL, nI_Llt, nI_ltL, nI_eqL, va_up_self, va_up_ne, up_up, up_comm, nI_clamp, bI_eq0, not_true_eq_false, not_false_eq_true, Nat.reduceEqDiff, Nat.reduceLeDiff, Nat.reduceAdd, Nat.reduceMul, Nat.one_ne_zero, Nat.zero_ne_one, decide_eq_false_iff_not, decide_eq_true_eq, Bool.false_eq_true, decide_true, decide_false, bI_true, bI_false, one_ne, Nat.le_refl, Nat.lt_irrefl, cleT, cleF, cltT, cltF, ceqT, ceqF, ↓reduceIte, cLoaf, bakeG]
  have b2 : cLoaf x n L k o age 61 = x 61 := cLoaf_fr (by decide) (by decide)
  have b3 : cLoaf x n L k o age 62 = x 62 := cLoaf_fr (by decide) (by decide)
  refine ⟨fun l t hl ht => ?_, by rw [b2]; exact h2, by rw [b3]; exact h3⟩
  rw [b1]
  by_cases c : l = L
  · subst c
    rw [pk_cpy_in (by omega) (by omega)]
    exact bvF_vw hk (h2 _ (by omega)) (h3 _ (by omega))
  · rw [pk_cpy_out (by omega)]
    exact h1 l t (by omega) ht
theorem CB_VV {R : Nat → Int32} {a t0 n li h sa c : Nat} (hQ : TownQ s R a t0 n li h sa c) : VV n c (CB s a n sa c) := by
  have h1 := said_C hQ
  have h2 := loaf_C hQ
  obtain ⟨⟨-, -, -, a4⟩, -, -, -, ⟨-, -, c8⟩, -, -, -, tm, ts, -⟩ := hQ
  have hv : ∀ i, i < sa → vw (svF (s (a + 5)) i) := fun i hi => by
    obtain ⟨o, t, -, -, -, -, -, -, q, -⟩ := ts i hi
    exact q
  unfold CB cB
  generalize soF (s (a + 5)) = so at *
  generalize stF (s (a + 5)) = st at *
  generalize svF (s (a + 5)) = sv at *
  generalize nF (s (a + 6)) = lk at *
  generalize nF (s (a + 7)) = lo at *
  refine it_inv (n := c) (fun i x => VV n i x) ?_ ?_ c (Nat.le_refl c)
  · refine it_inv (n := sa) (fun i x => VV n 0 x) ?_ ?_ sa (Nat.le_refl sa)
    · refine ⟨fun l t hl => absurd hl (by omega), ?_, ?_⟩
      · simp (disch := first | omega | assumption | exact Or.inl rfl | exact Or.inr rfl | exact bI_or _ | exact zC81 | exact zC47 | exact zC65 | exact zC0 | exact zC1 | exact zC32 | exact zC70 | exact zC73 | exact ztc (by assumption) | exact zdc (by assumption) | exact zpc (by assumption) | decide) only [Option.some.injEq, exists_eq_left', ex2, Option.toList, List.singleton_append, List.append_nil, List.cons_append, List.nil_append, nI_add, nI_addL, nI_Ladd, pk_mul, nI_mulL, nI_Lmul, nI_subL, pk_sub, nI_divL, sub_dm, nI_leE, nI_ltE, nI_eqE, nI_Lle, nI_leL, nI_Llt, nI_ltL, nI_eqL, va_up_self, va_up_ne, up_up, up_comm, nI_clamp, bI_eq0, not_true_eq_false, not_false_eq_true, Nat.reduceEqDiff, Nat.reduceLeDiff, Nat.reduceAdd, Nat.reduceMul, Nat.one_ne_zero, Nat.zero_ne_one, decide_eq_false_iff_not, decide_eq_true_eq, Bool.false_eq_true, decide_true, decide_false, bI_true, bI_false, one_ne, Nat.le_refl, Nat.lt_irrefl, cleT, cleF, cltT, cltF, ceqT, ceqF, ↓reduceIte, cB0]
        intro i hi
        rw [pk_cpy_in (by omega) (by omega)]
        exact vw0
      · simp (disch := first | omega | assumption | exact Or.inl rfl | exact Or.inr rfl | exact bI_or _ | exact zC81 | exact zC47 | exact zC65 | exact zC0 | exact zC1 | exact zC32 | exact zC70 | exact zC73 | exact ztc (by assumption) | exact zdc (by assumption) | exact zpc (by assumption) | decide) only [Option.some.injEq, exists_eq_left', ex2, Option.toList, List.singleton_append, List.append_nil, List.cons_append, List.nil_append, nI_add, nI_addL, nI_Ladd, pk_mul, nI_mulL, nI_Lmul, nI_subL, pk_sub, nI_divL, sub_dm, nI_leE, nI_ltE, nI_eqE, nI_Lle, nI_leL, nI_Llt, nI_ltL, nI_eqL, va_up_self, va_up_ne, up_up, up_comm, nI_clamp, bI_eq0, not_true_eq_false, not_false_eq_true, Nat.reduceEqDiff, Nat.reduceLeDiff, Nat.reduceAdd, Nat.reduceMul, Nat.one_ne_zero, Nat.zero_ne_one, decide_eq_false_iff_not, decide_eq_true_eq, Bool.false_eq_true, decide_true, decide_false, bI_true, bI_false, one_ne, Nat.le_refl, Nat.lt_irrefl, cleT, cleF, cltT, cltF, ceqT, ceqF, ↓reduceIte, cB0]
        intro i hi
        rw [pk_cpy_in (by omega) (by omega)]
        exact vw0
    · intro i x hi hS
      obtain ⟨-, q2, -, q4, -⟩ := h1 i hi
      exact VV_says hS q2 (by omega) (hv i hi)
  · intro i x hi hS
    obtain ⟨-, q2, -, q4⟩ := h2 i hi
    exact VV_loaf hS a4 q2 q4
theorem clR_congr {V V' : Nat → Int32} {n L k p q : Nat} (h : ∀ l t, l < L → t < n → V (6 * l + t) = V' (6 * l + t)) (hp' : p < L) (hq : q < L) : clR V n k p q = clR V' n k p q := it_congr (fun t b ht => by dsimp only [clB]; rw [h p t hp' ht, h q t hq ht])
theorem csR_congr {V V' : Nat → Int32} {n L set k : Nat} (h : ∀ l t, l < L → t < n → V (6 * l + t) = V' (6 * l + t)) : csR V n L set k = csR V' n L set k := it_congr (fun b c hb => it_congr (fun a c ha => by rw [clR_congr h (by omega) hb]))
theorem rf_agreeLoop {t0 n h L w N b0 : Nat} {l1 : Option Value} (hT : rT s t0 n h) (hL : s 81 23 = nI L) (hL8 : L ≤ 8) (hw : w = 0 ∧ N = L ∨ w = 1 ∧ N = n) (hb : b0 < 2 ^ N) : Runs xs sl (d+2) 250 65 [some (.ref (81)), l1, some (.int ( nI w)), some (.int ( nI (2 ^ L - 1))), some (.int ( nI b0)), some (.int ( nI 0)), none] [] (hp J (s) g) (some (.int (nI (if w = 0 then it (fun set best => if (decide (bc best < bc set) && decide (csR (s 88) n L set 0 = 0)) = true then set else best) (2 ^ N) b0 else it (fun set best => if (decide (bc set < bc best) && decide (csR (s 88) n L (2 ^ L - 1) set = 0)) = true then set else best) (2 ^ N) b0))), hp J s g) := by
  have hT' := hT
  obtain ⟨h12, ht0, h13, hn6, h14, hh8⟩ := hT'
  have N8 : N ≤ 8 := by omega
  have p8 := pw8 N8
  have pL := pw8 hL8
  have pL0 : 0 < 2 ^ L := Nat.pow_pos (by decide)
  rcases hw with ⟨rfl, rfl⟩ | ⟨rfl, rfl⟩
  · rw [if_pos rfl]
    have B : ∀ i, i ≤ 2 ^ N → it (fun set best => if (decide (bc best < bc set) && decide (csR (s 88) n N set 0 = 0)) = true then set else best) i b0 < 2 ^ N := by
      refine it_inv (fun _ b => b < 2 ^ N) hb ?_
      intro i b hi hb
      split
      · exact hi
      · exact hb
    refine dn_loop (P := fun i => ∀ l6, Runs xs sl (d+2) 250 65 [some (.ref (81)), l1, some (.int ( nI 0)), some (.int ( nI (2 ^ N - 1))), some (.int ( nI (it (fun set best => if (decide (bc best < bc set) && decide (csR (s 88) n N set 0 = 0)) = true then set else best) i b0))), some (.int ( nI i)), l6] [] (hp J (s) g) _) (2 ^ N) ?_ ?_ none
    · intro i hi hr l6
      rw [r250_65]
      have b := B i (by omega)
      rw [it] at hr
      generalize it (fun set best => if (decide (bc best < bc set) && decide (csR (s 88) n N set 0 = 0)) = true then set else best) i b0 = be at *
      have b1 := @rf_bitsOf xs sl (d + 1) J s g i (by omega)
      have b2 := @rf_bitsOf xs sl (d + 1) J s g be (by omega)
      have l1' := @bc_le i
      have l2 := @bc_le be
      have cl := @csR_le (s 88) n N i 0
      have cl2 : N * N ≤ 64 := Nat.mul_le_mul hL8 hL8
      have rc := @rf_clashes xs sl d J s g t0 n h N i 0 hT hL hL8 (by omega) (by decide)
      simp only [show nI 0 = (0 : Int32) from rfl] at rc
      by_cases c1 : bc be < bc i
      · by_cases c2 : csR (s 88) n N i 0 = 0
        · simp only [c1, c2, decide_true, Bool.and_self, ↓reduceIte] at hr
          simp (disch := first | omega | assumption | exact Or.inl rfl | exact Or.inr rfl | exact bI_or _ | exact zC81 | exact zC47 | exact zC65 | exact zC0 | exact zC1 | exact zC32 | exact zC70 | exact zC73 | exact ztc (by assumption) | exact zdc (by assumption) | exact zpc (by assumption) | decide) only [Option.some.injEq, exists_eq_left', ex2, Option.toList, List.singleton_append, List.append_nil, List.cons_append, List.nil_append, nI_add, nI_addL, nI_Ladd, pk_mul, nI_mulL, nI_Lmul, nI_subL, pk_sub, nI_divL, sub_dm, nI_leE, nI_ltE, nI_eqE, nI_Lle, nI_leL, nI_Llt, nI_ltL, nI_eqL, va_up_self, va_up_ne, up_up, up_comm, nI_clamp, bI_eq0, not_true_eq_false, not_false_eq_true, Nat.reduceEqDiff, Nat.reduceLeDiff, Nat.reduceAdd, Nat.reduceMul, Nat.one_ne_zero, Nat.zero_ne_one, decide_eq_false_iff_not, decide_eq_true_eq, Bool.false_eq_true, decide_true, decide_false, bI_true, bI_false, one_ne, Nat.le_refl, Nat.lt_irrefl, cleT, cleF, cltT, cltF, ceqT, ceqF, ↓reduceIte, r250_67, r250_68, r250_69, r250_72, r250_73, r250_76, r250_79, r250_80, r250_83, r250_84, r250_87, r250_88, r250_91, r250_93, r250_96, r250_98, r250_101, r250_104, r250_105, r250_108, r250_109, r250_112, r250_114, r250_117, r250_119, r250_122, r250_125, r250_126, r250_129, r250_130, r250_132, r250_134, r250_137, r250_138, r250_139, r250_142, r250_144, r250_147, r250_148, r250_149, r250_152, r250_153, r250_156, r250_158, r250_161, r250_164, r250_166, r250_168, r250_171, zO81_23, hL, sh1, b1, b2, rc, c2, show nI 0 = (0 : Int32) from rfl]
          exact hr _
        · simp only [c1, c2, decide_true, decide_false, Bool.and_false, Bool.false_eq_true, ↓reduceIte] at hr
          simp (disch := first | omega | assumption | exact Or.inl rfl | exact Or.inr rfl | exact bI_or _ | exact zC81 | exact zC47 | exact zC65 | exact zC0 | exact zC1 | exact zC32 | exact zC70 | exact zC73 | exact ztc (by assumption) | exact zdc (by assumption) | exact zpc (by assumption) | decide) only [Option.some.injEq, exists_eq_left', ex2, Option.toList, List.singleton_append, List.append_nil, List.cons_append, List.nil_append, nI_add, nI_addL, nI_Ladd, pk_mul, nI_mulL, nI_Lmul, nI_subL, pk_sub, nI_divL, sub_dm, nI_leE, nI_ltE, nI_eqE, nI_Lle, nI_leL, nI_Llt, nI_ltL, nI_eqL, va_up_self, va_up_ne, up_up, up_comm, nI_clamp, bI_eq0, not_true_eq_false, not_false_eq_true, Nat.reduceEqDiff, Nat.reduceLeDiff, Nat.reduceAdd, Nat.reduceMul, Nat.one_ne_zero, Nat.zero_ne_one, decide_eq_false_iff_not, decide_eq_true_eq, Bool.false_eq_true, decide_true, decide_false, bI_true, bI_false, one_ne, Nat.le_refl, Nat.lt_irrefl, cleT, cleF, cltT, cltF, ceqT, ceqF, ↓reduceIte, r250_67, r250_68, r250_69, r250_72, r250_73, r250_76, r250_79, r250_80, r250_83, r250_84, r250_87, r250_88, r250_91, r250_93, r250_96, r250_98, r250_101, r250_104, r250_105, r250_108, r250_109, r250_112, r250_114, r250_117, r250_119, r250_122, r250_125, r250_126, r250_129, r250_130, r250_132, r250_134, r250_137, r250_138, r250_139, r250_142, r250_144, r250_147, r250_148, r250_149, r250_152, r250_153, r250_156, r250_158, r250_161, r250_164, r250_166, r250_168, r250_171, zO81_23, hL, sh1, b1, b2, rc, c2, show nI 0 = (0 : Int32) from rfl]
          exact hr _
      · simp only [c1, decide_false, Bool.false_and, Bool.false_eq_true, ↓reduceIte] at hr
        simp (disch := first | omega | assumption | exact Or.inl rfl | exact Or.inr rfl | exact bI_or _ | exact zC81 | exact zC47 | exact zC65 | exact zC0 | exact zC1 | exact zC32 | exact zC70 | exact zC73 | exact ztc (by assumption) | exact zdc (by assumption) | exact zpc (by assumption) | decide) only [Option.some.injEq, exists_eq_left', ex2, Option.toList, List.singleton_append, List.append_nil, List.cons_append, List.nil_append, nI_add, nI_addL, nI_Ladd, pk_mul, nI_mulL, nI_Lmul, nI_subL, pk_sub, nI_divL, sub_dm, nI_leE, nI_ltE, nI_eqE, nI_Lle, nI_leL, nI_Llt, nI_ltL, nI_eqL, va_up_self, va_up_ne, up_up, up_comm, nI_clamp, bI_eq0, not_true_eq_false, not_false_eq_true, Nat.reduceEqDiff, Nat.reduceLeDiff, Nat.reduceAdd, Nat.reduceMul, Nat.one_ne_zero, Nat.zero_ne_one, decide_eq_false_iff_not, decide_eq_true_eq, Bool.false_eq_true, decide_true, decide_false, bI_true, bI_false, one_ne, Nat.le_refl, Nat.lt_irrefl, cleT, cleF, cltT, cltF, ceqT, ceqF, ↓reduceIte, r250_67, r250_68, r250_69, r250_72, r250_73, r250_76, r250_79, r250_80, r250_83, r250_84, r250_87, r250_88, r250_91, r250_93, r250_96, r250_98, r250_101, r250_104, r250_105, r250_108, r250_109, r250_112, r250_114, r250_117, r250_119, r250_122, r250_125, r250_126, r250_129, r250_130, r250_132, r250_134, r250_137, r250_138, r250_139, r250_142, r250_144, r250_147, r250_148, r250_149, r250_152, r250_153, r250_156, r250_158, r250_161, r250_164, r250_166, r250_168, r250_171, zO81_23, hL, sh1, b1, b2, show nI 0 = (0 : Int32) from rfl]
        exact hr _
    · intro l6
      rw [r250_65]
      simp (disch := first | omega | assumption | exact Or.inl rfl | exact Or.inr rfl | exact bI_or _ | exact zC81 | exact zC47 | exact zC65 | exact zC0 | exact zC1 | exact zC32 | exact zC70 | exact zC73 | exact ztc (by assumption) | exact zdc (by assumption) | exact zpc (by assumption) | decide) only [Option.some.injEq, exists_eq_left', ex2, Option.toList, List.singleton_append, List.append_nil, List.cons_append, List.nil_append, nI_add, nI_addL, nI_Ladd, pk_mul, nI_mulL, nI_Lmul, nI_subL, pk_sub, nI_divL, sub_dm, nI_leE, nI_ltE, nI_eqE, nI_Lle, nI_leL, nI_Llt, nI_ltL, nI_eqL, va_up_self, va_up_ne, up_up, up_comm, nI_clamp, bI_eq0, not_true_eq_false, not_false_eq_true, Nat.reduceEqDiff, Nat.reduceLeDiff, Nat.reduceAdd, Nat.reduceMul, Nat.one_ne_zero, Nat.zero_ne_one, decide_eq_false_iff_not, decide_eq_true_eq, Bool.false_eq_true, decide_true, decide_false, bI_true, bI_false, one_ne, Nat.le_refl, Nat.lt_irrefl, cleT, cleF, cltT, cltF, ceqT, ceqF, ↓reduceIte, r250_67, r250_68, r250_69, r250_72, r250_73, r250_76, r250_79, r250_80, r250_83, r250_84, r250_174, r250_176, zO81_23, hL, sh1, show nI 0 = (0 : Int32) from rfl]
  · rw [if_neg (by decide)]
    have B : ∀ i, i ≤ 2 ^ N → it (fun set best => if (decide (bc set < bc best) && decide (csR (s 88) N L (2 ^ L - 1) set = 0)) = true then set else best) i b0 < 2 ^ N := by
      refine it_inv (fun _ b => b < 2 ^ N) hb ?_
      intro i b hi hb
      split
      · exact hi
      · exact hb
    refine dn_loop (P := fun i => ∀ l6, Runs xs sl (d+2) 250 65 [some (.ref (81)), l1, some (.int ( nI 1)), some (.int ( nI (2 ^ L - 1))), some (.int ( nI (it (fun set best => if (decide (bc set < bc best) && decide (csR (s 88) N L (2 ^ L - 1) set = 0)) = true then set else best) i b0))), some (.int ( nI i)), l6] [] (hp J (s) g) _) (2 ^ N) ?_ ?_ none
    · intro i hi hr l6
      rw [r250_65]
      have b := B i (by omega)
      rw [it] at hr
      generalize it (fun set best => if (decide (bc set < bc best) && decide (csR (s 88) N L (2 ^ L - 1) set = 0)) = true then set else best) i b0 = be at *
      have b1 := @rf_bitsOf xs sl (d + 1) J s g i (by omega)
      have b2 := @rf_bitsOf xs sl (d + 1) J s g be (by omega)
      have l1' := @bc_le i
      have l2 := @bc_le be
      have cl := @csR_le (s 88) N L (2 ^ L - 1) i
      have cl2 : L * L ≤ 64 := Nat.mul_le_mul hL8 hL8
      have rc := @rf_clashes xs sl d J s g t0 N h L (2 ^ L - 1) i hT hL hL8 (by omega) (by omega)
      by_cases c1 : bc i < bc be
      · by_cases c2 : csR (s 88) N L (2 ^ L - 1) i = 0
        · simp only [c1, c2, decide_true, Bool.and_self, ↓reduceIte] at hr
          simp (disch := first | omega | assumption | exact Or.inl rfl | exact Or.inr rfl | exact bI_or _ | exact zC81 | exact zC47 | exact zC65 | exact zC0 | exact zC1 | exact zC32 | exact zC70 | exact zC73 | exact ztc (by assumption) | exact zdc (by assumption) | exact zpc (by assumption) | decide) only [Option.some.injEq, exists_eq_left', ex2, Option.toList, List.singleton_append, List.append_nil, List.cons_append, List.nil_append, nI_add, nI_addL, nI_Ladd, pk_mul, nI_mulL, nI_Lmul, nI_subL, pk_sub, nI_divL, sub_dm, nI_leE, nI_ltE, nI_eqE, nI_Lle, nI_leL, nI_Llt, nI_ltL, nI_eqL, va_up_self, va_up_ne, up_up, up_comm, nI_clamp, bI_eq0, not_true_eq_false, not_false_eq_true, Nat.reduceEqDiff, Nat.reduceLeDiff, Nat.reduceAdd, Nat.reduceMul, Nat.one_ne_zero, Nat.zero_ne_one, decide_eq_false_iff_not, decide_eq_true_eq, Bool.false_eq_true, decide_true, decide_false, bI_true, bI_false, one_ne, Nat.le_refl, Nat.lt_irrefl, cleT, cleF, cltT, cltF, ceqT, ceqF, ↓reduceIte, r250_67, r250_68, r250_69, r250_72, r250_73, r250_76, r250_79, r250_80, r250_83, r250_84, r250_87, r250_88, r250_91, r250_93, r250_96, r250_98, r250_101, r250_104, r250_105, r250_108, r250_109, r250_112, r250_114, r250_117, r250_119, r250_122, r250_125, r250_126, r250_129, r250_130, r250_132, r250_134, r250_137, r250_138, r250_139, r250_142, r250_144, r250_147, r250_148, r250_149, r250_152, r250_153, r250_156, r250_158, r250_161, r250_164, r250_166, r250_168, r250_171, zO81_13, h13, sh1, b1, b2, rc, c2]
          exact hr _
        · simp only [c1, c2, decide_true, decide_false, Bool.and_false, Bool.false_eq_true, ↓reduceIte] at hr
          simp (disch := first | omega | assumption | exact Or.inl rfl | exact Or.inr rfl | exact bI_or _ | exact zC81 | exact zC47 | exact zC65 | exact zC0 | exact zC1 | exact zC32 | exact zC70 | exact zC73 | exact ztc (by assumption) | exact zdc (by assumption) | exact zpc (by assumption) | decide) only [Option.some.injEq, exists_eq_left', ex2, Option.toList, List.singleton_append, List.append_nil, List.cons_append, List.nil_append, nI_add, nI_addL, nI_Ladd, pk_mul, nI_mulL, nI_Lmul, nI_subL, pk_sub, nI_divL, sub_dm, nI_leE, nI_ltE, nI_eqE, nI_Lle, nI_leL, nI_Llt, nI_ltL, nI_eqL, va_up_self, va_up_ne, up_up, up_comm, nI_clamp, bI_eq0, not_true_eq_false, not_false_eq_true, Nat.reduceEqDiff, Nat.reduceLeDiff, Nat.reduceAdd, Nat.reduceMul, Nat.one_ne_zero, Nat.zero_ne_one, decide_eq_false_iff_not, decide_eq_true_eq, Bool.false_eq_true, decide_true, decide_false, bI_true, bI_false, one_ne, Nat.le_refl, Nat.lt_irrefl, cleT, cleF, cltT, cltF, ceqT, ceqF, ↓reduceIte, r250_67, r250_68, r250_69, r250_72, r250_73, r250_76, r250_79, r250_80, r250_83, r250_84, r250_87, r250_88, r250_91, r250_93, r250_96, r250_98, r250_101, r250_104, r250_105, r250_108, r250_109, r250_112, r250_114, r250_117, r250_119, r250_122, r250_125, r250_126, r250_129, r250_130, r250_132, r250_134, r250_137, r250_138, r250_139, r250_142, r250_144, r250_147, r250_148, r250_149, r250_152, r250_153, r250_156, r250_158, r250_161, r250_164, r250_166, r250_168, r250_171, zO81_13, h13, sh1, b1, b2, rc, c2]
          exact hr _
      · simp only [c1, decide_false, Bool.false_and, Bool.false_eq_true, ↓reduceIte] at hr
        simp (disch := first | omega | assumption | exact Or.inl rfl | exact Or.inr rfl | exact bI_or _ | exact zC81 | exact zC47 | exact zC65 | exact zC0 | exact zC1 | exact zC32 | exact zC70 | exact zC73 | exact ztc (by assumption) | exact zdc (by assumption) | exact zpc (by assumption) | decide) only [Option.some.injEq, exists_eq_left', ex2, Option.toList, List.singleton_append, List.append_nil, List.cons_append, List.nil_append, nI_add, nI_addL, nI_Ladd, pk_mul, nI_mulL, nI_Lmul, nI_subL, pk_sub, nI_divL, sub_dm, nI_leE, nI_ltE, nI_eqE, nI_Lle, nI_leL, nI_Llt, nI_ltL, nI_eqL, va_up_self, va_up_ne, up_up, up_comm, nI_clamp, bI_eq0, not_true_eq_false, not_false_eq_true, Nat.reduceEqDiff, Nat.reduceLeDiff, Nat.reduceAdd, Nat.reduceMul, Nat.one_ne_zero, Nat.zero_ne_one, decide_eq_false_iff_not, decide_eq_true_eq, Bool.false_eq_true, decide_true, decide_false, bI_true, bI_false, one_ne, Nat.le_refl, Nat.lt_irrefl, cleT, cleF, cltT, cltF, ceqT, ceqF, ↓reduceIte, r250_67, r250_68, r250_69, r250_72, r250_73, r250_76, r250_79, r250_80, r250_83, r250_84, r250_87, r250_88, r250_91, r250_93, r250_96, r250_98, r250_101, r250_104, r250_105, r250_108, r250_109, r250_112, r250_114, r250_117, r250_119, r250_122, r250_125, r250_126, r250_129, r250_130, r250_132, r250_134, r250_137, r250_138, r250_139, r250_142, r250_144, r250_147, r250_148, r250_149, r250_152, r250_153, r250_156, r250_158, r250_161, r250_164, r250_166, r250_168, r250_171, zO81_13, h13, sh1, b1, b2]
        exact hr _
    · intro l6
      rw [r250_65]
      simp (disch := first | omega | assumption | exact Or.inl rfl | exact Or.inr rfl | exact bI_or _ | exact zC81 | exact zC47 | exact zC65 | exact zC0 | exact zC1 | exact zC32 | exact zC70 | exact zC73 | exact ztc (by assumption) | exact zdc (by assumption) | exact zpc (by assumption) | decide) only [Option.some.injEq, exists_eq_left', ex2, Option.toList, List.singleton_append, List.append_nil, List.cons_append, List.nil_append, nI_add, nI_addL, nI_Ladd, pk_mul, nI_mulL, nI_Lmul, nI_subL, pk_sub, nI_divL, sub_dm, nI_leE, nI_ltE, nI_eqE, nI_Lle, nI_leL, nI_Llt, nI_ltL, nI_eqL, va_up_self, va_up_ne, up_up, up_comm, nI_clamp, bI_eq0, not_true_eq_false, not_false_eq_true, Nat.reduceEqDiff, Nat.reduceLeDiff, Nat.reduceAdd, Nat.reduceMul, Nat.one_ne_zero, Nat.zero_ne_one, decide_eq_false_iff_not, decide_eq_true_eq, Bool.false_eq_true, decide_true, decide_false, bI_true, bI_false, one_ne, Nat.le_refl, Nat.lt_irrefl, cleT, cleF, cltT, cltF, ceqT, ceqF, ↓reduceIte, r250_67, r250_68, r250_69, r250_72, r250_73, r250_76, r250_79, r250_80, r250_83, r250_84, r250_174, r250_176, zO81_13, h13, sh1]
theorem pm_agree (hI : ToldR s (s 82)) (p q : Int32) : Same xs sl J s g 18 250 [some (.ref 0), some (.int p), some (.int q), none] [some (.ref 81), some (.int p), some (.int q), none, none, none, none] := by
  obtain ⟨c0, c1, c2, len, ⟨q0, q0', q0''⟩, -, -, -, -, -, hT, -, -⟩ := hI
  rcases has_cases p (n := c0) (by omega) with h | ⟨k, hk, rfl⟩
  · refine ⟨.int (-1), s, s, g, ?_, CK_refl s, ?_, RK_refl s⟩
    · simp (disch := first | omega | assumption | exact Or.inl rfl | exact Or.inr rfl | exact bI_or _ | exact zC81 | exact zC47 | exact zC65 | exact zC0 | exact zC1 | exact zC32 | exact zC70 | exact zC73 | exact ztc (by assumption) | exact zdc (by assumption) | exact zpc (by assumption) | decide) only [Option.some.injEq, exists_eq_left', ex2, Option.toList, List.singleton_append, List.append_nil, List.cons_append, List.nil_append, nI_add, nI_addL, nI_Ladd, pk_mul, nI_mulL, nI_Lmul, nI_subL, pk_sub, nI_divL, sub_dm, nI_leE, nI_ltE, nI_eqE, nI_Lle, nI_leL, nI_Llt, nI_ltL, nI_eqL, va_up_self, va_up_ne, up_up, up_comm, nI_clamp, bI_eq0, not_true_eq_false, not_false_eq_true, Nat.reduceEqDiff, Nat.reduceLeDiff, Nat.reduceAdd, Nat.reduceMul, Nat.one_ne_zero, Nat.zero_ne_one, decide_eq_false_iff_not, decide_eq_true_eq, Bool.false_eq_true, decide_true, decide_false, bI_true, bI_false, one_ne, Nat.le_refl, Nat.lt_irrefl, cleT, cleF, cltT, cltF, ceqT, ceqF, ↓reduceIte, r18_0, r18_1, r18_2, r18_5, r18_5n, r18_6, r18_6n, r18_7, r18_7n, r18_10, r18_11, br_townNo q0 h]
    · simp (disch := first | omega | assumption | exact Or.inl rfl | exact Or.inr rfl | exact bI_or _ | exact zC81 | exact zC47 | exact zC65 | exact zC0 | exact zC1 | exact zC32 | exact zC70 | exact zC73 | exact ztc (by assumption) | exact zdc (by assumption) | exact zpc (by assumption) | decide) only [Option.some.injEq, exists_eq_left', ex2, Option.toList, List.singleton_append, List.append_nil, List.cons_append, List.nil_append, nI_add, nI_addL, nI_Ladd, pk_mul, nI_mulL, nI_Lmul, nI_subL, pk_sub, nI_divL, sub_dm, nI_leE, nI_ltE, nI_eqE, nI_Lle, nI_leL, nI_Llt, nI_ltL, nI_eqL, va_up_self, va_up_ne, up_up, up_comm, nI_clamp, bI_eq0, not_true_eq_false, not_false_eq_true, Nat.reduceEqDiff, Nat.reduceLeDiff, Nat.reduceAdd, Nat.reduceMul, Nat.one_ne_zero, Nat.zero_ne_one, decide_eq_false_iff_not, decide_eq_true_eq, Bool.false_eq_true, decide_true, decide_false, bI_true, bI_false, one_ne, Nat.le_refl, Nat.lt_irrefl, cleT, cleF, cltT, cltF, ceqT, ceqF, ↓reduceIte, r250_0, r250_1, r250_2, r250_5, r250_8, r250_9, r250_10, r250_11, r250_14, r250_17, r250_18, rf_townNo q0' q0'' h]
  · obtain ⟨n, li, h, sa, c, hQ⟩ := hT k hk
    have hR := rTown_rT (s := s) (by omega) hQ
    have hiT := isT_of (k := k) (by omega)
    have n6 := hQ.1.2.2.2
    have c8 := hQ.2.2.2.2.1.2.2
    have cb := @CB_run xs sl 994 J s g (s 82) (7 + 12 * k) _ n li h sa c hiT (by omega) hQ
    obtain ⟨hC, lC⟩ := CB_CI hiT (by omega) hQ
    have SB := fun (y : hS) (hy : y 82 = s 82) => begin_SR (y := y) hQ hy
    have vv := CB_VV hQ
    generalize hX : CB s (7 + 12 * k) n sa c = X at *
    have x1 : X 47 1 = nI c := by rw [hC.2.1, lC]
    have x82 : X 82 = s 82 := hC.2.2.2 82 (by omega)
    have e1 : f_isIn q 0 2 = f_has q (nI 3) := isIn2 (n := 2) (by decide)
    rcases has_cases q (n := 3) (by decide) with hq | ⟨w, hw, rfl⟩
    · rw [hq] at e1
      have g0 : X 82 0 = nI c0 := by rw [x82]; exact q0'
      refine ⟨.int (-1), X, rTown X k, g, ?_, CI_CK hC, ?_, rTown_RK k⟩
      · have dd : q.toInt < 0 ∨ 2 < q.toInt := by
          rcases has_none hq with q1 | ⟨q1, q2⟩
          · left
            rw [Int32.lt_iff_toInt_lt] at q1
            exact q1
          · right
            rw [Int32.le_iff_toInt_le] at q2
            have z3 : (nI 3).toInt = 3 := rfl
            omega
        simp (disch := first | omega | assumption | exact Or.inl rfl | exact Or.inr rfl | exact bI_or _ | exact zC81 | exact zC47 | exact zC65 | exact zC0 | exact zC1 | exact zC32 | exact zC70 | exact zC73 | exact ztc (by assumption) | exact zdc (by assumption) | exact zpc (by assumption) | decide) only [Option.some.injEq, exists_eq_left', ex2, Option.toList, List.singleton_append, List.append_nil, List.cons_append, List.nil_append, nI_add, nI_addL, nI_Ladd, pk_mul, nI_mulL, nI_Lmul, nI_subL, pk_sub, nI_divL, sub_dm, nI_leE, nI_ltE, nI_eqE, nI_Lle, nI_leL, nI_Llt, nI_ltL, nI_eqL, va_up_self, va_up_ne, up_up, up_comm, nI_clamp, bI_eq0, not_true_eq_false, not_false_eq_true, Nat.reduceEqDiff, Nat.reduceLeDiff, Nat.reduceAdd, Nat.reduceMul, Nat.one_ne_zero, Nat.zero_ne_one, decide_eq_false_iff_not, decide_eq_true_eq, Bool.false_eq_true, decide_true, decide_false, bI_true, bI_false, one_ne, Nat.le_refl, Nat.lt_irrefl, cleT, cleF, cltT, cltF, ceqT, ceqF, ↓reduceIte, r18_0, r18_1, r18_2, r18_5, r18_5n, r18_6, r18_6n, r18_7, r18_7n, r18_10, r18_11, r18_12, r18_13, r18_16, r18_16n, r18_17, r18_20, r18_48, r18_49, r18_52, r18_55, r18_56, r18_57, r18_60, r18_63, r18_64, r18_65, r18_68, r18_71, r18_72, r18_73, br_townAt q0 q0'' hk, zO0_3, cb, r18_21_d dd]
      · simp (disch := first | omega | assumption | exact Or.inl rfl | exact Or.inr rfl | exact bI_or _ | exact zC81 | exact zC47 | exact zC65 | exact zC0 | exact zC1 | exact zC32 | exact zC70 | exact zC73 | exact ztc (by assumption) | exact zdc (by assumption) | exact zpc (by assumption) | decide) only [Option.some.injEq, exists_eq_left', ex2, Option.toList, List.singleton_append, List.append_nil, List.cons_append, List.nil_append, nI_add, nI_addL, nI_Ladd, pk_mul, nI_mulL, nI_Lmul, nI_subL, pk_sub, nI_divL, sub_dm, nI_leE, nI_ltE, nI_eqE, nI_Lle, nI_leL, nI_Llt, nI_ltL, nI_eqL, va_up_self, va_up_ne, up_up, up_comm, nI_clamp, bI_eq0, not_true_eq_false, not_false_eq_true, Nat.reduceEqDiff, Nat.reduceLeDiff, Nat.reduceAdd, Nat.reduceMul, Nat.one_ne_zero, Nat.zero_ne_one, decide_eq_false_iff_not, decide_eq_true_eq, Bool.false_eq_true, decide_true, decide_false, bI_true, bI_false, one_ne, Nat.le_refl, Nat.lt_irrefl, cleT, cleF, cltT, cltF, ceqT, ceqF, ↓reduceIte, r250_0, r250_1, r250_2, r250_5, r250_8, r250_9, r250_10, r250_11, r250_14, r250_17, r250_18, rf_isTown g0 q0'' hk, rf_isInE, e1]
    rw [f_has_nI (by omega) (by decide), decide_eq_true hw] at e1
    have key : ∀ (x1 : hS), (∀ j, j ≠ 64 → x1 j = X j) → x1 82 0 = nI c0 ∧ ∃ Y, Runs xs sl (998) 214 0 [some (.ref (81)), none] [] (hp J (rTown x1 k) g) (none, hp J Y g) ∧ (∀ {r : Option Value × mH}, Runs xs sl (997+1) 204 0 [some (.ref (81)), some (.int ( nI k))] [] (hp J (x1) g) r ↔ r = (some (.int 1), hp J (rTown x1 k) g)) ∧ rT Y (610 + 129 * k) n h ∧ Y 81 23 = nI c ∧ RK x1 Y ∧ ∀ l t, l < c → t < n → X 57 (6 * l + t) = Y 88 (6 * l + t) := by
      intro x1 hx1
      have y82 : x1 82 = s 82 := (hx1 82 (by decide)).trans x82
      have hQ1 : TownQ s (x1 82) (7 + 12 * k) (610 + 129 * k) n li h sa c := by rw [y82]; exact hQ
      have hR1 := rTown_rT (s := x1) (by omega) hQ1
      have g0 : x1 82 0 = nI c0 := by rw [y82]; exact q0'
      have g82 : rTown x1 k 82 = s 82 := ((rTown_RK k).1 82 (by omega)).trans y82
      have hQ3 : TownQ s (rTown x1 k 82) (7 + 12 * k) (610 + 129 * k) n li h sa c := by rw [g82]; exact hQ
      have rb := @RB_run xs sl 995 J (rTown x1 k) g s (7 + 12 * k) (610 + 129 * k) n li h sa c hR1 hQ3
      obtain ⟨r1, r2, r3⟩ := RB_RI hR1 hQ3
      have hS := SB (rTown x1 k) g82
      refine ⟨g0, _, rb.mpr rfl, rf_isTown g0 q0'' hk, r1.1, ?_, RK_trans (rTown_RK k) (RI_RK r1), hS.2.2.1⟩
      rw [r1.2.1, r2]
    have p8 := pw8 c8
    have pc0 : 0 < 2 ^ c := Nat.pow_pos (by decide)
    have pn8 : 2 ^ n ≤ 256 := pw8 (by omega)
    have pn0 : 0 < 2 ^ n := Nat.pow_pos (by decide)
    have h3 : w = 0 ∨ w = 1 ∨ w = 2 := by omega
    rcases h3 with rfl | rfl | rfl
    · obtain ⟨x2, f1, f2⟩ := @sc_together xs sl 996 J X g (7 + 12 * k) n h c hC.1 x1 c8
      obtain ⟨g0, Y, w1, w2, w3, w4, w5, w6⟩ := key x2 f1
      have lp := @rf_agreeLoop xs sl 997 J Y g (610 + 129 * k) n h c 0 c 0 (some (.int (nI k))) w3 w4 c8 (Or.inl ⟨rfl, rfl⟩) pc0
      rw [if_pos rfl] at lp
      have ee : it (fun set best => if (decide (bc best < bc set) && decide (csR (Y 88) n c set 0 = 0)) = true then set else best) (2 ^ c) 0 = tgF (pcF (X 57) n c) (2 ^ c) := by
        refine it_congr (fun set b hs => ?_)
        rw [← csR_congr w6]
        have q := pcF_iff vv.1 hs
        cases e : pcF (X 57) n c set
        · rw [decide_eq_false (p := csR (X 57) n c set 0 = 0) (fun z => by rw [q.mpr z] at e; cases e)]
        · rw [decide_eq_true (p := csR (X 57) n c set 0 = 0) (q.mp e)]
      rw [ee] at lp
      refine ⟨.int (nI (tgF (pcF (X 57) n c) (2 ^ c))), x2, Y, g, ?_, CK_trans (CI_CK hC) (fun j hj => f1 j (by omega)), ?_, w5⟩
      · simp (disch := first | omega | assumption | exact Or.inl rfl | exact Or.inr rfl | exact bI_or _ | exact zC81 | exact zC47 | exact zC65 | exact zC0 | exact zC1 | exact zC32 | exact zC70 | exact zC73 | exact ztc (by assumption) | exact zdc (by assumption) | exact zpc (by assumption) | decide) only [Option.some.injEq, exists_eq_left', ex2, Option.toList, List.singleton_append, List.append_nil, List.cons_append, List.nil_append, nI_add, nI_addL, nI_Ladd, pk_mul, nI_mulL, nI_Lmul, nI_subL, pk_sub, nI_divL, sub_dm, nI_leE, nI_ltE, nI_eqE, nI_Lle, nI_leL, nI_Llt, nI_ltL, nI_eqL, va_up_self, va_up_ne, up_up, up_comm, nI_clamp, bI_eq0, not_true_eq_false, not_false_eq_true, Nat.reduceEqDiff, Nat.reduceLeDiff, Nat.reduceAdd, Nat.reduceMul, Nat.one_ne_zero, Nat.zero_ne_one, decide_eq_false_iff_not, decide_eq_true_eq, Bool.false_eq_true, decide_true, decide_false, bI_true, bI_false, one_ne, Nat.le_refl, Nat.lt_irrefl, cleT, cleF, cltT, cltF, ceqT, ceqF, ↓reduceIte, r18_0, r18_1, r18_2, r18_5, r18_5n, r18_6, r18_6n, r18_7, r18_7n, r18_10, r18_11, r18_12, r18_13, r18_16, r18_16n, r18_17, r18_20, r18_48, r18_49, r18_52, r18_55, r18_56, r18_57, r18_60, r18_63, r18_64, r18_65, r18_68, r18_71, r18_72, r18_73, br_townAt q0 q0'' hk, zO0_3, cb, show nI 0 = (0 : Int32) from rfl, r18_21_c0, f2.iff]
      · simp (disch := first | omega | assumption | exact Or.inl rfl | exact Or.inr rfl | exact bI_or _ | exact zC81 | exact zC47 | exact zC65 | exact zC0 | exact zC1 | exact zC32 | exact zC70 | exact zC73 | exact ztc (by assumption) | exact zdc (by assumption) | exact zpc (by assumption) | decide) only [Option.some.injEq, exists_eq_left', ex2, Option.toList, List.singleton_append, List.append_nil, List.cons_append, List.nil_append, nI_add, nI_addL, nI_Ladd, pk_mul, nI_mulL, nI_Lmul, nI_subL, pk_sub, nI_divL, sub_dm, nI_leE, nI_ltE, nI_eqE, nI_Lle, nI_leL, nI_Llt, nI_ltL, nI_eqL, va_up_self, va_up_ne, up_up, up_comm, nI_clamp, bI_eq0, not_true_eq_false, not_false_eq_true, Nat.reduceEqDiff, Nat.reduceLeDiff, Nat.reduceAdd, Nat.reduceMul, Nat.one_ne_zero, Nat.zero_ne_one, decide_eq_false_iff_not, decide_eq_true_eq, Bool.false_eq_true, decide_true, decide_false, bI_true, bI_false, one_ne, Nat.le_refl, Nat.lt_irrefl, cleT, cleF, cltT, cltF, ceqT, ceqF, ↓reduceIte, r250_0, r250_1, r250_2, r250_5, r250_8, r250_9, r250_10, r250_11, r250_14, r250_17, r250_18, r250_19, r250_20, r250_23, r250_24, r250_25, r250_28, r250_29, r250_30, r250_31, r250_32, r250_33, r250_34, r250_37, r250_38, r250_39, r250_40, r250_43, r250_44, r250_45, r250_48, r250_49, r250_52, r250_53, r250_54, r250_57, r250_58, r250_59, r250_60, r250_62, r250_63, w2, rf_isInE, e1, w1.iff, zO81_23, w4, sh1]
        exact lp
    · have st := @sc_strike xs sl 996 J X g (7 + 12 * k) n h c hC.1 x1 c8
      obtain ⟨g0, Y, w1, w2, w3, w4, w5, w6⟩ := key X (fun j _ => rfl)
      have h13 := w3.2.2.1
      have lp := @rf_agreeLoop xs sl 997 J Y g (610 + 129 * k) n h c 1 n (2 ^ n - 1) (some (.int (nI k))) w3 w4 c8 (Or.inr ⟨rfl, rfl⟩) (by omega)
      rw [if_neg (by decide)] at lp
      have ee : it (fun set best => if (decide (bc set < bc best) && decide (csR (Y 88) n c (2 ^ c - 1) set = 0)) = true then set else best) (2 ^ n) (2 ^ n - 1) = splF (X 57) c n := by
        rw [← stk_eq vv.1 n6]
        refine it_congr (fun set b hs => ?_)
        rw [← csR_congr w6]
      rw [ee] at lp
      refine ⟨.int (nI (splF (X 57) c n)), X, Y, g, ?_, CI_CK hC, ?_, w5⟩
      · simp (disch := first | omega | assumption | exact Or.inl rfl | exact Or.inr rfl | exact bI_or _ | exact zC81 | exact zC47 | exact zC65 | exact zC0 | exact zC1 | exact zC32 | exact zC70 | exact zC73 | exact ztc (by assumption) | exact zdc (by assumption) | exact zpc (by assumption) | decide) only [Option.some.injEq, exists_eq_left', ex2, Option.toList, List.singleton_append, List.append_nil, List.cons_append, List.nil_append, nI_add, nI_addL, nI_Ladd, pk_mul, nI_mulL, nI_Lmul, nI_subL, pk_sub, nI_divL, sub_dm, nI_leE, nI_ltE, nI_eqE, nI_Lle, nI_leL, nI_Llt, nI_ltL, nI_eqL, va_up_self, va_up_ne, up_up, up_comm, nI_clamp, bI_eq0, not_true_eq_false, not_false_eq_true, Nat.reduceEqDiff, Nat.reduceLeDiff, Nat.reduceAdd, Nat.reduceMul, Nat.one_ne_zero, Nat.zero_ne_one, decide_eq_false_iff_not, decide_eq_true_eq, Bool.false_eq_true, decide_true, decide_false, bI_true, bI_false, one_ne, Nat.le_refl, Nat.lt_irrefl, cleT, cleF, cltT, cltF, ceqT, ceqF, ↓reduceIte, r18_0, r18_1, r18_2, r18_5, r18_5n, r18_6, r18_6n, r18_7, r18_7n, r18_10, r18_11, r18_12, r18_13, r18_16, r18_16n, r18_17, r18_20, r18_48, r18_49, r18_52, r18_55, r18_56, r18_57, r18_60, r18_63, r18_64, r18_65, r18_68, r18_71, r18_72, r18_73, br_townAt q0 q0'' hk, zO0_3, cb, show nI 1 = (1 : Int32) from rfl, r18_21_c1, st]
      · simp (disch := first | omega | assumption | exact Or.inl rfl | exact Or.inr rfl | exact bI_or _ | exact zC81 | exact zC47 | exact zC65 | exact zC0 | exact zC1 | exact zC32 | exact zC70 | exact zC73 | exact ztc (by assumption) | exact zdc (by assumption) | exact zpc (by assumption) | decide) only [Option.some.injEq, exists_eq_left', ex2, Option.toList, List.singleton_append, List.append_nil, List.cons_append, List.nil_append, nI_add, nI_addL, nI_Ladd, pk_mul, nI_mulL, nI_Lmul, nI_subL, pk_sub, nI_divL, sub_dm, nI_leE, nI_ltE, nI_eqE, nI_Lle, nI_leL, nI_Llt, nI_ltL, nI_eqL, va_up_self, va_up_ne, up_up, up_comm, nI_clamp, bI_eq0, not_true_eq_false, not_false_eq_true, Nat.reduceEqDiff, Nat.reduceLeDiff, Nat.reduceAdd, Nat.reduceMul, Nat.one_ne_zero, Nat.zero_ne_one, decide_eq_false_iff_not, decide_eq_true_eq, Bool.false_eq_true, decide_true, decide_false, bI_true, bI_false, one_ne, Nat.le_refl, Nat.lt_irrefl, cleT, cleF, cltT, cltF, ceqT, ceqF, ↓reduceIte, r250_0, r250_1, r250_2, r250_5, r250_8, r250_9, r250_10, r250_11, r250_14, r250_17, r250_18, r250_19, r250_20, r250_23, r250_24, r250_25, r250_28, r250_29, r250_30, r250_31, r250_32, r250_33, r250_34, r250_37, r250_38, r250_39, r250_40, r250_43, r250_44, r250_45, r250_48, r250_49, r250_52, r250_53, r250_54, r250_57, r250_58, r250_59, r250_60, r250_62, r250_63, w2, rf_isInE, e1, w1.iff, zO81_13, zO81_23, h13, w4, sh1]
        exact lp
    · obtain ⟨x2, f1, f2⟩ := @sc_clashes xs sl 996 J X g (7 + 12 * k) n h c hC.1 x1 c8
      obtain ⟨g0, Y, w1, w2, w3, w4, w5, w6⟩ := key x2 f1
      have rc := @rf_clashes xs sl 997 J Y g (610 + 129 * k) n h c (2 ^ c - 1) 0 w3 w4 c8 (by omega) (by decide)
      simp only [show nI 0 = (0 : Int32) from rfl] at rc
      rw [← csR_congr w6, ← cs_whole vv.1 c8] at rc
      refine ⟨.int (nI (sumN (fun l => bc (foF (X 57) n c l)) c / 2)), x2, Y, g, ?_, CK_trans (CI_CK hC) (fun j hj => f1 j (by omega)), ?_, w5⟩
      · simp (disch := first | omega | assumption | exact Or.inl rfl | exact Or.inr rfl | exact bI_or _ | exact zC81 | exact zC47 | exact zC65 | exact zC0 | exact zC1 | exact zC32 | exact zC70 | exact zC73 | exact ztc (by assumption) | exact zdc (by assumption) | exact zpc (by assumption) | decide) only [Option.some.injEq, exists_eq_left', ex2, Option.toList, List.singleton_append, List.append_nil, List.cons_append, List.nil_append, nI_add, nI_addL, nI_Ladd, pk_mul, nI_mulL, nI_Lmul, nI_subL, pk_sub, nI_divL, sub_dm, nI_leE, nI_ltE, nI_eqE, nI_Lle, nI_leL, nI_Llt, nI_ltL, nI_eqL, va_up_self, va_up_ne, up_up, up_comm, nI_clamp, bI_eq0, not_true_eq_false, not_false_eq_true, Nat.reduceEqDiff, Nat.reduceLeDiff, Nat.reduceAdd, Nat.reduceMul, Nat.one_ne_zero, Nat.zero_ne_one, decide_eq_false_iff_not, decide_eq_true_eq, Bool.false_eq_true, decide_true, decide_false, bI_true, bI_false, one_ne, Nat.le_refl, Nat.lt_irrefl, cleT, cleF, cltT, cltF, ceqT, ceqF, ↓reduceIte, r18_0, r18_1, r18_2, r18_5, r18_5n, r18_6, r18_6n, r18_7, r18_7n, r18_10, r18_11, r18_12, r18_13, r18_16, r18_16n, r18_17, r18_20, r18_48, r18_49, r18_52, r18_55, r18_56, r18_57, r18_60, r18_63, r18_64, r18_65, r18_68, r18_71, r18_72, r18_73, br_townAt q0 q0'' hk, zO0_3, cb, show nI 2 = (2 : Int32) from rfl, r18_21_c2, f2.iff]
      · simp (disch := first | omega | assumption | exact Or.inl rfl | exact Or.inr rfl | exact bI_or _ | exact zC81 | exact zC47 | exact zC65 | exact zC0 | exact zC1 | exact zC32 | exact zC70 | exact zC73 | exact ztc (by assumption) | exact zdc (by assumption) | exact zpc (by assumption) | decide) only [Option.some.injEq, exists_eq_left', ex2, Option.toList, List.singleton_append, List.append_nil, List.cons_append, List.nil_append, nI_add, nI_addL, nI_Ladd, pk_mul, nI_mulL, nI_Lmul, nI_subL, pk_sub, nI_divL, sub_dm, nI_leE, nI_ltE, nI_eqE, nI_Lle, nI_leL, nI_Llt, nI_ltL, nI_eqL, va_up_self, va_up_ne, up_up, up_comm, nI_clamp, bI_eq0, not_true_eq_false, not_false_eq_true, Nat.reduceEqDiff, Nat.reduceLeDiff, Nat.reduceAdd, Nat.reduceMul, Nat.one_ne_zero, Nat.zero_ne_one, decide_eq_false_iff_not, decide_eq_true_eq, Bool.false_eq_true, decide_true, decide_false, bI_true, bI_false, one_ne, Nat.le_refl, Nat.lt_irrefl, cleT, cleF, cltT, cltF, ceqT, ceqF, ↓reduceIte, r250_0, r250_1, r250_2, r250_5, r250_8, r250_9, r250_10, r250_11, r250_14, r250_17, r250_18, r250_19, r250_20, r250_23, r250_24, r250_25, r250_28, r250_29, r250_30, r250_31, r250_32, r250_33, r250_34, r250_37, r250_38, r250_39, r250_40, r250_43, w2, rf_isInE, e1, w1.iff, zO81_23, w4, sh1, rc]
end AGE
