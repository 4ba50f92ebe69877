/-! TEXT: the reference's line of days -/
section TXU
variable {xs : Nat → Int32} {sl d : Nat} {J : hJk} {s x y : hS} {g : hG}
def rwD (v D : Nat) (a : Nat → Nat) (f : Nat → Int32) : Nat → Int32 := va_up (va_up (va_up (va_up (va_up f 0 (nI (D + 1))) (1 + 4 * D) (nI (v - 5))) (1 + 4 * D + 1) (if v = 10 then -8 else nI (a 0))) (1 + 4 * D + 2) (if v = 10 then -8 else nI (a 1))) (1 + 4 * D + 3) (if v = 5 then viS (a 2) (a 3) else -8)
theorem bgD : ∀ v, v < 22 → bgW 1 v = true → v = 5 ∨ v = 6 ∨ v = 7 ∨ v = 8 ∨ v = 9 ∨ v = 10 := by decide +kernel
theorem rl_deed {b : Nat → Nat} {N D : Nat} {B C K E x1 : Int32} {τ : TxS} (hM : RM b N τ s) (hD : s 84 0 = nI D) (hD40 : D ≤ 40) : ∃ t : hS, Runs xs sl (d+3+1+1+1+1) 197 137 [some (.ref (81)), some (.int ( x1)), some (.int ( K)), some (.int ( B)), some (.int ( C)), some (.int ( E)), none] [] (hp J (s) g) (none, hp J t g) ∧ RM b N (smS b N τ) t ∧ LF s t ∧ (∃ D', t 84 0 = nI D' ∧ D' ≤ 40) ∧ (D < 40 → t 84 = va_up (va_up (va_up (va_up (va_up (s 84) 0 (nI (D + 1))) (1 + 4 * D) K) (1 + 4 * D + 1) B) (1 + 4 * D + 2) C) (1 + 4 * D + 3) E) := by
  by_cases c : D < 40
  · have c' : ¬ 40 ≤ D := by omega
    obtain ⟨t3, z1, z2, z3⟩ := @rf_endsLine xs sl (d + 1) J (va_up s 84 (va_up (va_up (va_up (va_up (va_up (s 84) 0 (nI (D + 1))) (1 + 4 * D) K) (1 + 4 * D + 1) B) (1 + 4 * D + 2) C) (1 + 4 * D + 3) E)) g b N _ (RM_84 _ hM)
    have z1 := (show d + 1 + 3 + 1 + 1 = d + 3 + 1 + 1 + 1 by omega) ▸ z1
    obtain ⟨y1, y2, y3, y4⟩ := RF_LF z3
    have i9 := fun r => Runs.iff (r := r) z1
    refine ⟨t3, ?_, z2, LF_trans (LF_84 _ _) y1, ⟨D + 1, by rw [y2, va_up_self, va_up_ne _ _ (by omega), va_up_ne _ _ (by omega), va_up_ne _ _ (by omega), va_up_ne _ _ (by omega), va_up_self], by omega⟩, fun _ => by rw [y2, va_up_self]⟩
    simp (disch := first | omega | assumption | exact Or.inl rfl | exact Or.inr rfl | exact bI_or _ | exact zC81 | exact zC47 | exact zC65 | exact zC0 | exact zC1 | exact zC32 | exact zC70 | exact zC73 | exact ztc (by assumption) | exact zdc (by assumption) | exact zpc (by assumption) | decide) only [Option.some.injEq, exists_eq_left', ex2, Option.toList, List.singleton_append, List.append_nil, List.cons_append, List.nil_append, nI_add, nI_addL, nI_Ladd, pk_mul, nI_mulL, nI_Lmul, nI_subL, pk_sub, nI_divL, sub_dm, nI_leE, nI_ltE, nI_eqE, nI_Lle, nI_leL, nI_Llt, nI_ltL, nI_eqL, va_up_self, va_up_ne, up_up, up_comm, nI_clamp, bI_eq0, not_true_eq_false, not_false_eq_true, Nat.reduceEqDiff, Nat.reduceLeDiff, Nat.reduceAdd, Nat.reduceMul, Nat.one_ne_zero, Nat.zero_ne_one, decide_eq_false_iff_not, decide_eq_true_eq, Bool.false_eq_true, decide_true, decide_false, bI_true, bI_false, one_ne, Nat.le_refl, Nat.lt_irrefl, cleT, cleF, cltT, cltF, ceqT, ceqF, ↓reduceIte, r197_137, r197_138, r197_141, r197_142, r197_143, r197_145, r197_148, r197_149, r197_150, r197_151, r197_154, r197_155, r197_156, r197_157, r197_158, r197_160, r197_161, r197_164, r197_166, r197_167, r197_168, r197_169, r197_172, r197_174, r197_175, r197_176, r197_177, r197_178, r197_179, r197_182, r197_184, r197_185, r197_186, r197_188, r197_189, r197_190, r197_193, r197_195, r197_196, r197_197, r197_199, r197_200, r197_201, r197_204, r197_205, r197_206, r197_207, r197_208, r197_209, r197_210, r197_211, r197_214, zO81_11, zA84L, hD, c', zA84, zS84, zS84L, i9]
  · have c' : 40 ≤ D := by omega
    obtain ⟨t3, z1, z2, z3⟩ := @rf_endsLine xs sl (d + 1) J s g b N _ hM
    have z1 := (show d + 1 + 3 + 1 + 1 = d + 3 + 1 + 1 + 1 by omega) ▸ z1
    obtain ⟨y1, y2, y3, y4⟩ := RF_LF z3
    have i9 := fun r => Runs.iff (r := r) z1
    refine ⟨t3, ?_, z2, y1, ⟨D, by rw [y2]; exact hD, hD40⟩, fun h => absurd h c⟩
    simp (disch := first | omega | assumption | exact Or.inl rfl | exact Or.inr rfl | exact bI_or _ | exact zC81 | exact zC47 | exact zC65 | exact zC0 | exact zC1 | exact zC32 | exact zC70 | exact zC73 | exact ztc (by assumption) | exact zdc (by assumption) | exact zpc (by assumption) | decide) only [Option.some.injEq, exists_eq_left', ex2, Option.toList, List.singleton_append, List.append_nil, List.cons_append, List.nil_append, nI_add, nI_addL, nI_Ladd, pk_mul, nI_mulL, nI_Lmul, nI_subL, pk_sub, nI_divL, sub_dm, nI_leE, nI_ltE, nI_eqE, nI_Lle, nI_leL, nI_Llt, nI_ltL, nI_eqL, va_up_self, va_up_ne, up_up, up_comm, nI_clamp, bI_eq0, not_true_eq_false, not_false_eq_true, Nat.reduceEqDiff, Nat.reduceLeDiff, Nat.reduceAdd, Nat.reduceMul, Nat.one_ne_zero, Nat.zero_ne_one, decide_eq_false_iff_not, decide_eq_true_eq, Bool.false_eq_true, decide_true, decide_false, bI_true, bI_false, one_ne, Nat.le_refl, Nat.lt_irrefl, cleT, cleF, cltT, cltF, ceqT, ceqF, ↓reduceIte, r197_137, r197_138, r197_141, r197_142, r197_143, r197_145, r197_148, r197_149, r197_150, r197_151, r197_154, r197_155, r197_156, r197_157, r197_158, r197_160, r197_161, r197_164, r197_166, r197_167, r197_168, r197_169, r197_172, r197_174, r197_175, r197_176, r197_177, r197_178, r197_179, r197_182, r197_184, r197_185, r197_186, r197_188, r197_189, r197_190, r197_193, r197_195, r197_196, r197_197, r197_199, r197_200, r197_201, r197_204, r197_205, r197_206, r197_207, r197_208, r197_209, r197_210, r197_211, r197_214, zO81_11, zA84L, hD, c', i9]
theorem rl_days {b : Nat → Nat} {N h sa c D cr : Nat} {σ : TxS} (hw : σ.1 = false) (hM : RM b N σ s) (hD : s 84 0 = nI D) (hD40 : D ≤ 40) (fu : Bool) (hfu : fu = fuW 1 (slV b N σ) h sa c D cr) : ∃ t : hS, Runs xs sl (d+3+1+1+1+1) 197 0 [some (.ref (81)), none, none, none, none, none, none] [] (hp J (s) g) (none, hp J t g) ∧ RM b N (lnS b N 1 fu σ) t ∧ LF s t ∧ (∃ D', t 84 0 = nI D' ∧ D' ≤ 40) ∧ ((lnS b N 1 fu σ).1 = false → (lnS b N 1 fu σ).2.2.1 = 0 → t 84 = rwD (slV b N σ) D (fun j => slV b N (lnI b N fu σ j)) (s 84)) := by
  obtain ⟨w, p, F, P⟩ := σ
  have hw : w = false := hw
  subst hw
  have hN6 : N ≤ 600 := hM.1.2.1
  obtain ⟨t1, a1, a2, a3⟩ := @rf_takes xs sl (d + 1) J s g b N 15 20 15 20 (false, p, F, P) hM rfl rfl (by decide) (bgW 1 (slV b N (false, p, F, P))) (fun h => (wm_bg _ (vQ_word h).1).2)
  obtain ⟨-, hpN, -, h0⟩ := hM
  have hpN : p ≤ N := hpN
  obtain ⟨h8, h5, h6, hP, k4, k5, k6, k7, k3⟩ := h0 rfl
  have k4 : s 81 4 = nI (rn isBl b N p) := k4
  have hP : F ≠ 0 → s 82 6 = nI P ∧ (P < p ∨ (P = rn isBl b N p ∧ F ≤ 2)) := hP
  obtain ⟨r1, r2, r3, r4⟩ := rn_prop (P := isBl) (b := b) (N := N) (N - p) p (by omega)
  have hPq : F ≠ 0 → P < rn isBl b N p ∨ (P = rn isBl b N p ∧ F ≤ 3) := fun hF => by have := (hP hF).2; omega
  have hsv : slV b N (false, p, F, P) = vQ b N (rn isBl b N p) := rfl
  have hlB : lnB b N fu (false, p, F, P) = (false, eQ b N (rn isBl b N p), fpS fu (rn isBl b N p) F P) := lnB_eq
  have hlS : lnS b N 1 fu (false, p, F, P) = if kQ b N (rn isBl b N p) = 3 ∧ bgW 1 (vQ b N (rn isBl b N p)) = true then smS b N (lnI b N fu (false, p, F, P) (shL (shW (vQ b N (rn isBl b N p)))).length) else (true, rn isBl b N p, 0, 0) := rfl
  have hlI : ∀ j, lnI b N fu (false, p, F, P) j = stI b N (shW (vQ b N (rn isBl b N p))) (lnB b N fu (false, p, F, P)) j := fun j => rfl
  have hwo : woS b N (bgW 1 (vQ b N (rn isBl b N p))) (false, p, F, P) = if kQ b N (rn isBl b N p) = 3 ∧ bgW 1 (vQ b N (rn isBl b N p)) = true then (false, eQ b N (rn isBl b N p), F, P) else (true, rn isBl b N p, 0, 0) := rfl
  rw [hsv] at hfu a1 a2 ⊢
  obtain ⟨l1, l2, l3, l4⟩ := RF_LF a3
  have a1 := (show d + 1 + 3 + 1 + 1 = d + 3 + 1 + 1 + 1 by omega) ▸ a1
  have hD1 : t1 84 0 = nI D := by rw [l2]; exact hD
  generalize hq : rn isBl b N p = q at *
  generalize hv : vQ b N q = v at *
  by_cases kk : kQ b N q = 3 ∧ bgW 1 v = true
  · rw [if_pos kk] at hlS hwo
    have v22 : v < 22 := by rw [← hv]; exact (vQ_word kk.1).1
    obtain ⟨eg, eN⟩ := eQ_gt (b := b) (N := N) (q := q) (Or.inr (Or.inr kk.1))
    rw [hwo] at a1 a2
    rw [if_neg (fun h => by cases h)] at a1
    rw [hlS]
    generalize eQ b N q = e at *
    have fu40 : fu = decide (40 ≤ D) := by
      rw [hfu]
      rcases bgD v v22 kk.2 with hv | hv | hv | hv | hv | hv <;> subst hv <;> rfl
    have h8' : t1 81 8 = 0 := (a2.2.2.2 rfl).1
    have w15 : nI (wm v) - 15 = nI (v - 5) := by
      rcases bgD v v22 kk.2 with hv | hv | hv | hv | hv | hv <;> subst hv <;> decide
    have i0 := fun r => Runs.iff (r := r) a1
    have st : ∃ t2 : hS, RM b N (lnB b N fu (false, p, F, P)) t2 ∧ RF t1 t2 ∧ ∀ z, Runs xs sl (d+3+1+1+1+1) 197 52 [some (.ref (81)), some (.int ( nI q)), some (.int ( nI (v - 5))), some (.int ( -8)), some (.int ( -8)), some (.int ( -8)), none] [] (hp J (t2) g) z → Runs xs sl (d+3+1+1+1+1) 197 0 [some (.ref (81)), none, none, none, none, none, none] [] (hp J (s) g) z := by
      by_cases c40 : 40 ≤ D
      · have c40' : ¬ D < 40 := by omega
        rw [decide_eq_true c40] at fu40
        subst fu40
        obtain ⟨t2, q1, q2, q3⟩ := @rf_full xs sl (d + 3 + 1 + 1 + 1) J t1 g b N e F P q a2 hPq eg (by omega)
        have i1 := fun r => Runs.iff (r := r) q1
        refine ⟨t2, by rw [hlB]; exact q2, q3, fun z hz => ?_⟩
        simp (disch := first | omega | assumption | exact Or.inl rfl | exact Or.inr rfl | exact bI_or _ | exact zC81 | exact zC47 | exact zC65 | exact zC0 | exact zC1 | exact zC32 | exact zC70 | exact zC73 | exact ztc (by assumption) | exact zdc (by assumption) | exact zpc (by assumption) | decide) only [Option.some.injEq, exists_eq_left', ex2, Option.toList, List.singleton_append, List.append_nil, List.cons_append, List.nil_append, nI_add, nI_addL, nI_Ladd, pk_mul, nI_mulL, nI_Lmul, nI_subL, pk_sub, nI_divL, sub_dm, nI_leE, nI_ltE, nI_eqE, nI_Lle, nI_leL, nI_Llt, nI_ltL, nI_eqL, va_up_self, va_up_ne, up_up, up_comm, nI_clamp, bI_eq0, not_true_eq_false, not_false_eq_true, Nat.reduceEqDiff, Nat.reduceLeDiff, Nat.reduceAdd, Nat.reduceMul, Nat.one_ne_zero, Nat.zero_ne_one, decide_eq_false_iff_not, decide_eq_true_eq, Bool.false_eq_true, decide_true, decide_false, bI_true, bI_false, one_ne, Nat.le_refl, Nat.lt_irrefl, cleT, cleF, cltT, cltF, ceqT, ceqF, ↓reduceIte, r197_0, r197_1, r197_4, r197_4_1, r197_5, r197_6, r197_8, r197_10, r197_13, r197_15, r197_16, r197_17, r197_18, r197_21, r197_24, r197_25, r197_28, r197_29, r197_30, r197_32, r197_35, r197_36, r197_37, r197_38, r197_41, r197_43, r197_44, r197_46, r197_48, r197_50, zO81_4, zO81_8, zO81_11, zA84L, k4, i0, w15, h8', hD1, c40', i1]
        exact hz
      · have c40' : D < 40 := by omega
        rw [decide_eq_false c40] at fu40
        subst fu40
        refine ⟨t1, by rw [hlB]; exact a2, RF_refl t1, fun z hz => ?_⟩
        simp (disch := first | omega | assumption | exact Or.inl rfl | exact Or.inr rfl | exact bI_or _ | exact zC81 | exact zC47 | exact zC65 | exact zC0 | exact zC1 | exact zC32 | exact zC70 | exact zC73 | exact ztc (by assumption) | exact zdc (by assumption) | exact zpc (by assumption) | decide) only [Option.some.injEq, exists_eq_left', ex2, Option.toList, List.singleton_append, List.append_nil, List.cons_append, List.nil_append, nI_add, nI_addL, nI_Ladd, pk_mul, nI_mulL, nI_Lmul, nI_subL, pk_sub, nI_divL, sub_dm, nI_leE, nI_ltE, nI_eqE, nI_Lle, nI_leL, nI_Llt, nI_ltL, nI_eqL, va_up_self, va_up_ne, up_up, up_comm, nI_clamp, bI_eq0, not_true_eq_false, not_false_eq_true, Nat.reduceEqDiff, Nat.reduceLeDiff, Nat.reduceAdd, Nat.reduceMul, Nat.one_ne_zero, Nat.zero_ne_one, decide_eq_false_iff_not, decide_eq_true_eq, Bool.false_eq_true, decide_true, decide_false, bI_true, bI_false, one_ne, Nat.le_refl, Nat.lt_irrefl, cleT, cleF, cltT, cltF, ceqT, ceqF, ↓reduceIte, r197_0, r197_1, r197_4, r197_4_1, r197_5, r197_6, r197_8, r197_10, r197_13, r197_15, r197_16, r197_17, r197_18, r197_21, r197_24, r197_25, r197_28, r197_29, r197_30, r197_32, r197_35, r197_36, r197_37, r197_38, r197_41, r197_43, r197_44, r197_46, r197_48, r197_50, zO81_4, zO81_8, zO81_11, zA84L, k4, i0, w15, h8', hD1, c40']
        exact hz
    obtain ⟨t2, m2, f2, go2⟩ := st
    obtain ⟨x1, x2, x3, x4⟩ := RF_LF f2
    have fin : ∀ (k n : Nat), shW v = k → (shL k).length = n → ((stI b N k (lnB b N fu (false, p, F, P)) n).1 = false → (stI b N k (lnB b N fu (false, p, F, P)) n).2.2.1 = 0 → (lnB b N fu (false, p, F, P)).2.2.1 = 0) → (∃ (t9 : hS) (B C E : Int32), RM b N (stI b N k (lnB b N fu (false, p, F, P)) n) t9 ∧ RF t2 t9 ∧ (∀ z, Runs xs sl (d+3+1+1+1+1) 197 137 [some (.ref (81)), some (.int ( nI q)), some (.int ( nI (v - 5))), some (.int ( B)), some (.int ( C)), some (.int ( E)), none] [] (hp J (t9) g) z → Runs xs sl (d+3+1+1+1+1) 197 52 [some (.ref (81)), some (.int ( nI q)), some (.int ( nI (v - 5))), some (.int ( -8)), some (.int ( -8)), some (.int ( -8)), none] [] (hp J (t2) g) z) ∧ ((stI b N k (lnB b N fu (false, p, F, P)) n).1 = false → (stI b N k (lnB b N fu (false, p, F, P)) n).2.2.1 = 0 → B = (if v = 10 then -8 else nI (slV b N (lnI b N fu (false, p, F, P) 0))) ∧ C = (if v = 10 then -8 else nI (slV b N (lnI b N fu (false, p, F, P) 1))) ∧ E = (if v = 5 then viS (slV b N (lnI b N fu (false, p, F, P) 2)) (slV b N (lnI b N fu (false, p, F, P) 3)) else -8))) → ∃ t : hS, Runs xs sl (d+3+1+1+1+1) 197 0 [some (.ref (81)), none, none, none, none, none, none] [] (hp J (s) g) (none, hp J t g) ∧ RM b N (smS b N (lnI b N fu (false, p, F, P) (shL (shW v)).length)) t ∧ LF s t ∧ (∃ D', t 84 0 = nI D' ∧ D' ≤ 40) ∧ ((smS b N (lnI b N fu (false, p, F, P) (shL (shW v)).length)).1 = false → (smS b N (lnI b N fu (false, p, F, P) (shL (shW v)).length)).2.2.1 = 0 → t 84 = rwD v D (fun j => slV b N (lnI b N fu (false, p, F, P) j)) (s 84)) := by
      intro k n hk hn hz ⟨t9, B, C, E, m9, f9, go9, val⟩
      have eI : lnI b N fu (false, p, F, P) (shL (shW v)).length = stI b N k (lnB b N fu (false, p, F, P)) n := by rw [hlI, hk, hn]
      rw [eI]
      obtain ⟨u1, u2, u3, u4⟩ := RF_LF f9
      obtain ⟨t, z1, z2, z3, z4, z5⟩ := @rl_deed xs sl d J t9 g b N D B C (nI (v - 5)) E (nI q) _ m9 (by rw [u2, x2]; exact hD1) hD40
      refine ⟨t, go2 _ (go9 _ z1), z2, LF_trans (LF_trans (LF_trans l1 x1) u1) z3, z4, fun hw hF => ?_⟩
      obtain ⟨w1, F1⟩ := seS_ok hw
      rw [F1] at hF
      obtain ⟨e1, e2, e3⟩ := val w1 hF
      have F0 := hz w1 hF
      rw [hlB] at F0
      have c0 := (fpS_0 F0).1
      rw [fu40, decide_eq_false_iff_not] at c0
      rw [z5 (by omega), u2, x2, l2, e1, e2, e3]
      rfl
    have go0 := go2
    generalize hσ1 : lnB b N fu (false, p, F, P) = σ1 at *
    rcases bgD v v22 kk.2 with hv | hv | hv | hv | hv | hv
    · subst hv
      have eI : ∀ j, lnI b N fu (false, p, F, P) j = stI b N 6 σ1 j := fun j => by rw [hlI]; rfl
      refine fin 6 4 rfl rfl (fun hw hF => ?_) ?_
      · obtain ⟨w4, F4, o4⟩ := slS_ok (c := 118) hw hF
        obtain ⟨w3, F3, o3⟩ := slS_ok (c := 119) w4 F4
        obtain ⟨w2, F2, o2⟩ := slS_ok (c := 116) w3 F3
        exact (slS_ok (c := 111) w2 F2).2.1
      obtain ⟨v0, t3, b1, b2, b3, b4, b5, b6⟩ := @rf_numbered xs sl (d + 1) J t2 g b N 0 3 0 3 σ1 m2 rfl rfl (by decide) (by decide) (okN 111 (slV b N σ1) (slV b N σ1)) (ok_lt 3 rfl)
      have b2 : RM b N (stI b N 6 σ1 1) t3 := b2
      obtain ⟨v1, t4, c1, c2, c3, c4, c5, c6⟩ := @rf_numbered xs sl (d + 1) J t3 g b N 0 5 0 5 (stI b N 6 σ1 1) b2 rfl rfl (by decide) (by decide) (okN 116 (slV b N σ1) (slV b N (stI b N 6 σ1 1))) (ok_lt 5 rfl)
      have c2 : RM b N (stI b N 6 σ1 2) t4 := c2
      obtain ⟨x, t5, d1, d2, d3, d6⟩ := @rf_viewTold xs sl d J t4 g b N _ c2 (stI b N 6 σ1 3) rfl
      have d2 : RM b N (stI b N 6 σ1 4) t5 := d2
      have b1 := (show d + 1 + 3 + 1 + 1 = d + 3 + 1 + 1 + 1 by omega) ▸ b1
      have c1 := (show d + 1 + 3 + 1 + 1 = d + 3 + 1 + 1 + 1 by omega) ▸ c1
      have i1 := fun r => Runs.iff (r := r) b1
      have i2 := fun r => Runs.iff (r := r) c1
      have i3 := fun r => Runs.iff (r := r) d1
      have n5 : nI (5 - 5) = (0 : Int32) := rfl
      have n01 : ¬ (0 : Int32) = 1 := by decide
      have nin : f_isIn 0 2 4 = 0 := by decide
      refine ⟨t5, nI v0, nI v1, x, d2, RF_trans (RF_trans b3 c3) d3, fun z hz => ?_, fun hw hF => ?_⟩
      · rw [n5] at hz ⊢
        simp (disch := first | omega | assumption | exact Or.inl rfl | exact Or.inr rfl | exact bI_or _ | exact zC81 | exact zC47 | exact zC65 | exact zC0 | exact zC1 | exact zC32 | exact zC70 | exact zC73 | exact ztc (by assumption) | exact zdc (by assumption) | exact zpc (by assumption) | decide) only [Option.some.injEq, exists_eq_left', ex2, Option.toList, List.singleton_append, List.append_nil, List.cons_append, List.nil_append, nI_add, nI_addL, nI_Ladd, pk_mul, nI_mulL, nI_Lmul, nI_subL, pk_sub, nI_divL, sub_dm, nI_leE, nI_ltE, nI_eqE, nI_Lle, nI_leL, nI_Llt, nI_ltL, nI_eqL, va_up_self, va_up_ne, up_up, up_comm, nI_clamp, bI_eq0, not_true_eq_false, not_false_eq_true, Nat.reduceEqDiff, Nat.reduceLeDiff, Nat.reduceAdd, Nat.reduceMul, Nat.one_ne_zero, Nat.zero_ne_one, decide_eq_false_iff_not, decide_eq_true_eq, Bool.false_eq_true, decide_true, decide_false, bI_true, bI_false, one_ne, Nat.le_refl, Nat.lt_irrefl, cleT, cleF, cltT, cltF, ceqT, ceqF, ↓reduceIte, r197_52, r197_53, r197_56, r197_57, r197_58, r197_59, r197_62, r197_63, r197_64, r197_65, r197_66, r197_69, r197_71, r197_72, r197_75, r197_77, r197_78, r197_79, r197_82, r197_83, r197_85, r197_87, r197_90, r197_92, r197_93, r197_94, r197_95, r197_96, r197_97, r197_100, r197_102, r197_103, r197_104, r197_105, r197_108, r197_111, r197_112, r197_113, r197_115, r197_118, r197_119, r197_120, r197_121, r197_122, r197_123, r197_126, r197_127, r197_130, r197_132, r197_135, i1, i2, i3, n01, rf_in, nin]
        exact hz
      · obtain ⟨w4, F4, o4⟩ := slS_ok (c := 118) hw hF
        obtain ⟨w3, F3, o3⟩ := slS_ok (c := 119) w4 F4
        obtain ⟨w2, F2, o2⟩ := slS_ok (c := 116) w3 F3
        obtain ⟨w1, F1, o1⟩ := slS_ok (c := 111) w2 F2
        have o4 : slV b N (stI b N 6 σ1 3) ≤ 3 := of_decide_eq_true o4
        rw [if_neg (by decide), if_neg (by decide), if_pos rfl, eI 0, eI 1, eI 2, eI 3, b6 w2 o1, c6 w3 o2, d6 hw o4]
        exact ⟨rfl, rfl, rfl⟩
    · subst hv
      have eI : ∀ j, lnI b N fu (false, p, F, P) j = stI b N 7 σ1 j := fun j => by rw [hlI]; rfl
      refine fin 7 2 rfl rfl (fun hw hF => ?_) ?_
      · obtain ⟨w2, F2, o2⟩ := slS_ok (c := 111) hw hF
        exact (slS_ok (c := 107) w2 F2).2.1
      obtain ⟨t3, b1, b2, b3⟩ := @rf_takes xs sl (d + 1) J t2 g b N 10 14 10 14 σ1 m2 rfl rfl (by decide) (okW 107 (slV b N σ1)) (fun h => (wm_w _ (vQ_word h).1).2.1)
      have b2 : RM b N (stI b N 7 σ1 1) t3 := b2
      have b1 := (show d + 1 + 3 + 1 + 1 = d + 3 + 1 + 1 + 1 by omega) ▸ b1
      have b1 : Runs xs sl (d+3+1+1+1) 185 0 [some (.ref (81)), some (.int ( 10)), some (.int ( 14)), none] [] (hp J (t2) g) (some (.int (if (stI b N 7 σ1 1).1 = true then 0 else nI (wm (slV b N σ1)))), hp J t3 g) := b1
      generalize hk0 : (if (stI b N 7 σ1 1).1 = true then 0 else nI (wm (slV b N σ1))) = k0 at b1
      obtain ⟨v1, t4, c1, c2, c3, c4, c5, c6⟩ := @rf_numbered xs sl (d + 1) J t3 g b N 0 3 0 3 (stI b N 7 σ1 1) b2 rfl rfl (by decide) (by decide) (okN 111 (slV b N σ1) (slV b N (stI b N 7 σ1 1))) (ok_lt 3 rfl)
      have c2 : RM b N (stI b N 7 σ1 2) t4 := c2
      have c1 := (show d + 1 + 3 + 1 + 1 = d + 3 + 1 + 1 + 1 by omega) ▸ c1
      have i1 := fun r => Runs.iff (r := r) b1
      have i2 := fun r => Runs.iff (r := r) c1
      have n5 : nI (6 - 5) = (1 : Int32) := rfl
      have n01 : ¬ (1 : Int32) = 0 := by decide
      have nin : f_isIn 1 2 4 = 0 := by decide
      refine ⟨t4, k0 - 10, nI v1, -8, c2, RF_trans b3 c3, fun z hz => ?_, fun hw hF => ?_⟩
      · rw [n5] at hz ⊢
        simp (disch := first | omega | assumption | exact Or.inl rfl | exact Or.inr rfl | exact bI_or _ | exact zC81 | exact zC47 | exact zC65 | exact zC0 | exact zC1 | exact zC32 | exact zC70 | exact zC73 | exact ztc (by assumption) | exact zdc (by assumption) | exact zpc (by assumption) | decide) only [Option.some.injEq, exists_eq_left', ex2, Option.toList, List.singleton_append, List.append_nil, List.cons_append, List.nil_append, nI_add, nI_addL, nI_Ladd, pk_mul, nI_mulL, nI_Lmul, nI_subL, pk_sub, nI_divL, sub_dm, nI_leE, nI_ltE, nI_eqE, nI_Lle, nI_leL, nI_Llt, nI_ltL, nI_eqL, va_up_self, va_up_ne, up_up, up_comm, nI_clamp, bI_eq0, not_true_eq_false, not_false_eq_true, Nat.reduceEqDiff, Nat.reduceLeDiff, Nat.reduceAdd, Nat.reduceMul, Nat.one_ne_zero, Nat.zero_ne_one, decide_eq_false_iff_not, decide_eq_true_eq, Bool.false_eq_true, decide_true, decide_false, bI_true, bI_false, one_ne, Nat.le_refl, Nat.lt_irrefl, cleT, cleF, cltT, cltF, ceqT, ceqF, ↓reduceIte, r197_52, r197_53, r197_56, r197_57, r197_58, r197_59, r197_62, r197_63, r197_64, r197_65, r197_66, r197_69, r197_71, r197_72, r197_75, r197_77, r197_78, r197_79, r197_82, r197_83, r197_85, r197_87, r197_90, r197_92, r197_93, r197_94, r197_95, r197_96, r197_97, r197_100, r197_102, r197_103, r197_104, r197_105, r197_108, r197_111, r197_112, r197_113, r197_115, r197_118, r197_119, r197_120, r197_121, r197_122, r197_123, r197_126, r197_127, r197_130, r197_132, r197_135, i1, i2, n01, rf_in, nin]
        exact hz
      · obtain ⟨w2, F2, o2⟩ := slS_ok (c := 111) hw hF
        obtain ⟨w1, F1, o1⟩ := slS_ok (c := 107) w2 F2
        have o1 : okW 107 (slV b N σ1) = true := o1
        have v22 := vQ_word (woS_k (σ := σ1) (ok := okW 107 (slV b N σ1)) w2)
        have e0 : k0 - 10 = nI (slV b N σ1) := by
          rw [← hk0, if_neg (show ¬ (stI b N 7 σ1 1).1 = true by rw [w2]; decide), (wm_w (slV b N σ1) v22.1).2.2.2 o1]
          simp (disch := first | omega | assumption | exact Or.inl rfl | exact Or.inr rfl | exact bI_or _ | exact zC81 | exact zC47 | exact zC65 | exact zC0 | exact zC1 | exact zC32 | exact zC70 | exact zC73 | exact ztc (by assumption) | exact zdc (by assumption) | exact zpc (by assumption) | decide) only [Option.some.injEq, exists_eq_left', ex2, Option.toList, List.singleton_append, List.append_nil, List.cons_append, List.nil_append, nI_add, nI_addL, nI_Ladd, pk_mul, nI_mulL, nI_Lmul, nI_subL, pk_sub, nI_divL, sub_dm, nI_leE, nI_ltE, nI_eqE, nI_Lle, nI_leL, nI_Llt, nI_ltL, nI_eqL, va_up_self, va_up_ne, up_up, up_comm, nI_clamp, bI_eq0, not_true_eq_false, not_false_eq_true, Nat.reduceEqDiff, Nat.reduceLeDiff, Nat.reduceAdd, Nat.reduceMul, Nat.one_ne_zero, Nat.zero_ne_one, decide_eq_false_iff_not, decide_eq_true_eq, Bool.false_eq_true, decide_true, decide_false, bI_true, bI_false, one_ne, Nat.le_refl, Nat.lt_irrefl, cleT, cleF, cltT, cltF, ceqT, ceqF, ↓reduceIte]
          exact congrArg nI (by omega)
        rw [if_neg (by decide), if_neg (by decide), if_neg (by decide), eI 0, eI 1, e0, c6 hw o2]
        exact ⟨rfl, rfl, rfl⟩
    · subst hv
      have eI : ∀ j, lnI b N fu (false, p, F, P) j = stI b N 8 σ1 j := fun j => by rw [hlI]; rfl
      refine fin 8 2 rfl rfl (fun hw hF => ?_) ?_
      · obtain ⟨w2, F2, o2⟩ := slS_ok (c := 108) hw hF
        exact (slS_ok (c := 104) w2 F2).2.1
      obtain ⟨v0, t3, b1, b2, b3, b4, b5, b6⟩ := @rf_numbered xs sl (d + 1) J t2 g b N 0 7 0 7 σ1 m2 rfl rfl (by decide) (by decide) (okN 104 (slV b N σ1) (slV b N σ1)) (ok_lt 7 rfl)
      have b2 : RM b N (stI b N 8 σ1 1) t3 := b2
      obtain ⟨v1, t4, c1, c2, c3, c4, c5, c6⟩ := @rf_numbered xs sl (d + 1) J t3 g b N 0 15 0 15 (stI b N 8 σ1 1) b2 rfl rfl (by decide) (by decide) (okN 108 (slV b N σ1) (slV b N (stI b N 8 σ1 1))) (ok_lt 15 rfl)
      have c2 : RM b N (stI b N 8 σ1 2) t4 := c2
      have b1 := (show d + 1 + 3 + 1 + 1 = d + 3 + 1 + 1 + 1 by omega) ▸ b1
      have c1 := (show d + 1 + 3 + 1 + 1 = d + 3 + 1 + 1 + 1 by omega) ▸ c1
      have i1 := fun r => Runs.iff (r := r) b1
      have i2 := fun r => Runs.iff (r := r) c1
      have n5 : nI (7 - 5) = (2 : Int32) := rfl
      have n0 : ¬ (2 : Int32) = 0 := by decide
      have n1 : ¬ (2 : Int32) = 1 := by decide
      have n4 : ((2 : Int32) = 4) = False := eq_false (by decide)
      have nin : f_isIn 2 2 4 = 1 := by decide
      have n10 : ¬ (1 : Int32) = 0 := by decide
      refine ⟨t4, nI v0, nI v1, -8, c2, RF_trans b3 c3, fun z hz => ?_, fun hw hF => ?_⟩
      · rw [n5] at hz ⊢
        simp (disch := first | omega | assumption | exact Or.inl rfl | exact Or.inr rfl | exact bI_or _ | exact zC81 | exact zC47 | exact zC65 | exact zC0 | exact zC1 | exact zC32 | exact zC70 | exact zC73 | exact ztc (by assumption) | exact zdc (by assumption) | exact zpc (by assumption) | decide) only [Option.some.injEq, exists_eq_left', ex2, Option.toList, List.singleton_append, List.append_nil, List.cons_append, List.nil_append, nI_add, nI_addL, nI_Ladd, pk_mul, nI_mulL, nI_Lmul, nI_subL, pk_sub, nI_divL, sub_dm, nI_leE, nI_ltE, nI_eqE, nI_Lle, nI_leL, nI_Llt, nI_ltL, nI_eqL, va_up_self, va_up_ne, up_up, up_comm, nI_clamp, bI_eq0, not_true_eq_false, not_false_eq_true, Nat.reduceEqDiff, Nat.reduceLeDiff, Nat.reduceAdd, Nat.reduceMul, Nat.one_ne_zero, Nat.zero_ne_one, decide_eq_false_iff_not, decide_eq_true_eq, Bool.false_eq_true, decide_true, decide_false, bI_true, bI_false, one_ne, Nat.le_refl, Nat.lt_irrefl, cleT, cleF, cltT, cltF, ceqT, ceqF, ↓reduceIte, r197_52, r197_53, r197_56, r197_57, r197_58, r197_59, r197_62, r197_63, r197_64, r197_65, r197_66, r197_69, r197_71, r197_72, r197_75, r197_77, r197_78, r197_79, r197_82, r197_83, r197_85, r197_87, r197_90, r197_92, r197_93, r197_94, r197_95, r197_96, r197_97, r197_100, r197_102, r197_103, r197_104, r197_105, r197_108, r197_111, r197_112, r197_113, r197_115, r197_118, r197_119, r197_120, r197_121, r197_122, r197_123, r197_126, r197_127, r197_130, r197_132, r197_135, i1, i2, n0, n1, n4, n10, rf_in, nin, if_true, if_false]
        exact hz
      · obtain ⟨w2, F2, o2⟩ := slS_ok (c := 108) hw hF
        obtain ⟨w1, F1, o1⟩ := slS_ok (c := 104) w2 F2
        rw [if_neg (by decide), if_neg (by decide), if_neg (by decide), eI 0, eI 1, b6 w2 o1, c6 hw o2]
        exact ⟨rfl, rfl, rfl⟩
    · subst hv
      have eI : ∀ j, lnI b N fu (false, p, F, P) j = stI b N 8 σ1 j := fun j => by rw [hlI]; rfl
      refine fin 8 2 rfl rfl (fun hw hF => ?_) ?_
      · obtain ⟨w2, F2, o2⟩ := slS_ok (c := 108) hw hF
        exact (slS_ok (c := 104) w2 F2).2.1
      obtain ⟨v0, t3, b1, b2, b3, b4, b5, b6⟩ := @rf_numbered xs sl (d + 1) J t2 g b N 0 7 0 7 σ1 m2 rfl rfl (by decide) (by decide) (okN 104 (slV b N σ1) (slV b N σ1)) (ok_lt 7 rfl)
      have b2 : RM b N (stI b N 8 σ1 1) t3 := b2
      obtain ⟨v1, t4, c1, c2, c3, c4, c5, c6⟩ := @rf_numbered xs sl (d + 1) J t3 g b N 0 15 0 15 (stI b N 8 σ1 1) b2 rfl rfl (by decide) (by decide) (okN 108 (slV b N σ1) (slV b N (stI b N 8 σ1 1))) (ok_lt 15 rfl)
      have c2 : RM b N (stI b N 8 σ1 2) t4 := c2
      have b1 := (show d + 1 + 3 + 1 + 1 = d + 3 + 1 + 1 + 1 by omega) ▸ b1
      have c1 := (show d + 1 + 3 + 1 + 1 = d + 3 + 1 + 1 + 1 by omega) ▸ c1
      have i1 := fun r => Runs.iff (r := r) b1
      have i2 := fun r => Runs.iff (r := r) c1
      have n5 : nI (8 - 5) = (3 : Int32) := rfl
      have n0 : ¬ (3 : Int32) = 0 := by decide
      have n1 : ¬ (3 : Int32) = 1 := by decide
      have n4 : ((3 : Int32) = 4) = False := eq_false (by decide)
      have nin : f_isIn 3 2 4 = 1 := by decide
      have n10 : ¬ (1 : Int32) = 0 := by decide
      refine ⟨t4, nI v0, nI v1, -8, c2, RF_trans b3 c3, fun z hz => ?_, fun hw hF => ?_⟩
      · rw [n5] at hz ⊢
        simp (disch := first | omega | assumption | exact Or.inl rfl | exact Or.inr rfl | exact bI_or _ | exact zC81 | exact zC47 | exact zC65 | exact zC0 | exact zC1 | exact zC32 | exact zC70 | exact zC73 | exact ztc (by assumption) | exact zdc (by assumption) | exact zpc (by assumption) | decide) only [Option.some.injEq, exists_eq_left', ex2, Option.toList, List.singleton_append, List.append_nil, List.cons_append, List.nil_append, nI_add, nI_addL, nI_Ladd, pk_mul, nI_mulL, nI_Lmul, nI_subL, pk_sub, nI_divL, sub_dm, nI_leE, nI_ltE, nI_eqE, nI_Lle, nI_leL, nI_Llt, nI_ltL, nI_eqL, va_up_self, va_up_ne, up_up, up_comm, nI_clamp, bI_eq0, not_true_eq_false, not_false_eq_true, Nat.reduceEqDiff, Nat.reduceLeDiff, Nat.reduceAdd, Nat.reduceMul, Nat.one_ne_zero, Nat.zero_ne_one, decide_eq_false_iff_not, decide_eq_true_eq, Bool.false_eq_true, decide_true, decide_false, bI_true, bI_false, one_ne, Nat.le_refl, Nat.lt_irrefl, cleT, cleF, cltT, cltF, ceqT, ceqF, ↓reduceIte, r197_52, r197_53, r197_56, r197_57, r197_58, r197_59, r197_62, r197_63, r197_64, r197_65, r197_66, r197_69, r197_71, r197_72, r197_75, r197_77, r197_78, r197_79, r197_82, r197_83, r197_85, r197_87, r197_90, r197_92, r197_93, r197_94, r197_95, r197_96, r197_97, r197_100, r197_102, r197_103, r197_104, r197_105, r197_108, r197_111, r197_112, r197_113, r197_115, r197_118, r197_119, r197_120, r197_121, r197_122, r197_123, r197_126, r197_127, r197_130, r197_132, r197_135, i1, i2, n0, n1, n4, n10, rf_in, nin, if_true, if_false]
        exact hz
      · obtain ⟨w2, F2, o2⟩ := slS_ok (c := 108) hw hF
        obtain ⟨w1, F1, o1⟩ := slS_ok (c := 104) w2 F2
        rw [if_neg (by decide), if_neg (by decide), if_neg (by decide), eI 0, eI 1, b6 w2 o1, c6 hw o2]
        exact ⟨rfl, rfl, rfl⟩
    · subst hv
      have eI : ∀ j, lnI b N fu (false, p, F, P) j = stI b N 9 σ1 j := fun j => by rw [hlI]; rfl
      refine fin 9 2 rfl rfl (fun hw hF => ?_) ?_
      · obtain ⟨w2, F2, o2⟩ := slS_ok (c := 111) hw hF
        exact (slS_ok (c := 104) w2 F2).2.1
      obtain ⟨v0, t3, b1, b2, b3, b4, b5, b6⟩ := @rf_numbered xs sl (d + 1) J t2 g b N 0 7 0 7 σ1 m2 rfl rfl (by decide) (by decide) (okN 104 (slV b N σ1) (slV b N σ1)) (ok_lt 7 rfl)
      have b2 : RM b N (stI b N 9 σ1 1) t3 := b2
      obtain ⟨v1, t4, c1, c2, c3, c4, c5, c6⟩ := @rf_numbered xs sl (d + 1) J t3 g b N 0 3 0 3 (stI b N 9 σ1 1) b2 rfl rfl (by decide) (by decide) (okN 111 (slV b N σ1) (slV b N (stI b N 9 σ1 1))) (ok_lt 3 rfl)
      have c2 : RM b N (stI b N 9 σ1 2) t4 := c2
      have b1 := (show d + 1 + 3 + 1 + 1 = d + 3 + 1 + 1 + 1 by omega) ▸ b1
      have c1 := (show d + 1 + 3 + 1 + 1 = d + 3 + 1 + 1 + 1 by omega) ▸ c1
      have i1 := fun r => Runs.iff (r := r) b1
      have i2 := fun r => Runs.iff (r := r) c1
      have n5 : nI (9 - 5) = (4 : Int32) := rfl
      have n0 : ¬ (4 : Int32) = 0 := by decide
      have n1 : ¬ (4 : Int32) = 1 := by decide
      have n4 : ((4 : Int32) = 4) = True := eq_true (by decide)
      have nin : f_isIn 4 2 4 = 1 := by decide
      have n10 : ¬ (1 : Int32) = 0 := by decide
      refine ⟨t4, nI v0, nI v1, -8, c2, RF_trans b3 c3, fun z hz => ?_, fun hw hF => ?_⟩
      · rw [n5] at hz ⊢
        simp (disch := first | omega | assumption | exact Or.inl rfl | exact Or.inr rfl | exact bI_or _ | exact zC81 | exact zC47 | exact zC65 | exact zC0 | exact zC1 | exact zC32 | exact zC70 | exact zC73 | exact ztc (by assumption) | exact zdc (by assumption) | exact zpc (by assumption) | decide) only [Option.some.injEq, exists_eq_left', ex2, Option.toList, List.singleton_append, List.append_nil, List.cons_append, List.nil_append, nI_add, nI_addL, nI_Ladd, pk_mul, nI_mulL, nI_Lmul, nI_subL, pk_sub, nI_divL, sub_dm, nI_leE, nI_ltE, nI_eqE, nI_Lle, nI_leL, nI_Llt, nI_ltL, nI_eqL, va_up_self, va_up_ne, up_up, up_comm, nI_clamp, bI_eq0, not_true_eq_false, not_false_eq_true, Nat.reduceEqDiff, Nat.reduceLeDiff, Nat.reduceAdd, Nat.reduceMul, Nat.one_ne_zero, Nat.zero_ne_one, decide_eq_false_iff_not, decide_eq_true_eq, Bool.false_eq_true, decide_true, decide_false, bI_true, bI_false, one_ne, Nat.le_refl, Nat.lt_irrefl, cleT, cleF, cltT, cltF, ceqT, ceqF, ↓reduceIte, r197_52, r197_53, r197_56, r197_57, r197_58, r197_59, r197_62, r197_63, r197_64, r197_65, r197_66, r197_69, r197_71, r197_72, r197_75, r197_77, r197_78, r197_79, r197_82, r197_83, r197_85, r197_87, r197_90, r197_92, r197_93, r197_94, r197_95, r197_96, r197_97, r197_100, r197_102, r197_103, r197_104, r197_105, r197_108, r197_111, r197_112, r197_113, r197_115, r197_118, r197_119, r197_120, r197_121, r197_122, r197_123, r197_126, r197_127, r197_130, r197_132, r197_135, i1, i2, n0, n1, n4, n10, rf_in, nin, if_true, if_false]
        exact hz
      · obtain ⟨w2, F2, o2⟩ := slS_ok (c := 111) hw hF
        obtain ⟨w1, F1, o1⟩ := slS_ok (c := 104) w2 F2
        rw [if_neg (by decide), if_neg (by decide), if_neg (by decide), eI 0, eI 1, b6 w2 o1, c6 hw o2]
        exact ⟨rfl, rfl, rfl⟩
    · subst hv
      refine fin 12 0 rfl rfl (fun hw hF => hF) ?_
      have n5 : nI (10 - 5) = (5 : Int32) := rfl
      have n0 : ¬ (5 : Int32) = 0 := by decide
      have n1 : ¬ (5 : Int32) = 1 := by decide
      have nin : f_isIn 5 2 4 = 0 := by decide
      refine ⟨t2, -8, -8, -8, m2, RF_refl t2, fun z hz => ?_, fun hw hF => ?_⟩
      · rw [n5] at hz ⊢
        simp (disch := first | omega | assumption | exact Or.inl rfl | exact Or.inr rfl | exact bI_or _ | exact zC81 | exact zC47 | exact zC65 | exact zC0 | exact zC1 | exact zC32 | exact zC70 | exact zC73 | exact ztc (by assumption) | exact zdc (by assumption) | exact zpc (by assumption) | decide) only [Option.some.injEq, exists_eq_left', ex2, Option.toList, List.singleton_append, List.append_nil, List.cons_append, List.nil_append, nI_add, nI_addL, nI_Ladd, pk_mul, nI_mulL, nI_Lmul, nI_subL, pk_sub, nI_divL, sub_dm, nI_leE, nI_ltE, nI_eqE, nI_Lle, nI_leL, nI_Llt, nI_ltL, nI_eqL, va_up_self, va_up_ne, up_up, up_comm, nI_clamp, bI_eq0, not_true_eq_false, not_false_eq_true, Nat.reduceEqDiff, Nat.reduceLeDiff, Nat.reduceAdd, Nat.reduceMul, Nat.one_ne_zero, Nat.zero_ne_one, decide_eq_false_iff_not, decide_eq_true_eq, Bool.false_eq_true, decide_true, decide_false, bI_true, bI_false, one_ne, Nat.le_refl, Nat.lt_irrefl, cleT, cleF, cltT, cltF, ceqT, ceqF, ↓reduceIte, r197_52, r197_53, r197_56, r197_57, r197_58, r197_59, r197_62, r197_63, r197_64, r197_65, r197_66, r197_69, r197_71, r197_72, r197_75, r197_77, r197_78, r197_79, r197_82, r197_83, r197_85, r197_87, r197_90, r197_92, r197_93, r197_94, r197_95, r197_96, r197_97, r197_100, r197_102, r197_103, r197_104, r197_105, r197_108, r197_111, r197_112, r197_113, r197_115, r197_118, r197_119, r197_120, r197_121, r197_122, r197_123, r197_126, r197_127, r197_130, r197_132, r197_135, n0, n1, rf_in, nin]
        exact hz
      · rw [if_pos rfl, if_pos rfl, if_neg (by decide)]
        exact ⟨rfl, rfl, rfl⟩
  · rw [if_neg kk] at hlS hwo
    rw [hwo] at a1 a2
    rw [if_pos rfl] at a1
    rw [hlS]
    have h8' : t1 81 8 = 1 := (a2.2.2.1 rfl).1
    have i0 := fun r => Runs.iff (r := r) a1
    obtain ⟨t, z1, z2, z3, z4, z5⟩ := @rl_deed xs sl d J t1 g b N D (-8) (-8) (-15) (-8) (nI q) _ a2 hD1 hD40
    rw [seS_w rfl] at z2
    refine ⟨t, ?_, z2, LF_trans l1 z3, z4, fun h => by cases h⟩
    have n10 : ¬ (1 : Int32) = 0 := by decide
    have e15 : (0 : Int32) - 15 = -15 := by decide
    have n0 : ¬ (-15 : Int32) = 0 := by decide
    have n1 : ¬ (-15 : Int32) = 1 := by decide
    have nin : f_isIn (-15) 2 4 = 0 := by decide
    simp (disch := first | omega | assumption | exact Or.inl rfl | exact Or.inr rfl | exact bI_or _ | exact zC81 | exact zC47 | exact zC65 | exact zC0 | exact zC1 | exact zC32 | exact zC70 | exact zC73 | exact ztc (by assumption) | exact zdc (by assumption) | exact zpc (by assumption) | decide) only [Option.some.injEq, exists_eq_left', ex2, Option.toList, List.singleton_append, List.append_nil, List.cons_append, List.nil_append, nI_add, nI_addL, nI_Ladd, pk_mul, nI_mulL, nI_Lmul, nI_subL, pk_sub, nI_divL, sub_dm, nI_leE, nI_ltE, nI_eqE, nI_Lle, nI_leL, nI_Llt, nI_ltL, nI_eqL, va_up_self, va_up_ne, up_up, up_comm, nI_clamp, bI_eq0, not_true_eq_false, not_false_eq_true, Nat.reduceEqDiff, Nat.reduceLeDiff, Nat.reduceAdd, Nat.reduceMul, Nat.one_ne_zero, Nat.zero_ne_one, decide_eq_false_iff_not, decide_eq_true_eq, Bool.false_eq_true, decide_true, decide_false, bI_true, bI_false, one_ne, Nat.le_refl, Nat.lt_irrefl, cleT, cleF, cltT, cltF, ceqT, ceqF, ↓reduceIte, r197_0, r197_1, r197_4, r197_4_1, r197_5, r197_6, r197_8, r197_10, r197_13, r197_15, r197_16, r197_17, r197_18, r197_21, r197_24, r197_25, r197_28, r197_29, r197_30, r197_32, r197_35, r197_36, r197_37, r197_38, r197_41, r197_43, r197_44, r197_46, r197_48, r197_50, r197_52, r197_53, r197_56, r197_57, r197_58, r197_59, r197_62, r197_63, r197_64, r197_65, r197_66, r197_69, r197_71, r197_72, r197_75, r197_77, r197_78, r197_79, r197_82, r197_83, r197_85, r197_87, r197_90, r197_92, r197_93, r197_94, r197_95, r197_96, r197_97, r197_100, r197_102, r197_103, r197_104, r197_105, r197_108, r197_111, r197_112, r197_113, r197_115, r197_118, r197_119, r197_120, r197_121, r197_122, r197_123, r197_126, r197_127, r197_130, r197_132, r197_135, zO81_4, zO81_8, k4, i0, h8', n10, e15, n0, n1, rf_in, nin]
    exact z1
end TXU
