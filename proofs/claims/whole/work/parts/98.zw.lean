/-! TEXT: the reference's line of a plate -/
section TXW
variable {xs : Nat → Int32} {sl d : Nat} {J : hJk} {s x y : hS} {g : hG}
def rwP (v cr : Nat) (a : Nat → Nat) (f : Nat → Int32) : Nat → Int32 := if v = 11 then va_up f 0 (nI (a 0)) else if v = 18 then va_up f 1 (nI (a 0)) else va_up (va_up (va_up (va_up f 2 (nI (cr + 1))) (3 + 3 * cr) (nI (a 0))) (3 + 3 * cr + 1) (nI (a 1))) (3 + 3 * cr + 2) (viS (a 2) (a 3))
theorem bgP : ∀ v, v < 22 → bgW 2 v = true → v = 11 ∨ v = 18 ∨ v = 19 := by decide +kernel
theorem wm_bgP : ∀ v, v < 22 → ¬ v = 11 → bgW 2 v = (decide (21 ≤ wm v) && decide (wm v ≤ 22)) ∧ ¬ nI (wm v) = 1 := by decide +kernel
theorem rl_plate {b : Nat → Nat} {N h sa c D cr : Nat} {σ : TxS} (hw : σ.1 = false) (hM : RM b N σ s) (hc : s 84 2 = nI cr) (hc12 : cr ≤ 12) (fu : Bool) (hfu : fu = fuW 2 (slV b N σ) h sa c D cr) : ∃ t : hS, Runs xs sl (d+3+1+1+1+1+1) 198 0 [some (.ref (81)), none, none] [] (hp J (s) g) (none, hp J t g) ∧ RM b N (lnS b N 2 fu σ) t ∧ LF s t ∧ (∃ c', t 84 2 = nI c' ∧ c' ≤ 12) ∧ ((lnS b N 2 fu σ).1 = false → (lnS b N 2 fu σ).2.2.1 = 0 → t 84 = rwP (slV b N σ) cr (fun j => slV b N (lnI b N fu σ j)) (s 84) ∧ t 81 10 = g10T (slV b N σ) (fun j => slV b N (lnI b N fu σ j)) (s 81 10)) := by
  obtain ⟨w, p, F, P⟩ := σ
  have hw : w = false := hw
  subst hw
  have hN6 : N ≤ 600 := hM.1.2.1
  have tk1 := fun o ho => @rf_takes xs sl (d + 1 + 1) J s g b N 1 1 1 1 (false, p, F, P) hM rfl rfl (by decide) o ho
  have tk2 := fun o ho => @rf_takes xs sl (d + 1 + 1) J s g b N 21 22 21 22 (false, p, F, P) hM rfl rfl (by decide) o ho
  obtain ⟨-, hpN, -, h0⟩ := hM
  have hpN : p ≤ N := hpN
  obtain ⟨h8, h5, h6, hP, k4, k5, k6, k7, k3⟩ := h0 rfl
  have k4 : s 81 4 = nI (rn isBl b N p) := k4
  have k5 : s 81 5 = nI (kQ b N (rn isBl b N p)) := k5
  have k7 : kQ b N (rn isBl b N p) = 3 → s 81 7 = nI (wm (vQ b N (rn isBl b N p))) := k7
  have hP : F ≠ 0 → s 82 6 = nI P ∧ (P < p ∨ (P = rn isBl b N p ∧ F ≤ 2)) := hP
  obtain ⟨r1, r2, r3, r4⟩ := rn_prop (P := isBl) (b := b) (N := N) (N - p) p (by omega)
  have hPq : F ≠ 0 → P < rn isBl b N p ∨ (P = rn isBl b N p ∧ F ≤ 3) := fun hF => by have := (hP hF).2; omega
  have hsv : slV b N (false, p, F, P) = vQ b N (rn isBl b N p) := rfl
  have hlB : lnB b N fu (false, p, F, P) = (false, eQ b N (rn isBl b N p), fpS fu (rn isBl b N p) F P) := lnB_eq
  have hlS : lnS b N 2 fu (false, p, F, P) = if kQ b N (rn isBl b N p) = 3 ∧ bgW 2 (vQ b N (rn isBl b N p)) = true then smS b N (lnI b N fu (false, p, F, P) (shL (shW (vQ b N (rn isBl b N p)))).length) else (true, rn isBl b N p, 0, 0) := rfl
  have hlI : ∀ j, lnI b N fu (false, p, F, P) j = stI b N (shW (vQ b N (rn isBl b N p))) (lnB b N fu (false, p, F, P)) j := fun j => rfl
  have hwo : ∀ o, woS b N o (false, p, F, P) = if kQ b N (rn isBl b N p) = 3 ∧ o = true then (false, eQ b N (rn isBl b N p), F, P) else (true, rn isBl b N p, 0, 0) := fun o => rfl
  rw [hsv] at hfu tk1 tk2 ⊢
  have tk1 : ∀ o, (kQ b N (rn isBl b N p) = 3 → o = (decide (1 ≤ wm (vQ b N (rn isBl b N p))) && decide (wm (vQ b N (rn isBl b N p)) ≤ 1))) → _ := tk1
  have tk2 : ∀ o, (kQ b N (rn isBl b N p) = 3 → o = (decide (21 ≤ wm (vQ b N (rn isBl b N p))) && decide (wm (vQ b N (rn isBl b N p)) ≤ 22))) → _ := tk2
  have kc := kQ_cases b N (rn isBl b N p)
  have v22 : kQ b N (rn isBl b N p) = 3 → vQ b N (rn isBl b N p) < 22 := fun h => (vQ_word h).1
  generalize hq : rn isBl b N p = q at *
  have eg' : kQ b N q = 3 → q < eQ b N q ∧ eQ b N q ≤ N := fun h => eQ_gt (b := b) (N := N) (q := q) (Or.inr (Or.inr h))
  generalize hv : vQ b N q = v at *
  by_cases k11 : kQ b N q = 3 ∧ v = 11
  · obtain ⟨k31, hv⟩ := k11
    subst hv
    obtain ⟨eg, eN⟩ := eg' k31
    have k31' := eq_true k31
    have kk : kQ b N q = 3 ∧ bgW 2 11 = true := ⟨k31, rfl⟩
    rw [if_pos kk] at hlS
    obtain ⟨t1, a1, a2, a3⟩ := tk1 true (fun _ => rfl)
    have a1 := (show d + 1 + 1 + 3 + 1 + 1 = d + 3 + 1 + 1 + 1 + 1 by omega) ▸ a1
    have hw1 := hwo true
    rw [if_pos ⟨k31, rfl⟩] at hw1
    rw [hw1] at a1 a2
    rw [if_neg (fun h => by cases h)] at a1
    rw [hlS]
    obtain ⟨l1, l2, l3, l4⟩ := RF_LF a3
    have v7 : s 81 7 = 1 := k7 k31
    generalize eQ b N q = e at *
    have hfu' : fu = false := hfu
    subst hfu'
    have eB : lnB b N false (false, p, F, P) = (false, e, F, P) := hlB
    have eI : ∀ j, lnI b N false (false, p, F, P) j = stI b N 1 (false, e, F, P) j := fun j => by rw [hlI, eB]; rfl
    obtain ⟨v0, t2, b1, b2, b3, b4, b5, b6⟩ := @rf_numbered xs sl (d + 1 + 1) J t1 g b N 1 6 1 6 (false, e, F, P) a2 rfl rfl (by decide) (by decide) (okN 99 (slV b N (false, e, F, P)) (slV b N (false, e, F, P))) rfl
    have b1 := (show d + 1 + 1 + 3 + 1 + 1 = d + 3 + 1 + 1 + 1 + 1 by omega) ▸ b1
    have b2 : RM b N (stI b N 1 (false, e, F, P) 1) t2 := b2
    obtain ⟨n1, n2, n3, n4⟩ := RF_LF b3
    have m9 : RM b N (lnI b N false (false, p, F, P) 1) (va_up t2 84 (va_up (t2 84) 0 (nI v0))) := by rw [eI]; exact RM_84 _ b2
    obtain ⟨t3, z1, z2, z3⟩ := @rf_endsLine xs sl (d + 1 + 1) J (va_up t2 84 (va_up (t2 84) 0 (nI v0))) g b N _ m9
    have z1 := (show d + 1 + 1 + 3 + 1 + 1 = d + 3 + 1 + 1 + 1 + 1 by omega) ▸ z1
    obtain ⟨y1, y2, y3, y4⟩ := RF_LF z3
    have i9 := fun r => Runs.iff (r := r) z1
    have i0 := fun r => Runs.iff (r := r) a1
    have i1 := fun r => Runs.iff (r := r) b1
    have q84 : t3 84 = va_up (s 84) 0 (nI v0) := by rw [y2, va_up_self, n2, l2]
    refine ⟨t3, ?_, z2, LF_trans (LF_trans (LF_trans l1 n1) (LF_84 _ _)) y1, ⟨cr, ?_, hc12⟩, fun hw hF => ?_⟩
    · simp (disch := first | omega | assumption | exact Or.inl rfl | exact Or.inr rfl | exact bI_or _ | exact zC81 | exact zC47 | exact zC65 | exact zC0 | exact zC1 | exact zC32 | exact zC70 | exact zC73 | exact ztc (by assumption) | exact zdc (by assumption) | exact zpc (by assumption) | decide) only [Option.some.injEq, exists_eq_left', ex2, Option.toList, List.singleton_append, List.append_nil, List.cons_append, List.nil_append, nI_add, nI_addL, nI_Ladd, pk_mul, nI_mulL, nI_Lmul, nI_subL, pk_sub, nI_divL, sub_dm, nI_leE, nI_ltE, nI_eqE, nI_Lle, nI_leL, nI_Llt, nI_ltL, nI_eqL, va_up_self, va_up_ne, up_up, up_comm, nI_clamp, bI_eq0, not_true_eq_false, not_false_eq_true, Nat.reduceEqDiff, Nat.reduceLeDiff, Nat.reduceAdd, Nat.reduceMul, Nat.one_ne_zero, Nat.zero_ne_one, decide_eq_false_iff_not, decide_eq_true_eq, Bool.false_eq_true, decide_true, decide_false, bI_true, bI_false, one_ne, Nat.le_refl, Nat.lt_irrefl, cleT, cleF, cltT, cltF, ceqT, ceqF, ↓reduceIte, r198_0, r198_1, r198_4, r198_4_1, r198_5, r198_6, r198_9, r198_12, r198_13, r198_16, r198_17, r198_20, r198_21, r198_24, r198_25, r198_28, r198_29, r198_30, r198_31, r198_34, r198_35, r198_36, r198_39, r198_40, r198_41, r198_42, r198_44, r198_47, r198_48, r198_51, r198_52, r198_54, r198_56, r198_59, r198_60, r198_61, r198_63, r198_66, r198_67, r198_70, r198_71, r198_72, r198_73, r198_75, r198_78, r198_79, r198_80, r198_82, r198_85, r198_86, r198_87, r198_90, r198_91, r198_94, zO81_4, zO81_5, zO81_7, zO81_8, zO81_11, h8, k5, k31', v7, k4, i0, i1, zS84L, i9]
    · rw [q84, va_up_ne _ _ (by decide)]
      exact hc
    · obtain ⟨w1, F1⟩ := seS_ok hw
      rw [F1] at hF
      have w1 : (stI b N 1 (false, e, F, P) 1).1 = false := by rw [← eI]; exact w1
      have hF : (stI b N 1 (false, e, F, P) 1).2.2.1 = 0 := by rw [← eI]; exact hF
      obtain ⟨w0, F0, o0⟩ := slS_ok (c := 99) w1 hF
      rw [q84, b6 w1 o0, y4, va_up_ne _ _ (by decide), n4, l4]
      have e0 : slV b N (false, e, F, P) = (fun j => slV b N (lnI b N false (false, p, F, P) j)) 0 := by show _ = slV b N (lnI b N false (false, p, F, P) 0); rw [eI]; rfl
      rw [e0]
      exact ⟨rfl, rfl⟩
  · -- another word, or none
    have nw : ∀ z, Runs xs sl (d+3+1+1+1+1+1) 198 51 [some (.ref (81)), some (.int ( nI q)), none] [] (hp J (s) g) z → Runs xs sl (d+3+1+1+1+1+1) 198 0 [some (.ref (81)), none, none] [] (hp J (s) g) z := by
      intro z hz
      by_cases k31 : kQ b N q = 3
      · have k31' := eq_true k31
        have n := (wm_bgP v (v22 k31) (fun h => k11 ⟨k31, h⟩)).2
        have v7 := k7 k31
        generalize nI (wm v) = wv at *
        simp (disch := first | omega | assumption | exact Or.inl rfl | exact Or.inr rfl | exact bI_or _ | exact zC81 | exact zC47 | exact zC65 | exact zC0 | exact zC1 | exact zC32 | exact zC70 | exact zC73 | exact ztc (by assumption) | exact zdc (by assumption) | exact zpc (by assumption) | decide) only [Option.some.injEq, exists_eq_left', ex2, Option.toList, List.singleton_append, List.append_nil, List.cons_append, List.nil_append, nI_add, nI_addL, nI_Ladd, pk_mul, nI_mulL, nI_Lmul, nI_subL, pk_sub, nI_divL, sub_dm, nI_leE, nI_ltE, nI_eqE, nI_Lle, nI_leL, nI_Llt, nI_ltL, nI_eqL, va_up_self, va_up_ne, up_up, up_comm, nI_clamp, bI_eq0, not_true_eq_false, not_false_eq_true, Nat.reduceEqDiff, Nat.reduceLeDiff, Nat.reduceAdd, Nat.reduceMul, Nat.one_ne_zero, Nat.zero_ne_one, decide_eq_false_iff_not, decide_eq_true_eq, Bool.false_eq_true, decide_true, decide_false, bI_true, bI_false, one_ne, Nat.le_refl, Nat.lt_irrefl, cleT, cleF, cltT, cltF, ceqT, ceqF, ↓reduceIte, r198_0, r198_1, r198_4, r198_4_1, r198_5, r198_6, r198_9, r198_12, r198_13, r198_16, r198_17, r198_20, r198_21, r198_24, r198_25, r198_28, r198_29, r198_30, r198_31, r198_34, r198_35, r198_36, r198_39, r198_40, r198_41, r198_42, r198_44, r198_47, r198_48, zO81_4, zO81_5, zO81_7, zO81_8, h8, k4, k5, k31', v7, n]
        exact hz
      · simp (disch := first | omega | assumption | exact Or.inl rfl | exact Or.inr rfl | exact bI_or _ | exact zC81 | exact zC47 | exact zC65 | exact zC0 | exact zC1 | exact zC32 | exact zC70 | exact zC73 | exact ztc (by assumption) | exact zdc (by assumption) | exact zpc (by assumption) | decide) only [Option.some.injEq, exists_eq_left', ex2, Option.toList, List.singleton_append, List.append_nil, List.cons_append, List.nil_append, nI_add, nI_addL, nI_Ladd, pk_mul, nI_mulL, nI_Lmul, nI_subL, pk_sub, nI_divL, sub_dm, nI_leE, nI_ltE, nI_eqE, nI_Lle, nI_leL, nI_Llt, nI_ltL, nI_eqL, va_up_self, va_up_ne, up_up, up_comm, nI_clamp, bI_eq0, not_true_eq_false, not_false_eq_true, Nat.reduceEqDiff, Nat.reduceLeDiff, Nat.reduceAdd, Nat.reduceMul, Nat.one_ne_zero, Nat.zero_ne_one, decide_eq_false_iff_not, decide_eq_true_eq, Bool.false_eq_true, decide_true, decide_false, bI_true, bI_false, one_ne, Nat.le_refl, Nat.lt_irrefl, cleT, cleF, cltT, cltF, ceqT, ceqF, ↓reduceIte, r198_0, r198_1, r198_4, r198_4_1, r198_5, r198_6, r198_9, r198_12, r198_13, r198_16, r198_17, r198_20, r198_21, r198_24, r198_25, r198_28, r198_29, r198_30, r198_31, r198_34, r198_35, r198_36, r198_39, r198_40, r198_41, r198_42, r198_44, r198_47, r198_48, zO81_4, zO81_5, zO81_8, h8, k4, k5, k31]
        exact hz
    obtain ⟨t1, a1, a2, a3⟩ := tk2 (bgW 2 v) (fun h => (wm_bgP v (v22 h) (fun h' => k11 ⟨h, h'⟩)).1)
    have a1 := (show d + 1 + 1 + 3 + 1 + 1 = d + 3 + 1 + 1 + 1 + 1 by omega) ▸ a1
    have hw2 := hwo (bgW 2 v)
    obtain ⟨l1, l2, l3, l4⟩ := RF_LF a3
    by_cases kk : kQ b N q = 3 ∧ bgW 2 v = true
    · rw [if_pos kk] at hlS hw2
      rw [hw2] at a1 a2
      rw [if_neg (fun h => by cases h)] at a1
      rw [hlS]
      obtain ⟨eg, eN⟩ := eg' kk.1
      generalize eQ b N q = e at *
      rcases bgP v (v22 kk.1) kk.2 with hv | hv | hv
      · exact absurd ⟨kk.1, hv⟩ k11
      · subst hv
        rw [show nI (wm 18) = (21 : Int32) from rfl] at a1
        have hfu' : fu = false := hfu
        subst hfu'
        have eB : lnB b N false (false, p, F, P) = (false, e, F, P) := hlB
        have eI : ∀ j, lnI b N false (false, p, F, P) j = stI b N 10 (false, e, F, P) j := fun j => by rw [hlI, eB]; rfl
        obtain ⟨v0, t2, b1, b2, b3, b4, b5, b6⟩ := @rf_numbered xs sl (d + 1 + 1) J t1 g b N 0 9 0 9 (false, e, F, P) a2 rfl rfl (by decide) (by decide) (okN 122 (slV b N (false, e, F, P)) (slV b N (false, e, F, P))) ok_le
        have b1 := (show d + 1 + 1 + 3 + 1 + 1 = d + 3 + 1 + 1 + 1 + 1 by omega) ▸ b1
        have b2 : RM b N (stI b N 10 (false, e, F, P) 1) t2 := b2
        obtain ⟨n1, n2, n3, n4⟩ := RF_LF b3
        have m9 : RM b N (lnI b N false (false, p, F, P) 1) (va_up t2 84 (va_up (t2 84) 1 (nI v0))) := by rw [eI]; exact RM_84 _ b2
        obtain ⟨t3, z1, z2, z3⟩ := @rf_endsLine xs sl (d + 1 + 1) J (va_up t2 84 (va_up (t2 84) 1 (nI v0))) g b N _ m9
        have z1 := (show d + 1 + 1 + 3 + 1 + 1 = d + 3 + 1 + 1 + 1 + 1 by omega) ▸ z1
        obtain ⟨y1, y2, y3, y4⟩ := RF_LF z3
        have i9 := fun r => Runs.iff (r := r) z1
        have i0 := fun r => Runs.iff (r := r) a1
        have i1 := fun r => Runs.iff (r := r) b1
        have q84 : t3 84 = va_up (s 84) 1 (nI v0) := by rw [y2, va_up_self, n2, l2]
        have n2122 : ¬ (21 : Int32) = 22 := by decide
        refine ⟨t3, nw _ ?_, z2, LF_trans (LF_trans (LF_trans l1 n1) (LF_84 _ _)) y1, ⟨cr, ?_, hc12⟩, fun hw hF => ?_⟩
        · simp (disch := first | omega | assumption | exact Or.inl rfl | exact Or.inr rfl | exact bI_or _ | exact zC81 | exact zC47 | exact zC65 | exact zC0 | exact zC1 | exact zC32 | exact zC70 | exact zC73 | exact ztc (by assumption) | exact zdc (by assumption) | exact zpc (by assumption) | decide) only [Option.some.injEq, exists_eq_left', ex2, Option.toList, List.singleton_append, List.append_nil, List.cons_append, List.nil_append, nI_add, nI_addL, nI_Ladd, pk_mul, nI_mulL, nI_Lmul, nI_subL, pk_sub, nI_divL, sub_dm, nI_leE, nI_ltE, nI_eqE, nI_Lle, nI_leL, nI_Llt, nI_ltL, nI_eqL, va_up_self, va_up_ne, up_up, up_comm, nI_clamp, bI_eq0, not_true_eq_false, not_false_eq_true, Nat.reduceEqDiff, Nat.reduceLeDiff, Nat.reduceAdd, Nat.reduceMul, Nat.one_ne_zero, Nat.zero_ne_one, decide_eq_false_iff_not, decide_eq_true_eq, Bool.false_eq_true, decide_true, decide_false, bI_true, bI_false, one_ne, Nat.le_refl, Nat.lt_irrefl, cleT, cleF, cltT, cltF, ceqT, ceqF, ↓reduceIte, r198_51, r198_52, r198_54, r198_56, r198_59, r198_60, r198_61, r198_63, r198_66, r198_67, r198_70, r198_71, r198_72, r198_73, r198_75, r198_78, r198_79, r198_80, r198_82, r198_85, r198_86, r198_87, r198_90, r198_91, r198_94, zO81_11, i0, i1, zS84L, i9, n2122]
        · rw [q84, va_up_ne _ _ (by decide)]
          exact hc
        · obtain ⟨w1, F1⟩ := seS_ok hw
          rw [F1] at hF
          have w1 : (stI b N 10 (false, e, F, P) 1).1 = false := by rw [← eI]; exact w1
          have hF : (stI b N 10 (false, e, F, P) 1).2.2.1 = 0 := by rw [← eI]; exact hF
          obtain ⟨w0, F0, o0⟩ := slS_ok (c := 122) w1 hF
          rw [q84, b6 w1 o0, y4, va_up_ne _ _ (by decide), n4, l4]
          have e0 : slV b N (false, e, F, P) = (fun j => slV b N (lnI b N false (false, p, F, P) j)) 0 := by show _ = slV b N (lnI b N false (false, p, F, P) 0); rw [eI]; rfl
          rw [e0]
          exact ⟨rfl, rfl⟩
      · subst hv
        rw [show nI (wm 19) = (22 : Int32) from rfl] at a1
        have eI : ∀ j, lnI b N fu (false, p, F, P) j = stI b N 11 (lnB b N fu (false, p, F, P)) j := fun j => by rw [hlI]; rfl
        have hfu' : fu = decide (12 ≤ cr) := hfu
        rw [hfu'] at hlB
        obtain ⟨t2, b1, b2, b3, b4, b5⟩ := @rl_crumb xs sl d J t1 g b N e F P q cr a2 hPq eg eN (by rw [l2]; exact hc) hc12 (lnB b N fu (false, p, F, P)) (by rw [hfu'] ; exact hlB)
        have m9 : RM b N (lnI b N fu (false, p, F, P) 4) t2 := by rw [eI]; exact b2
        obtain ⟨t3, z1, z2, z3⟩ := @rf_endsLine xs sl (d + 1 + 1) J t2 g b N _ m9
        have z1 := (show d + 1 + 1 + 3 + 1 + 1 = d + 3 + 1 + 1 + 1 + 1 by omega) ▸ z1
        obtain ⟨y1, y2, y3, y4⟩ := RF_LF z3
        have i9 := fun r => Runs.iff (r := r) z1
        have i0 := fun r => Runs.iff (r := r) a1
        have i1 := fun r => Runs.iff (r := r) b1
        have n2221 : ¬ (22 : Int32) = 21 := by decide
        refine ⟨t3, nw _ ?_, z2, LF_trans (LF_trans l1 b3) y1, by rw [y2]; exact b4, fun hw hF => ?_⟩
        · simp (disch := first | omega | assumption | exact Or.inl rfl | exact Or.inr rfl | exact bI_or _ | exact zC81 | exact zC47 | exact zC65 | exact zC0 | exact zC1 | exact zC32 | exact zC70 | exact zC73 | exact ztc (by assumption) | exact zdc (by assumption) | exact zpc (by assumption) | decide) only [Option.some.injEq, exists_eq_left', ex2, Option.toList, List.singleton_append, List.append_nil, List.cons_append, List.nil_append, nI_add, nI_addL, nI_Ladd, pk_mul, nI_mulL, nI_Lmul, nI_subL, pk_sub, nI_divL, sub_dm, nI_leE, nI_ltE, nI_eqE, nI_Lle, nI_leL, nI_Llt, nI_ltL, nI_eqL, va_up_self, va_up_ne, up_up, up_comm, nI_clamp, bI_eq0, not_true_eq_false, not_false_eq_true, Nat.reduceEqDiff, Nat.reduceLeDiff, Nat.reduceAdd, Nat.reduceMul, Nat.one_ne_zero, Nat.zero_ne_one, decide_eq_false_iff_not, decide_eq_true_eq, Bool.false_eq_true, decide_true, decide_false, bI_true, bI_false, one_ne, Nat.le_refl, Nat.lt_irrefl, cleT, cleF, cltT, cltF, ceqT, ceqF, ↓reduceIte, r198_51, r198_52, r198_54, r198_56, r198_59, r198_60, r198_61, r198_63, r198_66, r198_67, r198_70, r198_71, r198_72, r198_73, r198_75, r198_78, r198_79, r198_80, r198_82, r198_85, r198_86, r198_87, r198_90, r198_91, r198_94, i0, i1, i9, n2221]
        · obtain ⟨w1, F1⟩ := seS_ok hw
          rw [F1] at hF
          have w1 : (stI b N 11 (lnB b N fu (false, p, F, P)) 4).1 = false := by rw [← eI]; exact w1
          have hF : (stI b N 11 (lnB b N fu (false, p, F, P)) 4).2.2.1 = 0 := by rw [← eI]; exact hF
          obtain ⟨-, u1, u3⟩ := b5 w1 hF
          rw [y2, u1, y4, u3, l2, l4, ← eI 1, ← eI 2, ← eI 3]
          exact ⟨rfl, rfl⟩
    · rw [if_neg kk] at hlS hw2
      rw [hw2] at a1 a2
      rw [if_pos rfl] at a1
      rw [hlS]
      obtain ⟨t3, z1, z2, z3⟩ := @rf_endsLine xs sl (d + 1 + 1) J t1 g b N _ a2
      have z1 := (show d + 1 + 1 + 3 + 1 + 1 = d + 3 + 1 + 1 + 1 + 1 by omega) ▸ z1
      rw [seS_w rfl] at z2
      obtain ⟨y1, y2, y3, y4⟩ := RF_LF z3
      have i0 := fun r => Runs.iff (r := r) a1
      have i9 := fun r => Runs.iff (r := r) z1
      have n1 : ¬ (0 : Int32) = 21 := by decide
      have n2 : ¬ (0 : Int32) = 22 := by decide
      refine ⟨t3, nw _ ?_, z2, LF_trans l1 y1, ⟨cr, by rw [y2, l2]; exact hc, hc12⟩, fun h => by cases h⟩
      simp (disch := first | omega | assumption | exact Or.inl rfl | exact Or.inr rfl | exact bI_or _ | exact zC81 | exact zC47 | exact zC65 | exact zC0 | exact zC1 | exact zC32 | exact zC70 | exact zC73 | exact ztc (by assumption) | exact zdc (by assumption) | exact zpc (by assumption) | decide) only [Option.some.injEq, exists_eq_left', ex2, Option.toList, List.singleton_append, List.append_nil, List.cons_append, List.nil_append, nI_add, nI_addL, nI_Ladd, pk_mul, nI_mulL, nI_Lmul, nI_subL, pk_sub, nI_divL, sub_dm, nI_leE, nI_ltE, nI_eqE, nI_Lle, nI_leL, nI_Llt, nI_ltL, nI_eqL, va_up_self, va_up_ne, up_up, up_comm, nI_clamp, bI_eq0, not_true_eq_false, not_false_eq_true, Nat.reduceEqDiff, Nat.reduceLeDiff, Nat.reduceAdd, Nat.reduceMul, Nat.one_ne_zero, Nat.zero_ne_one, decide_eq_false_iff_not, decide_eq_true_eq, Bool.false_eq_true, decide_true, decide_false, bI_true, bI_false, one_ne, Nat.le_refl, Nat.lt_irrefl, cleT, cleF, cltT, cltF, ceqT, ceqF, ↓reduceIte, r198_51, r198_52, r198_54, r198_56, r198_59, r198_60, r198_61, r198_63, r198_66, r198_67, r198_70, r198_71, r198_72, r198_73, r198_75, r198_78, r198_79, r198_80, r198_82, r198_85, r198_86, r198_87, r198_90, r198_91, r198_94, i0, i9, n1, n2]
end TXW
