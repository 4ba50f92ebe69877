/-! DRAWN, alike -/
section DR2
variable {xs : Nat → Int32} {sl d : Nat} {J : hJk} {s x y : hS} {g : hG}
theorem pick_congr {v : Int32} {n h L : Nat} {f f' : Nat → Nat} (hf : ∀ u, u < h → f u = f' u) : pick v n h L f = pick v n h L f' := by
  unfold pick
  by_cases kh : h = 0
  · rw [if_pos kh, if_pos kh]
  · rw [if_neg kh, if_neg kh, hf _ (Nat.mod_lt _ (by omega))]
theorem dv_0 {u w : Nat} (h1 : u < 4) (h2 : w < 6) : dv 0 (nI u) (nI w) u w := ⟨by decide, Or.inr ⟨rfl, rfl⟩, fun _ => ⟨h1, h2⟩, fun q => absurd q (by decide), fun q => absurd q (by decide), fun q => absurd q (by decide), fun q => absurd q (by decide)⟩
theorem dv_1 {u w : Nat} (h1 : u < 5) (h2 : w < 4) : dv 1 (nI u) (nI w) u w := ⟨by decide, Or.inr ⟨rfl, rfl⟩, fun q => absurd q (by decide), fun _ => ⟨h1, h2⟩, fun q => absurd q (by decide), fun q => absurd q (by decide), fun q => absurd q (by decide)⟩
theorem dv_2 {u w : Nat} (h1 : u < 8) (h2 : w < 16) : dv 2 (nI u) (nI w) u w := ⟨by decide, Or.inr ⟨rfl, rfl⟩, fun q => absurd q (by decide), fun q => absurd q (by decide), fun _ => ⟨h1, h2⟩, fun q => absurd q (by decide), fun q => absurd q (by decide)⟩
theorem dv_4 {u w : Nat} (h1 : u < 8) (h2 : w < 4) : dv 4 (nI u) (nI w) u w := ⟨by decide, Or.inr ⟨rfl, rfl⟩, fun q => absurd q (by decide), fun q => absurd q (by decide), fun q => absurd q (by decide), fun q => absurd q (by decide), fun _ => ⟨h1, h2⟩⟩
theorem dv_5 {u w : Nat} : dv 5 (nI u) (nI w) u w := ⟨by decide, Or.inr ⟨rfl, rfl⟩, fun q => absurd q (by decide), fun q => absurd q (by decide), fun q => absurd q (by decide), fun q => absurd q (by decide), fun q => absurd q (by decide)⟩
theorem pick_dv (v : Int32) {n h L : Nat} {f : Nat → Nat} (hn : 1 ≤ n) (hn6 : n ≤ 6) (hh : h ≤ 8) (hL : L ≤ 16) : (pick v n h L f).1 = 9 ∨ dv (pick v n h L f).1 (nI (pick v n h L f).2.1) (nI (pick v n h L f).2.2.1) (pick v n h L f).2.1 (pick v n h L f).2.2.1 := by
  unfold pick
  split
  · right
    have h2 := Nat.mod_lt (hi16 (lcg (lcg (lcg v)))) (show n > 0 by omega)
    exact dv_0 (Nat.mod_lt _ (by decide)) (Nat.lt_of_lt_of_le h2 hn6)
  · split
    · right
      exact dv_1 (Nat.mod_lt _ (by decide)) (Nat.mod_lt _ (by decide))
    · split
      · right
        exact dv_5
      · split
        · exact Or.inl rfl
        · rename_i kh
          have h1 := Nat.mod_lt (hi16 (lcg (lcg v))) (show h > 0 by omega)
          split
          · split
            · rename_i kf
              right
              exact dv_2 (Nat.lt_of_lt_of_le h1 hh) (Nat.lt_of_lt_of_le kf hL)
            · exact Or.inl rfl
          · right
            exact dv_4 (Nat.lt_of_lt_of_le h1 hh) (Nat.mod_lt _ (by decide))
theorem SR_seed {n L : Nat} {v v' : Int32} (h : SR n L x y) : SR n L (sd x v) (sr y v') := by
  obtain ⟨h1, h2, h3, h4, h5, h6, h7, h8, h9⟩ := h
  unfold sd sr
  refine ⟨?_, ?_, ?_, ?_, ?_, ?_, ?_, ?_, ?_⟩
  · simp (disch := first | omega | assumption | exact Or.inl rfl | exact Or.inr rfl | exact bI_or _ | exact zC81 | exact zC47 | exact zC65 | exact zC0 | exact zC1 | exact zC32 | exact zC70 | exact zC73 | exact ztc (by assumption) | exact zdc (by assumption) | exact zpc (by assumption) | decide) only [Option.some.injEq, exists_eq_left', ex2, Option.toList, List.singleton_append, List.append_nil, List.cons_append, List.nil_append, nI_add, nI_addL, nI_Ladd, pk_mul, nI_mulL, nI_Lmul, nI_subL, pk_sub, nI_divL, sub_dm, nI_leE, nI_ltE, nI_eqE, nI_Lle, nI_leL, nI_Llt, nI_ltL, nI_eqL, va_up_self, va_up_ne, up_up, up_comm, nI_clamp, bI_eq0, not_true_eq_false, not_false_eq_true, Nat.reduceEqDiff, Nat.reduceLeDiff, Nat.reduceAdd, Nat.reduceMul, Nat.one_ne_zero, Nat.zero_ne_one, decide_eq_false_iff_not, decide_eq_true_eq, Bool.false_eq_true, decide_true, decide_false, bI_true, bI_false, one_ne, Nat.le_refl, Nat.lt_irrefl, cleT, cleF, cltT, cltF, ceqT, ceqF, ↓reduceIte, h1]
  all_goals (simp (disch := first | omega | assumption | exact Or.inl rfl | exact Or.inr rfl | exact bI_or _ | exact zC81 | exact zC47 | exact zC65 | exact zC0 | exact zC1 | exact zC32 | exact zC70 | exact zC73 | exact ztc (by assumption) | exact zdc (by assumption) | exact zpc (by assumption) | decide) only [Option.some.injEq, exists_eq_left', ex2, Option.toList, List.singleton_append, List.append_nil, List.cons_append, List.nil_append, nI_add, nI_addL, nI_Ladd, pk_mul, nI_mulL, nI_Lmul, nI_subL, pk_sub, nI_divL, sub_dm, nI_leE, nI_ltE, nI_eqE, nI_Lle, nI_leL, nI_Llt, nI_ltL, nI_eqL, va_up_self, va_up_ne, up_up, up_comm, nI_clamp, bI_eq0, not_true_eq_false, not_false_eq_true, Nat.reduceEqDiff, Nat.reduceLeDiff, Nat.reduceAdd, Nat.reduceMul, Nat.one_ne_zero, Nat.zero_ne_one, decide_eq_false_iff_not, decide_eq_true_eq, Bool.false_eq_true, decide_true, decide_false, bI_true, bI_false, one_ne, Nat.le_refl, Nat.lt_irrefl, cleT, cleF, cltT, cltF, ceqT, ceqF, ↓reduceIte]; assumption)
/-- the relation of the two while days are drawn -/
def DR (x0 y0 : hS) (a t0 n h : Nat) (x y : hS) : Prop := CI x0 x a n h ∧ RI y0 y t0 n h ∧ lvC x = lvR y ∧ SR n (lvC x) x y ∧ x 0 7 = y 81 41
theorem goC2_seed {n L k u w : Nat} {v : Int32} : goC2 s n L k u w v 0 = s 0 := goC2_fr (by omega)
theorem DR_step {x0 y0 : hS} {a t0 n h : Nat} (hTR : ∀ x y, (∀ c, 1 ≤ c ∧ c < 47 → x c = x0 c) → y 82 = y0 82 → TR a t0 h x y) (hn1 : 1 ≤ n) (hD : DR x0 y0 a t0 n h x y) : DR x0 y0 a t0 n h (drC x a n h) (drR y t0 n h) := by
  obtain ⟨hC, hR, hl, hS, h7⟩ := hD
  have hn : n ≤ 6 := hC.1.2.2.2.2.1
  have hh : h ≤ 8 := hC.1.2.2.2.2.2.2
  have hT : TR a t0 h x y := hTR x y (fun c hc => hC.2.2.2 c (by omega)) (hR.2.2.2.1 82 (by omega))
  have ep : pkR y t0 n h = pkC x a n h := by
    unfold pkR pkC
    rw [← h7, ← hl]
    refine pick_congr (fun u hu => ?_)
    refine (ffN_congr (L := lvC x) (fun l hl => ?_) (lvC x) 0 (by omega)).symm
    unfold cMay rMay
    rw [Ag_eq hS hT hn hu hh hl, Fate_eq hS hT hl]
  have dvp := pick_dv (x 0 7) (n := n) (h := h) (L := lvC x) (f := fun u => ffN (cMay x a n u) (lvC x) 0) hn1 hn hh hC.2.2.1
  unfold drC drR
  rw [ep]
  have e0 : pick (x 0 7) n h (lvC x) (fun u => ffN (cMay x a n u) (lvC x) 0) = pkC x a n h := rfl
  rw [e0] at dvp
  generalize pkC x a n h = P at *
  obtain ⟨k, u, w, v, q⟩ := P
  dsimp only at dvp ⊢
  obtain ⟨hC2, l1⟩ := CI_sd (v := q) hC
  obtain ⟨hR2, l2⟩ := RI_sr (v := q) hR
  have hS2 : SR n (lvC (sd x q)) (sd x q) (sr y q) := by rw [l1]; exact SR_seed hS
  have hl2 : lvC (sd x q) = lvR (sr y q) := by rw [l1, l2, hl]
  have hT2 : TR a t0 h (sd x q) (sr y q) := hTR _ _ (fun c hc => hC2.2.2.2 c (by omega)) (hR2.2.2.2.1 82 (by omega))
  have h72 : sd x q 0 7 = sr y q 81 41 := by unfold sd sr; simp (disch := first | omega | assumption | exact Or.inl rfl | exact Or.inr rfl | exact bI_or _ | exact zC81 | exact zC47 | exact zC65 | exact zC0 | exact zC1 | exact zC32 | exact zC70 | exact zC73 | exact ztc (by assumption) | exact zdc (by assumption) | exact zpc (by assumption) | decide) only [Option.some.injEq, exists_eq_left', ex2, Option.toList, List.singleton_append, List.append_nil, List.cons_append, List.nil_append, nI_add, nI_addL, nI_Ladd, pk_mul, nI_mulL, nI_Lmul, nI_subL, pk_sub, nI_divL, sub_dm, nI_leE, nI_ltE, nI_eqE, nI_Lle, nI_leL, nI_Llt, nI_ltL, nI_eqL, va_up_self, va_up_ne, up_up, up_comm, nI_clamp, bI_eq0, not_true_eq_false, not_false_eq_true, Nat.reduceEqDiff, Nat.reduceLeDiff, Nat.reduceAdd, Nat.reduceMul, Nat.one_ne_zero, Nat.zero_ne_one, decide_eq_false_iff_not, decide_eq_true_eq, Bool.false_eq_true, decide_true, decide_false, bI_true, bI_false, one_ne, Nat.le_refl, Nat.lt_irrefl, cleT, cleF, cltT, cltF, ceqT, ceqF, ↓reduceIte]
  generalize sd x q = X at *
  generalize sr y q = Y at *
  unfold doC doR
  by_cases k9 : k = 9
  · rw [if_pos k9, if_pos k9]
    exact ⟨hC2, hR2, hl2, hS2, h72⟩
  · rw [if_neg k9, if_neg k9]
    have dvk := dvp.resolve_left k9
    have eq1 : goC1 X a n h (lvC X) k u w = goR1 Y t0 n h (lvR Y) k u w := by
      rw [← hl2]
      exact go1_eq hS2 hT2 hn hh
    by_cases c : goC1 X a n h (lvC X) k u w = true
    · have cR : goR1 Y t0 n h (lvR Y) k u w = true := eq1 ▸ c
      rw [if_pos c, if_pos cR]
      have w0 := go2_eq (v := v) hS2 dvk c hn
      have b : (if k = 1 then lvC X + 1 else lvC X) ≤ 16 := by
        by_cases c1 : k = 1
        · rw [if_pos c1]
          subst c1
          have z : lvC X < 16 := of_decide_eq_true c
          omega
        · rw [if_neg c1]
          exact hC2.2.2.1
      have g1 : lvC (goC2 X n (lvC X) k u w v) = (if k = 1 then lvC X + 1 else lvC X) := lvC_of (goC2_1 hC2.2.1) b
      have g2 : lvR (goR2 Y n (lvR Y) k u w v) = (if k = 1 then lvC X + 1 else lvC X) := by
        rw [hl2] at b ⊢
        exact lvR_of (goR2_23 hR2.2.1) b
      refine ⟨CI_go hC2 c, RI_go hR2 cR, by rw [g1, g2], ?_, ?_⟩
      · rw [g1, ← hl2]
        exact w0
      · rw [goC2_seed, goR2_81 (by decide) (by decide)]
        exact h72
    · have cR : ¬ goR1 Y t0 n h (lvR Y) k u w = true := eq1 ▸ c
      rw [if_neg c, if_neg cR]
      exact ⟨hC2, hR2, hl2, hS2, h72⟩
theorem pm_drawn (hI : ToldR s (s 82)) (u w z v : Int32) : Same xs sl J s g 30 279 [some (.ref 0), some (.int u), some (.int w), some (.int z), some (.int v), none, none] [some (.ref 81), some (.int u), some (.int w), some (.int z), some (.int v), none] := by
  obtain ⟨c0, c1, c2, len, ⟨q0, q0', q0''⟩, -, -, -, -, -, hT, -, -⟩ := hI
  rcases has_cases u (n := c0) (by omega) with h | ⟨k, hk, rfl⟩
  · refine ⟨.int (-1000), s, s, g, ?_, CK_refl s, ?_, RK_refl s⟩
    · simp (disch := first | omega | assumption | exact Or.inl rfl | exact Or.inr rfl | exact bI_or _ | exact zC81 | exact zC47 | exact zC65 | exact zC0 | exact zC1 | exact zC32 | exact zC70 | exact zC73 | exact ztc (by assumption) | exact zdc (by assumption) | exact zpc (by assumption) | decide) only [Option.some.injEq, exists_eq_left', ex2, Option.toList, List.singleton_append, List.append_nil, List.cons_append, List.nil_append, nI_add, nI_addL, nI_Ladd, pk_mul, nI_mulL, nI_Lmul, nI_subL, pk_sub, nI_divL, sub_dm, nI_leE, nI_ltE, nI_eqE, nI_Lle, nI_leL, nI_Llt, nI_ltL, nI_eqL, va_up_self, va_up_ne, up_up, up_comm, nI_clamp, bI_eq0, not_true_eq_false, not_false_eq_true, Nat.reduceEqDiff, Nat.reduceLeDiff, Nat.reduceAdd, Nat.reduceMul, Nat.one_ne_zero, Nat.zero_ne_one, decide_eq_false_iff_not, decide_eq_true_eq, Bool.false_eq_true, decide_true, decide_false, bI_true, bI_false, one_ne, Nat.le_refl, Nat.lt_irrefl, cleT, cleF, cltT, cltF, ceqT, ceqF, ↓reduceIte, r30_0, r30_1, r30_2, r30_5, r30_5n, r30_7, r30_7n, r30_9, r30_9n, r30_12, r30_13, r30_16, r30_17, r30_19, r30_22, r30_25, r30_26, r30_27, r30_30, r30_30n, r30_32, r30_35, r30_36, r30_37, r30_40, r30_41, r30_41_1, r30_43, r30_45, r30_46, r30_49, r30_50, r30_50n, r30_52, r30_55, r30_55_1, r30_58, r30_61, r30_62, r30_65, r30_67, r30_70, br_townNo q0 h]
    · simp (disch := first | omega | assumption | exact Or.inl rfl | exact Or.inr rfl | exact bI_or _ | exact zC81 | exact zC47 | exact zC65 | exact zC0 | exact zC1 | exact zC32 | exact zC70 | exact zC73 | exact ztc (by assumption) | exact zdc (by assumption) | exact zpc (by assumption) | decide) only [Option.some.injEq, exists_eq_left', ex2, Option.toList, List.singleton_append, List.append_nil, List.cons_append, List.nil_append, nI_add, nI_addL, nI_Ladd, pk_mul, nI_mulL, nI_Lmul, nI_subL, pk_sub, nI_divL, sub_dm, nI_leE, nI_ltE, nI_eqE, nI_Lle, nI_leL, nI_Llt, nI_ltL, nI_eqL, va_up_self, va_up_ne, up_up, up_comm, nI_clamp, bI_eq0, not_true_eq_false, not_false_eq_true, Nat.reduceEqDiff, Nat.reduceLeDiff, Nat.reduceAdd, Nat.reduceMul, Nat.one_ne_zero, Nat.zero_ne_one, decide_eq_false_iff_not, decide_eq_true_eq, Bool.false_eq_true, decide_true, decide_false, bI_true, bI_false, one_ne, Nat.le_refl, Nat.lt_irrefl, cleT, cleF, cltT, cltF, ceqT, ceqF, ↓reduceIte, r279_0, r279_1, r279_2, r279_5, r279_8, r279_9, r279_10, r279_12, r279_15, r279_18, r279_20, r279_23, r279_26, r279_27, r279_28, r279_29, r279_32, r279_33, r279_36, r279_37, r279_39, r279_41, r279_42, r279_45, r279_46, r279_49, r279_52, r279_55, r279_56, r279_58, r279_61, rf_townNo q0' q0'' h]
  · obtain ⟨n, li, h, sa, c, hQ⟩ := hT k hk
    have hR := rTown_rT (s := s) (by omega) hQ
    have hiT := isT_of (k := k) (by omega)
    have hn1 : 1 ≤ n := hQ.1.2.2.1
    have e1 : f_isIn z 0 60 = f_has z (nI 61) := isIn2 (n := 60) (by decide)
    rcases has_cases z (n := 61) (by decide) with hz | ⟨N, hN, rfl⟩
    · rw [hz] at e1
      refine ⟨.int (-1000), s, rTown s k, g, ?_, CK_refl s, ?_, rTown_RK k⟩
      · rcases has_none hz with q | ⟨q1, q2⟩
        · simp (disch := first | omega | assumption | exact Or.inl rfl | exact Or.inr rfl | exact bI_or _ | exact zC81 | exact zC47 | exact zC65 | exact zC0 | exact zC1 | exact zC32 | exact zC70 | exact zC73 | exact ztc (by assumption) | exact zdc (by assumption) | exact zpc (by assumption) | decide) only [Option.some.injEq, exists_eq_left', ex2, Option.toList, List.singleton_append, List.append_nil, List.cons_append, List.nil_append, nI_add, nI_addL, nI_Ladd, pk_mul, nI_mulL, nI_Lmul, nI_subL, pk_sub, nI_divL, sub_dm, nI_leE, nI_ltE, nI_eqE, nI_Lle, nI_leL, nI_Llt, nI_ltL, nI_eqL, va_up_self, va_up_ne, up_up, up_comm, nI_clamp, bI_eq0, not_true_eq_false, not_false_eq_true, Nat.reduceEqDiff, Nat.reduceLeDiff, Nat.reduceAdd, Nat.reduceMul, Nat.one_ne_zero, Nat.zero_ne_one, decide_eq_false_iff_not, decide_eq_true_eq, Bool.false_eq_true, decide_true, decide_false, bI_true, bI_false, one_ne, Nat.le_refl, Nat.lt_irrefl, cleT, cleF, cltT, cltF, ceqT, ceqF, ↓reduceIte, r30_0, r30_1, r30_2, r30_5, r30_5n, r30_7, r30_7n, r30_9, r30_9n, r30_12, r30_13, r30_16, r30_17, r30_19, r30_22, r30_25, r30_26, r30_27, r30_30, r30_30n, r30_32, r30_35, r30_36, r30_37, r30_40, r30_41, r30_41_1, r30_43, r30_45, r30_46, r30_49, r30_50, r30_50n, r30_52, r30_55, r30_55_1, r30_58, r30_61, r30_62, r30_65, r30_67, r30_70, br_townAt q0 q0'' hk, q]
        · have q3 : ¬ z ≤ 60 := by
            rw [Int32.le_iff_toInt_le] at q2 ⊢
            have z2 : (60 : Int32).toInt = 60 := rfl
            have z3 : (nI 61).toInt = 61 := rfl
            omega
          simp (disch := first | omega | assumption | exact Or.inl rfl | exact Or.inr rfl | exact bI_or _ | exact zC81 | exact zC47 | exact zC65 | exact zC0 | exact zC1 | exact zC32 | exact zC70 | exact zC73 | exact ztc (by assumption) | exact zdc (by assumption) | exact zpc (by assumption) | decide) only [Option.some.injEq, exists_eq_left', ex2, Option.toList, List.singleton_append, List.append_nil, List.cons_append, List.nil_append, nI_add, nI_addL, nI_Ladd, pk_mul, nI_mulL, nI_Lmul, nI_subL, pk_sub, nI_divL, sub_dm, nI_leE, nI_ltE, nI_eqE, nI_Lle, nI_leL, nI_Llt, nI_ltL, nI_eqL, va_up_self, va_up_ne, up_up, up_comm, nI_clamp, bI_eq0, not_true_eq_false, not_false_eq_true, Nat.reduceEqDiff, Nat.reduceLeDiff, Nat.reduceAdd, Nat.reduceMul, Nat.one_ne_zero, Nat.zero_ne_one, decide_eq_false_iff_not, decide_eq_true_eq, Bool.false_eq_true, decide_true, decide_false, bI_true, bI_false, one_ne, Nat.le_refl, Nat.lt_irrefl, cleT, cleF, cltT, cltF, ceqT, ceqF, ↓reduceIte, r30_0, r30_1, r30_2, r30_5, r30_5n, r30_7, r30_7n, r30_9, r30_9n, r30_12, r30_13, r30_16, r30_17, r30_19, r30_22, r30_25, r30_26, r30_27, r30_30, r30_30n, r30_32, r30_35, r30_36, r30_37, r30_40, r30_41, r30_41_1, r30_43, r30_45, r30_46, r30_49, r30_50, r30_50n, r30_52, r30_55, r30_55_1, r30_58, r30_61, r30_62, r30_65, r30_67, r30_70, br_townAt q0 q0'' hk, q1, q3]
      · simp (disch := first | omega | assumption | exact Or.inl rfl | exact Or.inr rfl | exact bI_or _ | exact zC81 | exact zC47 | exact zC65 | exact zC0 | exact zC1 | exact zC32 | exact zC70 | exact zC73 | exact ztc (by assumption) | exact zdc (by assumption) | exact zpc (by assumption) | decide) only [Option.some.injEq, exists_eq_left', ex2, Option.toList, List.singleton_append, List.append_nil, List.cons_append, List.nil_append, nI_add, nI_addL, nI_Ladd, pk_mul, nI_mulL, nI_Lmul, nI_subL, pk_sub, nI_divL, sub_dm, nI_leE, nI_ltE, nI_eqE, nI_Lle, nI_leL, nI_Llt, nI_ltL, nI_eqL, va_up_self, va_up_ne, up_up, up_comm, nI_clamp, bI_eq0, not_true_eq_false, not_false_eq_true, Nat.reduceEqDiff, Nat.reduceLeDiff, Nat.reduceAdd, Nat.reduceMul, Nat.one_ne_zero, Nat.zero_ne_one, decide_eq_false_iff_not, decide_eq_true_eq, Bool.false_eq_true, decide_true, decide_false, bI_true, bI_false, one_ne, Nat.le_refl, Nat.lt_irrefl, cleT, cleF, cltT, cltF, ceqT, ceqF, ↓reduceIte, r279_0, r279_1, r279_2, r279_5, r279_8, r279_9, r279_10, r279_12, r279_15, r279_18, r279_20, r279_23, r279_26, r279_27, r279_28, r279_29, r279_32, r279_33, r279_36, r279_37, r279_39, r279_41, r279_42, r279_45, r279_46, r279_49, r279_52, r279_55, r279_56, r279_58, r279_61, rf_isTown q0' q0'' hk, rf_isInE, e1]
    · rw [f_has_nI (by omega) (by decide), decide_eq_true hN] at e1
      have cb := @CB_run xs sl 994 J s g (s 82) (7 + 12 * k) _ n li h sa c hiT (by omega) hQ
      obtain ⟨hC, lC⟩ := CB_CI hiT (by omega) hQ
      have SB := fun (y : hS) (hy : y 82 = s 82) => begin_SR (y := y) hQ hy
      generalize hX : CB s (7 + 12 * k) n sa c = X at *
      obtain ⟨hC2, l2⟩ := CI_sd (v := w) hC
      have IC : ∀ i, i ≤ N → CI s (it (fun _ x => drC x (7 + 12 * k) n h) i (sd X w)) (7 + 12 * k) n h := by
        refine it_inv (fun _ x => CI s x (7 + 12 * k) n h) hC2 ?_
        intro i x hi hc
        unfold drC doC
        generalize pkC x (7 + 12 * k) n h = P
        obtain ⟨k', u', w', v', q'⟩ := P
        dsimp only
        have hc2 := (CI_sd (v := q') hc).1
        split
        · exact hc2
        · split
          · rename_i cc
            exact CI_go hc2 cc
          · exact hc2
      have runC : ∀ {r : Option Value × mH}, Runs xs sl (999) 30 43 [some (.ref (0)), some (.int ( nI k)), some (.int (w)), some (.int ( nI N)), some (.int (v)), some (.ref ( 7 + 12 * k)), some (.int ( nI 0))] [] (hp J (sd X w) g) r ↔ Runs xs sl (999) 30 43 [some (.ref (0)), some (.int ( nI k)), some (.int (w)), some (.int ( nI N)), some (.int (v)), some (.ref ( 7 + 12 * k)), some (.int ( nI N))] [] (hp J (it (fun _ x => drC x (7 + 12 * k) n h) N (sd X w)) g) r := by
        intro r
        have q : ∀ i, i ≤ N → (Runs xs sl (999) 30 43 [some (.ref (0)), some (.int ( nI k)), some (.int (w)), some (.int ( nI N)), some (.int (v)), some (.ref ( 7 + 12 * k)), some (.int ( nI 0))] [] (hp J (sd X w) g) r ↔ Runs xs sl (999) 30 43 [some (.ref (0)), some (.int ( nI k)), some (.int (w)), some (.int ( nI N)), some (.int (v)), some (.ref ( 7 + 12 * k)), some (.int ( nI i))] [] (hp J (it (fun _ x => drC x (7 + 12 * k) n h) i (sd X w)) g) r) := by
          intro i
          induction i with
          | zero => exact fun _ => Iff.rfl
          | succ i ih =>
            intro hi
            rw [ih (by omega), r30_43]
            have hc := IC i (by omega)
            rw [it]
            generalize it (fun _ x => drC x (7 + 12 * k) n h) i (sd X w) = x at *
            simp (disch := first | omega | assumption | exact Or.inl rfl | exact Or.inr rfl | exact bI_or _ | exact zC81 | exact zC47 | exact zC65 | exact zC0 | exact zC1 | exact zC32 | exact zC70 | exact zC73 | exact ztc (by assumption) | exact zdc (by assumption) | exact zpc (by assumption) | decide) only [Option.some.injEq, exists_eq_left', ex2, Option.toList, List.singleton_append, List.append_nil, List.cons_append, List.nil_append, nI_add, nI_addL, nI_Ladd, pk_mul, nI_mulL, nI_Lmul, nI_subL, pk_sub, nI_divL, sub_dm, nI_leE, nI_ltE, nI_eqE, nI_Lle, nI_leL, nI_Llt, nI_ltL, nI_eqL, va_up_self, va_up_ne, up_up, up_comm, nI_clamp, bI_eq0, not_true_eq_false, not_false_eq_true, Nat.reduceEqDiff, Nat.reduceLeDiff, Nat.reduceAdd, Nat.reduceMul, Nat.one_ne_zero, Nat.zero_ne_one, decide_eq_false_iff_not, decide_eq_true_eq, Bool.false_eq_true, decide_true, decide_false, bI_true, bI_false, one_ne, Nat.le_refl, Nat.lt_irrefl, cleT, cleF, cltT, cltF, ceqT, ceqF, ↓reduceIte, r30_45, r30_46, r30_49, r30_50, r30_50n, r30_52, r30_55, r30_55_1, r30_58, br_drawDeed hc hn1]
        exact q N (Nat.le_refl N)
      have x1C := IC N (Nat.le_refl N)
      by_cases cv : v < 0
      · refine ⟨.int (-1000), it (fun _ x => drC x (7 + 12 * k) n h) N (sd X w), rTown (it (fun _ x => drC x (7 + 12 * k) n h) N (sd X w)) k, g, ?_, CI_CK x1C, ?_, rTown_RK k⟩
        · simp (disch := first | omega | assumption | exact Or.inl rfl | exact Or.inr rfl | exact bI_or _ | exact zC81 | exact zC47 | exact zC65 | exact zC0 | exact zC1 | exact zC32 | exact zC70 | exact zC73 | exact ztc (by assumption) | exact zdc (by assumption) | exact zpc (by assumption) | decide) only [Option.some.injEq, exists_eq_left', ex2, Option.toList, List.singleton_append, List.append_nil, List.cons_append, List.nil_append, nI_add, nI_addL, nI_Ladd, pk_mul, nI_mulL, nI_Lmul, nI_subL, pk_sub, nI_divL, sub_dm, nI_leE, nI_ltE, nI_eqE, nI_Lle, nI_leL, nI_Llt, nI_ltL, nI_eqL, va_up_self, va_up_ne, up_up, up_comm, nI_clamp, bI_eq0, not_true_eq_false, not_false_eq_true, Nat.reduceEqDiff, Nat.reduceLeDiff, Nat.reduceAdd, Nat.reduceMul, Nat.one_ne_zero, Nat.zero_ne_one, decide_eq_false_iff_not, decide_eq_true_eq, Bool.false_eq_true, decide_true, decide_false, bI_true, bI_false, one_ne, Nat.le_refl, Nat.lt_irrefl, cleT, cleF, cltT, cltF, ceqT, ceqF, ↓reduceIte, r30_0, r30_1, r30_2, r30_5, r30_5n, r30_7, r30_7n, r30_9, r30_9n, r30_12, r30_13, r30_16, r30_17, r30_19, r30_22, r30_25, r30_26, r30_27, r30_30, r30_30n, r30_32, r30_35, r30_36, r30_37, r30_40, r30_41, r30_41_1, br_townAt q0 q0'' hk, zO0_3, zW0_7, cb]
          refine runC.mpr ?_
          rw [r30_43]
          simp (disch := first | omega | assumption | exact Or.inl rfl | exact Or.inr rfl | exact bI_or _ | exact zC81 | exact zC47 | exact zC65 | exact zC0 | exact zC1 | exact zC32 | exact zC70 | exact zC73 | exact ztc (by assumption) | exact zdc (by assumption) | exact zpc (by assumption) | decide) only [Option.some.injEq, exists_eq_left', ex2, Option.toList, List.singleton_append, List.append_nil, List.cons_append, List.nil_append, nI_add, nI_addL, nI_Ladd, pk_mul, nI_mulL, nI_Lmul, nI_subL, pk_sub, nI_divL, sub_dm, nI_leE, nI_ltE, nI_eqE, nI_Lle, nI_leL, nI_Llt, nI_ltL, nI_eqL, va_up_self, va_up_ne, up_up, up_comm, nI_clamp, bI_eq0, not_true_eq_false, not_false_eq_true, Nat.reduceEqDiff, Nat.reduceLeDiff, Nat.reduceAdd, Nat.reduceMul, Nat.one_ne_zero, Nat.zero_ne_one, decide_eq_false_iff_not, decide_eq_true_eq, Bool.false_eq_true, decide_true, decide_false, bI_true, bI_false, one_ne, Nat.le_refl, Nat.lt_irrefl, cleT, cleF, cltT, cltF, ceqT, ceqF, ↓reduceIte, r30_45, r30_46, r30_61, r30_62, r30_65, r30_67, r30_70, zO0_3, sc_replyNeg cv]
        · have cv' := Int32.not_le.mpr cv
          have f5 := x1C.2.2.2 82 (by omega)
          have g0 : it (fun _ x => drC x (7 + 12 * k) n h) N (sd X w) 82 0 = nI c0 := by rw [f5]; exact q0'
          simp (disch := first | omega | assumption | exact Or.inl rfl | exact Or.inr rfl | exact bI_or _ | exact zC81 | exact zC47 | exact zC65 | exact zC0 | exact zC1 | exact zC32 | exact zC70 | exact zC73 | exact ztc (by assumption) | exact zdc (by assumption) | exact zpc (by assumption) | decide) only [Option.some.injEq, exists_eq_left', ex2, Option.toList, List.singleton_append, List.append_nil, List.cons_append, List.nil_append, nI_add, nI_addL, nI_Ladd, pk_mul, nI_mulL, nI_Lmul, nI_subL, pk_sub, nI_divL, sub_dm, nI_leE, nI_ltE, nI_eqE, nI_Lle, nI_leL, nI_Llt, nI_ltL, nI_eqL, va_up_self, va_up_ne, up_up, up_comm, nI_clamp, bI_eq0, not_true_eq_false, not_false_eq_true, Nat.reduceEqDiff, Nat.reduceLeDiff, Nat.reduceAdd, Nat.reduceMul, Nat.one_ne_zero, Nat.zero_ne_one, decide_eq_false_iff_not, decide_eq_true_eq, Bool.false_eq_true, decide_true, decide_false, bI_true, bI_false, one_ne, Nat.le_refl, Nat.lt_irrefl, cleT, cleF, cltT, cltF, ceqT, ceqF, ↓reduceIte, r279_0, r279_1, r279_2, r279_5, r279_8, r279_9, r279_10, r279_12, r279_15, r279_18, r279_20, r279_23, r279_26, r279_27, r279_28, r279_29, r279_32, r279_33, r279_36, r279_37, r279_39, r279_41, r279_42, r279_45, r279_46, r279_49, r279_52, r279_55, r279_56, r279_58, r279_61, rf_isTown g0 q0'' hk, rf_isInE, e1, cv']
      obtain ⟨q, hq, rfl⟩ := nI_of cv
      have f5 := x1C.2.2.2 82 (by omega)
      generalize hx1 : it (fun _ x => drC x (7 + 12 * k) n h) N (sd X w) = x1 at *
      have hQ1 : TownQ s (x1 82) (7 + 12 * k) (610 + 129 * k) n li h sa c := by rw [f5]; exact hQ
      have g0 : x1 82 0 = nI c0 := by rw [f5]; exact q0'
      have f82 : rTown x1 k 82 = s 82 := ((rTown_RK k).1 82 (by omega)).trans f5
      have hR2 := rTown_rT (s := x1) (by omega) hQ1
      generalize hY0 : sr (rTown x1 k) w = Y0
      have y82 : Y0 82 = s 82 := by rw [← hY0, ← f82]; simp (disch := first | omega | assumption | exact Or.inl rfl | exact Or.inr rfl | exact bI_or _ | exact zC81 | exact zC47 | exact zC65 | exact zC0 | exact zC1 | exact zC32 | exact zC70 | exact zC73 | exact ztc (by assumption) | exact zdc (by assumption) | exact zpc (by assumption) | decide) only [Option.some.injEq, exists_eq_left', ex2, Option.toList, List.singleton_append, List.append_nil, List.cons_append, List.nil_append, nI_add, nI_addL, nI_Ladd, pk_mul, nI_mulL, nI_Lmul, nI_subL, pk_sub, nI_divL, sub_dm, nI_leE, nI_ltE, nI_eqE, nI_Lle, nI_leL, nI_Llt, nI_ltL, nI_eqL, va_up_self, va_up_ne, up_up, up_comm, nI_clamp, bI_eq0, not_true_eq_false, not_false_eq_true, Nat.reduceEqDiff, Nat.reduceLeDiff, Nat.reduceAdd, Nat.reduceMul, Nat.one_ne_zero, Nat.zero_ne_one, decide_eq_false_iff_not, decide_eq_true_eq, Bool.false_eq_true, decide_true, decide_false, bI_true, bI_false, one_ne, Nat.le_refl, Nat.lt_irrefl, cleT, cleF, cltT, cltF, ceqT, ceqF, ↓reduceIte, sr]
      have hR3 : rT Y0 (610 + 129 * k) n h := by
        rw [← hY0]
        refine rT_fr hR2 ?_ ?_ ?_ <;> simp (disch := first | omega | assumption | exact Or.inl rfl | exact Or.inr rfl | exact bI_or _ | exact zC81 | exact zC47 | exact zC65 | exact zC0 | exact zC1 | exact zC32 | exact zC70 | exact zC73 | exact ztc (by assumption) | exact zdc (by assumption) | exact zpc (by assumption) | decide) only [Option.some.injEq, exists_eq_left', ex2, Option.toList, List.singleton_append, List.append_nil, List.cons_append, List.nil_append, nI_add, nI_addL, nI_Ladd, pk_mul, nI_mulL, nI_Lmul, nI_subL, pk_sub, nI_divL, sub_dm, nI_leE, nI_ltE, nI_eqE, nI_Lle, nI_leL, nI_Llt, nI_ltL, nI_eqL, va_up_self, va_up_ne, up_up, up_comm, nI_clamp, bI_eq0, not_true_eq_false, not_false_eq_true, Nat.reduceEqDiff, Nat.reduceLeDiff, Nat.reduceAdd, Nat.reduceMul, Nat.one_ne_zero, Nat.zero_ne_one, decide_eq_false_iff_not, decide_eq_true_eq, Bool.false_eq_true, decide_true, decide_false, bI_true, bI_false, one_ne, Nat.le_refl, Nat.lt_irrefl, cleT, cleF, cltT, cltF, ceqT, ceqF, ↓reduceIte, sr]
      have RK0 : RK x1 Y0 := by
        rw [← hY0]
        refine RK_trans (rTown_RK k) ⟨fun c hc => ?_, ?_⟩
        · unfold sr
          rw [va_up_ne _ _ (by omega)]
        · simp (disch := first | omega | assumption | exact Or.inl rfl | exact Or.inr rfl | exact bI_or _ | exact zC81 | exact zC47 | exact zC65 | exact zC0 | exact zC1 | exact zC32 | exact zC70 | exact zC73 | exact ztc (by assumption) | exact zdc (by assumption) | exact zpc (by assumption) | decide) only [Option.some.injEq, exists_eq_left', ex2, Option.toList, List.singleton_append, List.append_nil, List.cons_append, List.nil_append, nI_add, nI_addL, nI_Ladd, pk_mul, nI_mulL, nI_Lmul, nI_subL, pk_sub, nI_divL, sub_dm, nI_leE, nI_ltE, nI_eqE, nI_Lle, nI_leL, nI_Llt, nI_ltL, nI_eqL, va_up_self, va_up_ne, up_up, up_comm, nI_clamp, bI_eq0, not_true_eq_false, not_false_eq_true, Nat.reduceEqDiff, Nat.reduceLeDiff, Nat.reduceAdd, Nat.reduceMul, Nat.one_ne_zero, Nat.zero_ne_one, decide_eq_false_iff_not, decide_eq_true_eq, Bool.false_eq_true, decide_true, decide_false, bI_true, bI_false, one_ne, Nat.le_refl, Nat.lt_irrefl, cleT, cleF, cltT, cltF, ceqT, ceqF, ↓reduceIte, sr]
      have hQ3 : TownQ s (Y0 82) (7 + 12 * k) (610 + 129 * k) n li h sa c := by rw [y82]; exact hQ
      have rb := @RB_run xs sl 995 J Y0 g s (7 + 12 * k) (610 + 129 * k) n li h sa c hR3 hQ3
      obtain ⟨r1, r2, r3⟩ := RB_RI hR3 hQ3
      have y41 : RB s Y0 (7 + 12 * k) (610 + 129 * k) sa c 81 41 = w := by
        unfold RB rB
        rw [va_up_ne _ _ (by decide)]
        have F : ∀ i, it (fun i s' => rLoaf s' i (nF (s (7 + 12 * k + 6)) i) (nF (s (7 + 12 * k + 7)) i) 1) i (it (saidS 85 86 87 (soF (s (7 + 12 * k + 5))) (stF (s (7 + 12 * k + 5))) (svF (s (7 + 12 * k + 5)))) sa (rB0 Y0)) 81 41 = w := by
          intro i
          induction i with
          | zero =>
            rw [it, said_fr (by decide) (by decide) (by decide), ← hY0]
            simp (disch := first | omega | assumption | exact Or.inl rfl | exact Or.inr rfl | exact bI_or _ | exact zC81 | exact zC47 | exact zC65 | exact zC0 | exact zC1 | exact zC32 | exact zC70 | exact zC73 | exact ztc (by assumption) | exact zdc (by assumption) | exact zpc (by assumption) | decide) only [Option.some.injEq, exists_eq_left', ex2, Option.toList, List.singleton_append, List.append_nil, List.cons_append, List.nil_append, nI_add, nI_addL, nI_Ladd, pk_mul, nI_mulL, nI_Lmul, nI_subL, pk_sub, nI_divL, sub_dm, nI_leE, nI_ltE, nI_eqE, nI_Lle, nI_leL, nI_Llt, nI_ltL, nI_eqL, va_up_self, va_up_ne, up_up, up_comm, nI_clamp, bI_eq0, not_true_eq_false, not_false_eq_true, Nat.reduceEqDiff, Nat.reduceLeDiff, Nat.reduceAdd, Nat.reduceMul, Nat.one_ne_zero, Nat.zero_ne_one, decide_eq_false_iff_not, decide_eq_true_eq, Bool.false_eq_true, decide_true, decide_false, bI_true, bI_false, one_ne, Nat.le_refl, Nat.lt_irrefl, cleT, cleF, cltT, cltF, ceqT, ceqF, ↓reduceIte, rB0, sr]
          | succ i ih => rw [it, rLoaf_81, va_up_ne _ _ (by decide), ih]
        exact F c
      have TR0 : ∀ x y, (∀ c, 1 ≤ c ∧ c < 47 → x c = s c) → y 82 = Y0 82 → TR (7 + 12 * k) (610 + 129 * k) h x y := fun x y h1 h2 => TR_of (by omega) hQ (by omega) (fun j hj => h1 j hj) (h2.trans y82)
      have D0 : DR s Y0 (7 + 12 * k) (610 + 129 * k) n h (sd X w) (RB s Y0 (7 + 12 * k) (610 + 129 * k) sa c) := by
        refine ⟨hC2, r1, by rw [l2, lC, r2], ?_, ?_⟩
        · rw [l2, lC]
          obtain ⟨h1, h2, h3, h4, h5, h6, h7, h8, h9⟩ := SB Y0 y82
          unfold sd
          refine ⟨?_, ?_, ?_, ?_, ?_, ?_, ?_, ?_, ?_⟩
          · simp (disch := first | omega | assumption | exact Or.inl rfl | exact Or.inr rfl | exact bI_or _ | exact zC81 | exact zC47 | exact zC65 | exact zC0 | exact zC1 | exact zC32 | exact zC70 | exact zC73 | exact ztc (by assumption) | exact zdc (by assumption) | exact zpc (by assumption) | decide) only [Option.some.injEq, exists_eq_left', ex2, Option.toList, List.singleton_append, List.append_nil, List.cons_append, List.nil_append, nI_add, nI_addL, nI_Ladd, pk_mul, nI_mulL, nI_Lmul, nI_subL, pk_sub, nI_divL, sub_dm, nI_leE, nI_ltE, nI_eqE, nI_Lle, nI_leL, nI_Llt, nI_ltL, nI_eqL, va_up_self, va_up_ne, up_up, up_comm, nI_clamp, bI_eq0, not_true_eq_false, not_false_eq_true, Nat.reduceEqDiff, Nat.reduceLeDiff, Nat.reduceAdd, Nat.reduceMul, Nat.one_ne_zero, Nat.zero_ne_one, decide_eq_false_iff_not, decide_eq_true_eq, Bool.false_eq_true, decide_true, decide_false, bI_true, bI_false, one_ne, Nat.le_refl, Nat.lt_irrefl, cleT, cleF, cltT, cltF, ceqT, ceqF, ↓reduceIte, h1]
          all_goals (simp (disch := first | omega | assumption | exact Or.inl rfl | exact Or.inr rfl | exact bI_or _ | exact zC81 | exact zC47 | exact zC65 | exact zC0 | exact zC1 | exact zC32 | exact zC70 | exact zC73 | exact ztc (by assumption) | exact zdc (by assumption) | exact zpc (by assumption) | decide) only [Option.some.injEq, exists_eq_left', ex2, Option.toList, List.singleton_append, List.append_nil, List.cons_append, List.nil_append, nI_add, nI_addL, nI_Ladd, pk_mul, nI_mulL, nI_Lmul, nI_subL, pk_sub, nI_divL, sub_dm, nI_leE, nI_ltE, nI_eqE, nI_Lle, nI_leL, nI_Llt, nI_ltL, nI_eqL, va_up_self, va_up_ne, up_up, up_comm, nI_clamp, bI_eq0, not_true_eq_false, not_false_eq_true, Nat.reduceEqDiff, Nat.reduceLeDiff, Nat.reduceAdd, Nat.reduceMul, Nat.one_ne_zero, Nat.zero_ne_one, decide_eq_false_iff_not, decide_eq_true_eq, Bool.false_eq_true, decide_true, decide_false, bI_true, bI_false, one_ne, Nat.le_refl, Nat.lt_irrefl, cleT, cleF, cltT, cltF, ceqT, ceqF, ↓reduceIte]; assumption)
        · rw [y41]
          simp (disch := first | omega | assumption | exact Or.inl rfl | exact Or.inr rfl | exact bI_or _ | exact zC81 | exact zC47 | exact zC65 | exact zC0 | exact zC1 | exact zC32 | exact zC70 | exact zC73 | exact ztc (by assumption) | exact zdc (by assumption) | exact zpc (by assumption) | decide) only [Option.some.injEq, exists_eq_left', ex2, Option.toList, List.singleton_append, List.append_nil, List.cons_append, List.nil_append, nI_add, nI_addL, nI_Ladd, pk_mul, nI_mulL, nI_Lmul, nI_subL, pk_sub, nI_divL, sub_dm, nI_leE, nI_ltE, nI_eqE, nI_Lle, nI_leL, nI_Llt, nI_ltL, nI_eqL, va_up_self, va_up_ne, up_up, up_comm, nI_clamp, bI_eq0, not_true_eq_false, not_false_eq_true, Nat.reduceEqDiff, Nat.reduceLeDiff, Nat.reduceAdd, Nat.reduceMul, Nat.one_ne_zero, Nat.zero_ne_one, decide_eq_false_iff_not, decide_eq_true_eq, Bool.false_eq_true, decide_true, decide_false, bI_true, bI_false, one_ne, Nat.le_refl, Nat.lt_irrefl, cleT, cleF, cltT, cltF, ceqT, ceqF, ↓reduceIte, sd]
      have DI : ∀ i, i ≤ N → DR s Y0 (7 + 12 * k) (610 + 129 * k) n h (it (fun _ x => drC x (7 + 12 * k) n h) i (sd X w)) (it (fun _ x => drR x (610 + 129 * k) n h) i (RB s Y0 (7 + 12 * k) (610 + 129 * k) sa c)) := by
        refine it_rel (fun _ x y => DR s Y0 (7 + 12 * k) (610 + 129 * k) n h x y) D0 ?_
        intro i x y hi hd
        exact DR_step TR0 hn1 hd
      have runR : ∀ {r : Option Value × mH}, Runs xs sl (999) 279 39 [some (.ref (81)), some (.int ( nI k)), some (.int (w)), some (.int ( nI N)), some (.int ( nI q)), some (.int ( nI 0))] [] (hp J (RB s Y0 (7 + 12 * k) (610 + 129 * k) sa c) g) r ↔ Runs xs sl (999) 279 39 [some (.ref (81)), some (.int ( nI k)), some (.int (w)), some (.int ( nI N)), some (.int ( nI q)), some (.int ( nI N))] [] (hp J (it (fun _ x => drR x (610 + 129 * k) n h) N (RB s Y0 (7 + 12 * k) (610 + 129 * k) sa c)) g) r := by
        intro r
        have qq : ∀ i, i ≤ N → (Runs xs sl (999) 279 39 [some (.ref (81)), some (.int ( nI k)), some (.int (w)), some (.int ( nI N)), some (.int ( nI q)), some (.int ( nI 0))] [] (hp J (RB s Y0 (7 + 12 * k) (610 + 129 * k) sa c) g) r ↔ Runs xs sl (999) 279 39 [some (.ref (81)), some (.int ( nI k)), some (.int (w)), some (.int ( nI N)), some (.int ( nI q)), some (.int ( nI i))] [] (hp J (it (fun _ x => drR x (610 + 129 * k) n h) i (RB s Y0 (7 + 12 * k) (610 + 129 * k) sa c)) g) r) := by
          intro i
          induction i with
          | zero => exact fun _ => Iff.rfl
          | succ i ih =>
            intro hi
            rw [ih (by omega), r279_39]
            have hd := (DI i (by omega)).2.1
            rw [it]
            generalize it (fun _ x => drR x (610 + 129 * k) n h) i (RB s Y0 (7 + 12 * k) (610 + 129 * k) sa c) = y at *
            simp (disch := first | omega | assumption | exact Or.inl rfl | exact Or.inr rfl | exact bI_or _ | exact zC81 | exact zC47 | exact zC65 | exact zC0 | exact zC1 | exact zC32 | exact zC70 | exact zC73 | exact ztc (by assumption) | exact zdc (by assumption) | exact zpc (by assumption) | decide) only [Option.some.injEq, exists_eq_left', ex2, Option.toList, List.singleton_append, List.append_nil, List.cons_append, List.nil_append, nI_add, nI_addL, nI_Ladd, pk_mul, nI_mulL, nI_Lmul, nI_subL, pk_sub, nI_divL, sub_dm, nI_leE, nI_ltE, nI_eqE, nI_Lle, nI_leL, nI_Llt, nI_ltL, nI_eqL, va_up_self, va_up_ne, up_up, up_comm, nI_clamp, bI_eq0, not_true_eq_false, not_false_eq_true, Nat.reduceEqDiff, Nat.reduceLeDiff, Nat.reduceAdd, Nat.reduceMul, Nat.one_ne_zero, Nat.zero_ne_one, decide_eq_false_iff_not, decide_eq_true_eq, Bool.false_eq_true, decide_true, decide_false, bI_true, bI_false, one_ne, Nat.le_refl, Nat.lt_irrefl, cleT, cleF, cltT, cltF, ceqT, ceqF, ↓reduceIte, r279_41, r279_42, r279_45, r279_46, r279_49, r279_52, rf_draws hd hn1]
        exact qq N (Nat.le_refl N)
      obtain ⟨d1, d2, d3, d4, d5⟩ := DI N (Nat.le_refl N)
      rw [hx1] at d1 d3 d4 d5
      generalize hy1 : it (fun _ x => drR x (610 + 129 * k) n h) N (RB s Y0 (7 + 12 * k) (610 + 129 * k) sa c) = y1 at *
      have re := rep_eq (w := q) d4 (TR0 x1 y1 (fun c hc => d1.2.2.2 c (by omega)) (d2.2.2.2.1 82 (by omega))) hC.1.2.2.2.2.1 hC.1.2.2.2.2.2.2 d1.2.2.1
      refine ⟨.int (cRep x1 (7 + 12 * k) n h (lvC x1) q), x1, y1, g, ?_, CI_CK d1, ?_, RK_trans RK0 (RI_RK d2)⟩
      · simp (disch := first | omega | assumption | exact Or.inl rfl | exact Or.inr rfl | exact bI_or _ | exact zC81 | exact zC47 | exact zC65 | exact zC0 | exact zC1 | exact zC32 | exact zC70 | exact zC73 | exact ztc (by assumption) | exact zdc (by assumption) | exact zpc (by assumption) | decide) only [Option.some.injEq, exists_eq_left', ex2, Option.toList, List.singleton_append, List.append_nil, List.cons_append, List.nil_append, nI_add, nI_addL, nI_Ladd, pk_mul, nI_mulL, nI_Lmul, nI_subL, pk_sub, nI_divL, sub_dm, nI_leE, nI_ltE, nI_eqE, nI_Lle, nI_leL, nI_Llt, nI_ltL, nI_eqL, va_up_self, va_up_ne, up_up, up_comm, nI_clamp, bI_eq0, not_true_eq_false, not_false_eq_true, Nat.reduceEqDiff, Nat.reduceLeDiff, Nat.reduceAdd, Nat.reduceMul, Nat.one_ne_zero, Nat.zero_ne_one, decide_eq_false_iff_not, decide_eq_true_eq, Bool.false_eq_true, decide_true, decide_false, bI_true, bI_false, one_ne, Nat.le_refl, Nat.lt_irrefl, cleT, cleF, cltT, cltF, ceqT, ceqF, ↓reduceIte, r30_0, r30_1, r30_2, r30_5, r30_5n, r30_7, r30_7n, r30_9, r30_9n, r30_12, r30_13, r30_16, r30_17, r30_19, r30_22, r30_25, r30_26, r30_27, r30_30, r30_30n, r30_32, r30_35, r30_36, r30_37, r30_40, r30_41, r30_41_1, br_townAt q0 q0'' hk, zO0_3, zW0_7, cb]
        refine runC.mpr ?_
        rw [r30_43]
        simp (disch := first | omega | assumption | exact Or.inl rfl | exact Or.inr rfl | exact bI_or _ | exact zC81 | exact zC47 | exact zC65 | exact zC0 | exact zC1 | exact zC32 | exact zC70 | exact zC73 | exact ztc (by assumption) | exact zdc (by assumption) | exact zpc (by assumption) | decide) only [Option.some.injEq, exists_eq_left', ex2, Option.toList, List.singleton_append, List.append_nil, List.cons_append, List.nil_append, nI_add, nI_addL, nI_Ladd, pk_mul, nI_mulL, nI_Lmul, nI_subL, pk_sub, nI_divL, sub_dm, nI_leE, nI_ltE, nI_eqE, nI_Lle, nI_leL, nI_Llt, nI_ltL, nI_eqL, va_up_self, va_up_ne, up_up, up_comm, nI_clamp, bI_eq0, not_true_eq_false, not_false_eq_true, Nat.reduceEqDiff, Nat.reduceLeDiff, Nat.reduceAdd, Nat.reduceMul, Nat.one_ne_zero, Nat.zero_ne_one, decide_eq_false_iff_not, decide_eq_true_eq, Bool.false_eq_true, decide_true, decide_false, bI_true, bI_false, one_ne, Nat.le_refl, Nat.lt_irrefl, cleT, cleF, cltT, cltF, ceqT, ceqF, ↓reduceIte, r30_45, r30_46, r30_61, r30_62, r30_65, r30_67, r30_70, zO0_3, sc_reply d1.1 d1.2.1 d1.2.2.1 hq]
      · have e3 : va_up (rTown x1 k) 81 (va_up (rTown x1 k 81) 41 w) = Y0 := hY0
        simp (disch := first | omega | assumption | exact Or.inl rfl | exact Or.inr rfl | exact bI_or _ | exact zC81 | exact zC47 | exact zC65 | exact zC0 | exact zC1 | exact zC32 | exact zC70 | exact zC73 | exact ztc (by assumption) | exact zdc (by assumption) | exact zpc (by assumption) | decide) only [Option.some.injEq, exists_eq_left', ex2, Option.toList, List.singleton_append, List.append_nil, List.cons_append, List.nil_append, nI_add, nI_addL, nI_Ladd, pk_mul, nI_mulL, nI_Lmul, nI_subL, pk_sub, nI_divL, sub_dm, nI_leE, nI_ltE, nI_eqE, nI_Lle, nI_leL, nI_Llt, nI_ltL, nI_eqL, va_up_self, va_up_ne, up_up, up_comm, nI_clamp, bI_eq0, not_true_eq_false, not_false_eq_true, Nat.reduceEqDiff, Nat.reduceLeDiff, Nat.reduceAdd, Nat.reduceMul, Nat.one_ne_zero, Nat.zero_ne_one, decide_eq_false_iff_not, decide_eq_true_eq, Bool.false_eq_true, decide_true, decide_false, bI_true, bI_false, one_ne, Nat.le_refl, Nat.lt_irrefl, cleT, cleF, cltT, cltF, ceqT, ceqF, ↓reduceIte, r279_0, r279_1, r279_2, r279_5, r279_8, r279_9, r279_10, r279_12, r279_15, r279_18, r279_20, r279_23, r279_26, r279_27, r279_28, r279_29, r279_32, r279_33, r279_36, r279_37, rf_isTown g0 q0'' hk, rf_isInE, e1, zW81_41, e3, rb]
        refine runR.mpr ?_
        rw [r279_39]
        rw [re, d3]
        simp (disch := first | omega | assumption | exact Or.inl rfl | exact Or.inr rfl | exact bI_or _ | exact zC81 | exact zC47 | exact zC65 | exact zC0 | exact zC1 | exact zC32 | exact zC70 | exact zC73 | exact ztc (by assumption) | exact zdc (by assumption) | exact zpc (by assumption) | decide) only [Option.some.injEq, exists_eq_left', ex2, Option.toList, List.singleton_append, List.append_nil, List.cons_append, List.nil_append, nI_add, nI_addL, nI_Ladd, pk_mul, nI_mulL, nI_Lmul, nI_subL, pk_sub, nI_divL, sub_dm, nI_leE, nI_ltE, nI_eqE, nI_Lle, nI_leL, nI_Llt, nI_ltL, nI_eqL, va_up_self, va_up_ne, up_up, up_comm, nI_clamp, bI_eq0, not_true_eq_false, not_false_eq_true, Nat.reduceEqDiff, Nat.reduceLeDiff, Nat.reduceAdd, Nat.reduceMul, Nat.one_ne_zero, Nat.zero_ne_one, decide_eq_false_iff_not, decide_eq_true_eq, Bool.false_eq_true, decide_true, decide_false, bI_true, bI_false, one_ne, Nat.le_refl, Nat.lt_irrefl, cleT, cleF, cltT, cltF, ceqT, ceqF, ↓reduceIte, r279_41, r279_42, r279_55, r279_56, r279_58, r279_61, rf_nowOf d2.1 d2.2.1 d2.2.2.1 hq]
end DR2
