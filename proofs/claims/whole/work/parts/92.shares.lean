/-! SHARES, alike -/
section SHA
variable {xs : Nat → Int32} {sl d : Nat} {J : hJk} {s x y : hS} {g : hG}
def Tj (W : Nat → Nat → Int32) : Nat → Nat → Int32
  | 0, v => if v = 0 then 0 else -100000
  | j + 1, v => nC (Tj W j) (W j) v
def Gj (W : Nat → Nat → Int32) : Nat → Nat → Int32
  | 0, v => if v = 0 then 0 else -1000
  | j + 1, v => nR (Gj W j) (W j) v
theorem nC_congr {T T' W W' : Nat → Int32} {set : Nat} (h1 : ∀ v, v ≤ set → T v = T' v) (h2 : ∀ v, v ≤ set → W v = W' v) : nC T W set = nC T' W' set := by
  unfold nC
  refine (subF_rel (Q := fun _ => True) (fun a p hp' _ => ⟨?_, trivial⟩) 257 set _ (Nat.le_refl _) trivial).1
  unfold fC
  rw [h1 _ (by omega), h2 p hp']
theorem nR_congr {T T' W W' : Nat → Int32} {set : Nat} (h1 : ∀ v, v ≤ set → T v = T' v) (h2 : ∀ v, v ≤ set → W v = W' v) : nR T W set = nR T' W' set := by
  unfold nR
  refine (subF_rel (Q := fun _ => True) (fun a p hp' _ => ⟨?_, trivial⟩) 257 set _ (Nat.le_refl _) trivial).1
  unfold fR
  rw [h1 _ (by omega), h2 p hp']
/-- the tables as they are told in the end -/
def TG (N : Nat) (T G : Nat → Int32) : Prop := T 0 = G 0 ∧ bd 81 (T 0) ∧ ∀ v, v < N → (T v = G v ∧ bd 81 (T v)) ∨ (T v = -100000 ∧ G v = -1000)
theorem TG_of {N h : Nat} {W W' : Nat → Nat → Int32} (hN : 0 < N) (hh : h ≤ 8) (hW : ∀ j, j < h → ∀ p, p < N → W j p = W' j p ∧ bd 9 (W j p)) : TG N (Tj W h) (Gj W' h) := by
  have q : ∀ j, j ≤ h → (j = 0 → TG0 N (Tj W j) (Gj W' j)) ∧ (0 < j → TGj N j (Tj W j) (Gj W' j)) := by
    intro j
    induction j with
    | zero => exact fun _ => ⟨fun _ => ⟨rfl, rfl, fun v _ hv => ⟨if_neg hv, if_neg hv⟩⟩, fun z => absurd z (by omega)⟩
    | succ j ih =>
      intro hj
      obtain ⟨i1, i2⟩ := ih (by omega)
      refine ⟨fun z => absurd z (by omega), fun _ v hv => ?_⟩
      have e1 : Tj W (j + 1) v = nC (Tj W j) (W j) v := rfl
      have e2 : Gj W' (j + 1) v = nR (Gj W' j) (W j) v := nR_congr (fun _ _ => rfl) (fun p hp' => ((hW j (by omega) p (by omega)).1).symm)
      rw [e1, e2]
      by_cases z : j = 0
      · have r := nx0 (i1 z) (fun p hp' => (hW j (by omega) p hp').2) hv
        subst z
        exact r
      · exact nxj (by omega) (i2 (by omega)) (fun p hp' => (hW j (by omega) p hp').2) hv
  obtain ⟨q1, q2⟩ := q h (Nat.le_refl h)
  by_cases z : h = 0
  · obtain ⟨a1, a2, a3⟩ := q1 z
    have b0 : bd 81 (0 : Int32) := by unfold bd; decide
    refine ⟨by rw [a1, a2], by rw [a1]; exact b0, fun v hv => ?_⟩
    by_cases c : v = 0
    · subst c
      rw [a1, a2]
      exact Or.inl ⟨rfl, b0⟩
    · exact Or.inr (a3 v hv c)
  · have a := q2 (by omega)
    have b : ∀ v, v < N → bd 81 (Tj W h v) := fun v hv => bd_mono (a v hv).2 (by omega)
    exact ⟨(a 0 hN).1, b 0 hN, fun v hv => Or.inl ⟨(a v hv).1, b v hv⟩⟩
def grC (T : Nat → Int32) (N : Nat) : Int32 := it (fun v a => if a < T v then T v else a) N (-100000)
def grR (G : Nat → Int32) (N : Nat) : Int32 := it (fun v a => if G v ≤ a then a else G v) N (-1000)
theorem gr_eq {N : Nat} {T G : Nat → Int32} (hN : 0 < N) (h : TG N T G) : grC T N = grR G N := by
  obtain ⟨h1, h2, h3⟩ := h
  have q : ∀ i, i ≤ N → 0 < i → it (fun v a => if a < T v then T v else a) i (-100000) = it (fun v a => if G v ≤ a then a else G v) i (-1000) ∧ bd 81 (it (fun v a => if a < T v then T v else a) i (-100000)) := by
    intro i
    induction i with
    | zero => exact fun _ z => absurd z (by omega)
    | succ i ih =>
      intro hi _
      rw [it, it]
      by_cases z : i = 0
      · subst z
        rw [it, it]
        have b := h2
        unfold bd at b
        rw [if_pos (by rw [Int32.lt_iff_toInt_lt, toM2]; omega), ← h1, if_neg (by rw [Int32.le_iff_toInt_le, toM1]; omega)]
        exact ⟨rfl, h2⟩
      · obtain ⟨i1, i2⟩ := ih (by omega) (by omega)
        rw [← i1]
        generalize it (fun v a => if a < T v then T v else a) i (-100000) = a at *
        rcases h3 i (by omega) with ⟨t1, t2⟩ | ⟨t1, t2⟩
        · rw [← t1]
          by_cases c : a < T i
          · rw [if_pos c, if_neg (Int32.not_le.mpr c)]
            exact ⟨rfl, t2⟩
          · rw [if_neg c, if_pos (Int32.not_lt.mp c)]
            exact ⟨rfl, i2⟩
        · rw [t1, t2]
          have b := i2
          unfold bd at b
          rw [if_neg (by rw [Int32.lt_iff_toInt_lt, toM2]; omega), if_pos (by rw [Int32.le_iff_toInt_le, toM1]; omega)]
          exact ⟨rfl, i2⟩
  exact (q N (Nat.le_refl N) hN).1
/-- the fewest -/
def oI (o : Option Nat) : Int32 := match o with
  | none => -1
  | some k => nI k
def fwS (P : Nat → Bool) (set : Nat) (o : Option Nat) : Option Nat := match o with
  | none => if P set = true then some set else none
  | some k => if (P set && decide (bc set < bc k)) = true then some set else some k
def fwF (P : Nat → Bool) (N : Nat) : Option Nat := it (fwS P) N none
theorem fw_lt {P : Nat → Bool} {N : Nat} : ∀ i, i ≤ N → ∀ k, it (fwS P) i none = some k → k < N := by
  refine it_inv (fun _ (o : Option Nat) => ∀ k, o = some k → k < N) (fun k h => by cases h) ?_
  intro i o hi ho k hk
  unfold fwS at hk
  cases o with
  | none =>
    dsimp only at hk
    split at hk
    · cases hk
      exact hi
    · cases hk
  | some j =>
    dsimp only at hk
    split at hk
    · cases hk
      exact hi
    · cases hk
      exact ho _ rfl
theorem fw_eq {N : Nat} {T G : Nat → Int32} (h : TG N T G) : fwF (fun v => !decide (T v ≤ 0)) N = fwF (fun v => !decide (G v ≤ 0)) N := by
  refine it_congr (fun v o hv => ?_)
  have e : (fun v => !decide (T v ≤ 0)) v = (fun v => !decide (G v ≤ 0)) v := by
    dsimp only
    rcases h.2.2 v hv with ⟨t1, -⟩ | ⟨t1, t2⟩
    · rw [t1]
    · rw [t1, t2]
      rfl
  unfold fwS
  rw [e]
theorem ml_greatestTally {L : Nat} (hL : s 47 1 = nI L) (hL8 : L ≤ 8) {r : Option Value × mH} : Runs xs sl (d+1) 70 0 [some (.ref (65)), none, none] [] (hp J (s) g) r ↔ r = (some (.int ( grC (s 67) (2 ^ L))), hp J (s) g) := by
  refine Runs.iff ?_
  have p8 := pw8 hL8
  simp (disch := first | omega | assumption | exact Or.inl rfl | exact Or.inr rfl | exact bI_or _ | exact zC81 | exact zC47 | exact zC65 | exact zC0 | exact zC1 | exact zC32 | exact zC70 | exact zC73 | exact ztc (by assumption) | exact zdc (by assumption) | exact zpc (by assumption) | decide) only [Option.some.injEq, exists_eq_left', ex2, Option.toList, List.singleton_append, List.append_nil, List.cons_append, List.nil_append, nI_add, nI_addL, nI_Ladd, pk_mul, nI_mulL, nI_Lmul, nI_subL, pk_sub, nI_divL, sub_dm, nI_leE, nI_ltE, nI_eqE, nI_Lle, nI_leL, nI_Llt, nI_ltL, nI_eqL, va_up_self, va_up_ne, up_up, up_comm, nI_clamp, bI_eq0, not_true_eq_false, not_false_eq_true, Nat.reduceEqDiff, Nat.reduceLeDiff, Nat.reduceAdd, Nat.reduceMul, Nat.one_ne_zero, Nat.zero_ne_one, decide_eq_false_iff_not, decide_eq_true_eq, Bool.false_eq_true, decide_true, decide_false, bI_true, bI_false, one_ne, Nat.le_refl, Nat.lt_irrefl, cleT, cleF, cltT, cltF, ceqT, ceqF, ↓reduceIte, r70_0, r70_2, r70_2_1, r70_3, r70_4]
  unfold grC
  refine dn_loop (P := fun i => Runs xs sl (d+1) 70 5 [some (.ref (65)), some (.int ( it (fun v a => if a < s 67 v then s 67 v else a) i (-100000))), some (.int ( nI i))] [] (hp J (s) g) _) (2 ^ L) ?_ ?_
  · intro i hi hr
    rw [r70_5]
    rw [it] at hr
    simp (disch := first | omega | assumption | exact Or.inl rfl | exact Or.inr rfl | exact bI_or _ | exact zC81 | exact zC47 | exact zC65 | exact zC0 | exact zC1 | exact zC32 | exact zC70 | exact zC73 | exact ztc (by assumption) | exact zdc (by assumption) | exact zpc (by assumption) | decide) only [Option.some.injEq, exists_eq_left', ex2, Option.toList, List.singleton_append, List.append_nil, List.cons_append, List.nil_append, nI_add, nI_addL, nI_Ladd, pk_mul, nI_mulL, nI_Lmul, nI_subL, pk_sub, nI_divL, sub_dm, nI_leE, nI_ltE, nI_eqE, nI_Lle, nI_leL, nI_Llt, nI_ltL, nI_eqL, va_up_self, va_up_ne, up_up, up_comm, nI_clamp, bI_eq0, not_true_eq_false, not_false_eq_true, Nat.reduceEqDiff, Nat.reduceLeDiff, Nat.reduceAdd, Nat.reduceMul, Nat.one_ne_zero, Nat.zero_ne_one, decide_eq_false_iff_not, decide_eq_true_eq, Bool.false_eq_true, decide_true, decide_false, bI_true, bI_false, one_ne, Nat.le_refl, Nat.lt_irrefl, cleT, cleF, cltT, cltF, ceqT, ceqF, ↓reduceIte, r70_6, r70_7, r70_8, r70_11, r70_14, r70_15, r70_18, r70_19, r70_20, r70_23, r70_24, r70_25, r70_28, r70_28_1, r70_29, r70_32, zO65_3, zO65_5, zO47_1, hL, sh1, zA67]
    exact hr
  · rw [r70_5]
    simp (disch := first | omega | assumption | exact Or.inl rfl | exact Or.inr rfl | exact bI_or _ | exact zC81 | exact zC47 | exact zC65 | exact zC0 | exact zC1 | exact zC32 | exact zC70 | exact zC73 | exact ztc (by assumption) | exact zdc (by assumption) | exact zpc (by assumption) | decide) only [Option.some.injEq, exists_eq_left', ex2, Option.toList, List.singleton_append, List.append_nil, List.cons_append, List.nil_append, nI_add, nI_addL, nI_Ladd, pk_mul, nI_mulL, nI_Lmul, nI_subL, pk_sub, nI_divL, sub_dm, nI_leE, nI_ltE, nI_eqE, nI_Lle, nI_leL, nI_Llt, nI_ltL, nI_eqL, va_up_self, va_up_ne, up_up, up_comm, nI_clamp, bI_eq0, not_true_eq_false, not_false_eq_true, Nat.reduceEqDiff, Nat.reduceLeDiff, Nat.reduceAdd, Nat.reduceMul, Nat.one_ne_zero, Nat.zero_ne_one, decide_eq_false_iff_not, decide_eq_true_eq, Bool.false_eq_true, decide_true, decide_false, bI_true, bI_false, one_ne, Nat.le_refl, Nat.lt_irrefl, cleT, cleF, cltT, cltF, ceqT, ceqF, ↓reduceIte, r70_6, r70_7, r70_8, r70_11, r70_14, r70_15, r70_35, r70_36, zO65_3, zO47_1, hL, sh1]
theorem ml_fewestGiven {L : Nat} (hL : s 47 1 = nI L) (hL8 : L ≤ 8) {r : Option Value × mH} : Runs xs sl (d+1) 71 0 [some (.ref (65)), none, none, none] [] (hp J (s) g) r ↔ r = (some (.int ( oI (fwF (fun v => !decide (s 67 v ≤ 0)) (2 ^ L)))), hp J (s) g) := by
  refine Runs.iff ?_
  have p8 := pw8 hL8
  simp (disch := first | omega | assumption | exact Or.inl rfl | exact Or.inr rfl | exact bI_or _ | exact zC81 | exact zC47 | exact zC65 | exact zC0 | exact zC1 | exact zC32 | exact zC70 | exact zC73 | exact ztc (by assumption) | exact zdc (by assumption) | exact zpc (by assumption) | decide) only [Option.some.injEq, exists_eq_left', ex2, Option.toList, List.singleton_append, List.append_nil, List.cons_append, List.nil_append, nI_add, nI_addL, nI_Ladd, pk_mul, nI_mulL, nI_Lmul, nI_subL, pk_sub, nI_divL, sub_dm, nI_leE, nI_ltE, nI_eqE, nI_Lle, nI_leL, nI_Llt, nI_ltL, nI_eqL, va_up_self, va_up_ne, up_up, up_comm, nI_clamp, bI_eq0, not_true_eq_false, not_false_eq_true, Nat.reduceEqDiff, Nat.reduceLeDiff, Nat.reduceAdd, Nat.reduceMul, Nat.one_ne_zero, Nat.zero_ne_one, decide_eq_false_iff_not, decide_eq_true_eq, Bool.false_eq_true, decide_true, decide_false, bI_true, bI_false, one_ne, Nat.le_refl, Nat.lt_irrefl, cleT, cleF, cltT, cltF, ceqT, ceqF, ↓reduceIte, r71_0, r71_1, r71_1_1, r71_2, r71_3]
  unfold fwF
  refine dn_loop (P := fun i => ∀ l3, Runs xs sl (d+1) 71 4 [some (.ref (65)), some (.int ( oI (it (fwS (fun v => !decide (s 67 v ≤ 0))) i none))), some (.int ( nI i)), l3] [] (hp J (s) g) _) (2 ^ L) ?_ ?_ none
  · intro i hi hr l3
    rw [r71_4]
    have bk := fw_lt (P := fun v => !decide (s 67 v ≤ 0)) (N := 2 ^ L) i (by omega)
    rw [it] at hr
    generalize it (fwS (fun v => !decide (s 67 v ≤ 0))) i none = o at *
    unfold fwS at hr
    cases o with
    | none =>
      by_cases c : s 67 i ≤ 0
      · simp only [c, decide_true, Bool.not_true, Bool.false_eq_true, ↓reduceIte, oI] at hr
        simp (disch := first | omega | assumption | exact Or.inl rfl | exact Or.inr rfl | exact bI_or _ | exact zC81 | exact zC47 | exact zC65 | exact zC0 | exact zC1 | exact zC32 | exact zC70 | exact zC73 | exact ztc (by assumption) | exact zdc (by assumption) | exact zpc (by assumption) | decide) only [Option.some.injEq, exists_eq_left', ex2, Option.toList, List.singleton_append, List.append_nil, List.cons_append, List.nil_append, nI_add, nI_addL, nI_Ladd, pk_mul, nI_mulL, nI_Lmul, nI_subL, pk_sub, nI_divL, sub_dm, nI_leE, nI_ltE, nI_eqE, nI_Lle, nI_leL, nI_Llt, nI_ltL, nI_eqL, va_up_self, va_up_ne, up_up, up_comm, nI_clamp, bI_eq0, not_true_eq_false, not_false_eq_true, Nat.reduceEqDiff, Nat.reduceLeDiff, Nat.reduceAdd, Nat.reduceMul, Nat.one_ne_zero, Nat.zero_ne_one, decide_eq_false_iff_not, decide_eq_true_eq, Bool.false_eq_true, decide_true, decide_false, bI_true, bI_false, one_ne, Nat.le_refl, Nat.lt_irrefl, cleT, cleF, cltT, cltF, ceqT, ceqF, ↓reduceIte, r71_5, r71_6, r71_7, r71_10, r71_13, r71_14, r71_17, r71_18, r71_19, r71_22, r71_23, r71_26, r71_27, r71_30, r71_33, r71_34, r71_37, r71_38, r71_39, r71_40, r71_43, r71_44, r71_45, r71_48, r71_49, r71_52, r71_53, r71_53_1, r71_54, r71_57, zO65_3, zO65_5, zO47_1, hL, sh1, zA67, oI, c]
        exact hr _
      · simp only [c, decide_false, Bool.not_false, ↓reduceIte, oI] at hr
        simp (disch := first | omega | assumption | exact Or.inl rfl | exact Or.inr rfl | exact bI_or _ | exact zC81 | exact zC47 | exact zC65 | exact zC0 | exact zC1 | exact zC32 | exact zC70 | exact zC73 | exact ztc (by assumption) | exact zdc (by assumption) | exact zpc (by assumption) | decide) only [Option.some.injEq, exists_eq_left', ex2, Option.toList, List.singleton_append, List.append_nil, List.cons_append, List.nil_append, nI_add, nI_addL, nI_Ladd, pk_mul, nI_mulL, nI_Lmul, nI_subL, pk_sub, nI_divL, sub_dm, nI_leE, nI_ltE, nI_eqE, nI_Lle, nI_leL, nI_Llt, nI_ltL, nI_eqL, va_up_self, va_up_ne, up_up, up_comm, nI_clamp, bI_eq0, not_true_eq_false, not_false_eq_true, Nat.reduceEqDiff, Nat.reduceLeDiff, Nat.reduceAdd, Nat.reduceMul, Nat.one_ne_zero, Nat.zero_ne_one, decide_eq_false_iff_not, decide_eq_true_eq, Bool.false_eq_true, decide_true, decide_false, bI_true, bI_false, one_ne, Nat.le_refl, Nat.lt_irrefl, cleT, cleF, cltT, cltF, ceqT, ceqF, ↓reduceIte, r71_5, r71_6, r71_7, r71_10, r71_13, r71_14, r71_17, r71_18, r71_19, r71_22, r71_23, r71_26, r71_27, r71_30, r71_33, r71_34, r71_37, r71_38, r71_39, r71_40, r71_43, r71_44, r71_45, r71_48, r71_49, r71_52, r71_53, r71_53_1, r71_54, r71_57, zO65_3, zO65_5, zO47_1, hL, sh1, zA67, oI, c]
        exact hr _
    | some k =>
      have k8 := bk k rfl
      have b1 := @zx_bitCount xs sl d (hp J s g) i (by omega)
      have b2 := @zx_bitCount xs sl d (hp J s g) k (by omega)
      have l1 := @bc_le i
      have l2 := @bc_le k
      have nm : ¬ nI k = -1 := by
        intro z
        have h0 := nI_pos (n := k) (by omega)
        rw [z] at h0
        exact h0 (by decide)
      by_cases c : s 67 i ≤ 0
      · simp only [c, decide_true, Bool.not_true, Bool.false_and, Bool.false_eq_true, ↓reduceIte, oI] at hr
        by_cases c2 : bc i < bc k
        · simp (disch := first | omega | assumption | exact Or.inl rfl | exact Or.inr rfl | exact bI_or _ | exact zC81 | exact zC47 | exact zC65 | exact zC0 | exact zC1 | exact zC32 | exact zC70 | exact zC73 | exact ztc (by assumption) | exact zdc (by assumption) | exact zpc (by assumption) | decide) only [Option.some.injEq, exists_eq_left', ex2, Option.toList, List.singleton_append, List.append_nil, List.cons_append, List.nil_append, nI_add, nI_addL, nI_Ladd, pk_mul, nI_mulL, nI_Lmul, nI_subL, pk_sub, nI_divL, sub_dm, nI_leE, nI_ltE, nI_eqE, nI_Lle, nI_leL, nI_Llt, nI_ltL, nI_eqL, va_up_self, va_up_ne, up_up, up_comm, nI_clamp, bI_eq0, not_true_eq_false, not_false_eq_true, Nat.reduceEqDiff, Nat.reduceLeDiff, Nat.reduceAdd, Nat.reduceMul, Nat.one_ne_zero, Nat.zero_ne_one, decide_eq_false_iff_not, decide_eq_true_eq, Bool.false_eq_true, decide_true, decide_false, bI_true, bI_false, one_ne, Nat.le_refl, Nat.lt_irrefl, cleT, cleF, cltT, cltF, ceqT, ceqF, ↓reduceIte, r71_5, r71_6, r71_7, r71_10, r71_13, r71_14, r71_17, r71_18, r71_19, r71_22, r71_23, r71_26, r71_27, r71_30, r71_33, r71_34, r71_37, r71_38, r71_39, r71_40, r71_43, r71_44, r71_45, r71_48, r71_49, r71_52, r71_53, r71_53_1, r71_54, r71_57, zO65_3, zO65_5, zO47_1, hL, sh1, zA67, oI, c, nm, b1, b2]
          exact hr _
        · simp (disch := first | omega | assumption | exact Or.inl rfl | exact Or.inr rfl | exact bI_or _ | exact zC81 | exact zC47 | exact zC65 | exact zC0 | exact zC1 | exact zC32 | exact zC70 | exact zC73 | exact ztc (by assumption) | exact zdc (by assumption) | exact zpc (by assumption) | decide) only [Option.some.injEq, exists_eq_left', ex2, Option.toList, List.singleton_append, List.append_nil, List.cons_append, List.nil_append, nI_add, nI_addL, nI_Ladd, pk_mul, nI_mulL, nI_Lmul, nI_subL, pk_sub, nI_divL, sub_dm, nI_leE, nI_ltE, nI_eqE, nI_Lle, nI_leL, nI_Llt, nI_ltL, nI_eqL, va_up_self, va_up_ne, up_up, up_comm, nI_clamp, bI_eq0, not_true_eq_false, not_false_eq_true, Nat.reduceEqDiff, Nat.reduceLeDiff, Nat.reduceAdd, Nat.reduceMul, Nat.one_ne_zero, Nat.zero_ne_one, decide_eq_false_iff_not, decide_eq_true_eq, Bool.false_eq_true, decide_true, decide_false, bI_true, bI_false, one_ne, Nat.le_refl, Nat.lt_irrefl, cleT, cleF, cltT, cltF, ceqT, ceqF, ↓reduceIte, r71_5, r71_6, r71_7, r71_10, r71_13, r71_14, r71_17, r71_18, r71_19, r71_22, r71_23, r71_26, r71_27, r71_30, r71_33, r71_34, r71_37, r71_38, r71_39, r71_40, r71_43, r71_44, r71_45, r71_48, r71_49, r71_52, r71_53, r71_53_1, r71_54, r71_57, zO65_3, zO65_5, zO47_1, hL, sh1, zA67, oI, c, nm, b1, b2]
          exact hr _
      · by_cases c2 : bc i < bc k
        · simp only [c, c2, decide_false, decide_true, Bool.not_false, Bool.and_self, ↓reduceIte, oI] at hr
          simp (disch := first | omega | assumption | exact Or.inl rfl | exact Or.inr rfl | exact bI_or _ | exact zC81 | exact zC47 | exact zC65 | exact zC0 | exact zC1 | exact zC32 | exact zC70 | exact zC73 | exact ztc (by assumption) | exact zdc (by assumption) | exact zpc (by assumption) | decide) only [Option.some.injEq, exists_eq_left', ex2, Option.toList, List.singleton_append, List.append_nil, List.cons_append, List.nil_append, nI_add, nI_addL, nI_Ladd, pk_mul, nI_mulL, nI_Lmul, nI_subL, pk_sub, nI_divL, sub_dm, nI_leE, nI_ltE, nI_eqE, nI_Lle, nI_leL, nI_Llt, nI_ltL, nI_eqL, va_up_self, va_up_ne, up_up, up_comm, nI_clamp, bI_eq0, not_true_eq_false, not_false_eq_true, Nat.reduceEqDiff, Nat.reduceLeDiff, Nat.reduceAdd, Nat.reduceMul, Nat.one_ne_zero, Nat.zero_ne_one, decide_eq_false_iff_not, decide_eq_true_eq, Bool.false_eq_true, decide_true, decide_false, bI_true, bI_false, one_ne, Nat.le_refl, Nat.lt_irrefl, cleT, cleF, cltT, cltF, ceqT, ceqF, ↓reduceIte, r71_5, r71_6, r71_7, r71_10, r71_13, r71_14, r71_17, r71_18, r71_19, r71_22, r71_23, r71_26, r71_27, r71_30, r71_33, r71_34, r71_37, r71_38, r71_39, r71_40, r71_43, r71_44, r71_45, r71_48, r71_49, r71_52, r71_53, r71_53_1, r71_54, r71_57, zO65_3, zO65_5, zO47_1, hL, sh1, zA67, oI, c, nm, b1, b2]
          exact hr _
        · simp only [c, c2, decide_false, Bool.not_false, Bool.and_false, Bool.false_eq_true, ↓reduceIte, oI] at hr
          simp (disch := first | omega | assumption | exact Or.inl rfl | exact Or.inr rfl | exact bI_or _ | exact zC81 | exact zC47 | exact zC65 | exact zC0 | exact zC1 | exact zC32 | exact zC70 | exact zC73 | exact ztc (by assumption) | exact zdc (by assumption) | exact zpc (by assumption) | decide) only [Option.some.injEq, exists_eq_left', ex2, Option.toList, List.singleton_append, List.append_nil, List.cons_append, List.nil_append, nI_add, nI_addL, nI_Ladd, pk_mul, nI_mulL, nI_Lmul, nI_subL, pk_sub, nI_divL, sub_dm, nI_leE, nI_ltE, nI_eqE, nI_Lle, nI_leL, nI_Llt, nI_ltL, nI_eqL, va_up_self, va_up_ne, up_up, up_comm, nI_clamp, bI_eq0, not_true_eq_false, not_false_eq_true, Nat.reduceEqDiff, Nat.reduceLeDiff, Nat.reduceAdd, Nat.reduceMul, Nat.one_ne_zero, Nat.zero_ne_one, decide_eq_false_iff_not, decide_eq_true_eq, Bool.false_eq_true, decide_true, decide_false, bI_true, bI_false, one_ne, Nat.le_refl, Nat.lt_irrefl, cleT, cleF, cltT, cltF, ceqT, ceqF, ↓reduceIte, r71_5, r71_6, r71_7, r71_10, r71_13, r71_14, r71_17, r71_18, r71_19, r71_22, r71_23, r71_26, r71_27, r71_30, r71_33, r71_34, r71_37, r71_38, r71_39, r71_40, r71_43, r71_44, r71_45, r71_48, r71_49, r71_52, r71_53, r71_53_1, r71_54, r71_57, zO65_3, zO65_5, zO47_1, hL, sh1, zA67, oI, c, nm, b1, b2]
          exact hr _
  · intro l3
    rw [r71_4]
    simp (disch := first | omega | assumption | exact Or.inl rfl | exact Or.inr rfl | exact bI_or _ | exact zC81 | exact zC47 | exact zC65 | exact zC0 | exact zC1 | exact zC32 | exact zC70 | exact zC73 | exact ztc (by assumption) | exact zdc (by assumption) | exact zpc (by assumption) | decide) only [Option.some.injEq, exists_eq_left', ex2, Option.toList, List.singleton_append, List.append_nil, List.cons_append, List.nil_append, nI_add, nI_addL, nI_Ladd, pk_mul, nI_mulL, nI_Lmul, nI_subL, pk_sub, nI_divL, sub_dm, nI_leE, nI_ltE, nI_eqE, nI_Lle, nI_leL, nI_Llt, nI_ltL, nI_eqL, va_up_self, va_up_ne, up_up, up_comm, nI_clamp, bI_eq0, not_true_eq_false, not_false_eq_true, Nat.reduceEqDiff, Nat.reduceLeDiff, Nat.reduceAdd, Nat.reduceMul, Nat.one_ne_zero, Nat.zero_ne_one, decide_eq_false_iff_not, decide_eq_true_eq, Bool.false_eq_true, decide_true, decide_false, bI_true, bI_false, one_ne, Nat.le_refl, Nat.lt_irrefl, cleT, cleF, cltT, cltF, ceqT, ceqF, ↓reduceIte, r71_5, r71_6, r71_7, r71_10, r71_13, r71_14, r71_60, r71_61, zO65_3, zO47_1, hL, sh1]
/-- what a house's parts weigh, as the class has it -/
def wC (s : hS) (a n L t u p : Nat) : Int32 := s (a + 1) u * sg (eaF n (fun l t => s 57 (6 * l + t)) (s (a + 2) u) p L (fun t => s 56 (6 * u + t)) t)
theorem ml_share {a n h L t : Nat} (hT : cT s a n h) (hL : s 47 1 = nI L) (hL8 : L ≤ 8) (ht : t < n) : ∃ s' : hS, Runs xs sl (d+3) 67 0 [some (.ref (65)), some (.int ( nI t)), none] [] (hp J (s) g) (none, hp J s' g) ∧ (∀ c, c < 65 ∨ 68 ≤ c → s' c = s c) ∧ ∀ v, v < 2 ^ L → s' 67 v = Tj (wC s a n L t) h v := by
  have hT' := hT
  obtain ⟨ha, h31, h47, hn, hn6, hh, hh8⟩ := hT'
  have ha' : a = 7 ∨ a = 19 ∨ a = 33 ∨ a = 48 := ha
  have p8 := pw8 hL8
  have fi := fun (s : hS) => @zx_fill xs sl (d + 2) J s g 67 256 (-100000) (fun s => zL67) (fun s i v hi => zS67 hi) (by decide)
  generalize hs0 : va_up (va_up s 65 (va_up (s 65) 8 (nI t))) 67 (va_up (va_cpy (fun _ => -100000) (s 67) 0 0 256) 0 0) = s0
  have a0 : ∀ c, c < 65 ∨ 68 ≤ c → s0 c = s c := fun c hc => by rw [← hs0, va_up_ne _ _ (by omega), va_up_ne _ _ (by omega)]
  have a8 : s0 65 8 = nI t := by rw [← hs0]; simp (disch := first | omega | assumption | exact Or.inl rfl | exact Or.inr rfl | exact bI_or _ | exact zC81 | exact zC47 | exact zC65 | exact zC0 | exact zC1 | exact zC32 | exact zC70 | exact zC73 | exact ztc (by assumption) | exact zdc (by assumption) | exact zpc (by assumption) | decide) only [Option.some.injEq, exists_eq_left', ex2, Option.toList, List.singleton_append, List.append_nil, List.cons_append, List.nil_append, nI_add, nI_addL, nI_Ladd, pk_mul, nI_mulL, nI_Lmul, nI_subL, pk_sub, nI_divL, sub_dm, nI_leE, nI_ltE, nI_eqE, nI_Lle, nI_leL, nI_Llt, nI_ltL, nI_eqL, va_up_self, va_up_ne, up_up, up_comm, nI_clamp, bI_eq0, not_true_eq_false, not_false_eq_true, Nat.reduceEqDiff, Nat.reduceLeDiff, Nat.reduceAdd, Nat.reduceMul, Nat.one_ne_zero, Nat.zero_ne_one, decide_eq_false_iff_not, decide_eq_true_eq, Bool.false_eq_true, decide_true, decide_false, bI_true, bI_false, one_ne, Nat.le_refl, Nat.lt_irrefl, cleT, cleF, cltT, cltF, ceqT, ceqF, ↓reduceIte]
  have a67 : ∀ v, v < 2 ^ L → s0 67 v = Tj (wC s a n L t) 0 v := by
    intro v hv
    rw [← hs0, va_up_self]
    by_cases c : v = 0
    · rw [c, va_up_self]
      rfl
    · rw [va_up_ne _ _ c, pk_cpy_in (by omega) (by omega)]
      exact (if_neg c).symm
  obtain ⟨s1, ⟨q1, q2, q4⟩, q3⟩ := up_loop (Q := fun u (s1 : hS) => (∀ c, c < 65 ∨ 68 ≤ c → s1 c = s c) ∧ s1 65 8 = nI t ∧ ∀ v, v < 2 ^ L → s1 67 v = Tj (wC s a n L t) u v) (P := fun u (s1 : hS) (z : Option Value × mH) => Runs xs sl (d+3) 67 23 [some (.ref (65)), some (.int ( nI t)), some (.int ( nI u))] [] (hp J (s1) g) z) h (by
    intro u s1 hu hQ
    obtain ⟨i1, i2, i3⟩ := hQ
    have hT1 : cT s1 a n h := cT_fr hT (by rw [i1 47 (by omega)]) (i1 a (by omega))
    have g1 : s1 47 1 = nI L := by rw [i1 47 (by omega)]; exact hL
    obtain ⟨s2, e1, e2, e3⟩ := @ml_eatSets xs sl d J s1 g a n h L u hT1 g1 hL8 hu
    have hT2 : cT s2 a n h := cT_fr hT1 (by rw [e2 47 (by decide)]) (e2 a (by omega))
    have g2 : s2 47 1 = nI L := by rw [e2 47 (by decide)]; exact g1
    have g8 : s2 65 8 = nI t := by rw [e2 65 (by decide)]; exact i2
    obtain ⟨s3, f1, f2, f3⟩ := @ml_addHouse xs sl (d + 1) J s2 g a n h L t (s1 (a + 1) u) hT2 g2 hL8 ht g8
    refine ⟨s3, ⟨fun c hc => (f2 c (by omega)).trans ((e2 c (by omega)).trans (i1 c hc)), by rw [f2 65 (by decide)]; exact g8, fun v hv => ?_⟩, fun z hz => ?_⟩
    · rw [f3 v hv]
      refine nC_congr (fun w hw => ?_) (fun w hw => ?_)
      · rw [e2 67 (by decide)]
        exact i3 w (by omega)
      · rw [e3 w (by omega) t ht]
        unfold wC
        rw [i1 (a + 1) (by omega), i1 57 (by omega), i1 (a + 2) (by omega), i1 56 (by omega)]
    · have z47 : s1 47 0 = nI a := hT1.2.2.1
      have za : s1 a 2 = nI h := hT1.2.2.2.2.2.1
      have z47' : s2 47 0 = nI a := hT2.2.2.1
      have zv : s2 (a + 1) u = s1 (a + 1) u := by rw [e2 (a + 1) (by omega)]
      rw [r67_23]
      simp (disch := first | omega | assumption | exact Or.inl rfl | exact Or.inr rfl | exact bI_or _ | exact zC81 | exact zC47 | exact zC65 | exact zC0 | exact zC1 | exact zC32 | exact zC70 | exact zC73 | exact ztc (by assumption) | exact zdc (by assumption) | exact zpc (by assumption) | decide) only [Option.some.injEq, exists_eq_left', ex2, Option.toList, List.singleton_append, List.append_nil, List.cons_append, List.nil_append, nI_add, nI_addL, nI_Ladd, pk_mul, nI_mulL, nI_Lmul, nI_subL, pk_sub, nI_divL, sub_dm, nI_leE, nI_ltE, nI_eqE, nI_Lle, nI_leL, nI_Llt, nI_ltL, nI_eqL, va_up_self, va_up_ne, up_up, up_comm, nI_clamp, bI_eq0, not_true_eq_false, not_false_eq_true, Nat.reduceEqDiff, Nat.reduceLeDiff, Nat.reduceAdd, Nat.reduceMul, Nat.one_ne_zero, Nat.zero_ne_one, decide_eq_false_iff_not, decide_eq_true_eq, Bool.false_eq_true, decide_true, decide_false, bI_true, bI_false, one_ne, Nat.le_refl, Nat.lt_irrefl, cleT, cleF, cltT, cltF, ceqT, ceqF, ↓reduceIte, r67_24, r67_25, r67_28, r67_31, r67_34, r67_37, r67_38, r67_39, r67_42, r67_43, r67_44, r67_47, r67_50, r67_53, r67_54, r67_55, r67_58, r67_61, zO65_3, zC47, zO47_0, zW47_0, zO47_1, zW47_1, zO47_2, zO47_3, zO47_4, zW47_4, zO47_5, zO47_6, zO47_7, zO47_8, zO47_9, zO47_10, zO47_11, ztc, zto0, ztw0, zto1, ztw1, zto2, ztw2, zto3, ztw3, zto4, ztw4, zto5, zto6, zto7, zto8, zto9, zto10, zto11, ztl1, zta1, zts1, ztl2, zta2, zts2, ztl3, zta3, zts3, ztl4, zta4, zts4, ztl5, zta5, zts5, ztl6, zta6, zts6, ztl7, zta7, zts7, z47, za, e1.iff, z47', zv, f1.iff]
      exact hz) s0 ⟨a0, a8, a67⟩
  refine ⟨s1, ?_, q1, q4⟩
  have z47 : s1 47 0 = nI a := by rw [q1 47 (by omega)]; exact h47
  have za : s1 a 2 = nI h := by rw [q1 a (by omega)]; exact hh
  have zS0 : ∀ s : hS, hAw (hp J s g) 67 0 0 0 = some (hp J (va_up s 67 (va_up (s 67) 0 0)) g) := fun s => zS67 (i := 0) (by decide)
  simp (disch := first | omega | assumption | exact Or.inl rfl | exact Or.inr rfl | exact bI_or _ | exact zC81 | exact zC47 | exact zC65 | exact zC0 | exact zC1 | exact zC32 | exact zC70 | exact zC73 | exact ztc (by assumption) | exact zdc (by assumption) | exact zpc (by assumption) | decide) only [Option.some.injEq, exists_eq_left', ex2, Option.toList, List.singleton_append, List.append_nil, List.cons_append, List.nil_append, nI_add, nI_addL, nI_Ladd, pk_mul, nI_mulL, nI_Lmul, nI_subL, pk_sub, nI_divL, sub_dm, nI_leE, nI_ltE, nI_eqE, nI_Lle, nI_leL, nI_Llt, nI_ltL, nI_eqL, va_up_self, va_up_ne, up_up, up_comm, nI_clamp, bI_eq0, not_true_eq_false, not_false_eq_true, Nat.reduceEqDiff, Nat.reduceLeDiff, Nat.reduceAdd, Nat.reduceMul, Nat.one_ne_zero, Nat.zero_ne_one, decide_eq_false_iff_not, decide_eq_true_eq, Bool.false_eq_true, decide_true, decide_false, bI_true, bI_false, one_ne, Nat.le_refl, Nat.lt_irrefl, cleT, cleF, cltT, cltF, ceqT, ceqF, ↓reduceIte, r67_0, r67_1, r67_2, r67_5, r67_6, r67_9, r67_11, r67_14, r67_15, r67_18, r67_19, r67_20, r67_21, r67_22, zO65_5, zW65_8, fi, zS0, hs0]
  refine q3 _ ?_
  rw [r67_23]
  simp (disch := first | omega | assumption | exact Or.inl rfl | exact Or.inr rfl | exact bI_or _ | exact zC81 | exact zC47 | exact zC65 | exact zC0 | exact zC1 | exact zC32 | exact zC70 | exact zC73 | exact ztc (by assumption) | exact zdc (by assumption) | exact zpc (by assumption) | decide) only [Option.some.injEq, exists_eq_left', ex2, Option.toList, List.singleton_append, List.append_nil, List.cons_append, List.nil_append, nI_add, nI_addL, nI_Ladd, pk_mul, nI_mulL, nI_Lmul, nI_subL, pk_sub, nI_divL, sub_dm, nI_leE, nI_ltE, nI_eqE, nI_Lle, nI_leL, nI_Llt, nI_ltL, nI_eqL, va_up_self, va_up_ne, up_up, up_comm, nI_clamp, bI_eq0, not_true_eq_false, not_false_eq_true, Nat.reduceEqDiff, Nat.reduceLeDiff, Nat.reduceAdd, Nat.reduceMul, Nat.one_ne_zero, Nat.zero_ne_one, decide_eq_false_iff_not, decide_eq_true_eq, Bool.false_eq_true, decide_true, decide_false, bI_true, bI_false, one_ne, Nat.le_refl, Nat.lt_irrefl, cleT, cleF, cltT, cltF, ceqT, ceqF, ↓reduceIte, r67_24, r67_25, r67_28, r67_31, r67_34, r67_64, zO65_3, zC47, zO47_0, zW47_0, zO47_1, zW47_1, zO47_2, zO47_3, zO47_4, zW47_4, zO47_5, zO47_6, zO47_7, zO47_8, zO47_9, zO47_10, zO47_11, ztc, zto0, ztw0, zto1, ztw1, zto2, ztw2, zto3, ztw3, zto4, ztw4, zto5, zto6, zto7, zto8, zto9, zto10, zto11, ztl1, zta1, zts1, ztl2, zta2, zts2, ztl3, zta3, zts3, ztl4, zta4, zts4, ztl5, zta5, zts5, ztl6, zta6, zts6, ztl7, zta7, zts7, z47, za]
end SHA
