/-! HOW IT BEGINS, on both sides -/
section BGA
variable {xs : Nat → Int32} {sl d : Nat} {J : hJk} {s : hS} {g : hG}
theorem cp_minds {a : Nat} (ha : isT a) : hCp (hp J s g) (a + 4) 56 0 0 48 = some (hp J (va_up s 56 (va_cpy (s (a + 4)) (s 56) 0 0 48)) g) := by
  rcases ha with rfl | rfl | rfl | rfl
  · exact hcp_int (p := 0) (q := 0) (c := 48) rfl rfl (by decide) (by decide) (by decide) (by decide)
  · exact hcp_int (p := 0) (q := 0) (c := 48) rfl rfl (by decide) (by decide) (by decide) (by decide)
  · exact hcp_int (p := 0) (q := 0) (c := 48) rfl rfl (by decide) (by decide) (by decide) (by decide)
  · exact hcp_int (p := 0) (q := 0) (c := 48) rfl rfl (by decide) (by decide) (by decide) (by decide)
/-- what was said and the loaves, as numbers -/
def said (so st : Nat → Nat) (sv : Nat → Int32) (R : Nat → Int32) (sa n : Nat) : Prop := ∀ i, i < sa → R (3 * i) = nI (so i) ∧ so i < 4 ∧ R (3 * i + 1) = nI (st i) ∧ st i < n ∧ R (3 * i + 2) = sv i
def loavs (lk lo : Nat → Nat) (K O : Nat → Int32) (c : Nat) : Prop := ∀ i, i < c → K i = nI (lk i) ∧ lk i < 5 ∧ O i = nI (lo i) ∧ lo i < 4
def cB0 (s : hS) (a : Nat) : hS := va_up (va_up (va_up (va_up (va_up s 47 (va_up (va_up (va_up (s 47) 0 (nI a)) 1 0) 4 0)) 56 (va_cpy (s (a + 4)) (s 56) 0 0 48)) 61 (va_cpy (fun _ => 0) (s 61) 0 0 24)) 62 (va_cpy (fun _ => 0) (s 62) 0 0 24)) 63 (va_cpy (fun _ => -1) (s 63) 0 0 4)
def saidS (L P S : Nat) (so st : Nat → Nat) (sv : Nat → Int32) (i : Nat) (s : hS) : hS := saysG L P S s (so i) (st i) (sv i)
theorem said_fr {L P S n c : Nat} {so st : Nat → Nat} {sv : Nat → Int32} (h1 : c ≠ L) (h2 : c ≠ P) (h3 : c ≠ S) : it (saidS L P S so st sv) n s c = s c := by
  induction n with
  | zero => rfl
  | succ n ih => rw [it, saidS, saysG_fr h1 h2 h3, ih]
def cB (s : hS) (a n sa c : Nat) (so st lk lo : Nat → Nat) (sv : Nat → Int32) : hS := it (fun i s' => cLoaf s' n i (lk i) (lo i) 1) c (it (saidS 61 62 63 so st sv) sa (cB0 s a))
theorem cLoaf_fr {n L k o c : Nat} {age : Int32} (h1 : c ≠ 47) (h2 : ¬ (57 ≤ c ∧ c ≤ 60)) : cLoaf s n L k o age c = s c := by
  unfold cLoaf bakeG
  rw [va_up_ne _ _ h1, va_up_ne _ _ (by omega), va_up_ne _ _ (by omega), va_up_ne _ _ (by omega), va_up_ne _ _ (by omega)]
theorem cLoaf_47 {n L k o : Nat} {age : Int32} : cLoaf s n L k o age 47 = va_up (s 47) 1 (nI (L + 1)) := by
  unfold cLoaf
  rw [va_up_self]
theorem sc_begin {a n h sa c : Nat} {so st lk lo : Nat → Nat} {sv : Nat → Int32} (ha : isT a) (h31 : a < 31) (hn : s a 0 = nI n) (hn6 : n ≤ 6) (hh : s a 2 = nI h) (hh8 : h ≤ 8) (hsa : s a 3 = nI sa) (hsa12 : sa ≤ 12) (hc : s a 4 = nI c) (hc8 : c ≤ 8) (hSd : said so st sv (s (a + 5)) sa n) (hLo : loavs lk lo (s (a + 6)) (s (a + 7)) c) {r : Option Value × mH} : Runs xs sl (d+4) 116 0 [some (.ref (47)), some (.ref (a)), none] [] (hp J (s) g) r ↔ r = (none, hp J (cB s a n sa c so st lk lo sv) g) := by
  refine Runs.iff ?_
  have ha' : a = 7 ∨ a = 19 ∨ a = 33 ∨ a = 48 := ha
  have f0 := fun (s : hS) => @zx_fill xs sl (d + 3) J s g 61 24 0 (fun s => zL61) (fun s i v hi => zS61 hi) (by decide)
  have f1 := fun (s : hS) => @zx_fill xs sl (d + 3) J s g 62 24 0 (fun s => zL62) (fun s i v hi => zS62 hi) (by decide)
  have f2 := fun (s : hS) => @zx_fill xs sl (d + 3) J s g 63 4 (-1) (fun s => zL63) (fun s i v hi => zS63 hi) (by decide)
  simp (disch := first | omega | assumption | exact Or.inl rfl | exact Or.inr rfl | exact bI_or _ | exact zC81 | exact zC47 | exact zC65 | exact zC0 | exact zC1 | exact zC32 | exact zC70 | exact zC73 | exact ztc (by assumption) | exact zdc (by assumption) | exact zpc (by assumption) | decide) only [Option.some.injEq, exists_eq_left', ex2, Option.toList, List.singleton_append, List.append_nil, List.cons_append, List.nil_append, nI_add, nI_addL, nI_Ladd, pk_mul, nI_mulL, nI_Lmul, nI_subL, pk_sub, nI_divL, sub_dm, nI_leE, nI_ltE, nI_eqE, nI_Lle, nI_leL, nI_Llt, nI_ltL, nI_eqL, va_up_self, va_up_ne, up_up, up_comm, nI_clamp, bI_eq0, not_true_eq_false, not_false_eq_true, Nat.reduceEqDiff, Nat.reduceLeDiff, Nat.reduceAdd, Nat.reduceMul, Nat.one_ne_zero, Nat.zero_ne_one, decide_eq_false_iff_not, decide_eq_true_eq, Bool.false_eq_true, decide_true, decide_false, bI_true, bI_false, one_ne, Nat.le_refl, Nat.lt_irrefl, cleT, cleF, cltT, cltF, ceqT, ceqF, ↓reduceIte, r116_0, r116_1, r116_1n, r116_2, r116_5, r116_6, r116_7, r116_10, r116_11, r116_12, r116_15, r116_15n, r116_16, r116_19, r116_20, r116_21, r116_24, r116_25, r116_27, r116_30, r116_31, r116_34, r116_35, r116_38, r116_39, r116_42, r116_43, r116_46, r116_47, r116_50, r116_51, r116_54, r116_55, r116_55_1, zC47, zO47_0, zW47_0, zO47_1, zW47_1, zO47_2, zO47_3, zO47_4, zW47_4, zO47_5, zO47_6, zO47_7, zO47_8, zO47_9, zO47_10, zO47_11, ztc, zto0, ztw0, zto1, ztw1, zto2, ztw2, zto3, ztw3, zto4, ztw4, zto5, zto6, zto7, zto8, zto9, zto10, zto11, ztl1, zta1, zts1, ztl2, zta2, zts2, ztl3, zta3, zts3, ztl4, zta4, zts4, ztl5, zta5, zts5, ztl6, zta6, zts6, ztl7, zta7, zts7, cp_minds, f0, f1, f2]
  unfold cB
  have e0 : va_up (va_up (va_up (va_up (va_up s 47 (va_up (va_up (va_up (s 47) 0 (nI a)) 1 0) 4 0)) 56 (va_cpy (s (a + 4)) (s 56) 0 0 48)) 61 (va_cpy (fun _ => 0) (s 61) 0 0 24)) 62 (va_cpy (fun _ => 0) (s 62) 0 0 24)) 63 (va_cpy (fun _ => -1) (s 63) 0 0 4) = cB0 s a := rfl
  rw [e0]
  have b47 : cB0 s a 47 0 = nI a := by simp (disch := first | omega | assumption | exact Or.inl rfl | exact Or.inr rfl | exact bI_or _ | exact zC81 | exact zC47 | exact zC65 | exact zC0 | exact zC1 | exact zC32 | exact zC70 | exact zC73 | exact ztc (by assumption) | exact zdc (by assumption) | exact zpc (by assumption) | decide) only [Option.some.injEq, exists_eq_left', ex2, Option.toList, List.singleton_append, List.append_nil, List.cons_append, List.nil_append, nI_add, nI_addL, nI_Ladd, pk_mul, nI_mulL, nI_Lmul, nI_subL, pk_sub, nI_divL, sub_dm, nI_leE, nI_ltE, nI_eqE, nI_Lle, nI_leL, nI_Llt, nI_ltL, nI_eqL, va_up_self, va_up_ne, up_up, up_comm, nI_clamp, bI_eq0, not_true_eq_false, not_false_eq_true, Nat.reduceEqDiff, Nat.reduceLeDiff, Nat.reduceAdd, Nat.reduceMul, Nat.one_ne_zero, Nat.zero_ne_one, decide_eq_false_iff_not, decide_eq_true_eq, Bool.false_eq_true, decide_true, decide_false, bI_true, bI_false, one_ne, Nat.le_refl, Nat.lt_irrefl, cleT, cleF, cltT, cltF, ceqT, ceqF, ↓reduceIte, cB0]
  have b47' : cB0 s a 47 1 = nI 0 := by simp (disch := first | omega | assumption | exact Or.inl rfl | exact Or.inr rfl | exact bI_or _ | exact zC81 | exact zC47 | exact zC65 | exact zC0 | exact zC1 | exact zC32 | exact zC70 | exact zC73 | exact ztc (by assumption) | exact zdc (by assumption) | exact zpc (by assumption) | decide) only [Option.some.injEq, exists_eq_left', ex2, Option.toList, List.singleton_append, List.append_nil, List.cons_append, List.nil_append, nI_add, nI_addL, nI_Ladd, pk_mul, nI_mulL, nI_Lmul, nI_subL, pk_sub, nI_divL, sub_dm, nI_leE, nI_ltE, nI_eqE, nI_Lle, nI_leL, nI_Llt, nI_ltL, nI_eqL, va_up_self, va_up_ne, up_up, up_comm, nI_clamp, bI_eq0, not_true_eq_false, not_false_eq_true, Nat.reduceEqDiff, Nat.reduceLeDiff, Nat.reduceAdd, Nat.reduceMul, Nat.one_ne_zero, Nat.zero_ne_one, decide_eq_false_iff_not, decide_eq_true_eq, Bool.false_eq_true, decide_true, decide_false, bI_true, bI_false, one_ne, Nat.le_refl, Nat.lt_irrefl, cleT, cleF, cltT, cltF, ceqT, ceqF, ↓reduceIte, cB0]; rfl
  have ba : ∀ j, j < 8 → cB0 s a (a + j) = s (a + j) := by
    intro j hj
    simp (disch := first | omega | assumption | exact Or.inl rfl | exact Or.inr rfl | exact bI_or _ | exact zC81 | exact zC47 | exact zC65 | exact zC0 | exact zC1 | exact zC32 | exact zC70 | exact zC73 | exact ztc (by assumption) | exact zdc (by assumption) | exact zpc (by assumption) | decide) only [Option.some.injEq, exists_eq_left', ex2, Option.toList, List.singleton_append, List.append_nil, List.cons_append, List.nil_append, nI_add, nI_addL, nI_Ladd, pk_mul, nI_mulL, nI_Lmul, nI_subL, pk_sub, nI_divL, sub_dm, nI_leE, nI_ltE, nI_eqE, nI_Lle, nI_leL, nI_Llt, nI_ltL, nI_eqL, va_up_self, va_up_ne, up_up, up_comm, nI_clamp, bI_eq0, not_true_eq_false, not_false_eq_true, Nat.reduceEqDiff, Nat.reduceLeDiff, Nat.reduceAdd, Nat.reduceMul, Nat.one_ne_zero, Nat.zero_ne_one, decide_eq_false_iff_not, decide_eq_true_eq, Bool.false_eq_true, decide_true, decide_false, bI_true, bI_false, one_ne, Nat.le_refl, Nat.lt_irrefl, cleT, cleF, cltT, cltF, ceqT, ceqF, ↓reduceIte, cB0]
  generalize cB0 s a = s0 at *
  have hT0 : cT s0 a n h := ⟨ha, h31, b47, by rw [show s0 a = s a from ba 0 (by omega)]; exact hn, hn6, by rw [show s0 a = s a from ba 0 (by omega)]; exact hh, hh8⟩
  refine dn_loop (P := fun i => Runs xs sl (d+4) 116 56 [some (.ref (47)), some (.ref (a)), some (.int ( nI i))] [] (hp J (it (saidS 61 62 63 so st sv) i s0) g) _) sa ?_ ?_
  · intro i hi hr
    rw [r116_56]
    have cc : ¬ sa ≤ i := by omega
    have f47 : it (saidS 61 62 63 so st sv) i s0 47 = s0 47 := said_fr (by decide) (by decide) (by decide)
    have fa : it (saidS 61 62 63 so st sv) i s0 a = s a := (said_fr (by omega) (by omega) (by omega)).trans (ba 0 (by omega))
    have fa5 : it (saidS 61 62 63 so st sv) i s0 (a + 5) = s (a + 5) := (said_fr (by omega) (by omega) (by omega)).trans (ba 5 (by omega))
    have hT1 : cT (it (saidS 61 62 63 so st sv) i s0) a n h := cT_fr hT0 (by rw [f47]) (fa.trans (ba 0 (by omega)).symm)
    obtain ⟨q1, q2, q3, q4, q5⟩ := hSd i hi
    rw [it] at hr
    generalize it (saidS 61 62 63 so st sv) i s0 = s1 at *
    have hu := @sc_utter xs sl (d + 2) J s1 g a n h (so i) (st i) (sv i) hT1 q2 (by omega)
    rw [if_pos q4, decide_eq_true q4] at hu
    simp (disch := first | omega | assumption | exact Or.inl rfl | exact Or.inr rfl | exact bI_or _ | exact zC81 | exact zC47 | exact zC65 | exact zC0 | exact zC1 | exact zC32 | exact zC70 | exact zC73 | exact ztc (by assumption) | exact zdc (by assumption) | exact zpc (by assumption) | decide) only [Option.some.injEq, exists_eq_left', ex2, Option.toList, List.singleton_append, List.append_nil, List.cons_append, List.nil_append, nI_add, nI_addL, nI_Ladd, pk_mul, nI_mulL, nI_Lmul, nI_subL, pk_sub, nI_divL, sub_dm, nI_leE, nI_ltE, nI_eqE, nI_Lle, nI_leL, nI_Llt, nI_ltL, nI_eqL, va_up_self, va_up_ne, up_up, up_comm, nI_clamp, bI_eq0, not_true_eq_false, not_false_eq_true, Nat.reduceEqDiff, Nat.reduceLeDiff, Nat.reduceAdd, Nat.reduceMul, Nat.one_ne_zero, Nat.zero_ne_one, decide_eq_false_iff_not, decide_eq_true_eq, Bool.false_eq_true, decide_true, decide_false, bI_true, bI_false, one_ne, Nat.le_refl, Nat.lt_irrefl, cleT, cleF, cltT, cltF, ceqT, ceqF, ↓reduceIte, r116_57, r116_57n, r116_58, r116_61, r116_64, r116_65, r116_65n, r116_66, r116_69, r116_70, r116_71, r116_72, r116_73, r116_73n, r116_74, r116_77, r116_78, r116_79, r116_80, r116_81, r116_82, r116_83, r116_83n, r116_84, r116_87, r116_88, r116_89, r116_90, r116_91, r116_92, r116_93, r116_96, r116_97, r116_97_1, r116_100, zC47, zO47_0, zW47_0, zO47_1, zW47_1, zO47_2, zO47_3, zO47_4, zW47_4, zO47_5, zO47_6, zO47_7, zO47_8, zO47_9, zO47_10, zO47_11, ztc, zto0, ztw0, zto1, ztw1, zto2, ztw2, zto3, ztw3, zto4, ztw4, zto5, zto6, zto7, zto8, zto9, zto10, zto11, ztl1, zta1, zts1, ztl2, zta2, zts2, ztl3, zta3, zts3, ztl4, zta4, zts4, ztl5, zta5, zts5, ztl6, zta6, zts6, ztl7, zta7, zts7, fa, fa5, hsa, cc, q1, q3, q5, hu]
    exact hr
  · rw [r116_56]
    have f47 : it (saidS 61 62 63 so st sv) sa s0 47 = s0 47 := said_fr (by decide) (by decide) (by decide)
    have fa : ∀ j, j < 8 → it (saidS 61 62 63 so st sv) sa s0 (a + j) = s (a + j) := fun j hj => (said_fr (by omega) (by omega) (by omega)).trans (ba j hj)
    generalize it (saidS 61 62 63 so st sv) sa s0 = s1 at *
    have fa0 : s1 a = s a := fa 0 (by omega)
    simp (disch := first | omega | assumption | exact Or.inl rfl | exact Or.inr rfl | exact bI_or _ | exact zC81 | exact zC47 | exact zC65 | exact zC0 | exact zC1 | exact zC32 | exact zC70 | exact zC73 | exact ztc (by assumption) | exact zdc (by assumption) | exact zpc (by assumption) | decide) only [Option.some.injEq, exists_eq_left', ex2, Option.toList, List.singleton_append, List.append_nil, List.cons_append, List.nil_append, nI_add, nI_addL, nI_Ladd, pk_mul, nI_mulL, nI_Lmul, nI_subL, pk_sub, nI_divL, sub_dm, nI_leE, nI_ltE, nI_eqE, nI_Lle, nI_leL, nI_Llt, nI_ltL, nI_eqL, va_up_self, va_up_ne, up_up, up_comm, nI_clamp, bI_eq0, not_true_eq_false, not_false_eq_true, Nat.reduceEqDiff, Nat.reduceLeDiff, Nat.reduceAdd, Nat.reduceMul, Nat.one_ne_zero, Nat.zero_ne_one, decide_eq_false_iff_not, decide_eq_true_eq, Bool.false_eq_true, decide_true, decide_false, bI_true, bI_false, one_ne, Nat.le_refl, Nat.lt_irrefl, cleT, cleF, cltT, cltF, ceqT, ceqF, ↓reduceIte, r116_57, r116_57n, r116_58, r116_61, r116_103, r116_104, r116_104_1, zC47, zO47_0, zW47_0, zO47_1, zW47_1, zO47_2, zO47_3, zO47_4, zW47_4, zO47_5, zO47_6, zO47_7, zO47_8, zO47_9, zO47_10, zO47_11, ztc, zto0, ztw0, zto1, ztw1, zto2, ztw2, zto3, ztw3, zto4, ztw4, zto5, zto6, zto7, zto8, zto9, zto10, zto11, ztl1, zta1, zts1, ztl2, zta2, zts2, ztl3, zta3, zts3, ztl4, zta4, zts4, ztl5, zta5, zts5, ztl6, zta6, zts6, ztl7, zta7, zts7, fa0, hsa]
    refine dn_loop (P := fun i => Runs xs sl (d+4) 116 105 [some (.ref (47)), some (.ref (a)), some (.int ( nI i))] [] (hp J (it (fun i s' => cLoaf s' n i (lk i) (lo i) 1) i s1) g) _) c ?_ ?_
    · intro i hi hr
      rw [r116_105]
      have cc : ¬ c ≤ i := by omega
      have I : ∀ i, i ≤ c → (it (fun i s' => cLoaf s' n i (lk i) (lo i) 1) i s1 47 0 = nI a ∧ it (fun i s' => cLoaf s' n i (lk i) (lo i) 1) i s1 47 1 = nI i) ∧ ∀ j, j < 8 → it (fun i s' => cLoaf s' n i (lk i) (lo i) 1) i s1 (a + j) = s (a + j) := by
        intro i
        induction i with
        | zero => exact fun _ => ⟨⟨by rw [it, f47, b47], by rw [it, f47, b47']⟩, fa⟩
        | succ i ih =>
          intro hi
          obtain ⟨⟨i1, i2⟩, i3⟩ := ih (by omega)
          rw [it]
          refine ⟨⟨?_, ?_⟩, fun j hj => ?_⟩
          · rw [cLoaf_47, va_up_ne _ _ (by decide), i1]
          · rw [cLoaf_47, va_up_self]
          · rw [cLoaf_fr (by omega) (by omega), i3 j hj]
      obtain ⟨⟨i1, i2⟩, i3⟩ := I i (by omega)
      obtain ⟨q1, q2, q3, q4⟩ := hLo i hi
      rw [it] at hr
      generalize it (fun i s' => cLoaf s' n i (lk i) (lo i) 1) i s1 = s2 at *
      have g0 : s2 a = s a := i3 0 (by omega)
      have g6 : s2 (a + 6) = s (a + 6) := i3 6 (by omega)
      have g7 : s2 (a + 7) = s (a + 7) := i3 7 (by omega)
      have hT2 : cT s2 a n h := ⟨ha, h31, i1, by rw [g0]; exact hn, hn6, by rw [g0]; exact hh, hh8⟩
      have hu := @sc_addLoaf xs sl d J s2 g a n h i (lk i) (lo i) 1 hT2 i2 (by omega) q2 q4
      rw [if_pos (by omega), decide_eq_true (by omega)] at hu
      simp (disch := first | omega | assumption | exact Or.inl rfl | exact Or.inr rfl | exact bI_or _ | exact zC81 | exact zC47 | exact zC65 | exact zC0 | exact zC1 | exact zC32 | exact zC70 | exact zC73 | exact ztc (by assumption) | exact zdc (by assumption) | exact zpc (by assumption) | decide) only [Option.some.injEq, exists_eq_left', ex2, Option.toList, List.singleton_append, List.append_nil, List.cons_append, List.nil_append, nI_add, nI_addL, nI_Ladd, pk_mul, nI_mulL, nI_Lmul, nI_subL, pk_sub, nI_divL, sub_dm, nI_leE, nI_ltE, nI_eqE, nI_Lle, nI_leL, nI_Llt, nI_ltL, nI_eqL, va_up_self, va_up_ne, up_up, up_comm, nI_clamp, bI_eq0, not_true_eq_false, not_false_eq_true, Nat.reduceEqDiff, Nat.reduceLeDiff, Nat.reduceAdd, Nat.reduceMul, Nat.one_ne_zero, Nat.zero_ne_one, decide_eq_false_iff_not, decide_eq_true_eq, Bool.false_eq_true, decide_true, decide_false, bI_true, bI_false, one_ne, Nat.le_refl, Nat.lt_irrefl, cleT, cleF, cltT, cltF, ceqT, ceqF, ↓reduceIte, r116_106, r116_106n, r116_107, r116_110, r116_113, r116_114, r116_114n, r116_115, r116_118, r116_119, r116_120, r116_120n, r116_121, r116_124, r116_125, r116_126, r116_127, r116_130, r116_131, r116_131_1, r116_134, zC47, zO47_0, zW47_0, zO47_1, zW47_1, zO47_2, zO47_3, zO47_4, zW47_4, zO47_5, zO47_6, zO47_7, zO47_8, zO47_9, zO47_10, zO47_11, ztc, zto0, ztw0, zto1, ztw1, zto2, ztw2, zto3, ztw3, zto4, ztw4, zto5, zto6, zto7, zto8, zto9, zto10, zto11, ztl1, zta1, zts1, ztl2, zta2, zts2, ztl3, zta3, zts3, ztl4, zta4, zts4, ztl5, zta5, zts5, ztl6, zta6, zts6, ztl7, zta7, zts7, g0, g6, g7, hc, cc, q1, q3, hu]
      exact hr
    · rw [r116_105]
      have fz : ∀ i, it (fun i s' => cLoaf s' n i (lk i) (lo i) 1) i s1 a = s a := by
        intro i
        induction i with
        | zero => exact fa0
        | succ i ih => rw [it, cLoaf_fr (by omega) (by omega), ih]
      have fzc := fz c
      generalize it (fun i s' => cLoaf s' n i (lk i) (lo i) 1) c s1 = s2 at *
      simp (disch := first | omega | assumption | exact Or.inl rfl | exact Or.inr rfl | exact bI_or _ | exact zC81 | exact zC47 | exact zC65 | exact zC0 | exact zC1 | exact zC32 | exact zC70 | exact zC73 | exact ztc (by assumption) | exact zdc (by assumption) | exact zpc (by assumption) | decide) only [Option.some.injEq, exists_eq_left', ex2, Option.toList, List.singleton_append, List.append_nil, List.cons_append, List.nil_append, nI_add, nI_addL, nI_Ladd, pk_mul, nI_mulL, nI_Lmul, nI_subL, pk_sub, nI_divL, sub_dm, nI_leE, nI_ltE, nI_eqE, nI_Lle, nI_leL, nI_Llt, nI_ltL, nI_eqL, va_up_self, va_up_ne, up_up, up_comm, nI_clamp, bI_eq0, not_true_eq_false, not_false_eq_true, Nat.reduceEqDiff, Nat.reduceLeDiff, Nat.reduceAdd, Nat.reduceMul, Nat.one_ne_zero, Nat.zero_ne_one, decide_eq_false_iff_not, decide_eq_true_eq, Bool.false_eq_true, decide_true, decide_false, bI_true, bI_false, one_ne, Nat.le_refl, Nat.lt_irrefl, cleT, cleF, cltT, cltF, ceqT, ceqF, ↓reduceIte, r116_106, r116_106n, r116_107, r116_110, r116_137, ztc, zto0, ztw0, zto1, ztw1, zto2, ztw2, zto3, ztw3, zto4, ztw4, zto5, zto6, zto7, zto8, zto9, zto10, zto11, ztl1, zta1, zts1, ztl2, zta2, zts2, ztl3, zta3, zts3, ztl4, zta4, zts4, ztl5, zta5, zts5, ztl6, zta6, zts6, ztl7, zta7, zts7, fzc, hc]
end BGA
