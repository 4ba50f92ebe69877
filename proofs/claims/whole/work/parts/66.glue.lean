/-! HOW IT BEGINS, alike on both sides -/
section GLU
variable {xs : Nat → Int32} {sl d : Nat} {J : hJk} {s x y : hS} {g : hG}
theorem nI_cl {v : Int32} {k : Nat} (h : v = nI k) (hk : k < 2 ^ 31) : v.toNatClampNeg = k := by rw [h, nI_clamp hk]
def soF (R : Nat → Int32) (i : Nat) : Nat := (R (3 * i)).toNatClampNeg
def stF (R : Nat → Int32) (i : Nat) : Nat := (R (3 * i + 1)).toNatClampNeg
def svF (R : Nat → Int32) (i : Nat) : Int32 := R (3 * i + 2)
def nF (R : Nat → Int32) (i : Nat) : Nat := (R i).toNatClampNeg
theorem said_C {C : hS} {R : Nat → Int32} {a t0 n li h sa c : Nat} (hQ : TownQ C R a t0 n li h sa c) : said (soF (C (a + 5))) (stF (C (a + 5))) (svF (C (a + 5))) (C (a + 5)) sa n := by
  obtain ⟨⟨-, -, -, n6⟩, -, -, -, -, -, -, -, -, tm, -⟩ := hQ
  intro i hi
  obtain ⟨o, t, h1, h2, h3, h4, h5, h6, h7, h8⟩ := tm i hi
  have e1 : soF (C (a + 5)) i = o := nI_cl h3 (by omega)
  have e2 : stF (C (a + 5)) i = t := nI_cl h5 (by omega)
  rw [e1, e2]
  exact ⟨h3, h1, h5, h2, rfl⟩
theorem said_R {C : hS} {R : Nat → Int32} {a t0 n li h sa c : Nat} (hQ : TownQ C R a t0 n li h sa c) : said (soF (C (a + 5))) (stF (C (a + 5))) (svF (C (a + 5))) (fun i => R (t0 + 77 + i)) sa n := by
  obtain ⟨⟨-, -, -, n6⟩, -, -, -, -, -, -, -, -, tm, -⟩ := hQ
  intro i hi
  obtain ⟨o, t, h1, h2, h3, h4, h5, h6, h7, h8⟩ := tm i hi
  have e1 : soF (C (a + 5)) i = o := nI_cl h3 (by omega)
  have e2 : stF (C (a + 5)) i = t := nI_cl h5 (by omega)
  rw [e1, e2]
  refine ⟨h4, h1, ?_, h2, ?_⟩
  · show R (t0 + 77 + (3 * i + 1)) = _
    rw [← Nat.add_assoc]
    exact h6
  · show R (t0 + 77 + (3 * i + 2)) = _
    rw [← Nat.add_assoc]
    exact h8
theorem loaf_C {C : hS} {R : Nat → Int32} {a t0 n li h sa c : Nat} (hQ : TownQ C R a t0 n li h sa c) : loavs (nF (C (a + 6))) (nF (C (a + 7))) (C (a + 6)) (C (a + 7)) c := by
  obtain ⟨-, -, -, -, -, -, -, -, -, -, tl⟩ := hQ
  intro i hi
  obtain ⟨k, o, h1, h2, h3, h4, h5, h6⟩ := tl i hi
  have e1 : nF (C (a + 6)) i = k := nI_cl h3 (by omega)
  have e2 : nF (C (a + 7)) i = o := nI_cl h5 (by omega)
  rw [e1, e2]
  exact ⟨h3, h1, h5, h2⟩
theorem loaf_R {C : hS} {R : Nat → Int32} {a t0 n li h sa c : Nat} (hQ : TownQ C R a t0 n li h sa c) : loavs (nF (C (a + 6))) (nF (C (a + 7))) (fun i => R (t0 + 113 + 2 * i)) (fun i => R (t0 + 113 + 2 * i + 1)) c := by
  obtain ⟨-, -, -, -, -, -, -, -, -, -, tl⟩ := hQ
  intro i hi
  obtain ⟨k, o, h1, h2, h3, h4, h5, h6⟩ := tl i hi
  have e1 : nF (C (a + 6)) i = k := nI_cl h3 (by omega)
  have e2 : nF (C (a + 7)) i = o := nI_cl h5 (by omega)
  rw [e1, e2]
  exact ⟨h4, h1, h6, h2⟩
/-- the scenes as they begin with what C tells at a -/
def CB (s : hS) (a n sa c : Nat) : hS := cB s a n sa c (soF (s (a + 5))) (stF (s (a + 5))) (nF (s (a + 6))) (nF (s (a + 7))) (svF (s (a + 5)))
def RB (C y : hS) (a t0 sa c : Nat) : hS := rB y t0 sa c (soF (C (a + 5))) (stF (C (a + 5))) (nF (C (a + 6))) (nF (C (a + 7))) (svF (C (a + 5)))
theorem CB_run {R : Nat → Int32} {a t0 n li h sa c : Nat} (ha : isT a) (h31 : a < 31) (hQ : TownQ s R a t0 n li h sa c) {r : Option Value × mH} : Runs xs sl (d+4) 116 0 [some (.ref (47)), some (.ref (a)), none] [] (hp J (s) g) r ↔ r = (none, hp J (CB s a n sa c) g) := by
  refine Runs.iff ?_
  have h1 := said_C hQ
  have h2 := loaf_C hQ
  obtain ⟨⟨a1, -, -, a4⟩, -, ⟨b1, -, b3⟩, ⟨d1, -, d3⟩, ⟨e1, -, e3⟩, -⟩ := hQ
  exact (sc_begin ha h31 a1 a4 b1 b3 d1 d3 e1 e3 h1 h2).mpr rfl
theorem RB_run {C : hS} {a t0 n li h sa c : Nat} (hR : rT s t0 n h) (hQ : TownQ C (s 82) a t0 n li h sa c) {r : Option Value × mH} : Runs xs sl (d+3) 214 0 [some (.ref (81)), none] [] (hp J (s) g) r ↔ r = (none, hp J (RB C s a t0 sa c) g) := by
  refine Runs.iff ?_
  have h1 := said_R hQ
  have h2 := loaf_R hQ
  obtain ⟨-, -, -, ⟨-, d1, d3⟩, ⟨-, e1, e3⟩, -⟩ := hQ
  exact (rf_begins hR d1 d3 e1 e3 h1 h2).mpr rfl
theorem CB_CI {R : Nat → Int32} {a t0 n li h sa c : Nat} (ha : isT a) (h31 : a < 31) (hQ : TownQ s R a t0 n li h sa c) : CI s (CB s a n sa c) a n h ∧ lvC (CB s a n sa c) = c := by
  obtain ⟨⟨a1, -, -, a4⟩, -, ⟨b1, -, b3⟩, -, ⟨-, -, c8⟩, -⟩ := hQ
  have ha' : a = 7 ∨ a = 19 ∨ a = 33 ∨ a = 48 := ha
  unfold CB cB
  generalize soF (s (a + 5)) = so
  generalize stF (s (a + 5)) = st
  generalize svF (s (a + 5)) = sv
  generalize nF (s (a + 6)) = lk
  generalize nF (s (a + 7)) = lo
  have F : ∀ i, i ≤ c → (it (fun i s' => cLoaf s' n i (lk i) (lo i) 1) i (it (saidS 61 62 63 so st sv) sa (cB0 s a)) 47 0 = nI a ∧ it (fun i s' => cLoaf s' n i (lk i) (lo i) 1) i (it (saidS 61 62 63 so st sv) sa (cB0 s a)) 47 1 = nI i) ∧ ∀ j, 1 ≤ j ∧ j < 47 ∨ 65 ≤ j → it (fun i s' => cLoaf s' n i (lk i) (lo i) 1) i (it (saidS 61 62 63 so st sv) sa (cB0 s a)) j = s j := by
    intro i
    induction i with
    | zero =>
      intro _
      refine ⟨⟨?_, ?_⟩, fun j hj => ?_⟩
      · rw [it, said_fr (by decide) (by decide) (by decide)]
        simp (disch := first | omega | assumption | exact Or.inl rfl | exact Or.inr rfl | exact bI_or _ | exact zC81 | exact zC47 | exact zC65 | exact zC0 | exact zC1 | exact zC32 | exact zC70 | exact zC73 | exact ztc (by assumption) | exact zdc (by assumption) | exact zpc (by assumption) | decide) only [Option.some.injEq, exists_eq_left', ex2, Option.toList, List.singleton_append, List.append_nil, List.cons_append, List.nil_append, nI_add, nI_addL, nI_Ladd, pk_mul, nI_mulL, nI_Lmul, nI_subL, pk_sub, nI_divL, sub_dm, nI_leE, nI_ltE, nI_eqE, nI_Lle, nI_leL, nI_Llt, nI_ltL, nI_eqL, va_up_self, va_up_ne, up_up, up_comm, nI_clamp, bI_eq0, not_true_eq_false, not_false_eq_true, Nat.reduceEqDiff, Nat.reduceLeDiff, Nat.reduceAdd, Nat.reduceMul, Nat.one_ne_zero, Nat.zero_ne_one, decide_eq_false_iff_not, decide_eq_true_eq, Bool.false_eq_true, decide_true, decide_false, bI_true, bI_false, one_ne, Nat.le_refl, Nat.lt_irrefl, cleT, cleF, cltT, cltF, ceqT, ceqF, ↓reduceIte, cB0]
      · rw [it, said_fr (by decide) (by decide) (by decide)]
        simp (disch := first | omega | assumption | exact Or.inl rfl | exact Or.inr rfl | exact bI_or _ | exact zC81 | exact zC47 | exact zC65 | exact zC0 | exact zC1 | exact zC32 | exact zC70 | exact zC73 | exact ztc (by assumption) | exact zdc (by assumption) | exact zpc (by assumption) | decide) only [Option.some.injEq, exists_eq_left', ex2, Option.toList, List.singleton_append, List.append_nil, List.cons_append, List.nil_append, nI_add, nI_addL, nI_Ladd, pk_mul, nI_mulL, nI_Lmul, nI_subL, pk_sub, nI_divL, sub_dm, nI_leE, nI_ltE, nI_eqE, nI_Lle, nI_leL, nI_Llt, nI_ltL, nI_eqL, va_up_self, va_up_ne, up_up, up_comm, nI_clamp, bI_eq0, not_true_eq_false, not_false_eq_true, Nat.reduceEqDiff, Nat.reduceLeDiff, Nat.reduceAdd, Nat.reduceMul, Nat.one_ne_zero, Nat.zero_ne_one, decide_eq_false_iff_not, decide_eq_true_eq, Bool.false_eq_true, decide_true, decide_false, bI_true, bI_false, one_ne, Nat.le_refl, Nat.lt_irrefl, cleT, cleF, cltT, cltF, ceqT, ceqF, ↓reduceIte, cB0]
        rfl
      · rw [it, said_fr (by omega) (by omega) (by omega)]
        simp (disch := first | omega | assumption | exact Or.inl rfl | exact Or.inr rfl | exact bI_or _ | exact zC81 | exact zC47 | exact zC65 | exact zC0 | exact zC1 | exact zC32 | exact zC70 | exact zC73 | exact ztc (by assumption) | exact zdc (by assumption) | exact zpc (by assumption) | decide) only [Option.some.injEq, exists_eq_left', ex2, Option.toList, List.singleton_append, List.append_nil, List.cons_append, List.nil_append, nI_add, nI_addL, nI_Ladd, pk_mul, nI_mulL, nI_Lmul, nI_subL, pk_sub, nI_divL, sub_dm, nI_leE, nI_ltE, nI_eqE, nI_Lle, nI_leL, nI_Llt, nI_ltL, nI_eqL, va_up_self, va_up_ne, up_up, up_comm, nI_clamp, bI_eq0, not_true_eq_false, not_false_eq_true, Nat.reduceEqDiff, Nat.reduceLeDiff, Nat.reduceAdd, Nat.reduceMul, Nat.one_ne_zero, Nat.zero_ne_one, decide_eq_false_iff_not, decide_eq_true_eq, Bool.false_eq_true, decide_true, decide_false, bI_true, bI_false, one_ne, Nat.le_refl, Nat.lt_irrefl, cleT, cleF, cltT, cltF, ceqT, ceqF, ↓reduceIte, cB0]
    | succ i ih =>
      intro hi
      obtain ⟨⟨i1, i2⟩, i3⟩ := ih (by omega)
      rw [it]
      refine ⟨⟨?_, ?_⟩, fun j hj => ?_⟩
      · rw [cLoaf_47, va_up_ne _ _ (by decide), i1]
      · rw [cLoaf_47, va_up_self]
      · rw [cLoaf_fr (by omega) (by omega), i3 j hj]
  obtain ⟨⟨f1, f2⟩, f3⟩ := F c (Nat.le_refl c)
  have e := lvC_of f2 (by omega)
  refine ⟨⟨⟨ha, h31, f1, by rw [f3 a (by omega)]; exact a1, a4, by rw [f3 a (by omega)]; exact b1, b3⟩, ?_, ?_, f3⟩, e⟩
  · rw [e]
    exact f2
  · rw [e]
    omega
theorem RB_RI {C : hS} {a t0 n li h sa c : Nat} (hR : rT y t0 n h) (hQ : TownQ C (y 82) a t0 n li h sa c) : RI y (RB C y a t0 sa c) t0 n h ∧ lvR (RB C y a t0 sa c) = c ∧ RB C y a t0 sa c 81 25 = nI 0 := by
  obtain ⟨-, -, -, -, ⟨-, -, c8⟩, -⟩ := hQ
  unfold RB rB
  generalize soF (C (a + 5)) = so
  generalize stF (C (a + 5)) = st
  generalize svF (C (a + 5)) = sv
  generalize nF (C (a + 6)) = lk
  generalize nF (C (a + 7)) = lo
  have F : ∀ i, i ≤ c → it (fun i s' => rLoaf s' i (lk i) (lo i) 1) i (it (saidS 85 86 87 so st sv) sa (rB0 y)) 81 23 = nI i ∧ it (fun i s' => rLoaf s' i (lk i) (lo i) 1) i (it (saidS 85 86 87 so st sv) sa (rB0 y)) 81 25 = nI 0 ∧ (∀ j, j < 23 ∨ 25 < j ∧ j < 41 → it (fun i s' => rLoaf s' i (lk i) (lo i) 1) i (it (saidS 85 86 87 so st sv) sa (rB0 y)) 81 j = y 81 j) ∧ ∀ j, j < 81 ∨ 82 ≤ j ∧ j ≤ 84 ∨ 93 ≤ j → it (fun i s' => rLoaf s' i (lk i) (lo i) 1) i (it (saidS 85 86 87 so st sv) sa (rB0 y)) j = y j := by
    intro i
    induction i with
    | zero =>
      intro _
      refine ⟨?_, ?_, fun j hj => ?_, fun j hj => ?_⟩
      · rw [it, said_fr (by decide) (by decide) (by decide)]
        simp (disch := first | omega | assumption | exact Or.inl rfl | exact Or.inr rfl | exact bI_or _ | exact zC81 | exact zC47 | exact zC65 | exact zC0 | exact zC1 | exact zC32 | exact zC70 | exact zC73 | exact ztc (by assumption) | exact zdc (by assumption) | exact zpc (by assumption) | decide) only [Option.some.injEq, exists_eq_left', ex2, Option.toList, List.singleton_append, List.append_nil, List.cons_append, List.nil_append, nI_add, nI_addL, nI_Ladd, pk_mul, nI_mulL, nI_Lmul, nI_subL, pk_sub, nI_divL, sub_dm, nI_leE, nI_ltE, nI_eqE, nI_Lle, nI_leL, nI_Llt, nI_ltL, nI_eqL, va_up_self, va_up_ne, up_up, up_comm, nI_clamp, bI_eq0, not_true_eq_false, not_false_eq_true, Nat.reduceEqDiff, Nat.reduceLeDiff, Nat.reduceAdd, Nat.reduceMul, Nat.one_ne_zero, Nat.zero_ne_one, decide_eq_false_iff_not, decide_eq_true_eq, Bool.false_eq_true, decide_true, decide_false, bI_true, bI_false, one_ne, Nat.le_refl, Nat.lt_irrefl, cleT, cleF, cltT, cltF, ceqT, ceqF, ↓reduceIte, rB0]
        rfl
      · rw [it, said_fr (by decide) (by decide) (by decide)]
        simp (disch := first | omega | assumption | exact Or.inl rfl | exact Or.inr rfl | exact bI_or _ | exact zC81 | exact zC47 | exact zC65 | exact zC0 | exact zC1 | exact zC32 | exact zC70 | exact zC73 | exact ztc (by assumption) | exact zdc (by assumption) | exact zpc (by assumption) | decide) only [Option.some.injEq, exists_eq_left', ex2, Option.toList, List.singleton_append, List.append_nil, List.cons_append, List.nil_append, nI_add, nI_addL, nI_Ladd, pk_mul, nI_mulL, nI_Lmul, nI_subL, pk_sub, nI_divL, sub_dm, nI_leE, nI_ltE, nI_eqE, nI_Lle, nI_leL, nI_Llt, nI_ltL, nI_eqL, va_up_self, va_up_ne, up_up, up_comm, nI_clamp, bI_eq0, not_true_eq_false, not_false_eq_true, Nat.reduceEqDiff, Nat.reduceLeDiff, Nat.reduceAdd, Nat.reduceMul, Nat.one_ne_zero, Nat.zero_ne_one, decide_eq_false_iff_not, decide_eq_true_eq, Bool.false_eq_true, decide_true, decide_false, bI_true, bI_false, one_ne, Nat.le_refl, Nat.lt_irrefl, cleT, cleF, cltT, cltF, ceqT, ceqF, ↓reduceIte, rB0]
        rfl
      · rw [it, said_fr (by decide) (by decide) (by decide)]
        simp (disch := first | omega | assumption | exact Or.inl rfl | exact Or.inr rfl | exact bI_or _ | exact zC81 | exact zC47 | exact zC65 | exact zC0 | exact zC1 | exact zC32 | exact zC70 | exact zC73 | exact ztc (by assumption) | exact zdc (by assumption) | exact zpc (by assumption) | decide) only [Option.some.injEq, exists_eq_left', ex2, Option.toList, List.singleton_append, List.append_nil, List.cons_append, List.nil_append, nI_add, nI_addL, nI_Ladd, pk_mul, nI_mulL, nI_Lmul, nI_subL, pk_sub, nI_divL, sub_dm, nI_leE, nI_ltE, nI_eqE, nI_Lle, nI_leL, nI_Llt, nI_ltL, nI_eqL, va_up_self, va_up_ne, up_up, up_comm, nI_clamp, bI_eq0, not_true_eq_false, not_false_eq_true, Nat.reduceEqDiff, Nat.reduceLeDiff, Nat.reduceAdd, Nat.reduceMul, Nat.one_ne_zero, Nat.zero_ne_one, decide_eq_false_iff_not, decide_eq_true_eq, Bool.false_eq_true, decide_true, decide_false, bI_true, bI_false, one_ne, Nat.le_refl, Nat.lt_irrefl, cleT, cleF, cltT, cltF, ceqT, ceqF, ↓reduceIte, rB0]
      · rw [it, said_fr (by omega) (by omega) (by omega)]
        simp (disch := first | omega | assumption | exact Or.inl rfl | exact Or.inr rfl | exact bI_or _ | exact zC81 | exact zC47 | exact zC65 | exact zC0 | exact zC1 | exact zC32 | exact zC70 | exact zC73 | exact ztc (by assumption) | exact zdc (by assumption) | exact zpc (by assumption) | decide) only [Option.some.injEq, exists_eq_left', ex2, Option.toList, List.singleton_append, List.append_nil, List.cons_append, List.nil_append, nI_add, nI_addL, nI_Ladd, pk_mul, nI_mulL, nI_Lmul, nI_subL, pk_sub, nI_divL, sub_dm, nI_leE, nI_ltE, nI_eqE, nI_Lle, nI_leL, nI_Llt, nI_ltL, nI_eqL, va_up_self, va_up_ne, up_up, up_comm, nI_clamp, bI_eq0, not_true_eq_false, not_false_eq_true, Nat.reduceEqDiff, Nat.reduceLeDiff, Nat.reduceAdd, Nat.reduceMul, Nat.one_ne_zero, Nat.zero_ne_one, decide_eq_false_iff_not, decide_eq_true_eq, Bool.false_eq_true, decide_true, decide_false, bI_true, bI_false, one_ne, Nat.le_refl, Nat.lt_irrefl, cleT, cleF, cltT, cltF, ceqT, ceqF, ↓reduceIte, rB0]
    | succ i ih =>
      intro hi
      obtain ⟨i1, i2, i3, i4⟩ := ih (by omega)
      rw [it]
      refine ⟨?_, ?_, fun j hj => ?_, fun j hj => ?_⟩
      · rw [rLoaf_81, va_up_self]
      · rw [rLoaf_81, va_up_ne _ _ (by decide), i2]
      · rw [rLoaf_81, va_up_ne _ _ (by omega), i3 j hj]
      · rw [rLoaf_fr (by omega) (by omega), i4 j hj]
  obtain ⟨f1, f2, f3, f4⟩ := F c (Nat.le_refl c)
  generalize it (fun i s' => rLoaf s' i (lk i) (lo i) 1) c (it (saidS 85 86 87 so st sv) sa (rB0 y)) = z at *
  have e81 : ∀ (f : Nat → Int32), va_up z 92 f 81 = z 81 := fun f => va_up_ne _ _ (by decide)
  have e23 : ∀ (f : Nat → Int32), va_up z 92 f 81 23 = nI c := fun f => by rw [e81, f1]
  refine ⟨⟨rT_fr hR ?_ ?_ ?_, ?_, ?_, fun j hj => ?_, fun j hj => ?_⟩, lvR_of (e23 _) (by omega), ?_⟩
  · rw [e81, f3 _ (by omega)]
  · rw [e81, f3 _ (by omega)]
  · rw [e81, f3 _ (by omega)]
  · rw [lvR_of (e23 _) (by omega)]
    exact e23 _
  · rw [lvR_of (e23 _) (by omega)]
    omega
  · rw [va_up_ne _ _ (by omega), f4 j hj]
  · rw [e81, f3 j hj]
  · rw [e81, f2]
theorem rLoaf_92 (z : hS) (w : Nat → Int32) (L k o : Nat) (age : Int32) : rLoaf (va_up z 92 w) L k o age = va_up (rLoaf z L k o age) 92 w := by
  unfold rLoaf bakeG
  simp (disch := first | omega | assumption | exact Or.inl rfl | exact Or.inr rfl | exact bI_or _ | exact zC81 | exact zC47 | exact zC65 | exact zC0 | exact zC1 | exact zC32 | exact zC70 | exact zC73 | exact ztc (by assumption) | exact zdc (by assumption) | exact zpc (by assumption) | decide) only [Option.some.injEq, exists_eq_left', ex2, Option.toList, List.singleton_append, List.append_nil, List.cons_append, List.nil_append, nI_add, nI_addL, nI_Ladd, pk_mul, nI_mulL, nI_Lmul, nI_subL, pk_sub, nI_divL, sub_dm, nI_leE, nI_ltE, nI_eqE, nI_Lle, nI_leL, nI_Llt, nI_ltL, nI_eqL, va_up_self, va_up_ne, up_up, up_comm, nI_clamp, bI_eq0, not_true_eq_false, not_false_eq_true, Nat.reduceEqDiff, Nat.reduceLeDiff, Nat.reduceAdd, Nat.reduceMul, Nat.one_ne_zero, Nat.zero_ne_one, decide_eq_false_iff_not, decide_eq_true_eq, Bool.false_eq_true, decide_true, decide_false, bI_true, bI_false, one_ne, Nat.le_refl, Nat.lt_irrefl, cleT, cleF, cltT, cltF, ceqT, ceqF, ↓reduceIte]
theorem begin_SR {R : Nat → Int32} {a t0 n li h sa c : Nat} (hQ : TownQ s R a t0 n li h sa c) (hy : y 82 = R) : SR n c (CB s a n sa c) (RB s y a t0 sa c) := by
  have h1 := said_C hQ
  have h2 := loaf_C hQ
  obtain ⟨⟨-, -, -, a4⟩, -, -, -, ⟨-, -, c8⟩, -, -, -, tm, -⟩ := hQ
  unfold CB RB cB rB
  generalize soF (s (a + 5)) = so at *
  generalize stF (s (a + 5)) = st at *
  generalize svF (s (a + 5)) = sv at *
  generalize nF (s (a + 6)) = lk at *
  generalize nF (s (a + 7)) = lo at *
  generalize hw : va_cpy (fun i => y 82 (t0 + 29 + i)) (y 92) 0 0 48 = w
  have k1 : ∀ (i : Nat) (z : hS), it (saidS 85 86 87 so st sv) i (va_up z 92 w) = va_up (it (saidS 85 86 87 so st sv) i z) 92 w := by
    intro i z
    induction i with
    | zero => rfl
    | succ i ih =>
      rw [it, it, ih]
      unfold saidS saysG
      simp (disch := first | omega | assumption | exact Or.inl rfl | exact Or.inr rfl | exact bI_or _ | exact zC81 | exact zC47 | exact zC65 | exact zC0 | exact zC1 | exact zC32 | exact zC70 | exact zC73 | exact ztc (by assumption) | exact zdc (by assumption) | exact zpc (by assumption) | decide) only [Option.some.injEq, exists_eq_left', ex2, Option.toList, List.singleton_append, List.append_nil, List.cons_append, List.nil_append, nI_add, nI_addL, nI_Ladd, pk_mul, nI_mulL, nI_Lmul, nI_subL, pk_sub, nI_divL, sub_dm, nI_leE, nI_ltE, nI_eqE, nI_Lle, nI_leL, nI_Llt, nI_ltL, nI_eqL, va_up_self, va_up_ne, up_up, up_comm, nI_clamp, bI_eq0, not_true_eq_false, not_false_eq_true, Nat.reduceEqDiff, Nat.reduceLeDiff, Nat.reduceAdd, Nat.reduceMul, Nat.one_ne_zero, Nat.zero_ne_one, decide_eq_false_iff_not, decide_eq_true_eq, Bool.false_eq_true, decide_true, decide_false, bI_true, bI_false, one_ne, Nat.le_refl, Nat.lt_irrefl, cleT, cleF, cltT, cltF, ceqT, ceqF, ↓reduceIte]
  have k2 : ∀ (i : Nat) (z : hS), it (fun i s' => rLoaf s' i (lk i) (lo i) 1) i (va_up z 92 w) = va_up (it (fun i s' => rLoaf s' i (lk i) (lo i) 1) i z) 92 w := by
    intro i z
    induction i with
    | zero => rfl
    | succ i ih =>
      rw [it, it, ih]
      exact rLoaf_92 _ _ _ _ _ _
  rw [← k2, ← k1]
  refine it_rel (n := c) (fun i x y => SR n i x y) ?_ ?_ c (Nat.le_refl c)
  · refine it_rel (n := sa) (fun i x y => SR n 0 x y) ?_ ?_ sa (Nat.le_refl sa)
    · have m0 : ∀ i, i < 24 → va_cpy (fun _ => (0 : Int32)) (s 61) 0 0 24 i = 0 := fun i hi => pk_cpy_in (by omega) (by omega)
      refine ⟨?_, ?_, fun l t hl => absurd hl (by omega), fun l hl => absurd hl (by omega), fun l hl => absurd hl (by omega), fun l hl => absurd hl (by omega), ?_, ?_, ?_⟩
      · simp (disch := first | omega | assumption | exact Or.inl rfl | exact Or.inr rfl | exact bI_or _ | exact zC81 | exact zC47 | exact zC65 | exact zC0 | exact zC1 | exact zC32 | exact zC70 | exact zC73 | exact ztc (by assumption) | exact zdc (by assumption) | exact zpc (by assumption) | decide) only [Option.some.injEq, exists_eq_left', ex2, Option.toList, List.singleton_append, List.append_nil, List.cons_append, List.nil_append, nI_add, nI_addL, nI_Ladd, pk_mul, nI_mulL, nI_Lmul, nI_subL, pk_sub, nI_divL, sub_dm, nI_leE, nI_ltE, nI_eqE, nI_Lle, nI_leL, nI_Llt, nI_ltL, nI_eqL, va_up_self, va_up_ne, up_up, up_comm, nI_clamp, bI_eq0, not_true_eq_false, not_false_eq_true, Nat.reduceEqDiff, Nat.reduceLeDiff, Nat.reduceAdd, Nat.reduceMul, Nat.one_ne_zero, Nat.zero_ne_one, decide_eq_false_iff_not, decide_eq_true_eq, Bool.false_eq_true, decide_true, decide_false, bI_true, bI_false, one_ne, Nat.le_refl, Nat.lt_irrefl, cleT, cleF, cltT, cltF, ceqT, ceqF, ↓reduceIte, cB0, rB0]
      · simp (disch := first | omega | assumption | exact Or.inl rfl | exact Or.inr rfl | exact bI_or _ | exact zC81 | exact zC47 | exact zC65 | exact zC0 | exact zC1 | exact zC32 | exact zC70 | exact zC73 | exact ztc (by assumption) | exact zdc (by assumption) | exact zpc (by assumption) | decide) only [Option.some.injEq, exists_eq_left', ex2, Option.toList, List.singleton_append, List.append_nil, List.cons_append, List.nil_append, nI_add, nI_addL, nI_Ladd, pk_mul, nI_mulL, nI_Lmul, nI_subL, pk_sub, nI_divL, sub_dm, nI_leE, nI_ltE, nI_eqE, nI_Lle, nI_leL, nI_Llt, nI_ltL, nI_eqL, va_up_self, va_up_ne, up_up, up_comm, nI_clamp, bI_eq0, not_true_eq_false, not_false_eq_true, Nat.reduceEqDiff, Nat.reduceLeDiff, Nat.reduceAdd, Nat.reduceMul, Nat.one_ne_zero, Nat.zero_ne_one, decide_eq_false_iff_not, decide_eq_true_eq, Bool.false_eq_true, decide_true, decide_false, bI_true, bI_false, one_ne, Nat.le_refl, Nat.lt_irrefl, cleT, cleF, cltT, cltF, ceqT, ceqF, ↓reduceIte, cB0, rB0]
        intro i hi
        rw [← hw, pk_cpy_in (by omega) (by omega), pk_cpy_in (by omega) (by omega), hy]
        have q := (tm i hi).2
        rw [Nat.sub_zero, Nat.zero_add]
        exact q.symm
      · simp (disch := first | omega | assumption | exact Or.inl rfl | exact Or.inr rfl | exact bI_or _ | exact zC81 | exact zC47 | exact zC65 | exact zC0 | exact zC1 | exact zC32 | exact zC70 | exact zC73 | exact ztc (by assumption) | exact zdc (by assumption) | exact zpc (by assumption) | decide) only [Option.some.injEq, exists_eq_left', ex2, Option.toList, List.singleton_append, List.append_nil, List.cons_append, List.nil_append, nI_add, nI_addL, nI_Ladd, pk_mul, nI_mulL, nI_Lmul, nI_subL, pk_sub, nI_divL, sub_dm, nI_leE, nI_ltE, nI_eqE, nI_Lle, nI_leL, nI_Llt, nI_ltL, nI_eqL, va_up_self, va_up_ne, up_up, up_comm, nI_clamp, bI_eq0, not_true_eq_false, not_false_eq_true, Nat.reduceEqDiff, Nat.reduceLeDiff, Nat.reduceAdd, Nat.reduceMul, Nat.one_ne_zero, Nat.zero_ne_one, decide_eq_false_iff_not, decide_eq_true_eq, Bool.false_eq_true, decide_true, decide_false, bI_true, bI_false, one_ne, Nat.le_refl, Nat.lt_irrefl, cleT, cleF, cltT, cltF, ceqT, ceqF, ↓reduceIte, cB0, rB0]
        intro i hi
        rw [pk_cpy_in (by omega) (by omega), pk_cpy_in (by omega) (by omega)]
      · simp (disch := first | omega | assumption | exact Or.inl rfl | exact Or.inr rfl | exact bI_or _ | exact zC81 | exact zC47 | exact zC65 | exact zC0 | exact zC1 | exact zC32 | exact zC70 | exact zC73 | exact ztc (by assumption) | exact zdc (by assumption) | exact zpc (by assumption) | decide) only [Option.some.injEq, exists_eq_left', ex2, Option.toList, List.singleton_append, List.append_nil, List.cons_append, List.nil_append, nI_add, nI_addL, nI_Ladd, pk_mul, nI_mulL, nI_Lmul, nI_subL, pk_sub, nI_divL, sub_dm, nI_leE, nI_ltE, nI_eqE, nI_Lle, nI_leL, nI_Llt, nI_ltL, nI_eqL, va_up_self, va_up_ne, up_up, up_comm, nI_clamp, bI_eq0, not_true_eq_false, not_false_eq_true, Nat.reduceEqDiff, Nat.reduceLeDiff, Nat.reduceAdd, Nat.reduceMul, Nat.one_ne_zero, Nat.zero_ne_one, decide_eq_false_iff_not, decide_eq_true_eq, Bool.false_eq_true, decide_true, decide_false, bI_true, bI_false, one_ne, Nat.le_refl, Nat.lt_irrefl, cleT, cleF, cltT, cltF, ceqT, ceqF, ↓reduceIte, cB0, rB0]
        intro i hi
        rw [pk_cpy_in (by omega) (by omega), pk_cpy_in (by omega) (by omega)]
      · simp (disch := first | omega | assumption | exact Or.inl rfl | exact Or.inr rfl | exact bI_or _ | exact zC81 | exact zC47 | exact zC65 | exact zC0 | exact zC1 | exact zC32 | exact zC70 | exact zC73 | exact ztc (by assumption) | exact zdc (by assumption) | exact zpc (by assumption) | decide) only [Option.some.injEq, exists_eq_left', ex2, Option.toList, List.singleton_append, List.append_nil, List.cons_append, List.nil_append, nI_add, nI_addL, nI_Ladd, pk_mul, nI_mulL, nI_Lmul, nI_subL, pk_sub, nI_divL, sub_dm, nI_leE, nI_ltE, nI_eqE, nI_Lle, nI_leL, nI_Llt, nI_ltL, nI_eqL, va_up_self, va_up_ne, up_up, up_comm, nI_clamp, bI_eq0, not_true_eq_false, not_false_eq_true, Nat.reduceEqDiff, Nat.reduceLeDiff, Nat.reduceAdd, Nat.reduceMul, Nat.one_ne_zero, Nat.zero_ne_one, decide_eq_false_iff_not, decide_eq_true_eq, Bool.false_eq_true, decide_true, decide_false, bI_true, bI_false, one_ne, Nat.le_refl, Nat.lt_irrefl, cleT, cleF, cltT, cltF, ceqT, ceqF, ↓reduceIte, cB0, rB0]
        intro i hi
        rw [pk_cpy_in (by omega) (by omega), pk_cpy_in (by omega) (by omega)]
    · intro i x y hi hS
      obtain ⟨-, q2, -, q4, -⟩ := h1 i hi
      exact SR_says hS q2 (by omega)
  · intro i x y hi hS
    obtain ⟨-, -, -, q4⟩ := h2 i hi
    exact SR_loaf hS a4 q4
theorem TR_of {R : Nat → Int32} {a t0 n li h sa c : Nat} (ha : a < 31) (hQ : TownQ s R a t0 n li h sa c) (h1 : 1 ≤ a) (hx : ∀ j, 1 ≤ j ∧ j < 47 → x j = s j) (hy : y 82 = R) : TR a t0 h x y := by
  obtain ⟨-, ⟨b1, b2, b3, b4⟩, -, -, -, tv, ts, -⟩ := hQ
  refine ⟨?_, ?_, fun u hu => ?_, fun u hu => ?_⟩
  · rw [hx a (by omega), hy, b1, b2]
  · rw [hx a (by omega), b1]
    exact nI_pos' (by omega)
  · obtain ⟨k, -, -, v1, v2⟩ := tv u hu
    rw [hx _ (by omega), hy, v1, v2]
  · obtain ⟨k, -, v1, v2⟩ := ts u hu
    rw [hx _ (by omega), hy, v1, v2]
theorem abF_eq {r r' : Nat → Int32} {t c : Nat} (h : ∀ i, i < c → r (6 * i + t) = r' (6 * i + t)) : abF r t c = abF r' t c := it_congr (fun i p hi => by rw [h i hi])
theorem rep_eq {a t0 n h L w : Nat} (hS : SR n L x y) (hT : TR a t0 h x y) (hn : n ≤ 6) (hh : h ≤ 8) (hL : L ≤ 16) : cRep x a n h L w = rRep y t0 n h L w := by
  have hS' := hS
  obtain ⟨s1, s2, s3, s4, s5, s6, s7, s8, s9⟩ := hS'
  have e1 : cntF (x 60) L = cntF (y 91) L := it_congr (fun l p hl => by rw [s6 l hl])
  have e2 : oneF (x 56) h n = oneF (y 92) h n := it_congr (fun t p ht => by rw [abF_eq (fun i hi => s2 _ (by omega))])
  have e3 : ∀ t, t < 6 → talF (x (a + 1)) (x 56) t h = talF (fun u => y 82 (t0 + 5 + u)) (y 92) t h := fun t ht => it_congr (fun u p hu => by rw [hT.2.2.1 u hu, s2 _ (by omega)])
  unfold cRep rRep repF
  rw [e1, e2, s1]
  by_cases c1 : w < 10
  · rw [if_pos c1, if_pos c1]
  rw [if_neg c1, if_neg c1]
  by_cases c2 : w < 20
  · rw [if_pos c2, if_pos c2]
    by_cases k : w - 10 < n
    · rw [if_pos k, if_pos k]
      exact e3 _ (by omega)
    · rw [if_neg k, if_neg k]
  rw [if_neg c2, if_neg c2]
  by_cases c3 : w < 40
  · rw [if_pos c3, if_pos c3]
    by_cases k : w - 20 < L
    · rw [if_pos k, if_pos k]
      exact Fate_eq hS hT k
    · rw [if_neg k, if_neg k]
  rw [if_neg c3, if_neg c3]
  by_cases c4 : w < 100
  · rw [if_pos c4, if_pos c4]
    by_cases k : (w - 40) / 6 < h
    · rw [if_pos k, if_pos k, s2 _ (by omega)]
    · rw [if_neg k, if_neg k]
  rw [if_neg c4, if_neg c4]
  by_cases c5 : w < 200
  · rw [if_pos c5, if_pos c5]
    by_cases k : (w - 100) / 6 < L
    · rw [if_pos k, if_pos k]
      by_cases k2 : (w - 100) % 6 < n
      · rw [if_pos k2, if_pos k2]
        have q := s3 _ _ k k2
        have q2 : 6 * ((w - 100) / 6) + (w - 100) % 6 = w - 100 := by omega
        rw [q2] at q
        exact q
      · rw [if_neg k2, if_neg k2]
    · rw [if_neg k, if_neg k]
  rw [if_neg c5, if_neg c5]
  by_cases c6 : w < 240
  · rw [if_pos c6, if_pos c6]
    by_cases k : w < 224
    · rw [if_pos k, if_pos k, s7 _ (by omega)]
    · rw [if_neg k, if_neg k]
  rw [if_neg c6, if_neg c6]
  by_cases c7 : w < 280
  · rw [if_pos c7, if_pos c7]
    by_cases k : w < 264
    · rw [if_pos k, if_pos k, s8 _ (by omega)]
    · rw [if_neg k, if_neg k]
  rw [if_neg c7, if_neg c7]
  by_cases c8 : w < 300
  · rw [if_pos c8, if_pos c8]
    by_cases k : w < 284
    · rw [if_pos k, if_pos k, s9 _ (by omega)]
    · rw [if_neg k, if_neg k]
  rw [if_neg c8, if_neg c8]
  by_cases k : (w - 300) / 16 < h
  · rw [if_pos k, if_pos k]
    by_cases k2 : (w - 300) % 16 < L
    · rw [if_pos k2, if_pos k2, Ag_eq hS hT hn k hh k2]
    · rw [if_neg k2, if_neg k2]
  · rw [if_neg k, if_neg k]
end GLU
