/-! DAYS on both sides; the two scenes side by side -/
section LVA
variable {xs : Nat → Int32} {sl d : Nat} {J : hJk} {s : hS} {g : hG}
def deeds (R : Nat → Int32) (D : Nat) (dk dx dy : Nat → Nat) (dA dB dC : Nat → Int32) : Prop := ∀ i, i < D → R (4 * i) = nI (dk i) ∧ R (4 * i + 1) = dA i ∧ R (4 * i + 2) = dB i ∧ R (4 * i + 3) = dC i ∧ dv (dk i) (dA i) (dB i) (dx i) (dy i)
def lvC (s : hS) : Nat := (s 47 1).toNatClampNeg
def lvR (s : hS) : Nat := (s 81 23).toNatClampNeg
theorem lvC_of {L : Nat} (h : s 47 1 = nI L) (hL : L ≤ 16) : lvC s = L := by
  unfold lvC
  rw [h, nI_clamp (by omega)]
theorem lvR_of {L : Nat} (h : s 81 23 = nI L) (hL : L ≤ 16) : lvR s = L := by
  unfold lvR
  rw [h, nI_clamp (by omega)]
theorem eatG_fr {M V E n x l c : Nat} {m : Int32} (h1 : c ≠ M) (h2 : c ≠ E) : eatG M V E s n x l m c = s c := by
  unfold eatG
  rw [va_up_ne _ _ h2, va_up_ne _ _ h1]
theorem ageG_fr {A L c : Nat} (h1 : c ≠ A) : ageG A s L c = s c := by
  unfold ageG
  rw [va_up_ne _ _ h1]
theorem goC2_fr {n L k x y c : Nat} {v : Int32} (h : c < 47 ∨ 64 ≤ c) : goC2 s n L k x y v c = s c := by
  unfold goC2
  split
  · exact saysG_fr (by omega) (by omega) (by omega)
  · split
    · exact cLoaf_fr (by omega) (by omega)
    · split
      · exact eatG_fr (by omega) (by omega)
      · split
        · exact eatG_fr (by omega) (by omega)
        · split
          · exact talk_fr (by omega) (by omega) (by omega)
          · rw [va_up_ne _ _ (by omega)]
            exact ageG_fr (by omega)
theorem goC2_0 {n L k x y : Nat} {v : Int32} : goC2 s n L k x y v 47 0 = s 47 0 := by
  unfold goC2
  split
  · rw [saysG_fr (by omega) (by omega) (by omega)]
  · split
    · rw [cLoaf_47, va_up_ne _ _ (by decide)]
    · split
      · rw [eatG_fr (by omega) (by omega)]
      · split
        · rw [eatG_fr (by omega) (by omega)]
        · split
          · rw [talk_fr (by omega) (by omega) (by omega)]
          · rw [va_up_self, va_up_ne _ _ (by decide)]
theorem goC2_1 {n L k x y : Nat} {v : Int32} (h : s 47 1 = nI L) : goC2 s n L k x y v 47 1 = nI (if k = 1 then L + 1 else L) := by
  unfold goC2
  split
  · rename_i c
    subst c
    rw [saysG_fr (by omega) (by omega) (by omega)]
    exact h
  · split
    · rw [cLoaf_47, va_up_self]
    · split
      · rw [eatG_fr (by omega) (by omega)]
        exact h
      · split
        · rw [eatG_fr (by omega) (by omega)]
          exact h
        · split
          · rw [talk_fr (by omega) (by omega) (by omega)]
            exact h
          · rw [va_up_self, va_up_ne _ _ (by decide)]
            exact h
theorem goR2_fr {n L k x y c : Nat} {v : Int32} (h : c < 81 ∨ 82 ≤ c ∧ c ≤ 84 ∨ 93 ≤ c) : goR2 s n L k x y v c = s c := by
  unfold goR2
  split
  · exact saysG_fr (by omega) (by omega) (by omega)
  · split
    · exact rLoaf_fr (by omega) (by omega)
    · split
      · exact eatG_fr (by omega) (by omega)
      · split
        · exact eatG_fr (by omega) (by omega)
        · split
          · exact talk_fr (by omega) (by omega) (by omega)
          · rw [va_up_ne _ _ (by omega)]
            exact ageG_fr (by omega)
theorem goR2_81 {n L k x y j : Nat} {v : Int32} (h1 : j ≠ 23) (h2 : j ≠ 24) : goR2 s n L k x y v 81 j = s 81 j := by
  unfold goR2
  split
  · rw [saysG_fr (by omega) (by omega) (by omega)]
  · split
    · rw [rLoaf_81, va_up_ne _ _ h1]
    · split
      · rw [eatG_fr (by omega) (by omega)]
      · split
        · rw [eatG_fr (by omega) (by omega)]
        · split
          · rw [talk_fr (by omega) (by omega) (by omega)]
          · rw [va_up_self, va_up_ne _ _ h2]
theorem goR2_23 {n L k x y : Nat} {v : Int32} (h : s 81 23 = nI L) : goR2 s n L k x y v 81 23 = nI (if k = 1 then L + 1 else L) := by
  unfold goR2
  split
  · rename_i c
    subst c
    rw [saysG_fr (by omega) (by omega) (by omega)]
    exact h
  · split
    · rw [rLoaf_81, va_up_self]
    · split
      · rw [eatG_fr (by omega) (by omega)]
        exact h
      · split
        · rw [eatG_fr (by omega) (by omega)]
          exact h
        · split
          · rw [talk_fr (by omega) (by omega) (by omega)]
            exact h
          · rw [va_up_self, va_up_ne _ _ (by decide)]
            exact h
/-- the class's scene in use: of a heap that was s0 -/
def CI (s0 s : hS) (a n h : Nat) : Prop := cT s a n h ∧ s 47 1 = nI (lvC s) ∧ lvC s ≤ 16 ∧ ∀ c, 1 ≤ c ∧ c < 47 ∨ 65 ≤ c → s c = s0 c
theorem CI_go {s0 : hS} {a n h k x y : Nat} {v : Int32} (hC : CI s0 s a n h) (hg : goC1 s a n h (lvC s) k x y = true) : CI s0 (goC2 s n (lvC s) k x y v) a n h := by
  obtain ⟨hT, h1, h2, h3⟩ := hC
  have ha : a = 7 ∨ a = 19 ∨ a = 33 ∨ a = 48 := hT.1
  have h31 : a < 31 := hT.2.1
  have q := goC2_1 (n := n) (k := k) (x := x) (y := y) (v := v) h1
  have hb : (if k = 1 then lvC s + 1 else lvC s) ≤ 16 := by
    by_cases c : k = 1
    · subst c
      have z : lvC s < 16 := of_decide_eq_true hg
      rw [if_pos rfl]
      omega
    · rw [if_neg c]
      exact h2
  refine ⟨cT_fr hT goC2_0 (goC2_fr (by omega)), ?_, ?_, fun c hc => ?_⟩
  · rw [lvC_of q hb]
    exact q
  · rw [lvC_of q hb]
    exact hb
  · rw [goC2_fr (by omega), h3 c hc]
def RI (s0 s : hS) (t0 n h : Nat) : Prop := rT s t0 n h ∧ s 81 23 = nI (lvR s) ∧ lvR s ≤ 16 ∧ (∀ c, c < 81 ∨ 82 ≤ c ∧ c ≤ 84 ∨ 93 ≤ c → s c = s0 c) ∧ (∀ j, j < 23 ∨ 25 < j ∧ j < 41 → s 81 j = s0 81 j)
theorem RI_go {s0 : hS} {t0 n h k x y : Nat} {v : Int32} (hR : RI s0 s t0 n h) (hg : goR1 s t0 n h (lvR s) k x y = true) : RI s0 (goR2 s n (lvR s) k x y v) t0 n h := by
  obtain ⟨hT, h1, h2, h3, h4⟩ := hR
  have q := goR2_23 (n := n) (k := k) (x := x) (y := y) (v := v) h1
  have hb : (if k = 1 then lvR s + 1 else lvR s) ≤ 16 := by
    by_cases c : k = 1
    · subst c
      have z : lvR s < 16 := of_decide_eq_true hg
      rw [if_pos rfl]
      omega
    · rw [if_neg c]
      exact h2
  refine ⟨rT_fr hT (goR2_81 (by decide) (by decide)) (goR2_81 (by decide) (by decide)) (goR2_81 (by decide) (by decide)), ?_, ?_, fun c hc => ?_, fun j hj => ?_⟩
  · rw [lvR_of q hb]
    exact q
  · rw [lvR_of q hb]
    exact hb
  · rw [goR2_fr hc, h3 c hc]
  · rw [goR2_81 (by omega) (by omega), h4 j hj]
theorem RI_done {s0 : hS} {t0 n h : Nat} {v : Int32} (hR : RI s0 s t0 n h) : RI s0 (va_up s 81 (va_up (s 81) 25 v)) t0 n h := by
  obtain ⟨hT, h1, h2, h3, h4⟩ := hR
  have e : va_up s 81 (va_up (s 81) 25 v) 81 23 = s 81 23 := by rw [va_up_self, va_up_ne _ _ (by decide)]
  have el : lvR (va_up s 81 (va_up (s 81) 25 v)) = lvR s := by unfold lvR; rw [e]
  refine ⟨rT_fr hT ?_ ?_ ?_, ?_, ?_, fun c hc => ?_, fun j hj => ?_⟩
  · rw [va_up_self, va_up_ne _ _ (by decide)]
  · rw [va_up_self, va_up_ne _ _ (by decide)]
  · rw [va_up_self, va_up_ne _ _ (by decide)]
  · rw [e, el]
    exact h1
  · rw [el]
    exact h2
  · rw [va_up_ne _ _ (by omega), h3 c hc]
  · rw [va_up_self, va_up_ne _ _ (by omega), h4 j hj]
def liveF (go : Nat → hS → Bool × hS) : Nat → Nat → hS → Nat × hS
  | 0, i, s => (i, s)
  | k + 1, i, s => if (go i s).1 = true then liveF go k (i + 1) (go i s).2 else (i, s)
def stC (a n h : Nat) (dk dx dy : Nat → Nat) (dC : Nat → Int32) (i : Nat) (s : hS) : Bool × hS := (goC1 s a n h (lvC s) (dk i) (dx i) (dy i), goC2 s n (lvC s) (dk i) (dx i) (dy i) (dC i))
def stR (t0 n h : Nat) (dk dx dy : Nat → Nat) (dC : Nat → Int32) (i : Nat) (s : hS) : Bool × hS := (goR1 s t0 n h (lvR s) (dk i) (dx i) (dy i), va_up (goR2 s n (lvR s) (dk i) (dx i) (dy i) (dC i)) 81 (va_up (goR2 s n (lvR s) (dk i) (dx i) (dy i) (dC i) 81) 25 (nI (i + 1))))
theorem sc_live_loop {s0 : hS} {e a n h N D : Nat} {dk dx dy : Nat → Nat} {dA dB dC : Nat → Int32} (he : isD e) (he31 : e < 31) (hN : N ≤ D) (hD40 : D ≤ 40) (hd : deeds (s0 (e + 1)) D dk dx dy dA dB dC) : ∀ (k i : Nat) (s : hS), i + k = N → CI s0 s a n h → ∀ l4, Runs xs sl (d+5) 120 2 [some (.ref (47)), some (.ref (e)), some (.int ( nI N)), some (.int ( nI i)), l4] [] (hp J (s) g) (some (.int (nI (liveF (stC a n h dk dx dy dC) k i s).1)), hp J (liveF (stC a n h dk dx dy dC) k i s).2 g) := by
  intro k
  induction k with
  | zero =>
    intro i s hi hC l4
    have e : i = N := by omega
    subst e
    rw [r120_2]
    simp (disch := first | omega | assumption | exact Or.inl rfl | exact Or.inr rfl | exact bI_or _ | exact zC81 | exact zC47 | exact zC65 | exact zC0 | exact zC1 | exact zC32 | exact zC70 | exact zC73 | exact ztc (by assumption) | exact zdc (by assumption) | exact zpc (by assumption) | decide) only [Option.some.injEq, exists_eq_left', ex2, Option.toList, List.singleton_append, List.append_nil, List.cons_append, List.nil_append, nI_add, nI_addL, nI_Ladd, pk_mul, nI_mulL, nI_Lmul, nI_subL, pk_sub, nI_divL, sub_dm, nI_leE, nI_ltE, nI_eqE, nI_Lle, nI_leL, nI_Llt, nI_ltL, nI_eqL, va_up_self, va_up_ne, up_up, up_comm, nI_clamp, bI_eq0, not_true_eq_false, not_false_eq_true, Nat.reduceEqDiff, Nat.reduceLeDiff, Nat.reduceAdd, Nat.reduceMul, Nat.one_ne_zero, Nat.zero_ne_one, decide_eq_false_iff_not, decide_eq_true_eq, Bool.false_eq_true, decide_true, decide_false, bI_true, bI_false, one_ne, Nat.le_refl, Nat.lt_irrefl, cleT, cleF, cltT, cltF, ceqT, ceqF, ↓reduceIte, r120_3, r120_4, r120_61, r120_62, liveF]
  | succ k ih =>
    intro i s hi hC l4
    have he' : e = 15 ∨ e = 27 ∨ e = 41 := he
    refine Runs.tgt ?_
    intro z hz
    obtain ⟨q1, q2, q3, q4, q5⟩ := hd i (by omega)
    have f1 : s (e + 1) = s0 (e + 1) := hC.2.2.2 _ (by omega)
    have hg := @sc_goOn xs sl d J s g a n h (lvC s) (dk i) (dx i) (dy i) (dA i) (dB i) (dC i) hC.1 hC.2.1 hC.2.2.1 q5
    rw [r120_2]
    rw [liveF] at hz
    cases c : goC1 s a n h (lvC s) (dk i) (dx i) (dy i)
    · have c2 : (stC a n h dk dx dy dC i s).1 = false := c
      rw [c2, if_neg (by decide)] at hz
      simp only [c, Bool.false_eq_true, if_false] at hg
      simp (disch := first | omega | assumption | exact Or.inl rfl | exact Or.inr rfl | exact bI_or _ | exact zC81 | exact zC47 | exact zC65 | exact zC0 | exact zC1 | exact zC32 | exact zC70 | exact zC73 | exact ztc (by assumption) | exact zdc (by assumption) | exact zpc (by assumption) | decide) only [Option.some.injEq, exists_eq_left', ex2, Option.toList, List.singleton_append, List.append_nil, List.cons_append, List.nil_append, nI_add, nI_addL, nI_Ladd, pk_mul, nI_mulL, nI_Lmul, nI_subL, pk_sub, nI_divL, sub_dm, nI_leE, nI_ltE, nI_eqE, nI_Lle, nI_leL, nI_Llt, nI_ltL, nI_eqL, va_up_self, va_up_ne, up_up, up_comm, nI_clamp, bI_eq0, not_true_eq_false, not_false_eq_true, Nat.reduceEqDiff, Nat.reduceLeDiff, Nat.reduceAdd, Nat.reduceMul, Nat.one_ne_zero, Nat.zero_ne_one, decide_eq_false_iff_not, decide_eq_true_eq, Bool.false_eq_true, decide_true, decide_false, bI_true, bI_false, one_ne, Nat.le_refl, Nat.lt_irrefl, cleT, cleF, cltT, cltF, ceqT, ceqF, ↓reduceIte, r120_3, r120_4, r120_7, r120_8, r120_9, r120_10, r120_12, r120_13, r120_13n, r120_14, r120_17, r120_19, r120_20, r120_20n, r120_21, r120_24, r120_26, r120_27, r120_28, r120_29, r120_29n, r120_30, r120_33, r120_35, r120_36, r120_37, r120_38, r120_38n, r120_39, r120_42, r120_44, r120_45, r120_46, r120_47, r120_50, r120_53, r120_54, zdc, zdo0, zdw0, zdo1, zdl1, zda1, zds1, f1, q1, q2, q3, q4, hg, hz]
    · have c2 : (stC a n h dk dx dy dC i s).1 = true := c
      rw [c2, if_pos rfl] at hz
      simp only [c, if_true] at hg
      have hn := ih (i + 1) (goC2 s n (lvC s) (dk i) (dx i) (dy i) (dC i)) (by omega) (CI_go hC c) (some (.int (nI (4 * i))))
      rw [hz]
      simp (disch := first | omega | assumption | exact Or.inl rfl | exact Or.inr rfl | exact bI_or _ | exact zC81 | exact zC47 | exact zC65 | exact zC0 | exact zC1 | exact zC32 | exact zC70 | exact zC73 | exact ztc (by assumption) | exact zdc (by assumption) | exact zpc (by assumption) | decide) only [Option.some.injEq, exists_eq_left', ex2, Option.toList, List.singleton_append, List.append_nil, List.cons_append, List.nil_append, nI_add, nI_addL, nI_Ladd, pk_mul, nI_mulL, nI_Lmul, nI_subL, pk_sub, nI_divL, sub_dm, nI_leE, nI_ltE, nI_eqE, nI_Lle, nI_leL, nI_Llt, nI_ltL, nI_eqL, va_up_self, va_up_ne, up_up, up_comm, nI_clamp, bI_eq0, not_true_eq_false, not_false_eq_true, Nat.reduceEqDiff, Nat.reduceLeDiff, Nat.reduceAdd, Nat.reduceMul, Nat.one_ne_zero, Nat.zero_ne_one, decide_eq_false_iff_not, decide_eq_true_eq, Bool.false_eq_true, decide_true, decide_false, bI_true, bI_false, one_ne, Nat.le_refl, Nat.lt_irrefl, cleT, cleF, cltT, cltF, ceqT, ceqF, ↓reduceIte, r120_3, r120_4, r120_7, r120_8, r120_9, r120_10, r120_12, r120_13, r120_13n, r120_14, r120_17, r120_19, r120_20, r120_20n, r120_21, r120_24, r120_26, r120_27, r120_28, r120_29, r120_29n, r120_30, r120_33, r120_35, r120_36, r120_37, r120_38, r120_38n, r120_39, r120_42, r120_44, r120_45, r120_46, r120_47, r120_50, r120_53, r120_54, r120_55, r120_58, zdc, zdo0, zdw0, zdo1, zdl1, zda1, zds1, f1, q1, q2, q3, q4, hg, Bool.true_eq_false]
      exact hn
theorem liveF_CI {s0 : hS} {a n h : Nat} {dk dx dy : Nat → Nat} {dC : Nat → Int32} : ∀ (k i : Nat) (s : hS), CI s0 s a n h → CI s0 (liveF (stC a n h dk dx dy dC) k i s).2 a n h := by
  intro k
  induction k with
  | zero => exact fun i s hC => hC
  | succ k ih =>
    intro i s hC
    rw [liveF]
    split
    · rename_i c
      exact ih _ _ (CI_go hC c)
    · exact hC
theorem rf_runs_loop {s0 : hS} {t0 n h N D d0 : Nat} {dk dx dy : Nat → Nat} {dA dB dC : Nat → Int32} (h26 : s0 81 26 = nI d0) (hd0 : d0 = 868 ∨ d0 = 1029) (hD : s0 82 d0 = nI D) (hN : N < 2 ^ 31) (hD40 : D ≤ 40) (hd : deeds (fun i => s0 82 (d0 + 1 + i)) D dk dx dy dA dB dC) : ∀ (k i : Nat) (s : hS), i + k = min N D → RI s0 s t0 n h → s 81 25 = nI i → Runs xs sl (d+4) 213 4 [some (.ref (81)), some (.int ( nI N))] [] (hp J (s) g) (none, hp J (liveF (stR t0 n h dk dx dy dC) k i s).2 g) := by
  intro k
  induction k with
  | zero =>
    intro i s hi hR h25
    have g26 : s 81 26 = nI d0 := (hR.2.2.2.2 26 (by decide)).trans h26
    have g82 : s 82 = s0 82 := hR.2.2.2.1 82 (by omega)
    rw [r213_4]
    by_cases c : N ≤ i
    · simp (disch := first | omega | assumption | exact Or.inl rfl | exact Or.inr rfl | exact bI_or _ | exact zC81 | exact zC47 | exact zC65 | exact zC0 | exact zC1 | exact zC32 | exact zC70 | exact zC73 | exact ztc (by assumption) | exact zdc (by assumption) | exact zpc (by assumption) | decide) only [Option.some.injEq, exists_eq_left', ex2, Option.toList, List.singleton_append, List.append_nil, List.cons_append, List.nil_append, nI_add, nI_addL, nI_Ladd, pk_mul, nI_mulL, nI_Lmul, nI_subL, pk_sub, nI_divL, sub_dm, nI_leE, nI_ltE, nI_eqE, nI_Lle, nI_leL, nI_Llt, nI_ltL, nI_eqL, va_up_self, va_up_ne, up_up, up_comm, nI_clamp, bI_eq0, not_true_eq_false, not_false_eq_true, Nat.reduceEqDiff, Nat.reduceLeDiff, Nat.reduceAdd, Nat.reduceMul, Nat.one_ne_zero, Nat.zero_ne_one, decide_eq_false_iff_not, decide_eq_true_eq, Bool.false_eq_true, decide_true, decide_false, bI_true, bI_false, one_ne, Nat.le_refl, Nat.lt_irrefl, cleT, cleF, cltT, cltF, ceqT, ceqF, ↓reduceIte, r213_5, r213_8, r213_9, r213_115, zO81_25, h25, liveF]
    · have c2 : D ≤ i := by omega
      simp (disch := first | omega | assumption | exact Or.inl rfl | exact Or.inr rfl | exact bI_or _ | exact zC81 | exact zC47 | exact zC65 | exact zC0 | exact zC1 | exact zC32 | exact zC70 | exact zC73 | exact ztc (by assumption) | exact zdc (by assumption) | exact zpc (by assumption) | decide) only [Option.some.injEq, exists_eq_left', ex2, Option.toList, List.singleton_append, List.append_nil, List.cons_append, List.nil_append, nI_add, nI_addL, nI_Ladd, pk_mul, nI_mulL, nI_Lmul, nI_subL, pk_sub, nI_divL, sub_dm, nI_leE, nI_ltE, nI_eqE, nI_Lle, nI_leL, nI_Llt, nI_ltL, nI_eqL, va_up_self, va_up_ne, up_up, up_comm, nI_clamp, bI_eq0, not_true_eq_false, not_false_eq_true, Nat.reduceEqDiff, Nat.reduceLeDiff, Nat.reduceAdd, Nat.reduceMul, Nat.one_ne_zero, Nat.zero_ne_one, decide_eq_false_iff_not, decide_eq_true_eq, Bool.false_eq_true, decide_true, decide_false, bI_true, bI_false, one_ne, Nat.le_refl, Nat.lt_irrefl, cleT, cleF, cltT, cltF, ceqT, ceqF, ↓reduceIte, r213_5, r213_8, r213_9, r213_12, r213_13, r213_16, r213_17, r213_20, r213_21, r213_24, r213_25, r213_115, zO81_0, zO81_25, zO81_26, zA82, h25, g26, g82, hD, liveF]
  | succ k ih =>
    intro i s hi hR h25
    have g26 : s 81 26 = nI d0 := (hR.2.2.2.2 26 (by decide)).trans h26
    have g82 : s 82 = s0 82 := hR.2.2.2.1 82 (by omega)
    refine Runs.tgt ?_
    intro z hz
    obtain ⟨q1, q2, q3, q4, q5⟩ := hd i (by omega)
    dsimp only at q1 q2 q3 q4
    rw [← Nat.add_assoc] at q2 q3 q4
    have hk40 : i < 40 := by omega
    have o1 := fun w (hw : w < 4) => @rf_deedOf xs sl (d + 3) J s g d0 i w g26 (by omega) hk40 hw
    have w0 := @o1 0 (by decide)
    have w1 := @o1 1 (by decide)
    have w2 := @o1 2 (by decide)
    have w3 := @o1 3 (by decide)
    have q1' : s0 82 (d0 + 1 + 4 * i + 0) = nI (dk i) := q1
    simp only [g82] at w0 w1 w2 w3
    rw [q1'] at w0
    simp only [q2] at w1
    simp only [q3] at w2
    simp only [q4] at w3
    simp only [show nI 0 = (0 : Int32) from rfl] at w0
    simp only [show nI 1 = (1 : Int32) from rfl] at w1
    simp only [show nI 2 = (2 : Int32) from rfl] at w2
    simp only [show nI 3 = (3 : Int32) from rfl] at w3
    have hc := @rf_can xs sl d J s g t0 n h (lvR s) (dk i) (dx i) (dy i) (dA i) (dB i) hR.1 hR.2.1 hR.2.2.1 q5
    rw [r213_4]
    rw [liveF] at hz
    cases c : goR1 s t0 n h (lvR s) (dk i) (dx i) (dy i)
    · have c2 : (stR t0 n h dk dx dy dC i s).1 = false := c
      rw [c2, if_neg (by decide)] at hz
      simp only [c] at hc
      simp (disch := first | omega | assumption | exact zC81) only [r213_5, r213_8, r213_9, r213_12, r213_13, r213_16, r213_17, r213_20, r213_21, r213_24, r213_25, r213_28, r213_29, r213_30, r213_31, r213_34, r213_35, r213_38, r213_39, r213_40, r213_43, r213_44, r213_47, r213_48, r213_49, r213_52, r213_53, r213_56, r213_59, r213_115, zO81_0, zO81_25, zO81_26, zA82, h25, g26, g82, hD, nI_leE, cleF, Option.some.injEq, exists_eq_left', ex2, Option.toList, List.singleton_append, List.append_nil, List.cons_append, List.nil_append, w0, w1, w2, hc, bI_false, ↓reduceIte, hz]
    · have c2 : (stR t0 n h dk dx dy dC i s).1 = true := c
      rw [c2, if_pos rfl] at hz
      simp only [c] at hc
      have hdo := @rf_does xs sl d J s g t0 n h (lvR s) (dk i) (dx i) (dy i) (dA i) (dB i) (dC i) hR.1 hR.2.1 hR.2.2.1 q5 c
      have hR2 := RI_go (v := dC i) hR c
      have h25' : goR2 s n (lvR s) (dk i) (dx i) (dy i) (dC i) 81 25 = nI i := (goR2_81 (by decide) (by decide)).trans h25
      have hn := ih (i + 1) _ (by omega) (RI_done (v := nI (i + 1)) hR2) (by rw [va_up_self, va_up_self])
      rw [hz]
      simp (disch := first | omega | assumption | exact zC81) only [r213_5, r213_8, r213_9, r213_12, r213_13, r213_16, r213_17, r213_20, r213_21, r213_24, r213_25, r213_28, r213_29, r213_30, r213_31, r213_34, r213_35, r213_38, r213_39, r213_40, r213_43, r213_44, r213_47, r213_48, r213_49, r213_52, r213_53, r213_56, r213_59, r213_62, r213_63, r213_64, r213_65, r213_68, r213_69, r213_72, r213_73, r213_74, r213_77, r213_78, r213_81, r213_82, r213_83, r213_86, r213_87, r213_90, r213_91, r213_92, r213_95, r213_96, r213_99, r213_102, r213_103, r213_104, r213_107, r213_108, r213_109, r213_112, zO81_0, zO81_25, zW81_25, zO81_26, zA82, h25, h25', g26, g82, hD, nI_leE, cleF, nI_1, Option.some.injEq, exists_eq_left', ex2, Option.toList, List.singleton_append, List.append_nil, List.cons_append, List.nil_append, w0, w1, w2, w3, hc, hdo, bI_true, one_ne, ↓reduceIte]
      exact hn
end LVA
