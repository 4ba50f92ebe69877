/-! DAYS BY A SEED, alike -/
section DRW
variable {xs : Nat → Int32} {sl d : Nat} {J : hJk} {s x y : hS} {g : hG}
def lcg (x : Int32) : Int32 := x * 1103515245 + 12345
def hi16 (x : Int32) : Nat := x.toBitVec.toNat / 2 ^ 16
theorem hi16_lt (x : Int32) : hi16 x < 65536 := by
  have h : x.toBitVec.toNat < 2 ^ 32 := x.toBitVec.isLt
  unfold hi16
  omega
theorem ush16 (x : Int32) : (x.toUInt32 >>> (Int32.toUInt32 16 &&& Int32.toUInt32 31)).toInt32 = nI (hi16 x) := by
  apply b_ext
  intro i hi
  rw [b_nI _ _ hi]
  refine (b_ushr 16 (by omega) x i).trans ?_
  unfold hi16
  rw [Nat.testBit_div_two_pow, Nat.add_comm]
  rfl
def sd (s : hS) (v : Int32) : hS := va_up s 0 (va_up (s 0) 7 v)
theorem br_drawBelow {n : Nat} (hn : 0 < n) (hn6 : n < 65536) {r : Option Value × mH} : Runs xs sl (d) 32 0 [some (.ref (0)), some (.int ( nI n))] [] (hp J (s) g) r ↔ r = (some (.int ( nI (hi16 (lcg (s 0 7)) % n))), hp J (sd s (lcg (s 0 7))) g) := by
  refine Runs.iff ?_
  have h0 : ¬ nI n = 0 := nI_ne0 hn (by omega)
  have h1 : ¬ nI n ≤ 0 := nI_nle hn (by omega)
  have h2 := hi16_lt (lcg (s 0 7))
  have e := pk_rem (a := hi16 (lcg (s 0 7))) (d := n) (by omega) hn (by omega)
  unfold sd
  simp (disch := first | omega | assumption) only [r32_0, r32_1, r32_2, r32_5, r32_8, r32_9, r32_12, r32_13, r32_16, r32_17, r32_20, r32_21, r32_24, r32_26, r32_27, r32_28, r32_29, r32_32, r32_33, zO0_7, zW0_7, h1, va_up_self, show s 0 7 * 1103515245 + 12345 = lcg (s 0 7) from rfl, ush16, e, ↓reduceIte, Option.some.injEq, exists_eq_left']
def ffN (p : Nat → Bool) : Nat → Nat → Nat
  | 0, i => i
  | k + 1, i => if p i = true then i else ffN p k (i + 1)
theorem ffN_le (p : Nat → Bool) : ∀ k i, ffN p k i ≤ i + k := by
  intro k
  induction k with
  | zero => exact fun i => Nat.le_refl i
  | succ k ih =>
    intro i
    rw [ffN]
    split
    · omega
    · have := ih (i + 1)
      omega
theorem ffN_p {p : Nat → Bool} : ∀ k i, ffN p k i < i + k → p (ffN p k i) = true := by
  intro k
  induction k with
  | zero =>
    intro i h
    rw [ffN] at h
    omega
  | succ k ih =>
    intro i h
    rw [ffN] at h ⊢
    split
    · assumption
    · rename_i c
      rw [if_neg c] at h
      exact ih (i + 1) (by omega)
theorem ffN_congr {p p' : Nat → Bool} {L : Nat} (h : ∀ l, l < L → p l = p' l) : ∀ k i, i + k = L → ffN p k i = ffN p' k i := by
  intro k
  induction k with
  | zero => exact fun i _ => rfl
  | succ k ih =>
    intro i hi
    rw [ffN, ffN, h i (by omega), ih (i + 1) (by omega)]
theorem sc_firstFor_loop {a n h L u : Nat} (hT : cT s a n h) (hL : s 47 1 = nI L) (hL16 : L ≤ 16) (hu : u < 8) : ∀ k i, i + k = L → Runs xs sl (d+2) 144 2 [some (.ref (47)), some (.int ( nI u)), some (.int ( nI i))] [] (hp J (s) g) (some (.int (if ffN (cMay s a n u) k i < L then nI (ffN (cMay s a n u) k i) else -1)), hp J s g) := by
  intro k
  induction k with
  | zero =>
    intro i hi
    have e : i = L := by omega
    subst e
    rw [r144_2, ffN]
    simp (disch := first | omega | assumption | exact Or.inl rfl | exact Or.inr rfl | exact bI_or _ | exact zC81 | exact zC47 | exact zC65 | exact zC0 | exact zC1 | exact zC32 | exact zC70 | exact zC73 | exact ztc (by assumption) | exact zdc (by assumption) | exact zpc (by assumption) | decide) only [Option.some.injEq, exists_eq_left', ex2, Option.toList, List.singleton_append, List.append_nil, List.cons_append, List.nil_append, nI_add, nI_addL, nI_Ladd, pk_mul, nI_mulL, nI_Lmul, nI_subL, pk_sub, nI_divL, sub_dm, nI_leE, nI_ltE, nI_eqE, nI_Lle, nI_leL, nI_Llt, nI_ltL, nI_eqL, va_up_self, va_up_ne, up_up, up_comm, nI_clamp, bI_eq0, not_true_eq_false, not_false_eq_true, Nat.reduceEqDiff, Nat.reduceLeDiff, Nat.reduceAdd, Nat.reduceMul, Nat.one_ne_zero, Nat.zero_ne_one, decide_eq_false_iff_not, decide_eq_true_eq, Bool.false_eq_true, decide_true, decide_false, bI_true, bI_false, one_ne, Nat.le_refl, Nat.lt_irrefl, cleT, cleF, cltT, cltF, ceqT, ceqF, ↓reduceIte, r144_3, r144_4, r144_7, r144_27, r144_28, zC47, zO47_0, zW47_0, zO47_1, zW47_1, zO47_2, zO47_3, zO47_4, zW47_4, zO47_5, zO47_6, zO47_7, zO47_8, zO47_9, zO47_10, zO47_11, hL]
  | succ k ih =>
    intro i hi
    have hn := ih (i + 1) (by omega)
    have i16 : i < 16 := by omega
    rw [r144_2, ffN]
    cases c : cMay s a n u i
    · simp only [Bool.false_eq_true, if_false]
      simp (disch := first | omega | assumption | exact Or.inl rfl | exact Or.inr rfl | exact bI_or _ | exact zC81 | exact zC47 | exact zC65 | exact zC0 | exact zC1 | exact zC32 | exact zC70 | exact zC73 | exact ztc (by assumption) | exact zdc (by assumption) | exact zpc (by assumption) | decide) only [Option.some.injEq, exists_eq_left', ex2, Option.toList, List.singleton_append, List.append_nil, List.cons_append, List.nil_append, nI_add, nI_addL, nI_Ladd, pk_mul, nI_mulL, nI_Lmul, nI_subL, pk_sub, nI_divL, sub_dm, nI_leE, nI_ltE, nI_eqE, nI_Lle, nI_leL, nI_Llt, nI_ltL, nI_eqL, va_up_self, va_up_ne, up_up, up_comm, nI_clamp, bI_eq0, not_true_eq_false, not_false_eq_true, Nat.reduceEqDiff, Nat.reduceLeDiff, Nat.reduceAdd, Nat.reduceMul, Nat.one_ne_zero, Nat.zero_ne_one, decide_eq_false_iff_not, decide_eq_true_eq, Bool.false_eq_true, decide_true, decide_false, bI_true, bI_false, one_ne, Nat.le_refl, Nat.lt_irrefl, cleT, cleF, cltT, cltF, ceqT, ceqF, ↓reduceIte, r144_3, r144_4, r144_7, r144_10, r144_11, r144_12, r144_13, r144_16, r144_19, r144_20, r144_21, r144_24, zC47, zO47_0, zW47_0, zO47_1, zW47_1, zO47_2, zO47_3, zO47_4, zW47_4, zO47_5, zO47_6, zO47_7, zO47_8, zO47_9, zO47_10, zO47_11, hL, sc_canEat hT hu i16, c]
      exact hn
    · simp only [if_true]
      simp (disch := first | omega | assumption | exact Or.inl rfl | exact Or.inr rfl | exact bI_or _ | exact zC81 | exact zC47 | exact zC65 | exact zC0 | exact zC1 | exact zC32 | exact zC70 | exact zC73 | exact ztc (by assumption) | exact zdc (by assumption) | exact zpc (by assumption) | decide) only [Option.some.injEq, exists_eq_left', ex2, Option.toList, List.singleton_append, List.append_nil, List.cons_append, List.nil_append, nI_add, nI_addL, nI_Ladd, pk_mul, nI_mulL, nI_Lmul, nI_subL, pk_sub, nI_divL, sub_dm, nI_leE, nI_ltE, nI_eqE, nI_Lle, nI_leL, nI_Llt, nI_ltL, nI_eqL, va_up_self, va_up_ne, up_up, up_comm, nI_clamp, bI_eq0, not_true_eq_false, not_false_eq_true, Nat.reduceEqDiff, Nat.reduceLeDiff, Nat.reduceAdd, Nat.reduceMul, Nat.one_ne_zero, Nat.zero_ne_one, decide_eq_false_iff_not, decide_eq_true_eq, Bool.false_eq_true, decide_true, decide_false, bI_true, bI_false, one_ne, Nat.le_refl, Nat.lt_irrefl, cleT, cleF, cltT, cltF, ceqT, ceqF, ↓reduceIte, r144_3, r144_4, r144_7, r144_10, r144_11, r144_12, r144_13, r144_16, r144_19, r144_20, r144_21, r144_24, zC47, zO47_0, zW47_0, zO47_1, zW47_1, zO47_2, zO47_3, zO47_4, zW47_4, zO47_5, zO47_6, zO47_7, zO47_8, zO47_9, zO47_10, zO47_11, hL, sc_canEat hT hu i16, c, Bool.true_eq_false]
theorem sc_firstFor {a n h L u : Nat} (hT : cT s a n h) (hL : s 47 1 = nI L) (hL16 : L ≤ 16) (hu : u < 8) {r : Option Value × mH} : Runs xs sl (d+2) 144 0 [some (.ref (47)), some (.int ( nI u)), none] [] (hp J (s) g) r ↔ r = (some (.int ( (if ffN (cMay s a n u) L 0 < L then nI (ffN (cMay s a n u) L 0) else -1))), hp J (s) g) := by
  refine Runs.iff ?_
  have q := @sc_firstFor_loop xs sl d J s g a n h L u hT hL hL16 hu L 0 (by omega)
  simp (disch := first | omega | assumption | exact Or.inl rfl | exact Or.inr rfl | exact bI_or _ | exact zC81 | exact zC47 | exact zC65 | exact zC0 | exact zC1 | exact zC32 | exact zC70 | exact zC73 | exact ztc (by assumption) | exact zdc (by assumption) | exact zpc (by assumption) | decide) only [Option.some.injEq, exists_eq_left', ex2, Option.toList, List.singleton_append, List.append_nil, List.cons_append, List.nil_append, nI_add, nI_addL, nI_Ladd, pk_mul, nI_mulL, nI_Lmul, nI_subL, pk_sub, nI_divL, sub_dm, nI_leE, nI_ltE, nI_eqE, nI_Lle, nI_leL, nI_Llt, nI_ltL, nI_eqL, va_up_self, va_up_ne, up_up, up_comm, nI_clamp, bI_eq0, not_true_eq_false, not_false_eq_true, Nat.reduceEqDiff, Nat.reduceLeDiff, Nat.reduceAdd, Nat.reduceMul, Nat.one_ne_zero, Nat.zero_ne_one, decide_eq_false_iff_not, decide_eq_true_eq, Bool.false_eq_true, decide_true, decide_false, bI_true, bI_false, one_ne, Nat.le_refl, Nat.lt_irrefl, cleT, cleF, cltT, cltF, ceqT, ceqF, ↓reduceIte, r144_0, r144_1]
  exact q
/-- what is drawn: the deed (9: none), its numbers, the seed behind it -/
def pick (x : Int32) (n h L : Nat) (f : Nat → Nat) : Nat × Nat × Nat × Int32 × Int32 :=
  if hi16 (lcg x) % 6 ≤ 1 then (0, hi16 (lcg (lcg x)) % 4, hi16 (lcg (lcg (lcg x))) % n, nI (hi16 (lcg (lcg (lcg (lcg x)))) % 7) - 3, lcg (lcg (lcg (lcg x))))
  else if hi16 (lcg x) % 6 = 2 then (1, hi16 (lcg (lcg x)) % 5, hi16 (lcg (lcg (lcg x))) % 4, 0, lcg (lcg (lcg x)))
  else if hi16 (lcg x) % 6 = 5 then (5, 0, 0, 0, lcg x)
  else if h = 0 then (9, 0, 0, 0, lcg x)
  else if hi16 (lcg x) % 6 = 3 then (if f (hi16 (lcg (lcg x)) % h) < L then (2, hi16 (lcg (lcg x)) % h, f (hi16 (lcg (lcg x)) % h), 0, lcg (lcg x)) else (9, 0, 0, 0, lcg (lcg x)))
  else (4, hi16 (lcg (lcg x)) % h, hi16 (lcg (lcg (lcg x))) % 4, 0, lcg (lcg (lcg x)))
def pkC (s : hS) (a n h : Nat) : Nat × Nat × Nat × Int32 × Int32 := pick (s 0 7) n h (lvC s) (fun u => ffN (cMay s a n u) (lvC s) 0)
def doC (s : hS) (a n h k u w : Nat) (v : Int32) : hS := if k = 9 then s else if goC1 s a n h (lvC s) k u w = true then goC2 s n (lvC s) k u w v else s
def drC (s : hS) (a n h : Nat) : hS := doC (sd s (pkC s a n h).2.2.2.2) a n h (pkC s a n h).1 (pkC s a n h).2.1 (pkC s a n h).2.2.1 (pkC s a n h).2.2.2.1
theorem CI_sd {s0 : hS} {a n h : Nat} {v : Int32} (hC : CI s0 s a n h) : CI s0 (sd s v) a n h ∧ lvC (sd s v) = lvC s := by
  obtain ⟨hT, h1, h2, h3⟩ := hC
  have ha : a = 7 ∨ a = 19 ∨ a = 33 ∨ a = 48 := hT.1
  have e : ∀ c, 1 ≤ c → sd s v c = s c := fun c hc => va_up_ne _ _ (by omega)
  have el : lvC (sd s v) = lvC s := by unfold lvC; rw [e 47 (by decide)]
  refine ⟨⟨cT_fr hT (by rw [e 47 (by decide)]) (e a (by omega)), ?_, ?_, fun c hc => ?_⟩, el⟩
  · rw [el, e 47 (by decide)]
    exact h1
  · rw [el]
    exact h2
  · rw [e c (by omega), h3 c hc]
theorem cMay_sd {a n u l : Nat} {v : Int32} (ha : 1 ≤ a) : cMay (sd s v) a n u l = cMay s a n u l := by
  have e : ∀ c, 1 ≤ c → sd s v c = s c := fun c hc => va_up_ne _ _ (by omega)
  unfold cMay cAg
  rw [e 60 (by decide), e 59 (by decide), e a ha, e 58 (by decide), e 56 (by decide), e 57 (by decide), e (a + 2) (by omega)]
theorem goC2_c {n L k u w : Nat} {v v' : Int32} (h : k ≠ 0) : goC2 s n L k u w v = goC2 s n L k u w v' := by
  unfold goC2
  rw [if_neg h, if_neg h]
theorem goR2_c {n L k u w : Nat} {v v' : Int32} (h : k ≠ 0) : goR2 s n L k u w v = goR2 s n L k u w v' := by
  unfold goR2
  rw [if_neg h, if_neg h]
set_option maxHeartbeats 2000000 in
theorem br_drawDeed {s0 : hS} {a n h : Nat} (hC : CI s0 s a n h) (hn1 : 1 ≤ n) {r : Option Value × mH} : Runs xs sl (d+5) 31 0 [some (.ref (0)), some (.ref (a)), none, none, none] [] (hp J (s) g) r ↔ r = (none, hp J (drC s a n h) g) := by
  refine Runs.iff ?_
  have hT := hC.1
  obtain ⟨ha, h31, h47, hn, hn6, hh, hh8⟩ := hC.1
  have ha' : a = 7 ∨ a = 19 ∨ a = 33 ∨ a = 48 := ha
  have b4 := fun s => @br_drawBelow xs sl (d + 4) J s g 4 (by decide) (by decide)
  have b5 := fun s => @br_drawBelow xs sl (d + 4) J s g 5 (by decide) (by decide)
  have b6 := fun s => @br_drawBelow xs sl (d + 4) J s g 6 (by decide) (by decide)
  have b7 := fun s => @br_drawBelow xs sl (d + 4) J s g 7 (by decide) (by decide)
  have bn := fun s => @br_drawBelow xs sl (d + 4) J s g n (by omega) (by omega)
  simp only [show nI 4 = (4 : Int32) from rfl] at b4
  simp only [show nI 5 = (5 : Int32) from rfl] at b5
  simp only [show nI 6 = (6 : Int32) from rfl] at b6
  simp only [show nI 7 = (7 : Int32) from rfl] at b7
  have sn : ∀ v, sd s v a 0 = nI n := fun v => by rw [show sd s v a = s a from va_up_ne _ _ (by omega)]; exact hn
  have sh : ∀ v, sd s v a 2 = nI h := fun v => by rw [show sd s v a = s a from va_up_ne _ _ (by omega)]; exact hh
  have s7 : ∀ v, sd s v 0 7 = v := fun v => by simp (disch := first | omega | assumption | exact Or.inl rfl | exact Or.inr rfl | exact bI_or _ | exact zC81 | exact zC47 | exact zC65 | exact zC0 | exact zC1 | exact zC32 | exact zC70 | exact zC73 | exact ztc (by assumption) | exact zdc (by assumption) | exact zpc (by assumption) | decide) only [Option.some.injEq, exists_eq_left', ex2, Option.toList, List.singleton_append, List.append_nil, List.cons_append, List.nil_append, nI_add, nI_addL, nI_Ladd, pk_mul, nI_mulL, nI_Lmul, nI_subL, pk_sub, nI_divL, sub_dm, nI_leE, nI_ltE, nI_eqE, nI_Lle, nI_leL, nI_Llt, nI_ltL, nI_eqL, va_up_self, va_up_ne, up_up, up_comm, nI_clamp, bI_eq0, not_true_eq_false, not_false_eq_true, Nat.reduceEqDiff, Nat.reduceLeDiff, Nat.reduceAdd, Nat.reduceMul, Nat.one_ne_zero, Nat.zero_ne_one, decide_eq_false_iff_not, decide_eq_true_eq, Bool.false_eq_true, decide_true, decide_false, bI_true, bI_false, one_ne, Nat.le_refl, Nat.lt_irrefl, cleT, cleF, cltT, cltF, ceqT, ceqF, ↓reduceIte, sd]
  have ss : ∀ v v', sd (sd s v) v' = sd s v' := fun v v' => by simp (disch := first | omega | assumption | exact Or.inl rfl | exact Or.inr rfl | exact bI_or _ | exact zC81 | exact zC47 | exact zC65 | exact zC0 | exact zC1 | exact zC32 | exact zC70 | exact zC73 | exact ztc (by assumption) | exact zdc (by assumption) | exact zpc (by assumption) | decide) only [Option.some.injEq, exists_eq_left', ex2, Option.toList, List.singleton_append, List.append_nil, List.cons_append, List.nil_append, nI_add, nI_addL, nI_Ladd, pk_mul, nI_mulL, nI_Lmul, nI_subL, pk_sub, nI_divL, sub_dm, nI_leE, nI_ltE, nI_eqE, nI_Lle, nI_leL, nI_Llt, nI_ltL, nI_eqL, va_up_self, va_up_ne, up_up, up_comm, nI_clamp, bI_eq0, not_true_eq_false, not_false_eq_true, Nat.reduceEqDiff, Nat.reduceLeDiff, Nat.reduceAdd, Nat.reduceMul, Nat.one_ne_zero, Nat.zero_ne_one, decide_eq_false_iff_not, decide_eq_true_eq, Bool.false_eq_true, decide_true, decide_false, bI_true, bI_false, one_ne, Nat.le_refl, Nat.lt_irrefl, cleT, cleF, cltT, cltF, ceqT, ceqF, ↓reduceIte, sd]
  refine Runs.tgt ?_
  intro z hz
  unfold drC pkC pick at hz
  by_cases k1 : hi16 (lcg (s 0 7)) % 6 ≤ 1
  · rw [if_pos k1] at hz
    dsimp only at hz
    generalize hv : lcg (lcg (lcg (lcg (s 0 7)))) = v4 at *
    obtain ⟨hC2, el⟩ := CI_sd (v := v4) hC
    have go := @sc_goOn xs sl d J (sd s v4) g a n h (lvC (sd s v4)) 0 (hi16 (lcg (lcg (s 0 7))) % 4) (hi16 (lcg (lcg (lcg (s 0 7)))) % n) (nI (hi16 (lcg (lcg (s 0 7))) % 4)) (nI (hi16 (lcg (lcg (lcg (s 0 7)))) % n)) (nI (hi16 v4 % 7) - 3) hC2.1 hC2.2.1 hC2.2.2.1 ⟨by decide, Or.inr ⟨rfl, rfl⟩, fun _ => ⟨Nat.mod_lt _ (by decide), by have := Nat.mod_lt (hi16 (lcg (lcg (lcg (s 0 7))))) (show n > 0 by omega); omega⟩, fun q => absurd q (by decide), fun q => absurd q (by decide), fun q => absurd q (by decide), fun q => absurd q (by decide)⟩
    simp only [show nI 0 = (0 : Int32) from rfl] at go
    unfold doC at hz
    rw [if_neg (by decide)] at hz
    simp (disch := first | omega | assumption | exact zC0 | exact zC47 | exact ztc (by assumption)) only [r31_0, r31_1, r31_3, r31_6, r31_6_1, r31_7, r31_8, r31_9, r31_12, r31_13, r31_14, r31_17, r31_18, r31_19, r31_19n, r31_20, r31_23, r31_26, r31_28, r31_29, r31_32, r31_33, r31_34, r31_36, r31_37, r31_39, r31_42, r31_43, r31_44, r31_47, r31_48, r31_166, ztc, zto0, ztw0, zto1, ztw1, zto2, ztw2, zto3, ztw3, zto4, ztw4, zto5, zto6, zto7, zto8, zto9, zto10, zto11, ztl1, zta1, zts1, ztl2, zta2, zts2, ztl3, zta3, zts3, ztl4, zta4, zts4, ztl5, zta5, zts5, ztl6, zta6, zts6, ztl7, zta7, zts7, zO0_3, b4, b6, b7, bn, sn, s7, ss, hv, go, nI_ltL, nI_Llt, cltF, Option.some.injEq, exists_eq_left', ex2, Option.toList, List.singleton_append, List.append_nil, List.cons_append, List.nil_append, hz, ↓reduceIte]
  rw [if_neg k1] at hz
  by_cases k2 : hi16 (lcg (s 0 7)) % 6 = 2
  · rw [if_pos k2] at hz
    dsimp only at hz
    generalize hv : lcg (lcg (lcg (s 0 7))) = v4 at *
    obtain ⟨hC2, el⟩ := CI_sd (v := v4) hC
    have go := @sc_goOn xs sl d J (sd s v4) g a n h (lvC (sd s v4)) 1 (hi16 (lcg (lcg (s 0 7))) % 5) (hi16 v4 % 4) (nI (hi16 (lcg (lcg (s 0 7))) % 5)) (nI (hi16 v4 % 4)) (-8) hC2.1 hC2.2.1 hC2.2.2.1 ⟨by decide, Or.inr ⟨rfl, rfl⟩, fun q => absurd q (by decide), fun _ => ⟨Nat.mod_lt _ (by decide), Nat.mod_lt _ (by decide)⟩, fun q => absurd q (by decide), fun q => absurd q (by decide), fun q => absurd q (by decide)⟩
    rw [goC2_c (v' := 0) (by decide)] at go
    simp only [show nI 1 = (1 : Int32) from rfl] at go
    unfold doC at hz
    rw [if_neg (by decide)] at hz
    simp (disch := first | omega | assumption | exact zC0 | exact zC47 | exact ztc (by assumption)) only [r31_0, r31_1, r31_3, r31_6, r31_6_1, r31_7, r31_8, r31_9, r31_51, r31_52, r31_53, r31_56, r31_57, r31_58, r31_61, r31_62, r31_63, r31_66, r31_67, r31_68, r31_69, r31_70, r31_73, r31_75, r31_78, r31_79, r31_166, ztc, zto0, ztw0, zto1, ztw1, zto2, ztw2, zto3, ztw3, zto4, ztw4, zto5, zto6, zto7, zto8, zto9, zto10, zto11, ztl1, zta1, zts1, ztl2, zta2, zts2, ztl3, zta3, zts3, ztl4, zta4, zts4, ztl5, zta5, zts5, ztl6, zta6, zts6, ztl7, zta7, zts7, zO0_3, b4, b5, b6, s7, ss, hv, go, nI_ltL, nI_Llt, nI_eqL, cltT, ceqT, Option.some.injEq, exists_eq_left', ex2, Option.toList, List.singleton_append, List.append_nil, List.cons_append, List.nil_append, hz, not_true_eq_false, ↓reduceIte]
  rw [if_neg k2] at hz
  by_cases k5 : hi16 (lcg (s 0 7)) % 6 = 5
  · rw [if_pos k5] at hz
    dsimp only at hz
    generalize hv : lcg (s 0 7) = v4 at *
    obtain ⟨hC2, el⟩ := CI_sd (v := v4) hC
    have go := @sc_goOn xs sl d J (sd s v4) g a n h (lvC (sd s v4)) 5 0 0 (-8) (-8) (-8) hC2.1 hC2.2.1 hC2.2.2.1 ⟨by decide, Or.inl rfl, fun q => absurd q (by decide), fun q => absurd q (by decide), fun q => absurd q (by decide), fun q => absurd q (by decide), fun q => absurd q (by decide)⟩
    rw [goC2_c (v' := 0) (by decide)] at go
    simp only [show nI 5 = (5 : Int32) from rfl] at go
    unfold doC at hz
    rw [if_neg (by decide)] at hz
    simp (disch := first | omega | assumption | exact zC0 | exact zC47 | exact ztc (by assumption)) only [r31_0, r31_1, r31_3, r31_6, r31_6_1, r31_7, r31_8, r31_9, r31_51, r31_52, r31_53, r31_82, r31_83, r31_84, r31_87, r31_88, r31_91, r31_92, r31_94, r31_96, r31_98, r31_101, r31_102, r31_166, ztc, zto0, ztw0, zto1, ztw1, zto2, ztw2, zto3, ztw3, zto4, ztw4, zto5, zto6, zto7, zto8, zto9, zto10, zto11, ztl1, zta1, zts1, ztl2, zta2, zts2, ztl3, zta3, zts3, ztl4, zta4, zts4, ztl5, zta5, zts5, ztl6, zta6, zts6, ztl7, zta7, zts7, zO0_3, b6, s7, ss, hv, go, nI_ltL, nI_Llt, nI_eqL, cltT, ceqT, ceqF, Option.some.injEq, exists_eq_left', ex2, Option.toList, List.singleton_append, List.append_nil, List.cons_append, List.nil_append, hz, not_true_eq_false, not_false_eq_true, ↓reduceIte]
  rw [if_neg k5] at hz
  by_cases kh : h = 0
  · rw [if_pos kh] at hz
    dsimp only at hz
    unfold doC at hz
    rw [if_pos rfl] at hz
    subst kh
    simp (disch := first | omega | assumption | exact zC0 | exact zC47 | exact ztc (by assumption)) only [r31_0, r31_1, r31_3, r31_6, r31_6_1, r31_7, r31_8, r31_9, r31_51, r31_52, r31_53, r31_82, r31_83, r31_84, r31_105, r31_105n, r31_106, r31_109, r31_166, ztc, zto0, ztw0, zto1, ztw1, zto2, ztw2, zto3, ztw3, zto4, ztw4, zto5, zto6, zto7, zto8, zto9, zto10, zto11, ztl1, zta1, zts1, ztl2, zta2, zts2, ztl3, zta3, zts3, ztl4, zta4, zts4, ztl5, zta5, zts5, ztl6, zta6, zts6, ztl7, zta7, zts7, b6, s7, ss, sh, nI_ltL, nI_Llt, nI_leL, nI_eqL, cltT, cleT, ceqF, Option.some.injEq, exists_eq_left', ex2, Option.toList, List.singleton_append, List.append_nil, List.cons_append, List.nil_append, hz, not_true_eq_false, not_false_eq_true, ↓reduceIte]
  rw [if_neg kh] at hz
  have bh := fun s => @br_drawBelow xs sl (d + 4) J s g h (by omega) (by omega)
  have hm := Nat.mod_lt (hi16 (lcg (lcg (s 0 7)))) (show h > 0 by omega)
  by_cases k3 : hi16 (lcg (s 0 7)) % 6 = 3
  · rw [if_pos k3] at hz
    dsimp only at hz
    generalize hu : hi16 (lcg (lcg (s 0 7))) % h = u at *
    obtain ⟨hC2, el⟩ := CI_sd (v := lcg (lcg (s 0 7))) hC
    have ff := @sc_firstFor xs sl (d + 2) J (sd s (lcg (lcg (s 0 7)))) g a n h (lvC (sd s (lcg (lcg (s 0 7))))) u hC2.1 hC2.2.1 hC2.2.2.1 (by omega)
    have ef : cMay (sd s (lcg (lcg (s 0 7)))) a n u = cMay s a n u := funext (fun l => cMay_sd (by omega))
    rw [ef, el] at ff
    have fl := ffN_le (cMay s a n u) (lvC s) 0
    have fp := ffN_p (p := cMay s a n u) (lvC s) 0
    by_cases kf : ffN (cMay s a n u) (lvC s) 0 < lvC s
    · rw [if_pos kf] at hz ff
      dsimp only at hz
      generalize hf : ffN (cMay s a n u) (lvC s) 0 = f at *
      have h16 := hC.2.2.1
      generalize hv : lcg (lcg (s 0 7)) = v4 at *
      have go := @sc_goOn xs sl d J (sd s v4) g a n h (lvC (sd s v4)) 2 u f (nI u) (nI f) (-8) hC2.1 hC2.2.1 hC2.2.2.1 ⟨by decide, Or.inr ⟨rfl, rfl⟩, fun q => absurd q (by decide), fun q => absurd q (by decide), fun _ => ⟨by omega, by omega⟩, fun q => absurd q (by decide), fun q => absurd q (by decide)⟩
      rw [goC2_c (v' := 0) (by decide)] at go
      simp only [show nI 2 = (2 : Int32) from rfl] at go
      unfold doC at hz
      rw [if_neg (by decide)] at hz
      simp (disch := first | omega | assumption | exact zC0 | exact zC47 | exact ztc (by assumption)) only [r31_0, r31_1, r31_3, r31_6, r31_6_1, r31_7, r31_8, r31_9, r31_51, r31_52, r31_53, r31_82, r31_83, r31_84, r31_105, r31_105n, r31_106, r31_109, r31_112, r31_113, r31_113n, r31_114, r31_117, r31_120, r31_121, r31_122, r31_123, r31_126, r31_127, r31_130, r31_131, r31_132, r31_133, r31_136, r31_137, r31_140, r31_142, r31_145, r31_146, r31_166, ztc, zto0, ztw0, zto1, ztw1, zto2, ztw2, zto3, ztw3, zto4, ztw4, zto5, zto6, zto7, zto8, zto9, zto10, zto11, ztl1, zta1, zts1, ztl2, zta2, zts2, ztl3, zta3, zts3, ztl4, zta4, zts4, ztl5, zta5, zts5, ztl6, zta6, zts6, ztl7, zta7, zts7, zO0_3, b6, bh, s7, ss, sh, hv, hu, ff, go, nI_ltL, nI_Llt, nI_leL, nI_eqL, cltT, cleF, ceqF, ceqT, Option.some.injEq, exists_eq_left', ex2, Option.toList, List.singleton_append, List.append_nil, List.cons_append, List.nil_append, hz, not_true_eq_false, not_false_eq_true, ↓reduceIte]
    · rw [if_neg kf] at hz ff
      dsimp only at hz
      have go := @sc_giveNone xs sl (d + 1) J (sd s (lcg (lcg (s 0 7)))) g a n h u 1 hC2.1 (by omega)
      unfold doC at hz
      rw [if_pos rfl] at hz
      generalize hv : lcg (lcg (s 0 7)) = v4 at *
      have go2 : ∀ {r : Option Value × mH}, Runs xs sl (d+4) 121 0 [some (.ref (47)), some (.int ( 2)), some (.int ( nI u)), some (.int ( (-1))), some (.int ( (-8)))] [] (hp J (sd s v4) g) r ↔ r = (some (.int 0), hp J (sd s v4) g) := by
        intro r
        refine Runs.iff ?_
        simp (disch := first | omega | assumption | exact Or.inl rfl | exact Or.inr rfl | exact bI_or _ | exact zC81 | exact zC47 | exact zC65 | exact zC0 | exact zC1 | exact zC32 | exact zC70 | exact zC73 | exact ztc (by assumption) | exact zdc (by assumption) | exact zpc (by assumption) | decide) only [Option.some.injEq, exists_eq_left', ex2, Option.toList, List.singleton_append, List.append_nil, List.cons_append, List.nil_append, nI_add, nI_addL, nI_Ladd, pk_mul, nI_mulL, nI_Lmul, nI_subL, pk_sub, nI_divL, sub_dm, nI_leE, nI_ltE, nI_eqE, nI_Lle, nI_leL, nI_Llt, nI_ltL, nI_eqL, va_up_self, va_up_ne, up_up, up_comm, nI_clamp, bI_eq0, not_true_eq_false, not_false_eq_true, Nat.reduceEqDiff, Nat.reduceLeDiff, Nat.reduceAdd, Nat.reduceMul, Nat.one_ne_zero, Nat.zero_ne_one, decide_eq_false_iff_not, decide_eq_true_eq, Bool.false_eq_true, decide_true, decide_false, bI_true, bI_false, one_ne, Nat.le_refl, Nat.lt_irrefl, cleT, cleF, cltT, cltF, ceqT, ceqF, ↓reduceIte, r121_0, r121_36, r121_37, r121_38, r121_39, r121_41, r121_44, r121_45, r121_46, r121_47, r121_48, r121_49, r121_52, r121_53, r121_54, r121_55, r121_56, r121_57, r121_60, r121_61, r121_62, r121_63, r121_64, r121_65, r121_68, r121_69, r121_70, r121_71, r121_72, r121_75, r121_76, r121_77, r121_80, r121_81, r121_1_c2, go]
      simp (disch := first | omega | assumption | exact zC0 | exact zC47 | exact ztc (by assumption)) only [r31_0, r31_1, r31_3, r31_6, r31_6_1, r31_7, r31_8, r31_9, r31_51, r31_52, r31_53, r31_82, r31_83, r31_84, r31_105, r31_105n, r31_106, r31_109, r31_112, r31_113, r31_113n, r31_114, r31_117, r31_120, r31_121, r31_122, r31_123, r31_126, r31_127, r31_130, r31_131, r31_132, r31_133, r31_136, r31_137, r31_140, r31_142, r31_145, r31_146, r31_166, ztc, zto0, ztw0, zto1, ztw1, zto2, ztw2, zto3, ztw3, zto4, ztw4, zto5, zto6, zto7, zto8, zto9, zto10, zto11, ztl1, zta1, zts1, ztl2, zta2, zts2, ztl3, zta3, zts3, ztl4, zta4, zts4, ztl5, zta5, zts5, ztl6, zta6, zts6, ztl7, zta7, zts7, zO0_3, b6, bh, s7, ss, sh, hv, hu, ff, go2, nI_ltL, nI_Llt, nI_leL, nI_eqL, cltT, cleF, ceqF, ceqT, Option.some.injEq, exists_eq_left', ex2, Option.toList, List.singleton_append, List.append_nil, List.cons_append, List.nil_append, hz, not_true_eq_false, not_false_eq_true, ↓reduceIte]
  · rw [if_neg k3] at hz
    dsimp only at hz
    generalize hu : hi16 (lcg (lcg (s 0 7))) % h = u at *
    generalize hv : lcg (lcg (lcg (s 0 7))) = v4 at *
    obtain ⟨hC2, el⟩ := CI_sd (v := v4) hC
    have go := @sc_goOn xs sl d J (sd s v4) g a n h (lvC (sd s v4)) 4 u (hi16 v4 % 4) (nI u) (nI (hi16 v4 % 4)) (-8) hC2.1 hC2.2.1 hC2.2.2.1 ⟨by decide, Or.inr ⟨rfl, rfl⟩, fun q => absurd q (by decide), fun q => absurd q (by decide), fun q => absurd q (by decide), fun q => absurd q (by decide), fun _ => ⟨by omega, Nat.mod_lt _ (by decide)⟩⟩
    rw [goC2_c (v' := 0) (by decide)] at go
    simp only [show nI 4 = (4 : Int32) from rfl] at go
    unfold doC at hz
    rw [if_neg (by decide)] at hz
    simp (disch := first | omega | assumption | exact zC0 | exact zC47 | exact ztc (by assumption)) only [r31_0, r31_1, r31_3, r31_6, r31_6_1, r31_7, r31_8, r31_9, r31_51, r31_52, r31_53, r31_82, r31_83, r31_84, r31_105, r31_105n, r31_106, r31_109, r31_112, r31_113, r31_113n, r31_114, r31_117, r31_120, r31_121, r31_122, r31_123, r31_149, r31_150, r31_153, r31_154, r31_155, r31_156, r31_157, r31_160, r31_162, r31_165, r31_166, ztc, zto0, ztw0, zto1, ztw1, zto2, ztw2, zto3, ztw3, zto4, ztw4, zto5, zto6, zto7, zto8, zto9, zto10, zto11, ztl1, zta1, zts1, ztl2, zta2, zts2, ztl3, zta3, zts3, ztl4, zta4, zts4, ztl5, zta5, zts5, ztl6, zta6, zts6, ztl7, zta7, zts7, zO0_3, b4, b6, bh, s7, ss, sh, hv, hu, go, nI_ltL, nI_Llt, nI_leL, nI_eqL, cltT, cleF, ceqF, ceqT, Option.some.injEq, exists_eq_left', ex2, Option.toList, List.singleton_append, List.append_nil, List.cons_append, List.nil_append, hz, not_true_eq_false, not_false_eq_true, ↓reduceIte]
end DRW
