/-! DAYS BY A SEED: the reference; alike -/
section DRR
variable {xs : Nat → Int32} {sl d : Nat} {J : hJk} {s x y : hS} {g : hG}
def sr (s : hS) (v : Int32) : hS := va_up s 81 (va_up (s 81) 41 v)
theorem rf_below {n : Nat} (hn : 0 < n) (hn6 : n < 65536) {r : Option Value × mH} : Runs xs sl (d) 281 0 [some (.ref (81)), some (.int ( nI n))] [] (hp J (s) g) r ↔ r = (some (.int ( nI (hi16 (lcg (s 81 41)) % n))), hp J (sr s (lcg (s 81 41))) g) := by
  refine Runs.iff ?_
  have h0 : ¬ nI n = 0 := nI_ne0 hn (by omega)
  have h2 := hi16_lt (lcg (s 81 41))
  have e := pk_rem (a := hi16 (lcg (s 81 41))) (d := n) (by omega) hn (by omega)
  unfold sr
  simp (disch := first | omega | assumption) only [r281_0, r281_1, r281_2, r281_5, r281_8, r281_9, r281_12, r281_13, r281_16, r281_17, r281_20, r281_22, r281_23, r281_24, r281_25, zO81_41, zW81_41, va_up_self, show s 81 41 * 1103515245 + 12345 = lcg (s 81 41) from rfl, ush16, e, ↓reduceIte, Option.some.injEq, exists_eq_left']
theorem rf_first_loop {t0 n h L u : Nat} (hT : rT s t0 n h) (hL : s 81 23 = nI L) (hL16 : L ≤ 16) (hu : u < h) : ∀ k i, i + k = L → Runs xs sl (d+3) 282 2 [some (.ref (81)), some (.int ( nI u)), some (.int ( nI i))] [] (hp J (s) g) (some (.int (if ffN (rMay s t0 n u) k i < L then nI (ffN (rMay s t0 n u) k i) else -1)), hp J s g) := by
  intro k
  have hh8 : h ≤ 8 := hT.2.2.2.2.2
  induction k with
  | zero =>
    intro i hi
    have e : i = L := by omega
    subst e
    rw [r282_2, ffN]
    simp (disch := first | omega | assumption | exact Or.inl rfl | exact Or.inr rfl | exact bI_or _ | exact zC81 | exact zC47 | exact zC65 | exact zC0 | exact zC1 | exact zC32 | exact zC70 | exact zC73 | exact ztc (by assumption) | exact zdc (by assumption) | exact zpc (by assumption) | decide) only [Option.some.injEq, exists_eq_left', ex2, Option.toList, List.singleton_append, List.append_nil, List.cons_append, List.nil_append, nI_add, nI_addL, nI_Ladd, pk_mul, nI_mulL, nI_Lmul, nI_subL, pk_sub, nI_divL, sub_dm, nI_leE, nI_ltE, nI_eqE, nI_Lle, nI_leL, nI_Llt, nI_ltL, nI_eqL, va_up_self, va_up_ne, up_up, up_comm, nI_clamp, bI_eq0, not_true_eq_false, not_false_eq_true, Nat.reduceEqDiff, Nat.reduceLeDiff, Nat.reduceAdd, Nat.reduceMul, Nat.one_ne_zero, Nat.zero_ne_one, decide_eq_false_iff_not, decide_eq_true_eq, Bool.false_eq_true, decide_true, decide_false, bI_true, bI_false, one_ne, Nat.le_refl, Nat.lt_irrefl, cleT, cleF, cltT, cltF, ceqT, ceqF, ↓reduceIte, r282_3, r282_4, r282_7, r282_27, r282_28, zO81_23, hL]
  | succ k ih =>
    intro i hi
    have hn := ih (i + 1) (by omega)
    have i16 : i < 16 := by omega
    have u8 : u < 8 := by omega
    have hm := @rf_mayEat xs sl d J s g t0 n h L u i hT hL hL16 u8 i16
    rw [decide_eq_true hu, decide_eq_true (show i < L by omega), Bool.true_and, Bool.true_and] at hm
    rw [r282_2, ffN]
    cases c : rMay s t0 n u i
    · simp only [Bool.false_eq_true, if_false]
      simp (disch := first | omega | assumption | exact Or.inl rfl | exact Or.inr rfl | exact bI_or _ | exact zC81 | exact zC47 | exact zC65 | exact zC0 | exact zC1 | exact zC32 | exact zC70 | exact zC73 | exact ztc (by assumption) | exact zdc (by assumption) | exact zpc (by assumption) | decide) only [Option.some.injEq, exists_eq_left', ex2, Option.toList, List.singleton_append, List.append_nil, List.cons_append, List.nil_append, nI_add, nI_addL, nI_Ladd, pk_mul, nI_mulL, nI_Lmul, nI_subL, pk_sub, nI_divL, sub_dm, nI_leE, nI_ltE, nI_eqE, nI_Lle, nI_leL, nI_Llt, nI_ltL, nI_eqL, va_up_self, va_up_ne, up_up, up_comm, nI_clamp, bI_eq0, not_true_eq_false, not_false_eq_true, Nat.reduceEqDiff, Nat.reduceLeDiff, Nat.reduceAdd, Nat.reduceMul, Nat.one_ne_zero, Nat.zero_ne_one, decide_eq_false_iff_not, decide_eq_true_eq, Bool.false_eq_true, decide_true, decide_false, bI_true, bI_false, one_ne, Nat.le_refl, Nat.lt_irrefl, cleT, cleF, cltT, cltF, ceqT, ceqF, ↓reduceIte, r282_3, r282_4, r282_7, r282_10, r282_11, r282_12, r282_13, r282_16, r282_19, r282_20, r282_21, r282_24, zO81_23, hL, hm, c]
      exact hn
    · simp only [if_true]
      simp (disch := first | omega | assumption | exact Or.inl rfl | exact Or.inr rfl | exact bI_or _ | exact zC81 | exact zC47 | exact zC65 | exact zC0 | exact zC1 | exact zC32 | exact zC70 | exact zC73 | exact ztc (by assumption) | exact zdc (by assumption) | exact zpc (by assumption) | decide) only [Option.some.injEq, exists_eq_left', ex2, Option.toList, List.singleton_append, List.append_nil, List.cons_append, List.nil_append, nI_add, nI_addL, nI_Ladd, pk_mul, nI_mulL, nI_Lmul, nI_subL, pk_sub, nI_divL, sub_dm, nI_leE, nI_ltE, nI_eqE, nI_Lle, nI_leL, nI_Llt, nI_ltL, nI_eqL, va_up_self, va_up_ne, up_up, up_comm, nI_clamp, bI_eq0, not_true_eq_false, not_false_eq_true, Nat.reduceEqDiff, Nat.reduceLeDiff, Nat.reduceAdd, Nat.reduceMul, Nat.one_ne_zero, Nat.zero_ne_one, decide_eq_false_iff_not, decide_eq_true_eq, Bool.false_eq_true, decide_true, decide_false, bI_true, bI_false, one_ne, Nat.le_refl, Nat.lt_irrefl, cleT, cleF, cltT, cltF, ceqT, ceqF, ↓reduceIte, r282_3, r282_4, r282_7, r282_10, r282_11, r282_12, r282_13, r282_16, r282_19, r282_20, r282_21, r282_24, zO81_23, hL, hm, c, Bool.true_eq_false]
theorem rf_firstToEat {t0 n h L u : Nat} (hT : rT s t0 n h) (hL : s 81 23 = nI L) (hL16 : L ≤ 16) (hu : u < h) {r : Option Value × mH} : Runs xs sl (d+3) 282 0 [some (.ref (81)), some (.int ( nI u)), none] [] (hp J (s) g) r ↔ r = (some (.int ( (if ffN (rMay s t0 n u) L 0 < L then nI (ffN (rMay s t0 n u) L 0) else -1))), hp J (s) g) := by
  refine Runs.iff ?_
  have q := @rf_first_loop xs sl d J s g t0 n h L u hT hL hL16 hu L 0 (by omega)
  simp (disch := first | omega | assumption | exact Or.inl rfl | exact Or.inr rfl | exact bI_or _ | exact zC81 | exact zC47 | exact zC65 | exact zC0 | exact zC1 | exact zC32 | exact zC70 | exact zC73 | exact ztc (by assumption) | exact zdc (by assumption) | exact zpc (by assumption) | decide) only [Option.some.injEq, exists_eq_left', ex2, Option.toList, List.singleton_append, List.append_nil, List.cons_append, List.nil_append, nI_add, nI_addL, nI_Ladd, pk_mul, nI_mulL, nI_Lmul, nI_subL, pk_sub, nI_divL, sub_dm, nI_leE, nI_ltE, nI_eqE, nI_Lle, nI_leL, nI_Llt, nI_ltL, nI_eqL, va_up_self, va_up_ne, up_up, up_comm, nI_clamp, bI_eq0, not_true_eq_false, not_false_eq_true, Nat.reduceEqDiff, Nat.reduceLeDiff, Nat.reduceAdd, Nat.reduceMul, Nat.one_ne_zero, Nat.zero_ne_one, decide_eq_false_iff_not, decide_eq_true_eq, Bool.false_eq_true, decide_true, decide_false, bI_true, bI_false, one_ne, Nat.le_refl, Nat.lt_irrefl, cleT, cleF, cltT, cltF, ceqT, ceqF, ↓reduceIte, r282_0, r282_1]
  exact q
def pkR (s : hS) (t0 n h : Nat) : Nat × Nat × Nat × Int32 × Int32 := pick (s 81 41) n h (lvR s) (fun u => ffN (rMay s t0 n u) (lvR s) 0)
def doR (s : hS) (t0 n h k u w : Nat) (v : Int32) : hS := if k = 9 then s else if goR1 s t0 n h (lvR s) k u w = true then goR2 s n (lvR s) k u w v else s
def drR (s : hS) (t0 n h : Nat) : hS := doR (sr s (pkR s t0 n h).2.2.2.2) t0 n h (pkR s t0 n h).1 (pkR s t0 n h).2.1 (pkR s t0 n h).2.2.1 (pkR s t0 n h).2.2.2.1
theorem RI_sr {s0 : hS} {t0 n h : Nat} {v : Int32} (hR : RI s0 s t0 n h) : RI s0 (sr s v) t0 n h ∧ lvR (sr s v) = lvR s := by
  obtain ⟨hT, h1, h2, h3, h4⟩ := hR
  have e : ∀ c, c ≠ 81 → sr s v c = s c := fun c hc => va_up_ne _ _ hc
  have e2 : ∀ j, j ≠ 41 → sr s v 81 j = s 81 j := fun j hj => by unfold sr; rw [va_up_self, va_up_ne _ _ hj]
  have el : lvR (sr s v) = lvR s := by unfold lvR; rw [e2 23 (by decide)]
  refine ⟨⟨rT_fr hT (e2 _ (by decide)) (e2 _ (by decide)) (e2 _ (by decide)), ?_, ?_, fun c hc => ?_, fun j hj => ?_⟩, el⟩
  · rw [el, e2 _ (by decide)]
    exact h1
  · rw [el]
    exact h2
  · rw [e c (by omega), h3 c hc]
  · rw [e2 j (by omega), h4 j hj]
theorem rMay_sr {t0 n u l : Nat} {v : Int32} : rMay (sr s v) t0 n u l = rMay s t0 n u l := by
  have e : ∀ c, c ≠ 81 → sr s v c = s c := fun c hc => va_up_ne _ _ hc
  unfold rMay rAg
  rw [e 91 (by decide), e 90 (by decide), e 82 (by decide), e 89 (by decide), e 92 (by decide), e 88 (by decide)]
/-- a deed, if it can be -/
theorem rf_tail {s0 : hS} {t0 n h k u w : Nat} {A B v : Int32} {l1 : Option Value} (hR : RI s0 s t0 n h) (hd : dv k A B u w) : Runs xs sl (d+4) 280 167 [some (.ref (81)), l1, some (.int ( nI k)), some (.int (A)), some (.int (B)), some (.int (v))] [] (hp J (s) g) (none, hp J (if goR1 s t0 n h (lvR s) k u w = true then goR2 s n (lvR s) k u w v else s) g) := by
  have hc := @rf_can xs sl d J s g t0 n h (lvR s) k u w A B hR.1 hR.2.1 hR.2.2.1 hd
  cases c : goR1 s t0 n h (lvR s) k u w
  · rw [c] at hc
    simp (disch := first | omega | assumption | exact zC81) only [r280_167, r280_168, r280_169, r280_170, r280_172, r280_175, r280_178, r280_179, r280_180, r280_181, r280_183, r280_185, r280_188, hc, bI_false, Option.some.injEq, exists_eq_left', ex2, Option.toList, List.singleton_append, List.append_nil, List.cons_append, List.nil_append, Bool.false_eq_true, ↓reduceIte]
  · have hdo := @rf_does xs sl d J s g t0 n h (lvR s) k u w A B v hR.1 hR.2.1 hR.2.2.1 hd c
    rw [c] at hc
    simp (disch := first | omega | assumption | exact zC81) only [r280_167, r280_168, r280_169, r280_170, r280_172, r280_175, r280_178, r280_179, r280_180, r280_181, r280_183, r280_185, r280_188, hc, hdo, bI_true, one_ne, Option.some.injEq, exists_eq_left', ex2, Option.toList, List.singleton_append, List.append_nil, List.cons_append, List.nil_append, Bool.false_eq_true, ↓reduceIte]
set_option maxHeartbeats 2000000 in
theorem rf_draws {s0 : hS} {t0 n h : Nat} (hR : RI s0 s t0 n h) (hn1 : 1 ≤ n) {r : Option Value × mH} : Runs xs sl (d+4) 280 0 [some (.ref (81)), none, none, none, none, none] [] (hp J (s) g) r ↔ r = (none, hp J (drR s t0 n h) g) := by
  refine Runs.iff ?_
  have hT := hR.1
  obtain ⟨h12, ht0, h13, hn6, h14, hh8⟩ := hR.1
  have b4 := fun s => @rf_below xs sl (d + 3) J s g 4 (by decide) (by decide)
  have b5 := fun s => @rf_below xs sl (d + 3) J s g 5 (by decide) (by decide)
  have b6 := fun s => @rf_below xs sl (d + 3) J s g 6 (by decide) (by decide)
  have b7 := fun s => @rf_below xs sl (d + 3) J s g 7 (by decide) (by decide)
  have bn := fun s => @rf_below xs sl (d + 3) J s g n (by omega) (by omega)
  simp only [show nI 4 = (4 : Int32) from rfl] at b4
  simp only [show nI 5 = (5 : Int32) from rfl] at b5
  simp only [show nI 6 = (6 : Int32) from rfl] at b6
  simp only [show nI 7 = (7 : Int32) from rfl] at b7
  have sn : ∀ v, sr s v 81 13 = nI n := fun v => by rw [show sr s v 81 13 = s 81 13 from by simp (disch := first | omega | assumption | exact Or.inl rfl | exact Or.inr rfl | exact bI_or _ | exact zC81 | exact zC47 | exact zC65 | exact zC0 | exact zC1 | exact zC32 | exact zC70 | exact zC73 | exact ztc (by assumption) | exact zdc (by assumption) | exact zpc (by assumption) | decide) only [Option.some.injEq, exists_eq_left', ex2, Option.toList, List.singleton_append, List.append_nil, List.cons_append, List.nil_append, nI_add, nI_addL, nI_Ladd, pk_mul, nI_mulL, nI_Lmul, nI_subL, pk_sub, nI_divL, sub_dm, nI_leE, nI_ltE, nI_eqE, nI_Lle, nI_leL, nI_Llt, nI_ltL, nI_eqL, va_up_self, va_up_ne, up_up, up_comm, nI_clamp, bI_eq0, not_true_eq_false, not_false_eq_true, Nat.reduceEqDiff, Nat.reduceLeDiff, Nat.reduceAdd, Nat.reduceMul, Nat.one_ne_zero, Nat.zero_ne_one, decide_eq_false_iff_not, decide_eq_true_eq, Bool.false_eq_true, decide_true, decide_false, bI_true, bI_false, one_ne, Nat.le_refl, Nat.lt_irrefl, cleT, cleF, cltT, cltF, ceqT, ceqF, ↓reduceIte, sr]]; exact h13
  have sh : ∀ v, sr s v 81 14 = nI h := fun v => by rw [show sr s v 81 14 = s 81 14 from by simp (disch := first | omega | assumption | exact Or.inl rfl | exact Or.inr rfl | exact bI_or _ | exact zC81 | exact zC47 | exact zC65 | exact zC0 | exact zC1 | exact zC32 | exact zC70 | exact zC73 | exact ztc (by assumption) | exact zdc (by assumption) | exact zpc (by assumption) | decide) only [Option.some.injEq, exists_eq_left', ex2, Option.toList, List.singleton_append, List.append_nil, List.cons_append, List.nil_append, nI_add, nI_addL, nI_Ladd, pk_mul, nI_mulL, nI_Lmul, nI_subL, pk_sub, nI_divL, sub_dm, nI_leE, nI_ltE, nI_eqE, nI_Lle, nI_leL, nI_Llt, nI_ltL, nI_eqL, va_up_self, va_up_ne, up_up, up_comm, nI_clamp, bI_eq0, not_true_eq_false, not_false_eq_true, Nat.reduceEqDiff, Nat.reduceLeDiff, Nat.reduceAdd, Nat.reduceMul, Nat.one_ne_zero, Nat.zero_ne_one, decide_eq_false_iff_not, decide_eq_true_eq, Bool.false_eq_true, decide_true, decide_false, bI_true, bI_false, one_ne, Nat.le_refl, Nat.lt_irrefl, cleT, cleF, cltT, cltF, ceqT, ceqF, ↓reduceIte, sr]]; exact h14
  have s7 : ∀ v, sr s v 81 41 = v := fun v => by simp (disch := first | omega | assumption | exact Or.inl rfl | exact Or.inr rfl | exact bI_or _ | exact zC81 | exact zC47 | exact zC65 | exact zC0 | exact zC1 | exact zC32 | exact zC70 | exact zC73 | exact ztc (by assumption) | exact zdc (by assumption) | exact zpc (by assumption) | decide) only [Option.some.injEq, exists_eq_left', ex2, Option.toList, List.singleton_append, List.append_nil, List.cons_append, List.nil_append, nI_add, nI_addL, nI_Ladd, pk_mul, nI_mulL, nI_Lmul, nI_subL, pk_sub, nI_divL, sub_dm, nI_leE, nI_ltE, nI_eqE, nI_Lle, nI_leL, nI_Llt, nI_ltL, nI_eqL, va_up_self, va_up_ne, up_up, up_comm, nI_clamp, bI_eq0, not_true_eq_false, not_false_eq_true, Nat.reduceEqDiff, Nat.reduceLeDiff, Nat.reduceAdd, Nat.reduceMul, Nat.one_ne_zero, Nat.zero_ne_one, decide_eq_false_iff_not, decide_eq_true_eq, Bool.false_eq_true, decide_true, decide_false, bI_true, bI_false, one_ne, Nat.le_refl, Nat.lt_irrefl, cleT, cleF, cltT, cltF, ceqT, ceqF, ↓reduceIte, sr]
  have ss : ∀ v v', sr (sr s v) v' = sr s v' := fun v v' => by simp (disch := first | omega | assumption | exact Or.inl rfl | exact Or.inr rfl | exact bI_or _ | exact zC81 | exact zC47 | exact zC65 | exact zC0 | exact zC1 | exact zC32 | exact zC70 | exact zC73 | exact ztc (by assumption) | exact zdc (by assumption) | exact zpc (by assumption) | decide) only [Option.some.injEq, exists_eq_left', ex2, Option.toList, List.singleton_append, List.append_nil, List.cons_append, List.nil_append, nI_add, nI_addL, nI_Ladd, pk_mul, nI_mulL, nI_Lmul, nI_subL, pk_sub, nI_divL, sub_dm, nI_leE, nI_ltE, nI_eqE, nI_Lle, nI_leL, nI_Llt, nI_ltL, nI_eqL, va_up_self, va_up_ne, up_up, up_comm, nI_clamp, bI_eq0, not_true_eq_false, not_false_eq_true, Nat.reduceEqDiff, Nat.reduceLeDiff, Nat.reduceAdd, Nat.reduceMul, Nat.one_ne_zero, Nat.zero_ne_one, decide_eq_false_iff_not, decide_eq_true_eq, Bool.false_eq_true, decide_true, decide_false, bI_true, bI_false, one_ne, Nat.le_refl, Nat.lt_irrefl, cleT, cleF, cltT, cltF, ceqT, ceqF, ↓reduceIte, sr]
  refine Runs.tgt ?_
  intro z hz
  unfold drR pkR pick at hz
  by_cases k1 : hi16 (lcg (s 81 41)) % 6 ≤ 1
  · rw [if_pos k1] at hz
    dsimp only at hz
    have tl := @rf_tail xs sl d J (sr s (lcg (lcg (lcg (lcg (s 81 41)))))) g s0 t0 n h 0 (hi16 (lcg (lcg (s 81 41))) % 4) (hi16 (lcg (lcg (lcg (s 81 41)))) % n) (nI (hi16 (lcg (lcg (s 81 41))) % 4)) (nI (hi16 (lcg (lcg (lcg (s 81 41)))) % n)) (nI (hi16 (lcg (lcg (lcg (lcg (s 81 41))))) % 7) - 3) (some (.int (nI (hi16 (lcg (s 81 41)) % 6)))) (RI_sr hR).1 ⟨by decide, Or.inr ⟨rfl, rfl⟩, fun _ => ⟨Nat.mod_lt _ (by decide), by have := Nat.mod_lt (hi16 (lcg (lcg (lcg (s 81 41))))) (show n > 0 by omega); omega⟩, fun q => absurd q (by decide), fun q => absurd q (by decide), fun q => absurd q (by decide), fun q => absurd q (by decide)⟩
    unfold doR at hz
    rw [if_neg (by decide)] at hz
    rw [← hz] at tl
    simp only [show nI 0 = (0 : Int32) from rfl] at tl
    have dd : (nI (hi16 (lcg (s 81 41)) % 6)).toInt < 2 ∨ 5 < (nI (hi16 (lcg (s 81 41)) % 6)).toInt := by rw [nI_toInt (by omega)]; omega
    simp (disch := first | omega | assumption | exact zC81) only [r280_0, r280_1, r280_3, r280_6, r280_6_1, r280_7, r280_8, r280_9, r280_12, r280_13, r280_16, r280_17, r280_18, r280_21, r280_22, r280_23, r280_24, r280_27, r280_28, r280_29, r280_30, r280_31, r280_32, r280_34, r280_35, r280_37, r280_38, r280_39, r280_40, r280_43, r280_54, r280_141, r280_142, r280_143, r280_146, r280_147, r280_148, r280_149, r280_152, r280_155, r280_157, r280_158, r280_160, r280_163, r280_164, r280_165, r280_55_d dd, zO81_13, b4, b6, b7, bn, sn, s7, ss, rf_isInE, isInL, Bool.false_and, Bool.and_false, cleT, cleF, decide_true, decide_false, bI_false, bI_true, nI_ltL, nI_Llt, nI_leL, nI_Lle, Option.some.injEq, exists_eq_left', ex2, Option.toList, List.singleton_append, List.append_nil, List.cons_append, List.nil_append, ↓reduceIte]
    exact tl
  rw [if_neg k1] at hz
  generalize hm : hi16 (lcg (s 81 41)) % 6 = m at *
  have m6 : m < 6 := by rw [← hm]; exact Nat.mod_lt _ (by decide)
  have e6 : nI m = (no_index (nI m)) := rfl
  by_cases k2 : m = 2
  · subst k2
    rw [if_pos rfl] at hz
    dsimp only at hz
    have tl := @rf_tail xs sl d J (sr s (lcg (lcg (lcg (s 81 41))))) g s0 t0 n h 1 (hi16 (lcg (lcg (s 81 41))) % 5) (hi16 (lcg (lcg (lcg (s 81 41)))) % 4) (nI (hi16 (lcg (lcg (s 81 41))) % 5)) (nI (hi16 (lcg (lcg (lcg (s 81 41)))) % 4)) 0 (some (.int 2)) (RI_sr hR).1 ⟨by decide, Or.inr ⟨rfl, rfl⟩, fun q => absurd q (by decide), fun _ => ⟨Nat.mod_lt _ (by decide), Nat.mod_lt _ (by decide)⟩, fun q => absurd q (by decide), fun q => absurd q (by decide), fun q => absurd q (by decide)⟩
    unfold doR at hz
    rw [if_neg (by decide)] at hz
    rw [← hz] at tl
    simp only [show nI 1 = (1 : Int32) from rfl] at tl
    have j1 : ¬ (2 : Int32) < 2 := by decide
    have j2 : f_isIn 2 3 4 = 0 := by decide
    have j3 : (2 : Int32) - 1 = 1 := by decide
    have j4 : ¬ (4 : Int32) ≤ 2 := by decide
    have j5 : (2 : Int32) ≤ 2 := by decide
    simp (disch := first | omega | assumption | exact zC81) only [r280_0, r280_1, r280_3, r280_6, r280_6_1, r280_7, r280_8, r280_9, r280_12, r280_13, r280_16, r280_17, r280_18, r280_21, r280_22, r280_23, r280_24, r280_27, r280_28, r280_29, r280_30, r280_31, r280_32, r280_34, r280_35, r280_37, r280_38, r280_39, r280_40, r280_43, r280_54, r280_84, r280_85, r280_86, r280_89, r280_90, r280_91, r280_92, r280_95, r280_97, r280_55_c2, zO81_13, b4, b5, b6, s7, ss, hm, show nI 2 = (2 : Int32) from rfl, rf_isInE, j1, j2, j3, j4, j5, Option.some.injEq, exists_eq_left', ex2, Option.toList, List.singleton_append, List.append_nil, List.cons_append, List.nil_append, ↓reduceIte]
    exact tl
  rw [if_neg k2] at hz
  by_cases k5 : m = 5
  · subst k5
    rw [if_pos rfl] at hz
    dsimp only at hz
    have tl := @rf_tail xs sl d J (sr s (lcg (s 81 41))) g s0 t0 n h 5 0 0 (-1) (-1) 0 (some (.int 5)) (RI_sr hR).1 ⟨by decide, Or.inl rfl, fun q => absurd q (by decide), fun q => absurd q (by decide), fun q => absurd q (by decide), fun q => absurd q (by decide), fun q => absurd q (by decide)⟩
    unfold doR at hz
    rw [if_neg (by decide)] at hz
    rw [← hz] at tl
    simp only [show nI 5 = (5 : Int32) from rfl] at tl
    have j2 : f_isIn 5 3 4 = 0 := by decide
    have j4 : (4 : Int32) ≤ 5 := by decide
    have j5 : (2 : Int32) ≤ 5 := by decide
    simp (disch := first | omega | assumption | exact zC81) only [r280_0, r280_1, r280_3, r280_6, r280_6_1, r280_7, r280_8, r280_9, r280_12, r280_13, r280_16, r280_17, r280_18, r280_21, r280_22, r280_23, r280_24, r280_27, r280_28, r280_29, r280_30, r280_31, r280_32, r280_34, r280_35, r280_37, r280_38, r280_39, r280_40, r280_43, r280_54, r280_138, r280_55_c5, b6, s7, ss, hm, show nI 5 = (5 : Int32) from rfl, rf_isInE, j2, j4, j5, Option.some.injEq, exists_eq_left', ex2, Option.toList, List.singleton_append, List.append_nil, List.cons_append, List.nil_append, ↓reduceIte]
    exact tl
  rw [if_neg k5] at hz
  have m34 : m = 3 ∨ m = 4 := by omega
  by_cases kh : h = 0
  · rw [if_pos kh] at hz
    dsimp only at hz
    unfold doR at hz
    rw [if_pos rfl] at hz
    subst kh
    rcases m34 with rfl | rfl
    · have j2 : f_isIn 3 3 4 = 1 := by decide
      have j4 : ¬ (4 : Int32) ≤ 3 := by decide
      have j5 : (2 : Int32) ≤ 3 := by decide
      simp (disch := first | omega | assumption | exact zC81) only [r280_0, r280_1, r280_3, r280_6, r280_6_1, r280_7, r280_8, r280_9, r280_12, r280_13, r280_16, r280_17, r280_18, r280_21, r280_22, r280_23, r280_24, r280_27, r280_28, r280_29, r280_30, r280_31, r280_32, r280_34, r280_35, r280_37, r280_38, r280_39, r280_40, r280_43, r280_46, r280_47, r280_50, r280_53, b6, s7, ss, sh, zO81_14, hm, show nI 3 = (3 : Int32) from rfl, show nI 0 = (0 : Int32) from rfl, rf_isInE, j2, j4, j5, one_ne, not_true_eq_false, Option.some.injEq, exists_eq_left', ex2, Option.toList, List.singleton_append, List.append_nil, List.cons_append, List.nil_append, ↓reduceIte, hz]
    · have j2 : f_isIn 4 3 4 = 1 := by decide
      have j4 : (4 : Int32) ≤ 4 := by decide
      have j5 : (2 : Int32) ≤ 4 := by decide
      simp (disch := first | omega | assumption | exact zC81) only [r280_0, r280_1, r280_3, r280_6, r280_6_1, r280_7, r280_8, r280_9, r280_12, r280_13, r280_16, r280_17, r280_18, r280_21, r280_22, r280_23, r280_24, r280_27, r280_28, r280_29, r280_30, r280_31, r280_32, r280_34, r280_35, r280_37, r280_38, r280_39, r280_40, r280_43, r280_46, r280_47, r280_50, r280_53, b6, s7, ss, sh, zO81_14, hm, show nI 4 = (4 : Int32) from rfl, show nI 0 = (0 : Int32) from rfl, rf_isInE, j2, j4, j5, one_ne, not_true_eq_false, Option.some.injEq, exists_eq_left', ex2, Option.toList, List.singleton_append, List.append_nil, List.cons_append, List.nil_append, ↓reduceIte, hz]
  rw [if_neg kh] at hz
  have bh := fun s => @rf_below xs sl (d + 3) J s g h (by omega) (by omega)
  have hmo := Nat.mod_lt (hi16 (lcg (lcg (s 81 41)))) (show h > 0 by omega)
  have hne : ¬ nI h = 0 := nI_ne0 (by omega) (by omega)
  rcases m34 with rfl | rfl
  · rw [if_pos rfl] at hz
    dsimp only at hz
    generalize hu : hi16 (lcg (lcg (s 81 41))) % h = u at *
    obtain ⟨hR2, el⟩ := RI_sr (v := lcg (lcg (s 81 41))) hR
    have ff := @rf_firstToEat xs sl d J (sr s (lcg (lcg (s 81 41)))) g t0 n h (lvR (sr s (lcg (lcg (s 81 41))))) u hR2.1 hR2.2.1 hR2.2.2.1 hmo
    have ef : rMay (sr s (lcg (lcg (s 81 41)))) t0 n u = rMay s t0 n u := funext (fun l => rMay_sr)
    rw [ef, el] at ff
    have j2 : f_isIn 3 3 4 = 1 := by decide
    have j3 : (3 : Int32) - 1 = 2 := by decide
    have j4 : ¬ (4 : Int32) ≤ 3 := by decide
    have j5 : (2 : Int32) ≤ 3 := by decide
    by_cases kf : ffN (rMay s t0 n u) (lvR s) 0 < lvR s
    · rw [if_pos kf] at hz ff
      dsimp only at hz
      have h16 := hR.2.2.1
      have fl := ffN_le (rMay s t0 n u) (lvR s) 0
      generalize hf : ffN (rMay s t0 n u) (lvR s) 0 = f at *
      have tl := @rf_tail xs sl d J (sr s (lcg (lcg (s 81 41)))) g s0 t0 n h 2 u f (nI u) (nI f) 0 (some (.int 3)) hR2 ⟨by decide, Or.inr ⟨rfl, rfl⟩, fun q => absurd q (by decide), fun q => absurd q (by decide), fun _ => ⟨by omega, by omega⟩, fun q => absurd q (by decide), fun q => absurd q (by decide)⟩
      unfold doR at hz
      rw [if_neg (by decide)] at hz
      rw [← hz] at tl
      simp only [show nI 2 = (2 : Int32) from rfl] at tl
      simp (disch := first | omega | assumption | exact zC81) only [r280_0, r280_1, r280_3, r280_6, r280_6_1, r280_7, r280_8, r280_9, r280_12, r280_13, r280_16, r280_17, r280_18, r280_21, r280_22, r280_23, r280_24, r280_27, r280_28, r280_29, r280_30, r280_31, r280_32, r280_34, r280_35, r280_37, r280_38, r280_39, r280_40, r280_43, r280_46, r280_47, r280_50, r280_53, r280_54, r280_100, r280_101, r280_102, r280_105, r280_108, r280_109, r280_110, r280_111, r280_114, r280_116, r280_55_c3, b6, bh, s7, ss, sh, hu, ff, zO81_14, hm, hne, show nI 3 = (3 : Int32) from rfl, rf_isInE, j2, j3, j4, j5, one_ne, not_true_eq_false, not_false_eq_true, Option.some.injEq, exists_eq_left', ex2, Option.toList, List.singleton_append, List.append_nil, List.cons_append, List.nil_append, ↓reduceIte]
      exact tl
    · rw [if_neg kf] at hz ff
      dsimp only at hz
      unfold doR at hz
      rw [if_pos rfl] at hz
      have gn := @rf_mayNone xs sl d J (sr s (lcg (lcg (s 81 41)))) g t0 n h _ u hR2.1 hR2.2.1 hR2.2.2.1 (by omega)
      simp (disch := first | omega | assumption | exact zC81 | exact Or.inl rfl) only [r280_0, r280_1, r280_3, r280_6, r280_6_1, r280_7, r280_8, r280_9, r280_12, r280_13, r280_16, r280_17, r280_18, r280_21, r280_22, r280_23, r280_24, r280_27, r280_28, r280_29, r280_30, r280_31, r280_32, r280_34, r280_35, r280_37, r280_38, r280_39, r280_40, r280_43, r280_46, r280_47, r280_50, r280_53, r280_54, r280_100, r280_101, r280_102, r280_105, r280_108, r280_109, r280_110, r280_111, r280_114, r280_116, r280_167, r280_168, r280_169, r280_170, r280_172, r280_175, r280_188, r280_55_c3, r220_0, r220_1_c2, r220_57, r220_58, r220_59, r220_60, r220_63, b6, bh, s7, ss, sh, hu, ff, gn, zO81_14, hm, hne, show nI 3 = (3 : Int32) from rfl, rf_isInE, j2, j3, j4, j5, one_ne, not_true_eq_false, not_false_eq_true, Option.some.injEq, exists_eq_left', ex2, Option.toList, List.singleton_append, List.append_nil, List.cons_append, List.nil_append, ↓reduceIte, true_or, hz]
  · rw [if_neg (by decide)] at hz
    dsimp only at hz
    generalize hu : hi16 (lcg (lcg (s 81 41))) % h = u at *
    have tl := @rf_tail xs sl d J (sr s (lcg (lcg (lcg (s 81 41))))) g s0 t0 n h 4 u (hi16 (lcg (lcg (lcg (s 81 41)))) % 4) (nI u) (nI (hi16 (lcg (lcg (lcg (s 81 41)))) % 4)) 0 (some (.int 4)) (RI_sr hR).1 ⟨by decide, Or.inr ⟨rfl, rfl⟩, fun q => absurd q (by decide), fun q => absurd q (by decide), fun q => absurd q (by decide), fun q => absurd q (by decide), fun _ => ⟨by omega, Nat.mod_lt _ (by decide)⟩⟩
    unfold doR at hz
    rw [if_neg (by decide)] at hz
    rw [← hz] at tl
    simp only [show nI 4 = (4 : Int32) from rfl] at tl
    have j2 : f_isIn 4 3 4 = 1 := by decide
    have j4 : (4 : Int32) ≤ 4 := by decide
    have j5 : (2 : Int32) ≤ 4 := by decide
    simp (disch := first | omega | assumption | exact zC81) only [r280_0, r280_1, r280_3, r280_6, r280_6_1, r280_7, r280_8, r280_9, r280_12, r280_13, r280_16, r280_17, r280_18, r280_21, r280_22, r280_23, r280_24, r280_27, r280_28, r280_29, r280_30, r280_31, r280_32, r280_34, r280_35, r280_37, r280_38, r280_39, r280_40, r280_43, r280_46, r280_47, r280_50, r280_53, r280_54, r280_119, r280_120, r280_121, r280_124, r280_127, r280_128, r280_129, r280_130, r280_133, r280_135, r280_55_c4, b4, b6, bh, s7, ss, sh, hu, zO81_14, hm, hne, show nI 4 = (4 : Int32) from rfl, rf_isInE, j2, j4, j5, one_ne, not_true_eq_false, not_false_eq_true, Option.some.injEq, exists_eq_left', ex2, Option.toList, List.singleton_append, List.append_nil, List.cons_append, List.nil_append, ↓reduceIte]
    exact tl
end DRR
