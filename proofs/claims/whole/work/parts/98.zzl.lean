/-! TEXT: what is told, with a new text -/
section TXZL
variable {xs : Nat → Int32} {sl d : Nat} {J : hJk} {s t x y : hS} {g : hG}
def loB (so k : Nat) : Nat := if so = 0 then 7 + 12 * k else if so = 1 then 15 + 12 * k else 17 + 12 * k
def hiB (so k : Nat) : Nat := if so = 0 then 14 + 12 * k else if so = 1 then 16 + 12 * k else 18 + 12 * k
def NQ (so k : Nat) (x : hS) (R : Nat → Int32) : Prop := if so = 0 then ∃ n li h sa c, TownQ x R (7 + 12 * k) (610 + 129 * k) n li h sa c else if so = 1 then ∃ D, DaysQ x R (15 + 12 * k) (868 + 161 * k) D else ∃ n li c, PlateQ x R (17 + 12 * k) (1190 + 39 * k) n li c
theorem hp_a34 {u : hS} (h : hp J u g = hp J s g) {i : Nat} (hi : i < 8) : s 34 i = u 34 i := by
  have e : hA (hp J u g) 34 0 (nI i) = hA (hp J s g) 34 0 (nI i) := by rw [h]
  rw [zA34 hi, zA34 hi] at e
  exact (Option.some.inj e).symm
theorem hp_a35 {u : hS} (h : hp J u g = hp J s g) {i : Nat} (hi : i < 8) : s 35 i = u 35 i := by
  have e : hA (hp J u g) 35 0 (nI i) = hA (hp J s g) 35 0 (nI i) := by rw [h]
  rw [zA35 hi, zA35 hi] at e
  exact (Option.some.inj e).symm
theorem hp_a36 {u : hS} (h : hp J u g = hp J s g) {i : Nat} (hi : i < 8) : s 36 i = u 36 i := by
  have e : hA (hp J u g) 36 0 (nI i) = hA (hp J s g) 36 0 (nI i) := by rw [h]
  rw [zA36 hi, zA36 hi] at e
  exact (Option.some.inj e).symm
theorem hp_a37 {u : hS} (h : hp J u g = hp J s g) {i : Nat} (hi : i < 48) : s 37 i = u 37 i := by
  have e : hA (hp J u g) 37 0 (nI i) = hA (hp J s g) 37 0 (nI i) := by rw [h]
  rw [zA37 hi, zA37 hi] at e
  exact (Option.some.inj e).symm
theorem hp_a38 {u : hS} (h : hp J u g = hp J s g) {i : Nat} (hi : i < 36) : s 38 i = u 38 i := by
  have e : hA (hp J u g) 38 0 (nI i) = hA (hp J s g) 38 0 (nI i) := by rw [h]
  rw [zA38 hi, zA38 hi] at e
  exact (Option.some.inj e).symm
theorem hp_a39 {u : hS} (h : hp J u g = hp J s g) {i : Nat} (hi : i < 8) : s 39 i = u 39 i := by
  have e : hA (hp J u g) 39 0 (nI i) = hA (hp J s g) 39 0 (nI i) := by rw [h]
  rw [zA39 hi, zA39 hi] at e
  exact (Option.some.inj e).symm
theorem hp_a40 {u : hS} (h : hp J u g = hp J s g) {i : Nat} (hi : i < 8) : s 40 i = u 40 i := by
  have e : hA (hp J u g) 40 0 (nI i) = hA (hp J s g) 40 0 (nI i) := by rw [h]
  rw [zA40 hi, zA40 hi] at e
  exact (Option.some.inj e).symm
theorem hp_a42 {u : hS} (h : hp J u g = hp J s g) {i : Nat} (hi : i < 160) : s 42 i = u 42 i := by
  have e : hA (hp J u g) 42 0 (nI i) = hA (hp J s g) 42 0 (nI i) := by rw [h]
  rw [zA42 hi, zA42 hi] at e
  exact (Option.some.inj e).symm
theorem hp_a44 {u : hS} (h : hp J u g = hp J s g) {i : Nat} (hi : i < 36) : s 44 i = u 44 i := by
  have e : hA (hp J u g) 44 0 (nI i) = hA (hp J s g) 44 0 (nI i) := by rw [h]
  rw [zA44 hi, zA44 hi] at e
  exact (Option.some.inj e).symm
theorem hp_o33 {u : hS} (h : hp J u g = hp J s g) {j : Nat} (hj : j < 5) : s 33 j = u 33 j := by
  have q : j = 0 ∨ j = 1 ∨ j = 2 ∨ j = 3 ∨ j = 4 := by omega
  rcases q with rfl | rfl | rfl | rfl | rfl
  · have e : hO (hp J u g) 33 8 0 = hO (hp J s g) 33 8 0 := by rw [h]
    rw [zO33_0, zO33_0] at e
    exact (Value.int.inj (Option.some.inj e)).symm
  · have e : hO (hp J u g) 33 8 1 = hO (hp J s g) 33 8 1 := by rw [h]
    rw [zO33_1, zO33_1] at e
    exact (Value.int.inj (Option.some.inj e)).symm
  · have e : hO (hp J u g) 33 8 2 = hO (hp J s g) 33 8 2 := by rw [h]
    rw [zO33_2, zO33_2] at e
    exact (Value.int.inj (Option.some.inj e)).symm
  · have e : hO (hp J u g) 33 8 3 = hO (hp J s g) 33 8 3 := by rw [h]
    rw [zO33_3, zO33_3] at e
    exact (Value.int.inj (Option.some.inj e)).symm
  · have e : hO (hp J u g) 33 8 4 = hO (hp J s g) 33 8 4 := by rw [h]
    rw [zO33_4, zO33_4] at e
    exact (Value.int.inj (Option.some.inj e)).symm
theorem hp_o41 {u : hS} (h : hp J u g = hp J s g) {j : Nat} (hj : j < 1) : s 41 j = u 41 j := by
  have q : j = 0 := by omega
  rcases q with rfl
  have e : hO (hp J u g) 41 0 0 = hO (hp J s g) 41 0 0 := by rw [h]
  rw [zO41_0, zO41_0] at e
  exact (Value.int.inj (Option.some.inj e)).symm
theorem hp_o43 {u : hS} (h : hp J u g = hp J s g) {j : Nat} (hj : j < 3) : s 43 j = u 43 j := by
  have q : j = 0 ∨ j = 1 ∨ j = 2 := by omega
  rcases q with rfl | rfl | rfl
  · have e : hO (hp J u g) 43 4 0 = hO (hp J s g) 43 4 0 := by rw [h]
    rw [zO43_0, zO43_0] at e
    exact (Value.int.inj (Option.some.inj e)).symm
  · have e : hO (hp J u g) 43 4 1 = hO (hp J s g) 43 4 1 := by rw [h]
    rw [zO43_1, zO43_1] at e
    exact (Value.int.inj (Option.some.inj e)).symm
  · have e : hO (hp J u g) 43 4 2 = hO (hp J s g) 43 4 2 := by rw [h]
    rw [zO43_2, zO43_2] at e
    exact (Value.int.inj (Option.some.inj e)).symm
theorem hp_o32_3 {u : hS} (h : hp J u g = hp J s g) : s 32 3 = u 32 3 := by
  have e : hO (hp J u g) 32 5 3 = hO (hp J s g) 32 5 3 := by rw [h]
  rw [zO32_3, zO32_3] at e
  exact (Value.int.inj (Option.some.inj e)).symm
theorem hp_o32_4 {u : hS} (h : hp J u g = hp J s g) : s 32 4 = u 32 4 := by
  have e : hO (hp J u g) 32 5 4 = hO (hp J s g) 32 5 4 := by rw [h]
  rw [zO32_4, zO32_4] at e
  exact (Value.int.inj (Option.some.inj e)).symm
theorem cl_keepDraft {so k : Nat} (hso : so < 3) (hk : k < 2) : ∃ x : hS, Runs xs sl (d+1+1) 5 0 [some (.ref (0)), some (.int ( nI so)), some (.int ( nI k))] [] (hp J (s) g) (none, hp J x g) ∧ (∀ c, c < loB so k ∨ hiB so k < c → x c = s c) ∧ (∀ (u t : hS), hp J u g = hp J s g → GD so u t → ∀ R : Nat → Int32, (∀ i, i < szO so → R (plO so k + i) = t 84 i) → NQ so k x R) := by
  have n10 : ¬ (1 : Int32) = 0 := by decide
  have q : so = 0 ∨ so = 1 ∨ so = 2 := by omega
  have q2 : k = 0 ∨ k = 1 := by omega
  have l0 : ¬ (0 : Int32) < 0 := by decide
  have l1 : ¬ (1 : Int32) < 0 := by decide
  have m0 : ((0 : Int32) < 2) = True := eq_true (by decide)
  have m1 : ((1 : Int32) < 2) = True := eq_true (by decide)
  rcases q with rfl | rfl | rfl
  · rcases q2 with rfl | rfl
    · obtain ⟨x, r, f, e0, e1, e2, e3, e4, e5, e6, e7⟩ := @ct_copy7 xs sl d J s g
      have i1 := fun r' => Runs.iff (r := r') r
      have wq : hQ (hp J s g) 2 0 = some (.ref 7) := zQ2 (i := 0) (by decide)
      have wc : hC (hp J s g) 7 = some 8 := zC7
      refine ⟨x, ?_, fun c hc => f c hc, fun u t hu ⟨n, li, h, sa, c, G, T, hW, g1, g2⟩ R hR => ⟨n, li, h, sa, c, TW_Q hW g1 g2 (fun j hj => (e0 j hj).trans (hp_o33 hu hj)) (fun i hi => (e1 i hi).trans (hp_a34 hu hi)) (fun i hi => (e2 i hi).trans (hp_a35 hu hi)) (fun i hi => (e3 i hi).trans (hp_a36 hu hi)) (fun i hi => (e4 i hi).trans (hp_a37 hu hi)) (fun i hi => (e5 i hi).trans (hp_a38 hu hi)) (fun i hi => (e6 i hi).trans (hp_a39 hu hi)) (fun i hi => (e7 i hi).trans (hp_a40 hu hi)) hR⟩⟩
      rw [show nI 0 = (0 : Int32) from rfl]
      simp (disch := first | omega | assumption | exact Or.inl rfl | exact Or.inr rfl | exact bI_or _ | exact zC81 | exact zC47 | exact zC65 | exact zC0 | exact zC1 | exact zC32 | exact zC70 | exact zC73 | exact ztc (by assumption) | exact zdc (by assumption) | exact zpc (by assumption) | decide) only [Option.some.injEq, exists_eq_left', ex2, Option.toList, List.singleton_append, List.append_nil, List.cons_append, List.nil_append, nI_add, nI_addL, nI_Ladd, pk_mul, nI_mulL, nI_Lmul, nI_subL, pk_sub, nI_divL, sub_dm, nI_leE, nI_ltE, nI_eqE, nI_Lle, nI_leL, nI_Llt, nI_ltL, nI_eqL, va_up_self, va_up_ne, up_up, up_comm, nI_clamp, bI_eq0, not_true_eq_false, not_false_eq_true, Nat.reduceEqDiff, Nat.reduceLeDiff, Nat.reduceAdd, Nat.reduceMul, Nat.one_ne_zero, Nat.zero_ne_one, decide_eq_false_iff_not, decide_eq_true_eq, Bool.false_eq_true, decide_true, decide_false, bI_true, bI_false, one_ne, Nat.le_refl, Nat.lt_irrefl, cleT, cleF, cltT, cltF, ceqT, ceqF, ↓reduceIte, r5_0, r5_1, r5_4, r5_5, r5_6, r5_9, r5_10, r5_11_c0, r5_11_c1, r5_11_d, r5_36, r5_37, r5_40, r5_43, r5_44, r5_45, r5_46, r5_49, r5_52, r5_55, r5_58, r5_59, r5_62, r5_65, r5_66, r5_67, r5_68, r5_71, r5_74, r5_77, r5_80, r5_81, r5_84, r5_87, r5_88, r5_89, r5_90, r5_93, r5_96, r5_99, zO0_0, zO0_2, zO1_0, zO1_1, zO1_2, zO32_0, zO32_1, zO32_2, wq, i1, l0, l1, m0, m1]
    · obtain ⟨x, r, f, e0, e1, e2, e3, e4, e5, e6, e7⟩ := @ct_copy19 xs sl d J s g
      have i1 := fun r' => Runs.iff (r := r') r
      have wq : hQ (hp J s g) 2 1 = some (.ref 19) := zQ2 (i := 1) (by decide)
      have wc : hC (hp J s g) 19 = some 8 := zC19
      refine ⟨x, ?_, fun c hc => f c hc, fun u t hu ⟨n, li, h, sa, c, G, T, hW, g1, g2⟩ R hR => ⟨n, li, h, sa, c, TW_Q hW g1 g2 (fun j hj => (e0 j hj).trans (hp_o33 hu hj)) (fun i hi => (e1 i hi).trans (hp_a34 hu hi)) (fun i hi => (e2 i hi).trans (hp_a35 hu hi)) (fun i hi => (e3 i hi).trans (hp_a36 hu hi)) (fun i hi => (e4 i hi).trans (hp_a37 hu hi)) (fun i hi => (e5 i hi).trans (hp_a38 hu hi)) (fun i hi => (e6 i hi).trans (hp_a39 hu hi)) (fun i hi => (e7 i hi).trans (hp_a40 hu hi)) hR⟩⟩
      rw [show nI 0 = (0 : Int32) from rfl, show nI 1 = (1 : Int32) from rfl]
      simp (disch := first | omega | assumption | exact Or.inl rfl | exact Or.inr rfl | exact bI_or _ | exact zC81 | exact zC47 | exact zC65 | exact zC0 | exact zC1 | exact zC32 | exact zC70 | exact zC73 | exact ztc (by assumption) | exact zdc (by assumption) | exact zpc (by assumption) | decide) only [Option.some.injEq, exists_eq_left', ex2, Option.toList, List.singleton_append, List.append_nil, List.cons_append, List.nil_append, nI_add, nI_addL, nI_Ladd, pk_mul, nI_mulL, nI_Lmul, nI_subL, pk_sub, nI_divL, sub_dm, nI_leE, nI_ltE, nI_eqE, nI_Lle, nI_leL, nI_Llt, nI_ltL, nI_eqL, va_up_self, va_up_ne, up_up, up_comm, nI_clamp, bI_eq0, not_true_eq_false, not_false_eq_true, Nat.reduceEqDiff, Nat.reduceLeDiff, Nat.reduceAdd, Nat.reduceMul, Nat.one_ne_zero, Nat.zero_ne_one, decide_eq_false_iff_not, decide_eq_true_eq, Bool.false_eq_true, decide_true, decide_false, bI_true, bI_false, one_ne, Nat.le_refl, Nat.lt_irrefl, cleT, cleF, cltT, cltF, ceqT, ceqF, ↓reduceIte, r5_0, r5_1, r5_4, r5_5, r5_6, r5_9, r5_10, r5_11_c0, r5_11_c1, r5_11_d, r5_36, r5_37, r5_40, r5_43, r5_44, r5_45, r5_46, r5_49, r5_52, r5_55, r5_58, r5_59, r5_62, r5_65, r5_66, r5_67, r5_68, r5_71, r5_74, r5_77, r5_80, r5_81, r5_84, r5_87, r5_88, r5_89, r5_90, r5_93, r5_96, r5_99, zO0_0, zO0_2, zO1_0, zO1_1, zO1_2, zO32_0, zO32_1, zO32_2, wq, i1, l0, l1, m0, m1]
  · rcases q2 with rfl | rfl
    · obtain ⟨x, r, f, e0, e1⟩ := @cd_copy15 xs sl d J s g
      have i1 := fun r' => Runs.iff (r := r') r
      have wq : hQ (hp J s g) 3 0 = some (.ref 15) := zQ3 (i := 0) (by decide)
      have wc : hC (hp J s g) 15 = some 0 := zC15
      refine ⟨x, ?_, fun c hc => f c hc, fun u t hu ⟨D, hW⟩ R hR => ⟨D, DW_Q hW (e0.trans (hp_o41 hu (by decide))) (fun i hi => (e1 i hi).trans (hp_a42 hu hi)) hR⟩⟩
      rw [show nI 0 = (0 : Int32) from rfl, show nI 1 = (1 : Int32) from rfl]
      simp (disch := first | omega | assumption | exact Or.inl rfl | exact Or.inr rfl | exact bI_or _ | exact zC81 | exact zC47 | exact zC65 | exact zC0 | exact zC1 | exact zC32 | exact zC70 | exact zC73 | exact ztc (by assumption) | exact zdc (by assumption) | exact zpc (by assumption) | decide) only [Option.some.injEq, exists_eq_left', ex2, Option.toList, List.singleton_append, List.append_nil, List.cons_append, List.nil_append, nI_add, nI_addL, nI_Ladd, pk_mul, nI_mulL, nI_Lmul, nI_subL, pk_sub, nI_divL, sub_dm, nI_leE, nI_ltE, nI_eqE, nI_Lle, nI_leL, nI_Llt, nI_ltL, nI_eqL, va_up_self, va_up_ne, up_up, up_comm, nI_clamp, bI_eq0, not_true_eq_false, not_false_eq_true, Nat.reduceEqDiff, Nat.reduceLeDiff, Nat.reduceAdd, Nat.reduceMul, Nat.one_ne_zero, Nat.zero_ne_one, decide_eq_false_iff_not, decide_eq_true_eq, Bool.false_eq_true, decide_true, decide_false, bI_true, bI_false, one_ne, Nat.le_refl, Nat.lt_irrefl, cleT, cleF, cltT, cltF, ceqT, ceqF, ↓reduceIte, r5_0, r5_1, r5_4, r5_5, r5_6, r5_9, r5_10, r5_11_c0, r5_11_c1, r5_11_d, r5_36, r5_37, r5_40, r5_43, r5_44, r5_45, r5_46, r5_49, r5_52, r5_55, r5_58, r5_59, r5_62, r5_65, r5_66, r5_67, r5_68, r5_71, r5_74, r5_77, r5_80, r5_81, r5_84, r5_87, r5_88, r5_89, r5_90, r5_93, r5_96, r5_99, zO0_0, zO0_2, zO1_0, zO1_1, zO1_2, zO32_0, zO32_1, zO32_2, wq, i1, l0, l1, m0, m1]
    · obtain ⟨x, r, f, e0, e1⟩ := @cd_copy27 xs sl d J s g
      have i1 := fun r' => Runs.iff (r := r') r
      have wq : hQ (hp J s g) 3 1 = some (.ref 27) := zQ3 (i := 1) (by decide)
      have wc : hC (hp J s g) 27 = some 0 := zC27
      refine ⟨x, ?_, fun c hc => f c hc, fun u t hu ⟨D, hW⟩ R hR => ⟨D, DW_Q hW (e0.trans (hp_o41 hu (by decide))) (fun i hi => (e1 i hi).trans (hp_a42 hu hi)) hR⟩⟩
      rw [show nI 1 = (1 : Int32) from rfl]
      simp (disch := first | omega | assumption | exact Or.inl rfl | exact Or.inr rfl | exact bI_or _ | exact zC81 | exact zC47 | exact zC65 | exact zC0 | exact zC1 | exact zC32 | exact zC70 | exact zC73 | exact ztc (by assumption) | exact zdc (by assumption) | exact zpc (by assumption) | decide) only [Option.some.injEq, exists_eq_left', ex2, Option.toList, List.singleton_append, List.append_nil, List.cons_append, List.nil_append, nI_add, nI_addL, nI_Ladd, pk_mul, nI_mulL, nI_Lmul, nI_subL, pk_sub, nI_divL, sub_dm, nI_leE, nI_ltE, nI_eqE, nI_Lle, nI_leL, nI_Llt, nI_ltL, nI_eqL, va_up_self, va_up_ne, up_up, up_comm, nI_clamp, bI_eq0, not_true_eq_false, not_false_eq_true, Nat.reduceEqDiff, Nat.reduceLeDiff, Nat.reduceAdd, Nat.reduceMul, Nat.one_ne_zero, Nat.zero_ne_one, decide_eq_false_iff_not, decide_eq_true_eq, Bool.false_eq_true, decide_true, decide_false, bI_true, bI_false, one_ne, Nat.le_refl, Nat.lt_irrefl, cleT, cleF, cltT, cltF, ceqT, ceqF, ↓reduceIte, r5_0, r5_1, r5_4, r5_5, r5_6, r5_9, r5_10, r5_11_c0, r5_11_c1, r5_11_d, r5_36, r5_37, r5_40, r5_43, r5_44, r5_45, r5_46, r5_49, r5_52, r5_55, r5_58, r5_59, r5_62, r5_65, r5_66, r5_67, r5_68, r5_71, r5_74, r5_77, r5_80, r5_81, r5_84, r5_87, r5_88, r5_89, r5_90, r5_93, r5_96, r5_99, zO0_0, zO0_2, zO1_0, zO1_1, zO1_2, zO32_0, zO32_1, zO32_2, wq, i1, l0, l1, m0, m1]
  · rcases q2 with rfl | rfl
    · obtain ⟨x, r, f, e0, e1⟩ := @cq_copy17 xs sl d J s g
      have i1 := fun r' => Runs.iff (r := r') r
      have wq : hQ (hp J s g) 4 0 = some (.ref 17) := zQ4 (i := 0) (by decide)
      have wc : hC (hp J s g) 17 = some 4 := zC17
      refine ⟨x, ?_, fun c hc => f c hc, fun u t hu ⟨n, li, c, T, hW, g2⟩ R hR => ⟨n, li, c, PW_Q hW g2 (fun j hj => (e0 j hj).trans (hp_o43 hu hj)) (fun i hi => (e1 i hi).trans (hp_a44 hu hi)) hR⟩⟩
      rw [show nI 0 = (0 : Int32) from rfl, show nI 2 = (2 : Int32) from rfl]
      simp (disch := first | omega | assumption | exact Or.inl rfl | exact Or.inr rfl | exact bI_or _ | exact zC81 | exact zC47 | exact zC65 | exact zC0 | exact zC1 | exact zC32 | exact zC70 | exact zC73 | exact ztc (by assumption) | exact zdc (by assumption) | exact zpc (by assumption) | decide) only [Option.some.injEq, exists_eq_left', ex2, Option.toList, List.singleton_append, List.append_nil, List.cons_append, List.nil_append, nI_add, nI_addL, nI_Ladd, pk_mul, nI_mulL, nI_Lmul, nI_subL, pk_sub, nI_divL, sub_dm, nI_leE, nI_ltE, nI_eqE, nI_Lle, nI_leL, nI_Llt, nI_ltL, nI_eqL, va_up_self, va_up_ne, up_up, up_comm, nI_clamp, bI_eq0, not_true_eq_false, not_false_eq_true, Nat.reduceEqDiff, Nat.reduceLeDiff, Nat.reduceAdd, Nat.reduceMul, Nat.one_ne_zero, Nat.zero_ne_one, decide_eq_false_iff_not, decide_eq_true_eq, Bool.false_eq_true, decide_true, decide_false, bI_true, bI_false, one_ne, Nat.le_refl, Nat.lt_irrefl, cleT, cleF, cltT, cltF, ceqT, ceqF, ↓reduceIte, r5_0, r5_1, r5_4, r5_5, r5_6, r5_9, r5_10, r5_11_c0, r5_11_c1, r5_11_d, r5_36, r5_37, r5_40, r5_43, r5_44, r5_45, r5_46, r5_49, r5_52, r5_55, r5_58, r5_59, r5_62, r5_65, r5_66, r5_67, r5_68, r5_71, r5_74, r5_77, r5_80, r5_81, r5_84, r5_87, r5_88, r5_89, r5_90, r5_93, r5_96, r5_99, zO0_0, zO0_2, zO1_0, zO1_1, zO1_2, zO32_0, zO32_1, zO32_2, wq, i1, l0, l1, m0, m1]
    · obtain ⟨x, r, f, e0, e1⟩ := @cq_copy29 xs sl d J s g
      have i1 := fun r' => Runs.iff (r := r') r
      have wq : hQ (hp J s g) 4 1 = some (.ref 29) := zQ4 (i := 1) (by decide)
      have wc : hC (hp J s g) 29 = some 4 := zC29
      refine ⟨x, ?_, fun c hc => f c hc, fun u t hu ⟨n, li, c, T, hW, g2⟩ R hR => ⟨n, li, c, PW_Q hW g2 (fun j hj => (e0 j hj).trans (hp_o43 hu hj)) (fun i hi => (e1 i hi).trans (hp_a44 hu hi)) hR⟩⟩
      rw [show nI 1 = (1 : Int32) from rfl, show nI 2 = (2 : Int32) from rfl]
      simp (disch := first | omega | assumption | exact Or.inl rfl | exact Or.inr rfl | exact bI_or _ | exact zC81 | exact zC47 | exact zC65 | exact zC0 | exact zC1 | exact zC32 | exact zC70 | exact zC73 | exact ztc (by assumption) | exact zdc (by assumption) | exact zpc (by assumption) | decide) only [Option.some.injEq, exists_eq_left', ex2, Option.toList, List.singleton_append, List.append_nil, List.cons_append, List.nil_append, nI_add, nI_addL, nI_Ladd, pk_mul, nI_mulL, nI_Lmul, nI_subL, pk_sub, nI_divL, sub_dm, nI_leE, nI_ltE, nI_eqE, nI_Lle, nI_leL, nI_Llt, nI_ltL, nI_eqL, va_up_self, va_up_ne, up_up, up_comm, nI_clamp, bI_eq0, not_true_eq_false, not_false_eq_true, Nat.reduceEqDiff, Nat.reduceLeDiff, Nat.reduceAdd, Nat.reduceMul, Nat.one_ne_zero, Nat.zero_ne_one, decide_eq_false_iff_not, decide_eq_true_eq, Bool.false_eq_true, decide_true, decide_false, bI_true, bI_false, one_ne, Nat.le_refl, Nat.lt_irrefl, cleT, cleF, cltT, cltF, ceqT, ceqF, ↓reduceIte, r5_0, r5_1, r5_4, r5_5, r5_6, r5_9, r5_10, r5_11_c0, r5_11_c1, r5_11_d, r5_36, r5_37, r5_40, r5_43, r5_44, r5_45, r5_46, r5_49, r5_52, r5_55, r5_58, r5_59, r5_62, r5_65, r5_66, r5_67, r5_68, r5_71, r5_74, r5_77, r5_80, r5_81, r5_84, r5_87, r5_88, r5_89, r5_90, r5_93, r5_96, r5_99, zO0_0, zO0_2, zO1_0, zO1_1, zO1_2, zO32_0, zO32_1, zO32_2, wq, i1, l0, l1, m0, m1]
theorem ToldR_put {C C' : hS} {R R' : Nat → Int32} {so k cs cs' : Nat} (hso : so < 3) (hk : k < 2) (hT : ToldR C R) (hcs : C 5 so = nI cs) (hcs2 : cs ≤ 2) (h1 : C' 5 so = nI cs') (h2 : R' so = nI cs') (h3 : cs' ≤ 2) (h4 : ∀ k', k' < cs' → k' = k ∨ k' < cs) (h5 : ∀ j, j < 3 → j ≠ so → C' 5 j = C 5 j ∧ R' j = R j) (f1 : ∀ c, 7 ≤ c → c < 31 → c < loB so k ∨ hiB so k < c → C' c = C c) (f2 : ∀ i, 610 ≤ i → i < 1268 → i < plO so k ∨ plO so k + szO so ≤ i → R' i = R i) (hN : NQ so k C' R') (e1 : C' 1 5 = 0) (e2 : R' 4 = 0) (e4 : C' 1 6 = R' 5) (e5 : C' 1 7 = R' 6) : ToldR C' R' := by
  obtain ⟨c0, c1, c2, l0, ⟨q0, q0', q0''⟩, ⟨r0, r0', r0''⟩, ⟨p0, p0', p0''⟩, -, -, -, hT, hD, hP⟩ := hT
  have nin : ∀ a b : Nat, a ≤ 2 → b ≤ 2 → nI a = nI b → a = b := by
    intro a b ha hb h
    have := congrArg Int32.toInt h
    rw [nI_toInt (by omega), nI_toInt (by omega)] at this
    omega
  have q : so = 0 ∨ so = 1 ∨ so = 2 := by omega
  rcases q with rfl | rfl | rfl
  · have ec : c0 = cs := nin _ _ q0'' hcs2 (q0.symm.trans hcs)
    subst ec
    have f1 : ∀ c, 7 ≤ c → c < 31 → c < 7 + 12 * k ∨ 14 + 12 * k < c → C' c = C c := f1
    have f2 : ∀ i, 610 ≤ i → i < 1268 → i < 610 + 129 * k ∨ 610 + 129 * k + 129 ≤ i → R' i = R i := f2
    refine ⟨cs', c1, c2, 0, ⟨h1, h2, h3⟩, ⟨by rw [(h5 1 (by decide) (by decide)).1]; exact r0, by rw [(h5 1 (by decide) (by decide)).2]; exact r0', r0''⟩, ⟨by rw [(h5 2 (by decide) (by decide)).1]; exact p0, by rw [(h5 2 (by decide) (by decide)).2]; exact p0', p0''⟩, ⟨e1, e2, by decide⟩, ⟨e4, e5⟩, fun i hi => by omega, fun k' hk' => ?_, fun k' hk' => ?_, fun k' hk' => ?_⟩
    · by_cases c : k' = k
      · subst c; exact hN
      · obtain ⟨n, li, h, sa, c', hQ⟩ := hT k' (by have := h4 k' hk'; omega)
        exact ⟨n, li, h, sa, c', TownQ_fr (fun j hj => f1 _ (by omega) (by omega) (by omega)) (fun i hi => f2 _ (by omega) (by omega) (by omega)) hQ⟩
    · obtain ⟨D, hQ⟩ := hD k' hk'
      exact ⟨D, DaysQ_fr (f1 _ (by omega) (by omega) (by omega)) (f1 _ (by omega) (by omega) (by omega)) (fun i hi => f2 _ (by omega) (by omega) (by omega)) hQ⟩
    · obtain ⟨n, li, c', hQ⟩ := hP k' hk'
      exact ⟨n, li, c', PlateQ_fr (f1 _ (by omega) (by omega) (by omega)) (f1 _ (by omega) (by omega) (by omega)) (fun i hi => f2 _ (by omega) (by omega) (by omega)) hQ⟩
  · have ec : c1 = cs := nin _ _ r0'' hcs2 (r0.symm.trans hcs)
    subst ec
    have f1 : ∀ c, 7 ≤ c → c < 31 → c < 15 + 12 * k ∨ 16 + 12 * k < c → C' c = C c := f1
    have f2 : ∀ i, 610 ≤ i → i < 1268 → i < 868 + 161 * k ∨ 868 + 161 * k + 161 ≤ i → R' i = R i := f2
    refine ⟨c0, cs', c2, 0, ⟨by rw [(h5 0 (by decide) (by decide)).1]; exact q0, by rw [(h5 0 (by decide) (by decide)).2]; exact q0', q0''⟩, ⟨h1, h2, h3⟩, ⟨by rw [(h5 2 (by decide) (by decide)).1]; exact p0, by rw [(h5 2 (by decide) (by decide)).2]; exact p0', p0''⟩, ⟨e1, e2, by decide⟩, ⟨e4, e5⟩, fun i hi => by omega, fun k' hk' => ?_, fun k' hk' => ?_, fun k' hk' => ?_⟩
    · obtain ⟨n, li, h, sa, c', hQ⟩ := hT k' hk'
      exact ⟨n, li, h, sa, c', TownQ_fr (fun j hj => f1 _ (by omega) (by omega) (by omega)) (fun i hi => f2 _ (by omega) (by omega) (by omega)) hQ⟩
    · by_cases c : k' = k
      · subst c; exact hN
      · obtain ⟨D, hQ⟩ := hD k' (by have := h4 k' hk'; omega)
        exact ⟨D, DaysQ_fr (f1 _ (by omega) (by omega) (by omega)) (f1 _ (by omega) (by omega) (by omega)) (fun i hi => f2 _ (by omega) (by omega) (by omega)) hQ⟩
    · obtain ⟨n, li, c', hQ⟩ := hP k' hk'
      exact ⟨n, li, c', PlateQ_fr (f1 _ (by omega) (by omega) (by omega)) (f1 _ (by omega) (by omega) (by omega)) (fun i hi => f2 _ (by omega) (by omega) (by omega)) hQ⟩
  · have ec : c2 = cs := nin _ _ p0'' hcs2 (p0.symm.trans hcs)
    subst ec
    have f1 : ∀ c, 7 ≤ c → c < 31 → c < 17 + 12 * k ∨ 18 + 12 * k < c → C' c = C c := f1
    have f2 : ∀ i, 610 ≤ i → i < 1268 → i < 1190 + 39 * k ∨ 1190 + 39 * k + 39 ≤ i → R' i = R i := f2
    refine ⟨c0, c1, cs', 0, ⟨by rw [(h5 0 (by decide) (by decide)).1]; exact q0, by rw [(h5 0 (by decide) (by decide)).2]; exact q0', q0''⟩, ⟨by rw [(h5 1 (by decide) (by decide)).1]; exact r0, by rw [(h5 1 (by decide) (by decide)).2]; exact r0', r0''⟩, ⟨h1, h2, h3⟩, ⟨e1, e2, by decide⟩, ⟨e4, e5⟩, fun i hi => by omega, fun k' hk' => ?_, fun k' hk' => ?_, fun k' hk' => ?_⟩
    · obtain ⟨n, li, h, sa, c', hQ⟩ := hT k' hk'
      exact ⟨n, li, h, sa, c', TownQ_fr (fun j hj => f1 _ (by omega) (by omega) (by omega)) (fun i hi => f2 _ (by omega) (by omega) (by omega)) hQ⟩
    · obtain ⟨D, hQ⟩ := hD k' hk'
      exact ⟨D, DaysQ_fr (f1 _ (by omega) (by omega) (by omega)) (f1 _ (by omega) (by omega) (by omega)) (fun i hi => f2 _ (by omega) (by omega) (by omega)) hQ⟩
    · by_cases c : k' = k
      · subst c; exact hN
      · obtain ⟨n, li, c', hQ⟩ := hP k' (by have := h4 k' hk'; omega)
        exact ⟨n, li, c', PlateQ_fr (f1 _ (by omega) (by omega) (by omega)) (f1 _ (by omega) (by omega) (by omega)) (fun i hi => f2 _ (by omega) (by omega) (by omega)) hQ⟩
end TXZL
