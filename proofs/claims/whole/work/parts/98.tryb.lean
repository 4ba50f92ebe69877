/-! FITS: the class's next try -/
section TRB
variable {xs : Nat → Int32} {sl d : Nat} {J : hJk} {s x y : hS} {g : hG}
def gx (k v : Nat) : Nat := (bvF k (nI v - 3) (nI v - 3) true + 3).toNatClampNeg
theorem gx7 : ∀ k, k < 5 → ∀ v, v < 7 → bvF k (nI v - 3) (nI v - 3) true + 3 = nI (gx k v) ∧ gx k v < 7 := by decide +kernel
def gsum (f : Nat → Nat) (k v j : Nat) : Nat := sumN (fun u => if gx k u = j then f u else 0) v
def isMx (G : Nat → Nat) (r : Nat) : Prop := (∀ j, j < 7 → G j ≤ r) ∧ ∃ j, j < 7 ∧ r = G j
def mx7 (G : Nat → Nat) : Nat := it (fun j b => if b < G j then G j else b) 7 0
theorem isMx_uq {G : Nat → Nat} {a b : Nat} (h1 : isMx G a) (h2 : isMx G b) : a = b := by
  obtain ⟨p1, i, hi, p2⟩ := h1
  obtain ⟨q1, j, hj, q2⟩ := h2
  have a1 := p1 j hj
  have a2 := q1 i hi
  omega
theorem mx7_is (G : Nat → Nat) : isMx G (mx7 G) := by
  have q : ∀ n, (∀ j, j < n → G j ≤ it (fun j b => if b < G j then G j else b) n 0) ∧ (it (fun j b => if b < G j then G j else b) n 0 = 0 ∨ ∃ j, j < n ∧ it (fun j b => if b < G j then G j else b) n 0 = G j) := by
    intro n
    induction n with
    | zero => exact ⟨fun j h => absurd h (by omega), Or.inl rfl⟩
    | succ n ih =>
      have e : it (fun j b => if b < G j then G j else b) (n + 1) 0 = if it (fun j b => if b < G j then G j else b) n 0 < G n then G n else it (fun j b => if b < G j then G j else b) n 0 := rfl
      generalize it (fun j b => if b < G j then G j else b) n 0 = b at *
      rw [e]
      obtain ⟨i1, i2⟩ := ih
      by_cases c : b < G n
      · rw [if_pos c]
        refine ⟨fun j hj => ?_, Or.inr ⟨n, by omega, rfl⟩⟩
        by_cases z : j = n
        · rw [z]
          exact Nat.le_refl _
        · have := i1 j (by omega)
          omega
      · rw [if_neg c]
        refine ⟨fun j hj => ?_, ?_⟩
        · by_cases z : j = n
          · rw [z]
            omega
          · exact i1 j (by omega)
        · rcases i2 with z | ⟨j, hj, z⟩
          · exact Or.inl z
          · exact Or.inr ⟨j, by omega, z⟩
  obtain ⟨q1, q2⟩ := q 7
  refine ⟨q1, ?_⟩
  rcases q2 with z | z
  · have h := q1 0 (by decide)
    exact ⟨0, by decide, by unfold mx7; omega⟩
  · exact z
theorem gsum_le {f : Nat → Nat} {k j : Nat} : ∀ v, gsum f k v j ≤ sumN f v := by
  intro v
  induction v with
  | zero => exact Nat.le_refl _
  | succ v ih =>
    have e1 : gsum f k (v + 1) j = gsum f k v j + (if gx k v = j then f v else 0) := rfl
    have e2 : sumN f (v + 1) = sumN f v + f v := rfl
    rw [e1, e2]
    split <;> omega
theorem sumN_up {f : Nat → Nat} {v : Nat} : ∀ n, v ≤ n → sumN f v ≤ sumN f n := by
  intro n
  induction n with
  | zero =>
    intro h
    have z : v = 0 := by omega
    rw [z]
    exact Nat.le_refl _
  | succ n ih =>
    intro h
    by_cases c : v ≤ n
    · have e2 : sumN f (n + 1) = sumN f n + f n := rfl
      have := ih c
      omega
    · have z : v = n + 1 := by omega
      rw [z]
      exact Nat.le_refl _
theorem gs_greatestGroup {t k : Nat} {f : Nat → Nat} (ht : t < 6) (hk : k < 5) (hk0 : ¬ k = 0) (hf : ∀ v, v < 7 → s 77 (7 * t + v) = nI (f v)) (hB : sumN f 7 ≤ 200000) : ∃ s' : hS, Runs xs sl (d+2) 58 0 [some (.ref (73)), some (.int ( nI k)), some (.int ( nI t)), none, none, none] [] (hp J (s) g) (some (.int (nI (mx7 (gsum f k 7)))), hp J s' g) ∧ ∀ c, c ≠ 80 → s' c = s c := by
  have fi := fun (s : hS) => @zx_fill xs sl (d + 1) J s g 80 7 0 (fun s => zL80) (fun s i v hi => zS80 hi) (by decide)
  generalize hs0 : va_up s 80 (va_cpy (fun _ => 0) (s 80) 0 0 7) = s0
  obtain ⟨⟨s1, b⟩, ⟨q1, q2, q3⟩, q4⟩ := up_loop (Q := fun v (a : hS × Nat) => (∀ c, c ≠ 80 → a.1 c = s c) ∧ (∀ j, j < 7 → a.1 80 j = nI (gsum f k v j)) ∧ isMx (gsum f k v) a.2) (P := fun v (a : hS × Nat) (z : Option Value × mH) => ∀ l5, Runs xs sl (d+2) 58 13 [some (.ref (73)), some (.int ( nI k)), some (.int ( nI t)), some (.int ( nI a.2)), some (.int ( nI v)), l5] [] (hp J (a.1) g) z) 7 (by
    intro v ⟨s1, b⟩ hv hQ
    obtain ⟨q1, q2, q3⟩ := hQ
    dsimp only at q1 q2 q3
    obtain ⟨g1, g2⟩ := gx7 k hk v hv
    generalize hj : gx k v = j0 at *
    have e : ∀ j, gsum f k (v + 1) j = gsum f k v j + (if gx k v = j then f v else 0) := fun _ => rfl
    have e0 : gsum f k (v + 1) j0 = gsum f k v j0 + f v := by rw [e, if_pos hj]
    have ex : ∀ j, j ≠ j0 → gsum f k (v + 1) j = gsum f k v j := fun j h => by rw [e, if_neg (by omega)]; rfl
    have u1 : gsum f k v j0 + f v ≤ 200000 := by
      rw [← e0]
      exact Nat.le_trans (gsum_le _) (Nat.le_trans (sumN_up 7 (by omega)) hB)
    have u2 : b ≤ 200000 := by
      obtain ⟨-, j, hj, z⟩ := q3
      rw [z]
      exact Nat.le_trans (gsum_le _) (Nat.le_trans (sumN_up 7 (by omega)) hB)
    have f77 : s1 77 (7 * t + v) = nI (f v) := by rw [q1 77 (by decide)]; exact hf v hv
    have f80 := q2 j0 g2
    have vk := @sc_viewOfKind xs sl d J s1 g k (nI v - 3) hk hk0
    refine ⟨(va_up s1 80 (va_up (s1 80) j0 (nI (gsum f k v j0 + f v))), if b < gsum f k v j0 + f v then gsum f k v j0 + f v else b), ⟨fun c hc => ?_, fun j hj => ?_, ?_⟩, fun z hz l5 => ?_⟩
    · dsimp only
      rw [va_up_ne _ _ hc]
      exact q1 c hc
    · dsimp only
      rw [va_up_self]
      by_cases c : j = j0
      · subst c
        rw [va_up_self, e0]
      · rw [va_up_ne _ _ c, ex j c]
        exact q2 j hj
    · dsimp only
      obtain ⟨m1, j, hj2, m2⟩ := q3
      by_cases c : b < gsum f k v j0 + f v
      · rw [if_pos c]
        refine ⟨fun j hj => ?_, j0, g2, e0.symm⟩
        by_cases c2 : j = j0
        · subst c2
          omega
        · rw [ex j c2]
          have := m1 j hj
          omega
      · rw [if_neg c]
        refine ⟨fun j hj => ?_, ?_⟩
        · by_cases c2 : j = j0
          · subst c2
            omega
          · rw [ex j c2]
            exact m1 j hj
        · by_cases c2 : j = j0
          · subst c2
            exact ⟨j, g2, by omega⟩
          · exact ⟨j, hj2, by rw [ex j c2]; exact m2⟩
    · dsimp only at hz ⊢
      rw [apply_ite nI] at hz
      rw [r58_13]
      simp (disch := first | omega | assumption | exact Or.inl rfl | exact Or.inr rfl | exact bI_or _ | exact zC81 | exact zC47 | exact zC65 | exact zC0 | exact zC1 | exact zC32 | exact zC70 | exact zC73 | exact ztc (by assumption) | exact zdc (by assumption) | exact zpc (by assumption) | decide) only [Option.some.injEq, exists_eq_left', ex2, Option.toList, List.singleton_append, List.append_nil, List.cons_append, List.nil_append, nI_add, nI_addL, nI_Ladd, pk_mul, nI_mulL, nI_Lmul, nI_subL, pk_sub, nI_divL, sub_dm, nI_leE, nI_ltE, nI_eqE, nI_Lle, nI_leL, nI_Llt, nI_ltL, nI_eqL, va_up_self, va_up_ne, up_up, up_comm, nI_clamp, bI_eq0, not_true_eq_false, not_false_eq_true, Nat.reduceEqDiff, Nat.reduceLeDiff, Nat.reduceAdd, Nat.reduceMul, Nat.one_ne_zero, Nat.zero_ne_one, decide_eq_false_iff_not, decide_eq_true_eq, Bool.false_eq_true, decide_true, decide_false, bI_true, bI_false, one_ne, Nat.le_refl, Nat.lt_irrefl, cleT, cleF, cltT, cltF, ceqT, ceqF, ↓reduceIte, r58_15, r58_17, r58_20, r58_21, r58_23, r58_24, r58_25, r58_28, r58_29, r58_30, r58_32, r58_33, r58_36, r58_38, r58_39, r58_40, r58_41, r58_44, r58_45, r58_47, r58_48, r58_50, r58_51, r58_52, r58_53, r58_54, r58_55, r58_56, r58_59, r58_61, r58_62, r58_65, r58_66, r58_69, zO73_2, zO73_5, vk, g1, zA80, zA77, zS80, f77, f80, zx_max]
      exact hz _) (s0, 0) ⟨fun c hc => by dsimp only; rw [← hs0, va_up_ne _ _ hc], fun j hj => by
      dsimp only
      rw [← hs0, va_up_self, pk_cpy_in (by omega) (by omega)]
      rfl, ⟨fun j hj => Nat.le_refl _, 0, by decide, rfl⟩⟩
  dsimp only at q1 q2 q3 q4
  rw [isMx_uq q3 (mx7_is _)] at q4
  refine ⟨s1, ?_, q1⟩
  simp (disch := first | omega | assumption | exact Or.inl rfl | exact Or.inr rfl | exact bI_or _ | exact zC81 | exact zC47 | exact zC65 | exact zC0 | exact zC1 | exact zC32 | exact zC70 | exact zC73 | exact ztc (by assumption) | exact zdc (by assumption) | exact zpc (by assumption) | decide) only [Option.some.injEq, exists_eq_left', ex2, Option.toList, List.singleton_append, List.append_nil, List.cons_append, List.nil_append, nI_add, nI_addL, nI_Ladd, pk_mul, nI_mulL, nI_Lmul, nI_subL, pk_sub, nI_divL, sub_dm, nI_leE, nI_ltE, nI_eqE, nI_Lle, nI_leL, nI_Llt, nI_ltL, nI_eqL, va_up_self, va_up_ne, up_up, up_comm, nI_clamp, bI_eq0, not_true_eq_false, not_false_eq_true, Nat.reduceEqDiff, Nat.reduceLeDiff, Nat.reduceAdd, Nat.reduceMul, Nat.one_ne_zero, Nat.zero_ne_one, decide_eq_false_iff_not, decide_eq_true_eq, Bool.false_eq_true, decide_true, decide_false, bI_true, bI_false, one_ne, Nat.le_refl, Nat.lt_irrefl, cleT, cleF, cltT, cltF, ceqT, ceqF, ↓reduceIte, r58_0, r58_1, r58_4, r58_5, r58_8, r58_9, r58_10, r58_11, zO73_5, fi, hs0]
  refine q4 _ ?_ none
  intro l5
  rw [r58_13]
  simp (disch := first | omega | assumption | exact Or.inl rfl | exact Or.inr rfl | exact bI_or _ | exact zC81 | exact zC47 | exact zC65 | exact zC0 | exact zC1 | exact zC32 | exact zC70 | exact zC73 | exact ztc (by assumption) | exact zdc (by assumption) | exact zpc (by assumption) | decide) only [Option.some.injEq, exists_eq_left', ex2, Option.toList, List.singleton_append, List.append_nil, List.cons_append, List.nil_append, nI_add, nI_addL, nI_Ladd, pk_mul, nI_mulL, nI_Lmul, nI_subL, pk_sub, nI_divL, sub_dm, nI_leE, nI_ltE, nI_eqE, nI_Lle, nI_leL, nI_Llt, nI_ltL, nI_eqL, va_up_self, va_up_ne, up_up, up_comm, nI_clamp, bI_eq0, not_true_eq_false, not_false_eq_true, Nat.reduceEqDiff, Nat.reduceLeDiff, Nat.reduceAdd, Nat.reduceMul, Nat.one_ne_zero, Nat.zero_ne_one, decide_eq_false_iff_not, decide_eq_true_eq, Bool.false_eq_true, decide_true, decide_false, bI_true, bI_false, one_ne, Nat.le_refl, Nat.lt_irrefl, cleT, cleF, cltT, cltF, ceqT, ceqF, ↓reduceIte, r58_15, r58_17, r58_72, r58_73]
/-- the next try: best, least -/
def nxS (n : Nat) (G : Nat → Nat → Nat) (i : Nat) (a : Int32 × Nat) : Int32 × Nat := if ¬ (i + 6) / 6 = 2 ∧ (i + 6) % 6 < n ∧ G ((i + 6) / 6) ((i + 6) % 6) < a.2 then (nI (i + 6), G ((i + 6) / 6) ((i + 6) % 6)) else a
theorem gs_nextTry {p n : Nat} {F : Nat → Nat → Nat} (hip : isP p) (h0 : s 73 0 = nI p) (hn : s p 0 = nI n) (hn6 : n ≤ 6) (hf : ∀ t v, t < n → v < 7 → s 77 (7 * t + v) = nI (F t v)) (hB : ∀ t, t < n → sumN (F t) 7 ≤ 200000) : ∃ s' : hS, Runs xs sl (d+3) 57 0 [some (.ref (73)), none, none, none, none, none] [] (hp J (s) g) (some (.int (it (nxS n (fun k t => mx7 (gsum (F t) k 7))) 24 (-9, 1000000)).1), hp J s' g) ∧ ∀ c, c ≠ 80 → s' c = s c := by
  have hpp : p = 17 ∨ p = 29 ∨ p = 43 ∨ p = 74 := hip
  generalize hG : (fun k t => mx7 (gsum (F t) k 7)) = G
  have GB : ∀ k t, t < n → G k t ≤ 200000 := fun k t ht => by
    rw [← hG]
    obtain ⟨-, j, hj, z⟩ := mx7_is (gsum (F t) k 7)
    dsimp only
    rw [z]
    exact Nat.le_trans (gsum_le _) (hB t ht)
  have AB : ∀ i, (it (nxS n G) i (-9, 1000000)).2 ≤ 1000000 := by
    intro i
    induction i with
    | zero => exact Nat.le_refl _
    | succ i ih =>
      have e : it (nxS n G) (i + 1) (-9, 1000000) = nxS n G i (it (nxS n G) i (-9, 1000000)) := rfl
      rw [e]
      generalize it (nxS n G) i (-9, 1000000) = a at ih ⊢
      unfold nxS
      split
      · dsimp only
        omega
      · exact ih
  obtain ⟨s1, q1, q2⟩ := up_loop (Q := fun i (s1 : hS) => ∀ c, c ≠ 80 → s1 c = s c) (P := fun i (s1 : hS) (z : Option Value × mH) => ∀ l4 l5, Runs xs sl (d+3) 57 9 [some (.ref (73)), some (.int ( (it (nxS n G) i (-9, 1000000)).1)), some (.int ( nI (it (nxS n G) i (-9, 1000000)).2)), some (.int ( nI (i + 6))), l4, l5] [] (hp J (s1) g) z) 24 (by
    intro i s1 hi q1
    have e : it (nxS n G) (i + 1) (-9, 1000000) = nxS n G i (it (nxS n G) i (-9, 1000000)) := rfl
    have ab := AB i
    generalize it (nxS n G) i (-9, 1000000) = a at *
    obtain ⟨a1, a2⟩ := a
    have f0 : s1 73 0 = nI p := by rw [q1 73 (by decide)]; exact h0
    have fn : s1 p 0 = nI n := by rw [q1 p (by omega)]; exact hn
    by_cases c2 : (i + 6) / 6 = 2
    · refine ⟨s1, q1, fun z hz l4 l5 => ?_⟩
      rw [e, nxS, if_neg (by omega)] at hz
      dsimp only at hz ⊢
      rw [r57_9]
      simp (disch := first | omega | assumption | exact Or.inl rfl | exact Or.inr rfl | exact bI_or _ | exact zC81 | exact zC47 | exact zC65 | exact zC0 | exact zC1 | exact zC32 | exact zC70 | exact zC73 | exact ztc (by assumption) | exact zdc (by assumption) | exact zpc (by assumption) | decide) only [Option.some.injEq, exists_eq_left', ex2, Option.toList, List.singleton_append, List.append_nil, List.cons_append, List.nil_append, nI_add, nI_addL, nI_Ladd, pk_mul, nI_mulL, nI_Lmul, nI_subL, pk_sub, nI_divL, sub_dm, nI_leE, nI_ltE, nI_eqE, nI_Lle, nI_leL, nI_Llt, nI_ltL, nI_eqL, va_up_self, va_up_ne, up_up, up_comm, nI_clamp, bI_eq0, not_true_eq_false, not_false_eq_true, Nat.reduceEqDiff, Nat.reduceLeDiff, Nat.reduceAdd, Nat.reduceMul, Nat.one_ne_zero, Nat.zero_ne_one, decide_eq_false_iff_not, decide_eq_true_eq, Bool.false_eq_true, decide_true, decide_false, bI_true, bI_false, one_ne, Nat.le_refl, Nat.lt_irrefl, cleT, cleF, cltT, cltF, ceqT, ceqF, ↓reduceIte, r57_10, r57_12, r57_15, r57_16, r57_18, r57_19, r57_21, r57_23, r57_24, r57_27, r57_28, r57_30, r57_31, r57_32, r57_35, r57_38, r57_41, r57_42, r57_45, r57_46, r57_48, r57_50, r57_53, r57_54, r57_56, r57_57, r57_59, r57_60, r57_63, r57_64, r57_67, r57_68, r57_70, r57_71, r57_73, r57_74, r57_77, r57_78, r57_79, r57_79_1, r57_80, r57_83, c2]
      exact hz _ _
    by_cases c3 : (i + 6) % 6 < n
    · obtain ⟨s2, g1, g2⟩ := @gs_greatestGroup xs sl d J s1 g ((i + 6) % 6) ((i + 6) / 6) (F ((i + 6) % 6)) (by omega) (by omega) (by omega) (fun v hv => by rw [q1 77 (by decide)]; exact hf _ v c3 hv) (hB _ c3)
      obtain ⟨s3, g3, g4⟩ := @gs_greatestGroup xs sl d J s2 g ((i + 6) % 6) ((i + 6) / 6) (F ((i + 6) % 6)) (by omega) (by omega) (by omega) (fun v hv => by rw [g2 77 (by decide), q1 77 (by decide)]; exact hf _ v c3 hv) (hB _ c3)
      have eG : mx7 (gsum (F ((i + 6) % 6)) ((i + 6) / 6) 7) = G ((i + 6) / 6) ((i + 6) % 6) := by rw [← hG]
      have gb := GB ((i + 6) / 6) ((i + 6) % 6) c3
      rw [eG] at g1 g3
      generalize hw : G ((i + 6) / 6) ((i + 6) % 6) = w at g1 g3 gb
      dsimp only at ab
      by_cases c4 : w < a2
      · refine ⟨s3, fun c hc => by rw [g4 c hc, g2 c hc]; exact q1 c hc, fun z hz l4 l5 => ?_⟩
        rw [e, nxS, hw, if_pos ⟨c2, c3, c4⟩] at hz
        dsimp only at hz ⊢
        rw [r57_9]
        simp (disch := first | omega | assumption | exact Or.inl rfl | exact Or.inr rfl | exact bI_or _ | exact zC81 | exact zC47 | exact zC65 | exact zC0 | exact zC1 | exact zC32 | exact zC70 | exact zC73 | exact ztc (by assumption) | exact zdc (by assumption) | exact zpc (by assumption) | decide) only [Option.some.injEq, exists_eq_left', ex2, Option.toList, List.singleton_append, List.append_nil, List.cons_append, List.nil_append, nI_add, nI_addL, nI_Ladd, pk_mul, nI_mulL, nI_Lmul, nI_subL, pk_sub, nI_divL, sub_dm, nI_leE, nI_ltE, nI_eqE, nI_Lle, nI_leL, nI_Llt, nI_ltL, nI_eqL, va_up_self, va_up_ne, up_up, up_comm, nI_clamp, bI_eq0, not_true_eq_false, not_false_eq_true, Nat.reduceEqDiff, Nat.reduceLeDiff, Nat.reduceAdd, Nat.reduceMul, Nat.one_ne_zero, Nat.zero_ne_one, decide_eq_false_iff_not, decide_eq_true_eq, Bool.false_eq_true, decide_true, decide_false, bI_true, bI_false, one_ne, Nat.le_refl, Nat.lt_irrefl, cleT, cleF, cltT, cltF, ceqT, ceqF, ↓reduceIte, r57_10, r57_12, r57_15, r57_16, r57_18, r57_19, r57_21, r57_23, r57_24, r57_27, r57_28, r57_30, r57_31, r57_32, r57_35, r57_38, r57_41, r57_42, r57_45, r57_46, r57_48, r57_50, r57_53, r57_54, r57_56, r57_57, r57_59, r57_60, r57_63, r57_64, r57_67, r57_68, r57_70, r57_71, r57_73, r57_74, r57_77, r57_78, r57_79, r57_79_1, r57_80, r57_83, c2, c3, c4, zO73_0, f0, zpc, zpo0, zpw0, zpo1, zpw1, zpo2, zpw2, zpo3, zpl1, zpa1, zps1, fn, g1.iff, g3.iff]
        exact hz _ _
      · refine ⟨s2, fun c hc => by rw [g2 c hc]; exact q1 c hc, fun z hz l4 l5 => ?_⟩
        rw [e, nxS, hw, if_neg (fun h => c4 h.2.2)] at hz
        dsimp only at hz ⊢
        rw [r57_9]
        simp (disch := first | omega | assumption | exact Or.inl rfl | exact Or.inr rfl | exact bI_or _ | exact zC81 | exact zC47 | exact zC65 | exact zC0 | exact zC1 | exact zC32 | exact zC70 | exact zC73 | exact ztc (by assumption) | exact zdc (by assumption) | exact zpc (by assumption) | decide) only [Option.some.injEq, exists_eq_left', ex2, Option.toList, List.singleton_append, List.append_nil, List.cons_append, List.nil_append, nI_add, nI_addL, nI_Ladd, pk_mul, nI_mulL, nI_Lmul, nI_subL, pk_sub, nI_divL, sub_dm, nI_leE, nI_ltE, nI_eqE, nI_Lle, nI_leL, nI_Llt, nI_ltL, nI_eqL, va_up_self, va_up_ne, up_up, up_comm, nI_clamp, bI_eq0, not_true_eq_false, not_false_eq_true, Nat.reduceEqDiff, Nat.reduceLeDiff, Nat.reduceAdd, Nat.reduceMul, Nat.one_ne_zero, Nat.zero_ne_one, decide_eq_false_iff_not, decide_eq_true_eq, Bool.false_eq_true, decide_true, decide_false, bI_true, bI_false, one_ne, Nat.le_refl, Nat.lt_irrefl, cleT, cleF, cltT, cltF, ceqT, ceqF, ↓reduceIte, r57_10, r57_12, r57_15, r57_16, r57_18, r57_19, r57_21, r57_23, r57_24, r57_27, r57_28, r57_30, r57_31, r57_32, r57_35, r57_38, r57_41, r57_42, r57_45, r57_46, r57_48, r57_50, r57_53, r57_54, r57_56, r57_57, r57_59, r57_60, r57_63, r57_64, r57_67, r57_68, r57_70, r57_71, r57_73, r57_74, r57_77, r57_78, r57_79, r57_79_1, r57_80, r57_83, c2, c3, c4, zO73_0, f0, zpc, zpo0, zpw0, zpo1, zpw1, zpo2, zpw2, zpo3, zpl1, zpa1, zps1, fn, g1.iff]
        exact hz _ _
    · refine ⟨s1, q1, fun z hz l4 l5 => ?_⟩
      rw [e, nxS, if_neg (by omega)] at hz
      dsimp only at hz ⊢
      rw [r57_9]
      simp (disch := first | omega | assumption | exact Or.inl rfl | exact Or.inr rfl | exact bI_or _ | exact zC81 | exact zC47 | exact zC65 | exact zC0 | exact zC1 | exact zC32 | exact zC70 | exact zC73 | exact ztc (by assumption) | exact zdc (by assumption) | exact zpc (by assumption) | decide) only [Option.some.injEq, exists_eq_left', ex2, Option.toList, List.singleton_append, List.append_nil, List.cons_append, List.nil_append, nI_add, nI_addL, nI_Ladd, pk_mul, nI_mulL, nI_Lmul, nI_subL, pk_sub, nI_divL, sub_dm, nI_leE, nI_ltE, nI_eqE, nI_Lle, nI_leL, nI_Llt, nI_ltL, nI_eqL, va_up_self, va_up_ne, up_up, up_comm, nI_clamp, bI_eq0, not_true_eq_false, not_false_eq_true, Nat.reduceEqDiff, Nat.reduceLeDiff, Nat.reduceAdd, Nat.reduceMul, Nat.one_ne_zero, Nat.zero_ne_one, decide_eq_false_iff_not, decide_eq_true_eq, Bool.false_eq_true, decide_true, decide_false, bI_true, bI_false, one_ne, Nat.le_refl, Nat.lt_irrefl, cleT, cleF, cltT, cltF, ceqT, ceqF, ↓reduceIte, r57_10, r57_12, r57_15, r57_16, r57_18, r57_19, r57_21, r57_23, r57_24, r57_27, r57_28, r57_30, r57_31, r57_32, r57_35, r57_38, r57_41, r57_42, r57_45, r57_46, r57_48, r57_50, r57_53, r57_54, r57_56, r57_57, r57_59, r57_60, r57_63, r57_64, r57_67, r57_68, r57_70, r57_71, r57_73, r57_74, r57_77, r57_78, r57_79, r57_79_1, r57_80, r57_83, c2, c3, zO73_0, f0, zpc, zpo0, zpw0, zpo1, zpw1, zpo2, zpw2, zpo3, zpl1, zpa1, zps1, fn]
      exact hz _ _) s (fun _ _ => rfl)
  refine ⟨s1, ?_, q1⟩
  simp (disch := first | omega | assumption | exact Or.inl rfl | exact Or.inr rfl | exact bI_or _ | exact zC81 | exact zC47 | exact zC65 | exact zC0 | exact zC1 | exact zC32 | exact zC70 | exact zC73 | exact ztc (by assumption) | exact zdc (by assumption) | exact zpc (by assumption) | decide) only [Option.some.injEq, exists_eq_left', ex2, Option.toList, List.singleton_append, List.append_nil, List.cons_append, List.nil_append, nI_add, nI_addL, nI_Ladd, pk_mul, nI_mulL, nI_Lmul, nI_subL, pk_sub, nI_divL, sub_dm, nI_leE, nI_ltE, nI_eqE, nI_Lle, nI_leL, nI_Llt, nI_ltL, nI_eqL, va_up_self, va_up_ne, up_up, up_comm, nI_clamp, bI_eq0, not_true_eq_false, not_false_eq_true, Nat.reduceEqDiff, Nat.reduceLeDiff, Nat.reduceAdd, Nat.reduceMul, Nat.one_ne_zero, Nat.zero_ne_one, decide_eq_false_iff_not, decide_eq_true_eq, Bool.false_eq_true, decide_true, decide_false, bI_true, bI_false, one_ne, Nat.le_refl, Nat.lt_irrefl, cleT, cleF, cltT, cltF, ceqT, ceqF, ↓reduceIte, r57_0, r57_2, r57_2_1, r57_3, r57_5, r57_6, r57_8]
  refine q2 _ ?_ none none
  intro l4 l5
  rw [r57_9]
  simp (disch := first | omega | assumption | exact Or.inl rfl | exact Or.inr rfl | exact bI_or _ | exact zC81 | exact zC47 | exact zC65 | exact zC0 | exact zC1 | exact zC32 | exact zC70 | exact zC73 | exact ztc (by assumption) | exact zdc (by assumption) | exact zpc (by assumption) | decide) only [Option.some.injEq, exists_eq_left', ex2, Option.toList, List.singleton_append, List.append_nil, List.cons_append, List.nil_append, nI_add, nI_addL, nI_Ladd, pk_mul, nI_mulL, nI_Lmul, nI_subL, pk_sub, nI_divL, sub_dm, nI_leE, nI_ltE, nI_eqE, nI_Lle, nI_leL, nI_Llt, nI_ltL, nI_eqL, va_up_self, va_up_ne, up_up, up_comm, nI_clamp, bI_eq0, not_true_eq_false, not_false_eq_true, Nat.reduceEqDiff, Nat.reduceLeDiff, Nat.reduceAdd, Nat.reduceMul, Nat.one_ne_zero, Nat.zero_ne_one, decide_eq_false_iff_not, decide_eq_true_eq, Bool.false_eq_true, decide_true, decide_false, bI_true, bI_false, one_ne, Nat.le_refl, Nat.lt_irrefl, cleT, cleF, cltT, cltF, ceqT, ceqF, ↓reduceIte, r57_10, r57_12, r57_86, r57_87]
end TRB
