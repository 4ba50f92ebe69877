/-! IMAGES: all that is told, copied -/
section IMG
variable {xs : Nat → Int32} {sl d : Nat} {H H' : mH}
theorem hCp_of {a b t n m c : Nat} {f g : Nat → Int32} (ha : H.1 a = some (mI t n f)) (hb : H.1 b = some (mI t m g)) (ht : t < 2) (h1 : c ≤ n) (h2 : c ≤ m) (hc : c < 2 ^ 31) (hf : t = 0 ∨ ∀ i, i < c → fits .byte (.int (f i)) = true) : hCp H a b 0 0 (nI c) = some (mset H b (mI t m (va_cpy f g 0 0 c))) := by
  unfold hCp
  rw [ha, hb]
  dsimp only
  have e : (nI c).toNatClampNeg = c := nI_clamp hc
  have e0 : (0 : Int32).toNatClampNeg = 0 := rfl
  have n0 := nI_pos hc
  rw [e, e0, Nat.zero_add, if_neg (by rintro (h | h | h | h | h | h) <;> first | exact h ⟨ht, rfl⟩ | exact absurd h (by decide) | exact n0 h | omega), if_pos (hf.imp id (fun h i hi => by rw [Nat.zero_add]; exact h i hi))]
/-- a copy of an array: the heap behind it -/
theorem cp_arr {a b t n : Nat} {f g : Nat → Int32} (ha : H.1 a = some (mI t n f)) (hb : H.1 b = some (mI t n g)) (ht : t < 2) (hn : n < 2 ^ 31) (hf : t = 0 ∨ ∀ i, i < n → fits .byte (.int (f i)) = true) : ∃ H1, hCp H a b 0 0 (nI n) = some H1 ∧ H1.1 b = some (mI t n (va_cpy f g 0 0 n)) ∧ (∀ j, j ≠ b → H1.1 j = H.1 j) ∧ H1.2 = H.2 := ⟨_, hCp_of ha hb ht (Nat.le_refl n) (Nat.le_refl n) hn hf, if_pos rfl, fun j hj => if_neg hj, rfl⟩
theorem tw_put {a k : Nat} {S : Nat → Int32} {A : Nat → Nat → Int32} {v : Int32} (h : isTown H a S A) (hk : k < 5) : ∃ H1, hOw H a 8 k (.int v) = some H1 ∧ isTown H1 a (va_up S k v) A ∧ (∀ j, j ≠ a → H1.1 j = H.1 j) ∧ H1.2 = H.2 := by
  obtain ⟨H1, e1, e2, e3, e4⟩ := h.1.put k (.int v)
  refine ⟨H1, e1, ⟨?_, fun j hj => by rw [e3 _ (by omega)]; exact h.2 j hj⟩, e3, e4⟩
  obtain ⟨F, f1, f2⟩ := e2
  refine ⟨F, f1, fun j hj => ?_⟩
  rw [f2 j hj]
  unfold townF
  by_cases c : j = k
  · subst c
    rw [va_up_self, if_pos hk, va_up_self]
  · rw [va_up_ne _ _ c]
    by_cases c2 : j < 5
    · rw [if_pos c2, if_pos c2, va_up_ne _ _ c]
    · rw [if_neg c2, if_neg c2]
theorem tw_cp {a b j : Nat} {S S' : Nat → Int32} {A A' : Nat → Nat → Int32} (h : isTown H a S A) (h' : isTown H b S' A') (hj : j < 7) (hab : a + 8 ≤ b ∨ b + 8 ≤ a) : ∃ H1, hCp H (b + 1 + j) (a + 1 + j) 0 0 (nI (townLen j)) = some H1 ∧ isTown H1 a S (va_up A j (va_cpy (A' j) (A j) 0 0 (townLen j))) ∧ (∀ k, k ≠ a + 1 + j → H1.1 k = H.1 k) ∧ H1.2 = H.2 := by
  obtain ⟨H1, e1, e2, e3, e4⟩ := cp_arr (h'.2 j hj) (h.2 j hj) (by decide) (by unfold townLen; split <;> decide) (Or.inl rfl)
  refine ⟨H1, e1, ⟨h.1.kept (e3 a (by omega)), fun i hi => ?_⟩, e3, e4⟩
  by_cases c : i = j
  · subst c
    rw [va_up_self]
    exact e2
  · rw [va_up_ne _ _ c, e3 _ (by omega)]
    exact h.2 i hi
set_option maxHeartbeats 1000000 in
theorem tw_copy {a b : Nat} {S S' : Nat → Int32} {A A' : Nat → Nat → Int32} (h : isTown H a S A) (h' : isTown H b S' A') (hab : a + 8 ≤ b ∨ b + 8 ≤ a) : ∃ (H2 : mH) (S2 : Nat → Int32) (A2 : Nat → Nat → Int32), Runs xs sl (d + 1) 150 0 [some (.ref a), some (.ref b)] [] H (none, H2) ∧ isTown H2 a S2 A2 ∧ (∀ k, k < 5 → S2 k = S' k) ∧ (∀ j, j < 7 → ∀ i, i < townLen j → A2 j i = A' j i) ∧ (∀ x, ¬ (a ≤ x ∧ x < a + 8) → H2.1 x = H.1 x) ∧ H2.2 = H.2 := by
  obtain ⟨H0, p0, i0, k0, z0⟩ := tw_put (v := S' 0) h (k := 0) (by decide)
  have g0 : isTown H0 b S' A' := h'.kept (fun k _ _ => k0 k (by omega))
  obtain ⟨H1, p1, i1, k1, z1⟩ := tw_put (v := S' 1) i0 (k := 1) (by decide)
  have g1 : isTown H1 b S' A' := g0.kept (fun k _ _ => k1 k (by omega))
  obtain ⟨H2, p2, i2, k2, z2⟩ := tw_put (v := S' 2) i1 (k := 2) (by decide)
  have g2 : isTown H2 b S' A' := g1.kept (fun k _ _ => k2 k (by omega))
  obtain ⟨H3, p3, i3, k3, z3⟩ := tw_put (v := S' 3) i2 (k := 3) (by decide)
  have g3 : isTown H3 b S' A' := g2.kept (fun k _ _ => k3 k (by omega))
  obtain ⟨H4, p4, i4, k4, z4⟩ := tw_put (v := S' 4) i3 (k := 4) (by decide)
  have g4 : isTown H4 b S' A' := g3.kept (fun k _ _ => k4 k (by omega))
  obtain ⟨H5, p5, i5, k5, z5⟩ := tw_cp i4 g4 (j := 0) (by decide) hab
  have g5 : isTown H5 b S' A' := g4.kept (fun k _ _ => k5 k (by omega))
  obtain ⟨H6, p6, i6, k6, z6⟩ := tw_cp i5 g5 (j := 1) (by decide) hab
  have g6 : isTown H6 b S' A' := g5.kept (fun k _ _ => k6 k (by omega))
  obtain ⟨H7, p7, i7, k7, z7⟩ := tw_cp i6 g6 (j := 2) (by decide) hab
  have g7 : isTown H7 b S' A' := g6.kept (fun k _ _ => k7 k (by omega))
  obtain ⟨H8, p8, i8, k8, z8⟩ := tw_cp i7 g7 (j := 3) (by decide) hab
  have g8 : isTown H8 b S' A' := g7.kept (fun k _ _ => k8 k (by omega))
  obtain ⟨H9, p9, i9, k9, z9⟩ := tw_cp i8 g8 (j := 4) (by decide) hab
  have g9 : isTown H9 b S' A' := g8.kept (fun k _ _ => k9 k (by omega))
  obtain ⟨Ha, pa, ia, ka, za⟩ := tw_cp i9 g9 (j := 5) (by decide) hab
  have ga : isTown Ha b S' A' := g9.kept (fun k _ _ => ka k (by omega))
  obtain ⟨Hb, pb, ib, kb, zb⟩ := tw_cp ia ga (j := 6) (by decide) hab
  refine ⟨Hb, _, _, ?_, ib, fun k hk => ?_, fun j hj i hi => ?_, fun x hx => ?_, by rw [zb, za, z9, z8, z7, z6, z5, z4, z3, z2, z1, z0]⟩
  · have n0 := h'.num 0 (by decide)
    have n1 := g0.num 1 (by decide)
    have n2 := g1.num 2 (by decide)
    have n3 := g2.num 3 (by decide)
    have n4 := g3.num 4 (by decide)
    have q5 := g4.row 5 (by decide) (by decide)
    have q6 := g5.row 6 (by decide) (by decide)
    have q7 := g6.row 7 (by decide) (by decide)
    have q8 := g7.row 8 (by decide) (by decide)
    have q9 := g8.row 9 (by decide) (by decide)
    have qa := g9.row 10 (by decide) (by decide)
    have qb := ga.row 11 (by decide) (by decide)
    have s5 := i4.row 5 (by decide) (by decide)
    have s6 := i5.row 6 (by decide) (by decide)
    have s7 := i6.row 7 (by decide) (by decide)
    have s8 := i7.row 8 (by decide) (by decide)
    have s9 := i8.row 9 (by decide) (by decide)
    have sa := i9.row 10 (by decide) (by decide)
    have sb := ia.row 11 (by decide) (by decide)
    simp only [Nat.reduceSub, Nat.add_zero] at q5 q6 q7 q8 q9 qa qb s5 s6 s7 s8 s9 sa sb p5 p6 p7 p8 p9 pa pb
    have p5 : hCp H4 (b + 1) (a + 1) 0 0 8 = some H5 := p5
    have p6 : hCp H5 (b + 1 + 1) (a + 1 + 1) 0 0 8 = some H6 := p6
    have p7 : hCp H6 (b + 1 + 2) (a + 1 + 2) 0 0 8 = some H7 := p7
    have p8 : hCp H7 (b + 1 + 3) (a + 1 + 3) 0 0 48 = some H8 := p8
    have p9 : hCp H8 (b + 1 + 4) (a + 1 + 4) 0 0 36 = some H9 := p9
    have pa : hCp H9 (b + 1 + 5) (a + 1 + 5) 0 0 8 = some Ha := pa
    have pb : hCp Ha (b + 1 + 6) (a + 1 + 6) 0 0 8 = some Hb := pb
    simp only [r150_0, r150_1, r150_1n, r150_2, r150_5, r150_8, r150_9, r150_9n, r150_10, r150_13, r150_16, r150_17, r150_17n, r150_18, r150_21, r150_24, r150_25, r150_25n, r150_26, r150_29, r150_32, r150_33, r150_33n, r150_34, r150_37, r150_40, r150_40n, r150_41, r150_44, r150_45, r150_46, r150_49, r150_50, r150_52, r150_55, r150_55n, r150_56, r150_59, r150_60, r150_61, r150_64, r150_65, r150_67, r150_70, r150_70n, r150_71, r150_74, r150_75, r150_76, r150_79, r150_80, r150_82, r150_85, r150_85n, r150_86, r150_89, r150_90, r150_91, r150_94, r150_95, r150_97, r150_100, r150_100n, r150_101, r150_104, r150_105, r150_106, r150_109, r150_110, r150_112, r150_115, r150_115n, r150_116, r150_119, r150_120, r150_121, r150_124, r150_125, r150_127, r150_130, r150_130n, r150_131, r150_134, r150_135, r150_136, r150_139, r150_140, r150_142, r150_145, n0, n1, n2, n3, n4, p0, p1, p2, p3, p4, q5, s5, p5, q6, s6, p6, q7, s7, p7, q8, s8, p8, q9, s9, p9, qa, sa, pa, qb, sb, pb, Option.some.injEq, exists_eq_left']
  · have h5 : k = 0 ∨ k = 1 ∨ k = 2 ∨ k = 3 ∨ k = 4 := by omega
    rcases h5 with rfl | rfl | rfl | rfl | rfl <;> simp [va_up]
  · have h7 : j = 0 ∨ j = 1 ∨ j = 2 ∨ j = 3 ∨ j = 4 ∨ j = 5 ∨ j = 6 := by omega
    rcases h7 with rfl | rfl | rfl | rfl | rfl | rfl | rfl
    · rw [va_up_ne _ _ (by decide), va_up_ne _ _ (by decide), va_up_ne _ _ (by decide), va_up_ne _ _ (by decide), va_up_ne _ _ (by decide), va_up_ne _ _ (by decide), va_up_self, pk_cpy_in (by omega) (by omega)]; congr 1; omega
    · rw [va_up_ne _ _ (by decide), va_up_ne _ _ (by decide), va_up_ne _ _ (by decide), va_up_ne _ _ (by decide), va_up_ne _ _ (by decide), va_up_self, pk_cpy_in (by omega) (by omega)]; congr 1; omega
    · rw [va_up_ne _ _ (by decide), va_up_ne _ _ (by decide), va_up_ne _ _ (by decide), va_up_ne _ _ (by decide), va_up_self, pk_cpy_in (by omega) (by omega)]; congr 1; omega
    · rw [va_up_ne _ _ (by decide), va_up_ne _ _ (by decide), va_up_ne _ _ (by decide), va_up_self, pk_cpy_in (by omega) (by omega)]; congr 1; omega
    · rw [va_up_ne _ _ (by decide), va_up_ne _ _ (by decide), va_up_self, pk_cpy_in (by omega) (by omega)]; congr 1; omega
    · rw [va_up_ne _ _ (by decide), va_up_self, pk_cpy_in (by omega) (by omega)]; congr 1; omega
    · rw [va_up_self, pk_cpy_in (by omega) (by omega)]; congr 1; omega
  · rw [kb x (by omega), ka x (by omega), k9 x (by omega), k8 x (by omega), k7 x (by omega), k6 x (by omega), k5 x (by omega), k4 x (by omega), k3 x (by omega), k2 x (by omega), k1 x (by omega), k0 x (by omega)]
theorem dy_copy {a b : Nat} {n n' : Int32} {f f' : Nat → Int32} (h : isDays H a n f) (h' : isDays H b n' f') (hab : a + 2 ≤ b ∨ b + 2 ≤ a) : ∃ (H2 : mH) (f2 : Nat → Int32), Runs xs sl (d + 1) 48 0 [some (.ref a), some (.ref b)] [] H (none, H2) ∧ isDays H2 a n' f2 ∧ (∀ i, i < 160 → f2 i = f' i) ∧ (∀ x, ¬ (a ≤ x ∧ x < a + 2) → H2.1 x = H.1 x) ∧ H2.2 = H.2 := by
  obtain ⟨H0, p0, i0, k0, z0⟩ := h.1.put 0 (.int n')
  have g0 : isDays H0 b n' f' := ⟨h'.1.kept (k0 b (by omega)), by rw [k0 _ (by omega)]; exact h'.2⟩
  have a0 : H0.1 (a + 1) = some (mI 0 160 f) := by rw [k0 _ (by omega)]; exact h.2
  obtain ⟨H1, p1, i1, k1, z1⟩ := cp_arr g0.2 a0 (by decide) (by decide) (Or.inl rfl)
  have o0 : hO H b 0 0 = some (.int n') := h'.1.get 0 (by decide)
  have o1 : hO H0 b 0 1 = some (.ref (b + 1)) := g0.1.get 1 (by decide)
  have o2 := i0.get 1 (by decide)
  rw [va_up_ne _ _ (by decide)] at o2
  have o2 : hO H0 a 0 1 = some (.ref (a + 1)) := o2
  have p1 : hCp H0 (b + 1) (a + 1) 0 0 160 = some H1 := p1
  refine ⟨H1, _, ?_, ⟨?_, i1⟩, fun i hi => by rw [pk_cpy_in (by omega) (by omega)]; congr 1; omega, fun x hx => by rw [k1 x (by omega), k0 x (by omega)], by rw [z1, z0]⟩
  · simp only [r48_0, r48_1, r48_1n, r48_2, r48_5, r48_8, r48_8n, r48_9, r48_12, r48_13, r48_14, r48_17, r48_18, r48_21, r48_24, o0, p0, o1, o2, p1, Option.some.injEq, exists_eq_left', if_true, if_false, Nat.one_ne_zero, ↓reduceIte]
  · obtain ⟨F, f1, f2⟩ := i0.kept (k1 a (by omega))
    refine ⟨F, f1, fun k hk => ?_⟩
    rw [f2 k hk]
    have h2 : k = 0 ∨ k = 1 := by omega
    rcases h2 with rfl | rfl <;> simp [va_up, daysF]
theorem pl_copy {a b : Nat} {S S' f f' : Nat → Int32} (h : isPlate H a S f) (h' : isPlate H b S' f') (hab : a + 2 ≤ b ∨ b + 2 ≤ a) : ∃ (H2 : mH) (f2 : Nat → Int32), Runs xs sl (d + 1) 83 0 [some (.ref a), some (.ref b)] [] H (none, H2) ∧ isPlate H2 a S' f2 ∧ (∀ i, i < 36 → f2 i = f' i) ∧ (∀ x, ¬ (a ≤ x ∧ x < a + 2) → H2.1 x = H.1 x) ∧ H2.2 = H.2 := by
  obtain ⟨H0, p0, i0, k0, z0⟩ := h.1.put 0 (.int (S' 0))
  have g0 : isPlate H0 b S' f' := ⟨h'.1.kept (k0 b (by omega)), by rw [k0 _ (by omega)]; exact h'.2⟩
  obtain ⟨H1, p1, i1, k1, z1⟩ := i0.put 1 (.int (S' 1))
  have g1 : isPlate H1 b S' f' := ⟨g0.1.kept (k1 b (by omega)), by rw [k1 _ (by omega)]; exact g0.2⟩
  obtain ⟨H2, p2, i2, k2, z2⟩ := i1.put 2 (.int (S' 2))
  have g2 : isPlate H2 b S' f' := ⟨g1.1.kept (k2 b (by omega)), by rw [k2 _ (by omega)]; exact g1.2⟩
  have a2 : H2.1 (a + 1) = some (mI 0 36 f) := by rw [k2 _ (by omega), k1 _ (by omega), k0 _ (by omega)]; exact h.2
  obtain ⟨H3, p3, i3, k3, z3⟩ := cp_arr g2.2 a2 (by decide) (by decide) (Or.inl rfl)
  have o0 : hO H b 4 0 = some (.int (S' 0)) := h'.1.get 0 (by decide)
  have o1 : hO H0 b 4 1 = some (.int (S' 1)) := g0.1.get 1 (by decide)
  have o2 : hO H1 b 4 2 = some (.int (S' 2)) := g1.1.get 2 (by decide)
  have o3 : hO H2 b 4 3 = some (.ref (b + 1)) := g2.1.get 3 (by decide)
  have o4 := i2.get 3 (by decide)
  rw [va_up_ne _ _ (by decide), va_up_ne _ _ (by decide), va_up_ne _ _ (by decide)] at o4
  have o4 : hO H2 a 4 3 = some (.ref (a + 1)) := o4
  have p3 : hCp H2 (b + 1) (a + 1) 0 0 36 = some H3 := p3
  refine ⟨H3, _, ?_, ⟨?_, i3⟩, fun i hi => by rw [pk_cpy_in (by omega) (by omega)]; congr 1; omega, fun x hx => by rw [k3 x (by omega), k2 x (by omega), k1 x (by omega), k0 x (by omega)], by rw [z3, z2, z1, z0]⟩
  · simp only [r83_0, r83_1, r83_1n, r83_2, r83_5, r83_8, r83_9, r83_9n, r83_10, r83_13, r83_16, r83_17, r83_17n, r83_18, r83_21, r83_24, r83_24n, r83_25, r83_28, r83_29, r83_30, r83_33, r83_34, r83_36, r83_39, o0, p0, o1, p1, o2, p2, o3, o4, p3, Option.some.injEq, exists_eq_left', if_true, if_false, Nat.reduceLT, Nat.lt_irrefl, ↓reduceIte]
  · obtain ⟨F, f1, f2⟩ := i2.kept (k3 a (by omega))
    refine ⟨F, f1, fun k hk => ?_⟩
    rw [f2 k hk]
    have h2 : k = 0 ∨ k = 1 ∨ k = 2 ∨ k = 3 := by omega
    rcases h2 with rfl | rfl | rfl | rfl <;> simp [va_up, plateF]
end IMG
