/-! FITS: the class weighs a plate -/
section WGH
variable {xs : Nat → Int32} {sl d : Nat} {J : hJk} {s x y : hS} {g : hG}
/-- a plate at p: n topics, li lies, c crumbs of kinds kd, on topics tp, with views vv -/
def pT (s : hS) (p n li c : Nat) (kd tp : Nat → Nat) (vv : Nat → Int32) : Prop := isP p ∧ p < 31 ∧ s p 0 = nI n ∧ n ≤ 6 ∧ s p 1 = nI li ∧ li ≤ 9 ∧ s p 2 = nI c ∧ c ≤ 12 ∧ ∀ i, i < c → s (p + 1) (3 * i) = nI (kd i) ∧ (kd i < 5 ∧ ¬ kd i = 0) ∧ s (p + 1) (3 * i + 1) = nI (tp i) ∧ tp i < n ∧ s (p + 1) (3 * i + 2) = vv i
def msB (kd tp : Nat → Nat) (vv : Nat → Int32) (t v i : Nat) : Bool := decide (tp i = t) && !decide (bvF (kd i) (nI v - 3) (nI v - 3) true = vv i)
def msF (kd tp : Nat → Nat) (vv : Nat → Int32) (c t v : Nat) : Nat := sumN (fun i => if msB kd tp vv t v i = true then 1 else 0) c
theorem msF_le {kd tp : Nat → Nat} {vv : Nat → Int32} {c t v : Nat} : msF kd tp vv c t v ≤ c := by
  have q := sumN_le (f := fun i => if msB kd tp vv t v i = true then 1 else 0) (B := 1) c (fun i _ => by split <;> omega)
  unfold msF
  omega
theorem pT_fr {s' : hS} {p n li c : Nat} {kd tp : Nat → Nat} {vv : Nat → Int32} (h : pT s p n li c kd tp vv) (e1 : s' p = s p) (e2 : s' (p + 1) = s (p + 1)) : pT s' p n li c kd tp vv := by
  unfold pT at *
  rw [e1, e2]
  exact h
theorem gs_countMisses {p n li c : Nat} {kd tp : Nat → Nat} {vv : Nat → Int32} (hP : pT s p n li c kd tp vv) (h0 : s 73 0 = nI p) : ∃ s' : hS, Runs xs sl (d+2) 51 0 [some (.ref (73)), none, none, none, none] [] (hp J (s) g) (none, hp J s' g) ∧ (∀ c, c ≠ 76 → s' c = s c) ∧ ∀ t v, t < 6 → v < 7 → s' 76 (7 * t + v) = nI (msF kd tp vv c t v) := by
  have hP' := hP
  obtain ⟨hp', h31, hn, hn6, hli, hli9, hc, hc12, hr⟩ := hP'
  have hpp : p = 17 ∨ p = 29 ∨ p = 43 ∨ p = 74 := hp'
  have fi := fun (s : hS) => @zx_fill xs sl (d + 1) J s g 76 42 0 (fun s => zL76) (fun s i v hi => zS76 hi) (by decide)
  generalize hs0 : va_up s 76 (va_cpy (fun _ => 0) (s 76) 0 0 42) = s0
  have a0 : ∀ c, c ≠ 76 → s0 c = s c := fun c hc => by rw [← hs0, va_up_ne _ _ hc]
  have a1 : ∀ t v, t < 6 → v < 7 → s0 76 (7 * t + v) = nI (msF kd tp vv 0 t v) := by
    intro t v ht hv
    rw [← hs0, va_up_self, pk_cpy_in (by omega) (by omega)]
    rfl
  obtain ⟨s1, ⟨q1, q2⟩, q3⟩ := up_loop (Q := fun i (s1 : hS) => (∀ c, c ≠ 76 → s1 c = s c) ∧ ∀ t v, t < 6 → v < 7 → s1 76 (7 * t + v) = nI (msF kd tp vv i t v)) (P := fun i (s1 : hS) (z : Option Value × mH) => ∀ l2 l3 l4, Runs xs sl (d+2) 51 10 [some (.ref (73)), some (.int ( nI i)), l2, l3, l4] [] (hp J (s1) g) z) c (by
    intro i s1 hi hQ
    obtain ⟨i1, i2⟩ := hQ
    obtain ⟨r1, ⟨r2, r2'⟩, r3, r4, r5⟩ := hr i hi
    have f0 : s1 73 0 = nI p := by rw [i1 73 (by decide)]; exact h0
    have fp : s1 p = s p := i1 p (by omega)
    have fp1 : s1 (p + 1) = s (p + 1) := i1 (p + 1) (by omega)
    obtain ⟨s2, ⟨k1, k2⟩, k3⟩ := up_loop (Q := fun v' (s2 : hS) => (∀ c, c ≠ 76 → s2 c = s c) ∧ ∀ t v, t < 6 → v < 7 → s2 76 (7 * t + v) = nI (msF kd tp vv i t v + (if (decide (v < v') && msB kd tp vv t v i) = true then 1 else 0))) (P := fun v' (s2 : hS) (z : Option Value × mH) => ∀ l4, Runs xs sl (d+2) 51 40 [some (.ref (73)), some (.int ( nI i)), some (.int ( nI (7 * tp i))), some (.int ( nI v')), l4] [] (hp J (s2) g) z) 7 (by
      intro v' s2 hv' hQ2
      obtain ⟨j1, j2⟩ := hQ2
      have e0 : s2 73 0 = nI p := by rw [j1 73 (by decide)]; exact h0
      have ep1 : s2 (p + 1) = s (p + 1) := j1 (p + 1) (by omega)
      have vk := @sc_viewOfKind xs sl d J s2 g (kd i) (nI v' - 3) r2 r2'
      have old := j2 (tp i) v' (by omega) hv'
      rw [decide_eq_false (by omega), Bool.false_and, if_neg (by decide), Nat.add_zero] at old
      generalize hw : (if bvF (kd i) (nI v' - 3) (nI v' - 3) true = vv i then 0 else 1) = w
      have w2 : w = (if msB kd tp vv (tp i) v' i = true then 1 else 0) := by
        unfold msB
        rw [decide_eq_true rfl, Bool.true_and, ← hw]
        by_cases c : bvF (kd i) (nI v' - 3) (nI v' - 3) true = vv i
        · rw [if_pos c, decide_eq_true c]
          rfl
        · rw [if_neg c, decide_eq_false c]
          rfl
      refine ⟨va_up s2 76 (va_up (s2 76) (7 * tp i + v') (nI (msF kd tp vv i (tp i) v' + w))), ⟨fun c hc => by rw [va_up_ne _ _ hc]; exact j1 c hc, fun t v ht hv => ?_⟩, fun z hz l4 => ?_⟩
      · rw [va_up_self]
        by_cases e : t = tp i ∧ v = v'
        · obtain ⟨e1, e2⟩ := e
          subst e1 e2
          rw [va_up_self, decide_eq_true (by omega), Bool.true_and, ← w2]
        · rw [va_up_ne _ _ (by omega), j2 t v ht hv]
          congr 2
          by_cases e1 : t = tp i
          · have e2 : ¬ v = v' := fun z => e ⟨e1, z⟩
            by_cases c : v < v'
            · rw [decide_eq_true c, decide_eq_true (by omega : v < v' + 1)]
            · rw [decide_eq_false c, decide_eq_false (by omega : ¬ v < v' + 1)]
          · have m0 : msB kd tp vv t v i = false := by
              unfold msB
              rw [decide_eq_false (fun z => e1 z.symm), Bool.false_and]
            rw [m0, Bool.and_false, Bool.and_false]
      · rw [r51_40]
        by_cases c : bvF (kd i) (nI v' - 3) (nI v' - 3) true = vv i
        · have c' := eq_true c
          rw [if_pos c] at hw
          subst hw
          rw [show msF kd tp vv i (tp i) v' + 0 = msF kd tp vv i (tp i) v' from rfl, ← old, up_id, up_id] at hz
          simp (disch := first | omega | assumption | exact zpc (by assumption)) only [r51_41, r51_43, r51_46, r51_47, r51_50, r51_53, r51_54, r51_55, r51_56, r51_57, r51_58, r51_59, r51_60, r51_63, r51_65, r51_66, r51_69, r51_70, r51_71, r51_72, r51_73, r51_74, r51_76, r51_77, r51_80, r51_83, r51_84, r51_85, r51_86, r51_87, r51_88, r51_89, r51_92, r51_93, r51_96, r51_97, r51_98, r51_99, r51_102, zO73_0, zO73_1, e0, nI_clamp, zpo3, zpa1, zA76, zS76, nI_Lle, cleF, nI_mulL, nI_addL, nI_add, nI_1, ep1, r1, r3, r5, vk, c', not_true_eq_false, Int32.add_zero, up_id, Option.some.injEq, exists_eq_left', ex2, Option.toList, List.singleton_append, List.append_nil, List.cons_append, List.nil_append, ↓reduceIte]
          exact hz _
        · rw [if_neg c] at hw
          subst hw
          simp (disch := first | omega | assumption | exact zpc (by assumption)) only [r51_41, r51_43, r51_46, r51_47, r51_50, r51_53, r51_54, r51_55, r51_56, r51_57, r51_58, r51_59, r51_60, r51_63, r51_65, r51_66, r51_69, r51_70, r51_71, r51_72, r51_73, r51_74, r51_76, r51_77, r51_80, r51_83, r51_84, r51_85, r51_86, r51_87, r51_88, r51_89, r51_92, r51_93, r51_96, r51_97, r51_98, r51_99, r51_102, zO73_0, zO73_1, e0, nI_clamp, zpo3, zpa1, zA76, zS76, nI_Lle, cleF, nI_mulL, nI_addL, nI_add, nI_1, ep1, r1, r3, r5, vk, c, old, not_false_eq_true, Option.some.injEq, exists_eq_left', ex2, Option.toList, List.singleton_append, List.append_nil, List.cons_append, List.nil_append, ↓reduceIte]
          exact hz _) s1 ⟨i1, fun t v ht hv => by
        rw [decide_eq_false (by omega), Bool.false_and, if_neg (by decide), Nat.add_zero]
        exact i2 t v ht hv⟩
    refine ⟨s2, ⟨k1, fun t v ht hv => ?_⟩, fun z hz l2 l3 l4 => ?_⟩
    · rw [k2 t v ht hv, decide_eq_true hv, Bool.true_and]
      rfl
    · have fc : s1 p 2 = nI c := by rw [fp]; exact hc
      rw [r51_10]
      simp (disch := first | omega | assumption | exact Or.inl rfl | exact Or.inr rfl | exact bI_or _ | exact zC81 | exact zC47 | exact zC65 | exact zC0 | exact zC1 | exact zC32 | exact zC70 | exact zC73 | exact ztc (by assumption) | exact zdc (by assumption) | exact zpc (by assumption) | decide) only [Option.some.injEq, exists_eq_left', ex2, Option.toList, List.singleton_append, List.append_nil, List.cons_append, List.nil_append, nI_add, nI_addL, nI_Ladd, pk_mul, nI_mulL, nI_Lmul, nI_subL, pk_sub, nI_divL, sub_dm, nI_leE, nI_ltE, nI_eqE, nI_Lle, nI_leL, nI_Llt, nI_ltL, nI_eqL, va_up_self, va_up_ne, up_up, up_comm, nI_clamp, bI_eq0, not_true_eq_false, not_false_eq_true, Nat.reduceEqDiff, Nat.reduceLeDiff, Nat.reduceAdd, Nat.reduceMul, Nat.one_ne_zero, Nat.zero_ne_one, decide_eq_false_iff_not, decide_eq_true_eq, Bool.false_eq_true, decide_true, decide_false, bI_true, bI_false, one_ne, Nat.le_refl, Nat.lt_irrefl, cleT, cleF, cltT, cltF, ceqT, ceqF, ↓reduceIte, r51_11, r51_12, r51_15, r51_18, r51_21, r51_22, r51_25, r51_28, r51_29, r51_30, r51_31, r51_32, r51_33, r51_34, r51_36, r51_37, r51_38, r51_39, zO73_0, f0, zpc, zpo0, zpw0, zpo1, zpw1, zpo2, zpw2, zpo3, zpl1, zpa1, zps1, fc, fp1, r3]
      refine k3 z ?_ l4
      intro l4
      rw [r51_40]
      simp (disch := first | omega | assumption | exact Or.inl rfl | exact Or.inr rfl | exact bI_or _ | exact zC81 | exact zC47 | exact zC65 | exact zC0 | exact zC1 | exact zC32 | exact zC70 | exact zC73 | exact ztc (by assumption) | exact zdc (by assumption) | exact zpc (by assumption) | decide) only [Option.some.injEq, exists_eq_left', ex2, Option.toList, List.singleton_append, List.append_nil, List.cons_append, List.nil_append, nI_add, nI_addL, nI_Ladd, pk_mul, nI_mulL, nI_Lmul, nI_subL, pk_sub, nI_divL, sub_dm, nI_leE, nI_ltE, nI_eqE, nI_Lle, nI_leL, nI_Llt, nI_ltL, nI_eqL, va_up_self, va_up_ne, up_up, up_comm, nI_clamp, bI_eq0, not_true_eq_false, not_false_eq_true, Nat.reduceEqDiff, Nat.reduceLeDiff, Nat.reduceAdd, Nat.reduceMul, Nat.one_ne_zero, Nat.zero_ne_one, decide_eq_false_iff_not, decide_eq_true_eq, Bool.false_eq_true, decide_true, decide_false, bI_true, bI_false, one_ne, Nat.le_refl, Nat.lt_irrefl, cleT, cleF, cltT, cltF, ceqT, ceqF, ↓reduceIte, r51_41, r51_43, r51_105, r51_105_1, r51_108]
      exact hz _ _ _) s0 ⟨a0, a1⟩
  refine ⟨s1, ?_, q1, q2⟩
  have f0 : s1 73 0 = nI p := by rw [q1 73 (by decide)]; exact h0
  have fc : s1 p 2 = nI c := by rw [q1 p (by omega)]; exact hc
  simp (disch := first | omega | assumption | exact Or.inl rfl | exact Or.inr rfl | exact bI_or _ | exact zC81 | exact zC47 | exact zC65 | exact zC0 | exact zC1 | exact zC32 | exact zC70 | exact zC73 | exact ztc (by assumption) | exact zdc (by assumption) | exact zpc (by assumption) | decide) only [Option.some.injEq, exists_eq_left', ex2, Option.toList, List.singleton_append, List.append_nil, List.cons_append, List.nil_append, nI_add, nI_addL, nI_Ladd, pk_mul, nI_mulL, nI_Lmul, nI_subL, pk_sub, nI_divL, sub_dm, nI_leE, nI_ltE, nI_eqE, nI_Lle, nI_leL, nI_Llt, nI_ltL, nI_eqL, va_up_self, va_up_ne, up_up, up_comm, nI_clamp, bI_eq0, not_true_eq_false, not_false_eq_true, Nat.reduceEqDiff, Nat.reduceLeDiff, Nat.reduceAdd, Nat.reduceMul, Nat.one_ne_zero, Nat.zero_ne_one, decide_eq_false_iff_not, decide_eq_true_eq, Bool.false_eq_true, decide_true, decide_false, bI_true, bI_false, one_ne, Nat.le_refl, Nat.lt_irrefl, cleT, cleF, cltT, cltF, ceqT, ceqF, ↓reduceIte, r51_0, r51_1, r51_4, r51_5, r51_8, r51_9, r51_9_1, zO73_1, fi, hs0]
  refine q3 _ ?_ none none none
  intro l2 l3 l4
  rw [r51_10]
  simp (disch := first | omega | assumption | exact Or.inl rfl | exact Or.inr rfl | exact bI_or _ | exact zC81 | exact zC47 | exact zC65 | exact zC0 | exact zC1 | exact zC32 | exact zC70 | exact zC73 | exact ztc (by assumption) | exact zdc (by assumption) | exact zpc (by assumption) | decide) only [Option.some.injEq, exists_eq_left', ex2, Option.toList, List.singleton_append, List.append_nil, List.cons_append, List.nil_append, nI_add, nI_addL, nI_Ladd, pk_mul, nI_mulL, nI_Lmul, nI_subL, pk_sub, nI_divL, sub_dm, nI_leE, nI_ltE, nI_eqE, nI_Lle, nI_leL, nI_Llt, nI_ltL, nI_eqL, va_up_self, va_up_ne, up_up, up_comm, nI_clamp, bI_eq0, not_true_eq_false, not_false_eq_true, Nat.reduceEqDiff, Nat.reduceLeDiff, Nat.reduceAdd, Nat.reduceMul, Nat.one_ne_zero, Nat.zero_ne_one, decide_eq_false_iff_not, decide_eq_true_eq, Bool.false_eq_true, decide_true, decide_false, bI_true, bI_false, one_ne, Nat.le_refl, Nat.lt_irrefl, cleT, cleF, cltT, cltF, ceqT, ceqF, ↓reduceIte, r51_11, r51_12, r51_15, r51_18, r51_111, zO73_0, f0, zpc, zpo0, zpw0, zpo1, zpw1, zpo2, zpw2, zpo3, zpl1, zpa1, zps1, fc]
/-- the two rows that change their places -/
def isW (w : Nat) : Prop := w = 78 ∨ w = 79
theorem wA {w i : Nat} (h : isW w) (hi : i < 13) : hA (hp J s g) w 0 (nI i) = some (s w i) := by
  rcases h with rfl | rfl
  · exact zA78 hi
  · exact zA79 hi
theorem wS' {w i : Nat} {v : Int32} (h : isW w) (hi : i < 13) : hAw (hp J s g) w 0 (nI i) v = some (hp J (va_up s w (va_up (s w) i v)) g) := by
  rcases h with rfl | rfl
  · exact zS78 hi
  · exact zS79 hi
theorem wL {w : Nat} (h : isW w) : hLen (hp J s g) w = some (nI 13) := by
  rcases h with rfl | rfl
  · exact zL78
  · exact zL79
theorem wFill {w : Nat} {v : Int32} (h : isW w) : ∀ {r : Option Value × mH}, Runs xs sl (d) 291 0 [some (.ref (w)), some (.int (v)), none, none] [] (hp J (s) g) r ↔ r = (none, hp J (va_up s w (va_cpy (fun _ => v) (s w) 0 0 13)) g) := @zx_fill xs sl d J s g w 13 v (fun s => wL h) (fun s i v hi => wS' h hi) (by decide)
def GW (s : hS) (w : Nat) : Prop := isW w ∧ s 73 3 = nI w ∧ s 73 4 = nI (157 - w)
theorem gs_mixTopic {t w : Nat} {m : Nat → Nat} {f : Nat → Nat} (hW : GW s w) (ht : t < 6) (hm : ∀ v, v < 7 → s 76 (7 * t + v) = nI (m v) ∧ m v ≤ 12) (hf : ∀ k, k < 13 → s w k = nI (f k)) : ∃ s' : hS, Runs xs sl (d+1) 53 0 [some (.ref (73)), some (.int ( nI t)), none, none] [] (hp J (s) g) (none, hp J s' g) ∧ GW s' (157 - w) ∧ (∀ c, c ≠ 73 → c ≠ 78 → c ≠ 79 → s' c = s c) ∧ (∀ j, j < 3 ∨ 4 < j → s' 73 j = s 73 j) ∧ ∀ k, k < 13 → s' (157 - w) k = nI (cst m f k) := by
  obtain ⟨hw, hw3, hw4⟩ := hW
  have hw' : w = 78 ∨ w = 79 := hw
  have hx : isW (157 - w) := by unfold isW; omega
  generalize hxw : 157 - w = x at *
  have hx' : x = 78 ∨ x = 79 := hx
  have hwx : w ≠ x := by omega
  have fi := @wFill xs sl d J s g x 0 hx
  generalize hs0 : va_up s x (va_cpy (fun _ => 0) (s x) 0 0 13) = s0 at fi
  have a0 : ∀ c, c ≠ x → s0 c = s c := fun c hc => by rw [← hs0, va_up_ne _ _ hc]
  obtain ⟨s1, ⟨q1, q2⟩, q3⟩ := up_loop (Q := fun v (s1 : hS) => (∀ c, c ≠ x → s1 c = s c) ∧ ∀ k, k < 13 → s1 x k = nI (sumN (fun v => shf (m v) f k) v)) (P := fun v (s1 : hS) (z : Option Value × mH) => ∀ l3, Runs xs sl (d+1) 53 13 [some (.ref (73)), some (.int ( nI t)), some (.int ( nI (7 * t + v))), l3] [] (hp J (s1) g) z) 7 (by
    intro v s1 hv hQ
    obtain ⟨i1, i2⟩ := hQ
    obtain ⟨m1, m2⟩ := hm v hv
    obtain ⟨s2, ⟨k1, k2⟩, k3⟩ := up_loop (Q := fun l (s2 : hS) => (∀ c, c ≠ x → s2 c = s c) ∧ ∀ k, k < 13 → s2 x k = nI (sumN (fun v => shf (m v) f k) v + (if m v ≤ k ∧ k < m v + l then f (k - m v) else 0))) (P := fun l (s2 : hS) (z : Option Value × mH) => Runs xs sl (d+1) 53 25 [some (.ref (73)), some (.int ( nI t)), some (.int ( nI (7 * t + v))), some (.int ( nI l))] [] (hp J (s2) g) z) (13 - m v) (by
      intro l s2 hl hQ2
      obtain ⟨j1, j2⟩ := hQ2
      have e76 : s2 76 (7 * t + v) = nI (m v) := by rw [j1 76 (by omega)]; exact m1
      have e3 : s2 73 3 = nI w := by rw [j1 73 (by omega)]; exact hw3
      have e4 : s2 73 4 = nI x := by rw [j1 73 (by omega)]; exact hw4
      have ew : s2 w l = nI (f l) := by rw [j1 w hwx]; exact hf l (by omega)
      have old := j2 (l + m v) (by omega)
      rw [if_neg (by omega), Nat.add_zero] at old
      refine ⟨va_up s2 x (va_up (s2 x) (l + m v) (nI (sumN (fun v' => shf (m v') f (l + m v)) v + f l))), ⟨fun c hc => by rw [va_up_ne _ _ hc]; exact j1 c hc, fun k hk => ?_⟩, fun z hz => ?_⟩
      · rw [va_up_self]
        by_cases e : k = l + m v
        · subst e
          rw [va_up_self, if_pos (by omega), show l + m v - m v = l by omega]
        · rw [va_up_ne _ _ e, j2 k hk]
          congr 2
          by_cases c : m v ≤ k ∧ k < m v + l
          · rw [if_pos c, if_pos (by omega)]
          · rw [if_neg c, if_neg (by omega)]
      · rw [r53_25]
        simp (disch := first | omega | assumption) only [r53_26, r53_27, r53_30, r53_31, r53_32, r53_33, r53_35, r53_38, r53_39, r53_42, r53_43, r53_44, r53_47, r53_48, r53_49, r53_50, r53_51, r53_52, r53_53, r53_56, r53_57, r53_58, r53_59, r53_60, r53_63, zO73_1, zO73_3, zO73_4, e3, e4, nI_clamp, zA76, e76, wA, wS', nI_add, nI_1, nI_Llt, cltF, old, ew, Option.some.injEq, exists_eq_left', ↓reduceIte]
        exact hz) s1 ⟨i1, fun k hk => by rw [if_neg (by omega), Nat.add_zero]; exact i2 k hk⟩
    refine ⟨s2, ⟨k1, fun k hk => ?_⟩, fun z hz l3 => ?_⟩
    · rw [k2 k hk]
      have e : sumN (fun v => shf (m v) f k) (v + 1) = sumN (fun v => shf (m v) f k) v + shf (m v) f k := rfl
      rw [e]
      congr 2
      unfold shf
      by_cases c : m v ≤ k
      · rw [if_pos c, if_pos (by omega)]
      · rw [if_neg c, if_neg (by omega)]
    · have e76 : s2 76 (7 * t + v) = nI (m v) := by rw [k1 76 (by omega)]; exact m1
      rw [r53_13]
      simp (disch := first | omega | assumption | exact Or.inl rfl | exact Or.inr rfl | exact bI_or _ | exact zC81 | exact zC47 | exact zC65 | exact zC0 | exact zC1 | exact zC32 | exact zC70 | exact zC73 | exact ztc (by assumption) | exact zdc (by assumption) | exact zpc (by assumption) | decide) only [Option.some.injEq, exists_eq_left', ex2, Option.toList, List.singleton_append, List.append_nil, List.cons_append, List.nil_append, nI_add, nI_addL, nI_Ladd, pk_mul, nI_mulL, nI_Lmul, nI_subL, pk_sub, nI_divL, sub_dm, nI_leE, nI_ltE, nI_eqE, nI_Lle, nI_leL, nI_Llt, nI_ltL, nI_eqL, va_up_self, va_up_ne, up_up, up_comm, nI_clamp, bI_eq0, not_true_eq_false, not_false_eq_true, Nat.reduceEqDiff, Nat.reduceLeDiff, Nat.reduceAdd, Nat.reduceMul, Nat.one_ne_zero, Nat.zero_ne_one, decide_eq_false_iff_not, decide_eq_true_eq, Bool.false_eq_true, decide_true, decide_false, bI_true, bI_false, one_ne, Nat.le_refl, Nat.lt_irrefl, cleT, cleF, cltT, cltF, ceqT, ceqF, ↓reduceIte, r53_14, r53_15, r53_16, r53_17, r53_19, r53_20, r53_23, r53_24]
      refine k3 z ?_
      rw [r53_25]
      have e13 : 13 - m v + m v = 13 := by omega
      simp (disch := first | omega | assumption) only [r53_26, r53_27, r53_30, r53_31, r53_32, r53_33, r53_35, r53_66, r53_69, zO73_1, zA76, e76, nI_add, nI_1, nI_Llt, cltT, e13, Option.some.injEq, exists_eq_left', ↓reduceIte]
      exact hz _) s0 ⟨a0, fun k hk => by
      rw [← hs0, va_up_self, pk_cpy_in (by omega) (by omega)]
      rfl⟩
  have e3 : s1 73 3 = nI w := by rw [q1 73 (by omega)]; exact hw3
  have e4 : s1 73 4 = nI x := by rw [q1 73 (by omega)]; exact hw4
  refine ⟨va_up s1 73 (va_up (va_up (s1 73) 3 (nI x)) 4 (nI w)), ?_, ⟨hx, by simp (disch := first | omega | assumption | exact Or.inl rfl | exact Or.inr rfl | exact bI_or _ | exact zC81 | exact zC47 | exact zC65 | exact zC0 | exact zC1 | exact zC32 | exact zC70 | exact zC73 | exact ztc (by assumption) | exact zdc (by assumption) | exact zpc (by assumption) | decide) only [Option.some.injEq, exists_eq_left', ex2, Option.toList, List.singleton_append, List.append_nil, List.cons_append, List.nil_append, nI_add, nI_addL, nI_Ladd, pk_mul, nI_mulL, nI_Lmul, nI_subL, pk_sub, nI_divL, sub_dm, nI_leE, nI_ltE, nI_eqE, nI_Lle, nI_leL, nI_Llt, nI_ltL, nI_eqL, va_up_self, va_up_ne, up_up, up_comm, nI_clamp, bI_eq0, not_true_eq_false, not_false_eq_true, Nat.reduceEqDiff, Nat.reduceLeDiff, Nat.reduceAdd, Nat.reduceMul, Nat.one_ne_zero, Nat.zero_ne_one, decide_eq_false_iff_not, decide_eq_true_eq, Bool.false_eq_true, decide_true, decide_false, bI_true, bI_false, one_ne, Nat.le_refl, Nat.lt_irrefl, cleT, cleF, cltT, cltF, ceqT, ceqF, ↓reduceIte], ?_⟩, fun c c1 c2 c3 => ?_, fun j hj => ?_, fun k hk => ?_⟩
  · simp (disch := first | omega | assumption | exact Or.inl rfl | exact Or.inr rfl | exact bI_or _ | exact zC81 | exact zC47 | exact zC65 | exact zC0 | exact zC1 | exact zC32 | exact zC70 | exact zC73 | exact ztc (by assumption) | exact zdc (by assumption) | exact zpc (by assumption) | decide) only [Option.some.injEq, exists_eq_left', ex2, Option.toList, List.singleton_append, List.append_nil, List.cons_append, List.nil_append, nI_add, nI_addL, nI_Ladd, pk_mul, nI_mulL, nI_Lmul, nI_subL, pk_sub, nI_divL, sub_dm, nI_leE, nI_ltE, nI_eqE, nI_Lle, nI_leL, nI_Llt, nI_ltL, nI_eqL, va_up_self, va_up_ne, up_up, up_comm, nI_clamp, bI_eq0, not_true_eq_false, not_false_eq_true, Nat.reduceEqDiff, Nat.reduceLeDiff, Nat.reduceAdd, Nat.reduceMul, Nat.one_ne_zero, Nat.zero_ne_one, decide_eq_false_iff_not, decide_eq_true_eq, Bool.false_eq_true, decide_true, decide_false, bI_true, bI_false, one_ne, Nat.le_refl, Nat.lt_irrefl, cleT, cleF, cltT, cltF, ceqT, ceqF, ↓reduceIte, r53_0, r53_1, r53_4, r53_5, r53_8, r53_9, r53_11, r53_12, zO73_4, hw4, fi]
    refine q3 _ ?_ none
    intro l3
    rw [r53_13]
    simp (disch := first | omega | assumption | exact Or.inl rfl | exact Or.inr rfl | exact bI_or _ | exact zC81 | exact zC47 | exact zC65 | exact zC0 | exact zC1 | exact zC32 | exact zC70 | exact zC73 | exact ztc (by assumption) | exact zdc (by assumption) | exact zpc (by assumption) | decide) only [Option.some.injEq, exists_eq_left', ex2, Option.toList, List.singleton_append, List.append_nil, List.cons_append, List.nil_append, nI_add, nI_addL, nI_Ladd, pk_mul, nI_mulL, nI_Lmul, nI_subL, pk_sub, nI_divL, sub_dm, nI_leE, nI_ltE, nI_eqE, nI_Lle, nI_leL, nI_Llt, nI_ltL, nI_eqL, va_up_self, va_up_ne, up_up, up_comm, nI_clamp, bI_eq0, not_true_eq_false, not_false_eq_true, Nat.reduceEqDiff, Nat.reduceLeDiff, Nat.reduceAdd, Nat.reduceMul, Nat.one_ne_zero, Nat.zero_ne_one, decide_eq_false_iff_not, decide_eq_true_eq, Bool.false_eq_true, decide_true, decide_false, bI_true, bI_false, one_ne, Nat.le_refl, Nat.lt_irrefl, cleT, cleF, cltT, cltF, ceqT, ceqF, ↓reduceIte, r53_14, r53_15, r53_16, r53_17, r53_19, r53_20, r53_72, r53_73, r53_76, r53_76n, r53_77, r53_78, r53_79, r53_82, r53_85, r53_86, r53_86n, r53_87, r53_90, zO73_3, zO73_4, zW73_3, zW73_4, e3, e4]
  · have e5 : 157 - x = w := by omega
    rw [e5]
    simp (disch := first | omega | assumption | exact Or.inl rfl | exact Or.inr rfl | exact bI_or _ | exact zC81 | exact zC47 | exact zC65 | exact zC0 | exact zC1 | exact zC32 | exact zC70 | exact zC73 | exact ztc (by assumption) | exact zdc (by assumption) | exact zpc (by assumption) | decide) only [Option.some.injEq, exists_eq_left', ex2, Option.toList, List.singleton_append, List.append_nil, List.cons_append, List.nil_append, nI_add, nI_addL, nI_Ladd, pk_mul, nI_mulL, nI_Lmul, nI_subL, pk_sub, nI_divL, sub_dm, nI_leE, nI_ltE, nI_eqE, nI_Lle, nI_leL, nI_Llt, nI_ltL, nI_eqL, va_up_self, va_up_ne, up_up, up_comm, nI_clamp, bI_eq0, not_true_eq_false, not_false_eq_true, Nat.reduceEqDiff, Nat.reduceLeDiff, Nat.reduceAdd, Nat.reduceMul, Nat.one_ne_zero, Nat.zero_ne_one, decide_eq_false_iff_not, decide_eq_true_eq, Bool.false_eq_true, decide_true, decide_false, bI_true, bI_false, one_ne, Nat.le_refl, Nat.lt_irrefl, cleT, cleF, cltT, cltF, ceqT, ceqF, ↓reduceIte]
  · rw [va_up_ne _ _ c1, q1 c (by omega)]
  · rw [va_up_self, va_up_ne _ _ (by omega), va_up_ne _ _ (by omega), q1 73 (by omega)]
  · rw [va_up_ne _ _ (by omega)]
    exact q2 k hk
end WGH
