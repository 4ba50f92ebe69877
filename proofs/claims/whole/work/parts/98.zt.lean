/-! TEXT: the reference's line of a town -/
section TXT
variable {xs : Nat → Int32} {sl d : Nat} {J : hJk} {s x y : hS} {g : hG}
def mxA (x : Int32) (a : Nat) : Int32 := if x < nI a then nI a else x
def rwT (v h sa c : Nat) (a : Nat → Nat) (f : Nat → Int32) : Nat → Int32 := if v = 11 then va_up f 0 (nI (a 0)) else if v = 12 then va_up f 1 (nI (a 0)) else if v = 13 then va_up (va_up (va_up f (5 + h) (nI (a 0))) (13 + h) (nI (a 1))) 2 (nI (h + 1)) else if v = 14 then va_up f (21 + a 0) (f (21 + a 0) ||| ((1 : Int32) <<< (nI (a 1) &&& 31))) else if v = 15 then va_up f (29 + 6 * a 0 + a 1) (viS (a 2) (a 3)) else if v = 16 then va_up (va_up (va_up (va_up f (77 + 3 * sa) (nI (a 0))) (77 + 3 * sa + 1) (nI (a 1))) (77 + 3 * sa + 2) (viS (a 2) (a 3))) 3 (nI (sa + 1)) else va_up (va_up (va_up f (113 + 2 * c) (nI (a 0))) (113 + 2 * c + 1) (nI (a 1))) 4 (nI (c + 1))
def g9T (v : Nat) (a : Nat → Nat) (x : Int32) : Int32 := if v = 14 then mxA (mxA x (a 0)) (a 1) else if v = 15 then mxA x (a 0) else x
def g10T (v : Nat) (a : Nat → Nat) (x : Int32) : Int32 := if v = 15 ∨ v = 16 ∨ v = 19 then mxA x (a 1) else x
theorem wm_bg : ∀ v, v < 22 → bgW 0 v = (decide (1 ≤ wm v) && decide (wm v ≤ 7)) ∧ bgW 1 v = (decide (15 ≤ wm v) && decide (wm v ≤ 20)) := by decide +kernel
theorem bgT : ∀ v, v < 22 → bgW 0 v = true → v = 11 ∨ v = 12 ∨ v = 13 ∨ v = 14 ∨ v = 15 ∨ v = 16 ∨ v = 17 := by decide +kernel
theorem rl_town {b : Nat → Nat} {N h sa c D cr : Nat} {σ : TxS} (hw : σ.1 = false) (hM : RM b N σ s) (hK : CR s h sa c) (fu : Bool) (hfu : fu = fuW 0 (slV b N σ) h sa c D cr) : ∃ t : hS, Runs xs sl (d+3+1+1+1+1+1) 184 0 [some (.ref (81)), none, none, none, none] [] (hp J (s) g) (none, hp J t g) ∧ RM b N (lnS b N 0 fu σ) t ∧ LF s t ∧ (∃ h' sa' c', CR t h' sa' c') ∧ ((lnS b N 0 fu σ).1 = false → (lnS b N 0 fu σ).2.2.1 = 0 → t 84 = rwT (slV b N σ) h sa c (fun j => slV b N (lnI b N fu σ j)) (s 84) ∧ t 81 9 = g9T (slV b N σ) (fun j => slV b N (lnI b N fu σ j)) (s 81 9) ∧ t 81 10 = g10T (slV b N σ) (fun j => slV b N (lnI b N fu σ j)) (s 81 10)) := by
  obtain ⟨w, p, F, P⟩ := σ
  have hw : w = false := hw
  subst hw
  have hN6 : N ≤ 600 := hM.1.2.1
  obtain ⟨t1, a1, a2, a3⟩ := @rf_takes xs sl (d + 1 + 1) J s g b N 1 7 1 7 (false, p, F, P) hM rfl rfl (by decide) (bgW 0 (slV b N (false, p, F, P))) (fun h => (wm_bg _ (vQ_word h).1).1)
  obtain ⟨-, hpN, -, h0⟩ := hM
  have hpN : p ≤ N := hpN
  obtain ⟨h8, h5, h6, hP, k4, k5, k6, k7, k3⟩ := h0 rfl
  have k4 : s 81 4 = nI (rn isBl b N p) := k4
  have hP : F ≠ 0 → s 82 6 = nI P ∧ (P < p ∨ (P = rn isBl b N p ∧ F ≤ 2)) := hP
  obtain ⟨r1, r2, r3, r4⟩ := rn_prop (P := isBl) (b := b) (N := N) (N - p) p (by omega)
  have hPq : F ≠ 0 → P < rn isBl b N p ∨ (P = rn isBl b N p ∧ F ≤ 3) := fun hF => by have := (hP hF).2; omega
  have hsv : slV b N (false, p, F, P) = vQ b N (rn isBl b N p) := rfl
  have hlB : lnB b N fu (false, p, F, P) = (false, eQ b N (rn isBl b N p), fpS fu (rn isBl b N p) F P) := lnB_eq
  have hlS : lnS b N 0 fu (false, p, F, P) = if kQ b N (rn isBl b N p) = 3 ∧ bgW 0 (vQ b N (rn isBl b N p)) = true then smS b N (lnI b N fu (false, p, F, P) (shL (shW (vQ b N (rn isBl b N p)))).length) else (true, rn isBl b N p, 0, 0) := rfl
  have hlI : ∀ j, lnI b N fu (false, p, F, P) j = stI b N (shW (vQ b N (rn isBl b N p))) (lnB b N fu (false, p, F, P)) j := fun j => rfl
  have hwo : woS b N (bgW 0 (vQ b N (rn isBl b N p))) (false, p, F, P) = if kQ b N (rn isBl b N p) = 3 ∧ bgW 0 (vQ b N (rn isBl b N p)) = true then (false, eQ b N (rn isBl b N p), F, P) else (true, rn isBl b N p, 0, 0) := rfl
  rw [hsv] at hfu a1 a2 ⊢
  obtain ⟨l1, l2, l3, l4⟩ := RF_LF a3
  have hK1 : CR t1 h sa c := by unfold CR; rw [l2]; exact hK
  have a1 := (show d + 1 + 1 + 3 + 1 + 1 = d + 3 + 1 + 1 + 1 + 1 by omega) ▸ a1
  generalize hq : rn isBl b N p = q at *
  generalize hv : vQ b N q = v at *
  by_cases kk : kQ b N q = 3 ∧ bgW 0 v = true
  · rw [if_pos kk] at hlS hwo
    have v22 : v < 22 := by rw [← hv]; exact (vQ_word kk.1).1
    obtain ⟨eg, eN⟩ := eQ_gt (b := b) (N := N) (q := q) (Or.inr (Or.inr kk.1))
    rw [hwo] at a1 a2
    rw [if_neg (fun h => by cases h)] at a1
    rw [hlS]
    generalize eQ b N q = e at *
    rcases bgT v v22 kk.2 with hv | hv | hv | hv | hv | hv | hv
    · subst hv
      rw [show nI (wm 11) = (1 : Int32) from rfl] at a1
      have hfu' : fu = false := hfu
      subst hfu'
      have eB : lnB b N false (false, p, F, P) = (false, e, F, P) := hlB
      have eI : ∀ j, lnI b N false (false, p, F, P) j = stI b N 1 (false, e, F, P) j := fun j => by rw [hlI, eB]; rfl
      obtain ⟨v0, t2, b1, b2, b3, b4, b5, b6⟩ := @rf_numbered xs sl (d + 1 + 1) J t1 g b N 1 6 1 6 (false, e, F, P) a2 rfl rfl (by decide) (by decide) (okN 99 (slV b N (false, e, F, P)) (slV b N (false, e, F, P))) rfl
      have b1 := (show d + 1 + 1 + 3 + 1 + 1 = d + 3 + 1 + 1 + 1 + 1 by omega) ▸ b1
      have b2 : RM b N (stI b N 1 (false, e, F, P) 1) t2 := b2
      obtain ⟨n1, n2, n3, n4⟩ := RF_LF b3
      have m9 : RM b N (lnI b N false (false, p, F, P) 1) (va_up t2 84 (va_up (t2 84) 0 (nI v0))) := by rw [eI]; exact RM_84 _ b2
      obtain ⟨t3, z1, z2, z3⟩ := @rf_endsLine xs sl (d + 1 + 1) J (va_up t2 84 (va_up (t2 84) 0 (nI v0))) g b N _ m9
      have z1 := (show d + 1 + 1 + 3 + 1 + 1 = d + 3 + 1 + 1 + 1 + 1 by omega) ▸ z1
      obtain ⟨y1, y2, y3, y4⟩ := RF_LF z3
      have i9 := fun r => Runs.iff (r := r) z1
      have i0 := fun r => Runs.iff (r := r) a1
      have i1 := fun r => Runs.iff (r := r) b1
      have q84 : t3 84 = va_up (s 84) 0 (nI v0) := by rw [y2, va_up_self, n2, l2]
      refine ⟨t3, ?_, z2, LF_trans (LF_trans (LF_trans l1 n1) (LF_84 _ _)) y1, ⟨h, sa, c, ?_⟩, fun hw hF => ?_⟩
      · simp (disch := first | omega | assumption | exact Or.inl rfl | exact Or.inr rfl | exact bI_or _ | exact zC81 | exact zC47 | exact zC65 | exact zC0 | exact zC1 | exact zC32 | exact zC70 | exact zC73 | exact ztc (by assumption) | exact zdc (by assumption) | exact zpc (by assumption) | decide) only [Option.some.injEq, exists_eq_left', ex2, Option.toList, List.singleton_append, List.append_nil, List.cons_append, List.nil_append, nI_add, nI_addL, nI_Ladd, pk_mul, nI_mulL, nI_Lmul, nI_subL, pk_sub, nI_divL, sub_dm, nI_leE, nI_ltE, nI_eqE, nI_Lle, nI_leL, nI_Llt, nI_ltL, nI_eqL, va_up_self, va_up_ne, up_up, up_comm, nI_clamp, bI_eq0, not_true_eq_false, not_false_eq_true, Nat.reduceEqDiff, Nat.reduceLeDiff, Nat.reduceAdd, Nat.reduceMul, Nat.one_ne_zero, Nat.zero_ne_one, decide_eq_false_iff_not, decide_eq_true_eq, Bool.false_eq_true, decide_true, decide_false, bI_true, bI_false, one_ne, Nat.le_refl, Nat.lt_irrefl, cleT, cleF, cltT, cltF, ceqT, ceqF, ↓reduceIte, r184_0, r184_1, r184_4, r184_4_1, r184_5, r184_6, r184_7, r184_9, r184_12, r184_13, r184_14_c0, r184_14_c1, r184_14_c2, r184_14_c3, r184_14_c4, r184_14_c5, r184_14_c6, r184_14_d, r184_56, r184_59, r184_60, r184_63, r184_64, r184_65, r184_66, r184_68, r184_71, r184_72, r184_75, r184_76, r184_79, r184_80, r184_81, r184_82, r184_84, r184_87, r184_88, r184_91, r184_92, r184_93, r184_96, r184_99, r184_100, r184_103, r184_106, r184_107, r184_110, r184_111, r184_112, r184_115, r184_117, r184_118, r184_121, r184_123, r184_125, r184_126, r184_127, r184_128, r184_130, r184_131, r184_132, r184_135, r184_136, r184_139, r184_140, r184_141, r184_144, r184_147, r184_148, r184_149, r184_152, r184_153, r184_156, zO81_4, zO81_11, k4, i0, i1, zS84L, i9]
      · unfold CR
        rw [q84, va_up_ne _ _ (by decide), va_up_ne _ _ (by decide), va_up_ne _ _ (by decide)]
        exact hK
      · obtain ⟨w1, F1⟩ := seS_ok hw
        rw [F1] at hF
        have w1 : (stI b N 1 (false, e, F, P) 1).1 = false := by rw [← eI]; exact w1
        have hF : (stI b N 1 (false, e, F, P) 1).2.2.1 = 0 := by rw [← eI]; exact hF
        obtain ⟨w0, F0, o0⟩ := slS_ok (c := 99) w1 hF
        rw [q84, b6 w1 o0, y3, va_up_ne _ _ (by decide), n3, l3, y4, va_up_ne _ _ (by decide), n4, l4]
        have e0 : slV b N (false, e, F, P) = (fun j => slV b N (lnI b N false (false, p, F, P) j)) 0 := by show _ = slV b N (lnI b N false (false, p, F, P) 0); rw [eI]; rfl
        rw [e0]
        exact ⟨rfl, rfl, rfl⟩
    · subst hv
      rw [show nI (wm 12) = (2 : Int32) from rfl] at a1
      have hfu' : fu = false := hfu
      subst hfu'
      have eB : lnB b N false (false, p, F, P) = (false, e, F, P) := hlB
      have eI : ∀ j, lnI b N false (false, p, F, P) j = stI b N 2 (false, e, F, P) j := fun j => by rw [hlI, eB]; rfl
      obtain ⟨v0, t2, b1, b2, b3, b4, b5, b6⟩ := @rf_numbered xs sl (d + 1 + 1) J t1 g b N 1 9 1 9 (false, e, F, P) a2 rfl rfl (by decide) (by decide) (okN 110 (slV b N (false, e, F, P)) (slV b N (false, e, F, P))) rfl
      have b1 := (show d + 1 + 1 + 3 + 1 + 1 = d + 3 + 1 + 1 + 1 + 1 by omega) ▸ b1
      have b2 : RM b N (stI b N 2 (false, e, F, P) 1) t2 := b2
      obtain ⟨n1, n2, n3, n4⟩ := RF_LF b3
      have m9 : RM b N (lnI b N false (false, p, F, P) 1) (va_up t2 84 (va_up (t2 84) 1 (nI v0))) := by rw [eI]; exact RM_84 _ b2
      obtain ⟨t3, z1, z2, z3⟩ := @rf_endsLine xs sl (d + 1 + 1) J (va_up t2 84 (va_up (t2 84) 1 (nI v0))) g b N _ m9
      have z1 := (show d + 1 + 1 + 3 + 1 + 1 = d + 3 + 1 + 1 + 1 + 1 by omega) ▸ z1
      obtain ⟨y1, y2, y3, y4⟩ := RF_LF z3
      have i9 := fun r => Runs.iff (r := r) z1
      have i0 := fun r => Runs.iff (r := r) a1
      have i1 := fun r => Runs.iff (r := r) b1
      have q84 : t3 84 = va_up (s 84) 1 (nI v0) := by rw [y2, va_up_self, n2, l2]
      refine ⟨t3, ?_, z2, LF_trans (LF_trans (LF_trans l1 n1) (LF_84 _ _)) y1, ⟨h, sa, c, ?_⟩, fun hw hF => ?_⟩
      · simp (disch := first | omega | assumption | exact Or.inl rfl | exact Or.inr rfl | exact bI_or _ | exact zC81 | exact zC47 | exact zC65 | exact zC0 | exact zC1 | exact zC32 | exact zC70 | exact zC73 | exact ztc (by assumption) | exact zdc (by assumption) | exact zpc (by assumption) | decide) only [Option.some.injEq, exists_eq_left', ex2, Option.toList, List.singleton_append, List.append_nil, List.cons_append, List.nil_append, nI_add, nI_addL, nI_Ladd, pk_mul, nI_mulL, nI_Lmul, nI_subL, pk_sub, nI_divL, sub_dm, nI_leE, nI_ltE, nI_eqE, nI_Lle, nI_leL, nI_Llt, nI_ltL, nI_eqL, va_up_self, va_up_ne, up_up, up_comm, nI_clamp, bI_eq0, not_true_eq_false, not_false_eq_true, Nat.reduceEqDiff, Nat.reduceLeDiff, Nat.reduceAdd, Nat.reduceMul, Nat.one_ne_zero, Nat.zero_ne_one, decide_eq_false_iff_not, decide_eq_true_eq, Bool.false_eq_true, decide_true, decide_false, bI_true, bI_false, one_ne, Nat.le_refl, Nat.lt_irrefl, cleT, cleF, cltT, cltF, ceqT, ceqF, ↓reduceIte, r184_0, r184_1, r184_4, r184_4_1, r184_5, r184_6, r184_7, r184_9, r184_12, r184_13, r184_14_c0, r184_14_c1, r184_14_c2, r184_14_c3, r184_14_c4, r184_14_c5, r184_14_c6, r184_14_d, r184_56, r184_59, r184_60, r184_63, r184_64, r184_65, r184_66, r184_68, r184_71, r184_72, r184_75, r184_76, r184_79, r184_80, r184_81, r184_82, r184_84, r184_87, r184_88, r184_91, r184_92, r184_93, r184_96, r184_99, r184_100, r184_103, r184_106, r184_107, r184_110, r184_111, r184_112, r184_115, r184_117, r184_118, r184_121, r184_123, r184_125, r184_126, r184_127, r184_128, r184_130, r184_131, r184_132, r184_135, r184_136, r184_139, r184_140, r184_141, r184_144, r184_147, r184_148, r184_149, r184_152, r184_153, r184_156, zO81_4, zO81_11, k4, i0, i1, zS84L, i9]
      · unfold CR
        rw [q84, va_up_ne _ _ (by decide), va_up_ne _ _ (by decide), va_up_ne _ _ (by decide)]
        exact hK
      · obtain ⟨w1, F1⟩ := seS_ok hw
        rw [F1] at hF
        have w1 : (stI b N 2 (false, e, F, P) 1).1 = false := by rw [← eI]; exact w1
        have hF : (stI b N 2 (false, e, F, P) 1).2.2.1 = 0 := by rw [← eI]; exact hF
        obtain ⟨w0, F0, o0⟩ := slS_ok (c := 110) w1 hF
        rw [q84, b6 w1 o0, y3, va_up_ne _ _ (by decide), n3, l3, y4, va_up_ne _ _ (by decide), n4, l4]
        have e0 : slV b N (false, e, F, P) = (fun j => slV b N (lnI b N false (false, p, F, P) j)) 0 := by show _ = slV b N (lnI b N false (false, p, F, P) 0); rw [eI]; rfl
        rw [e0]
        exact ⟨rfl, rfl, rfl⟩
    · subst hv
      rw [show nI (wm 13) = (3 : Int32) from rfl] at a1
      have eI : ∀ j, lnI b N fu (false, p, F, P) j = stI b N 3 (lnB b N fu (false, p, F, P)) j := fun j => by rw [hlI]; rfl
      have hfu' : fu = decide (8 ≤ h) := hfu
      rw [hfu'] at hlB
      obtain ⟨t2, b1, b2, b3, b4, b5⟩ := @rl_house xs sl (d + 1) J t1 g b N e F P q h sa c a2 hPq eg eN hK1 (lnB b N fu (false, p, F, P)) (by rw [hfu'] ; exact hlB)
      have b1 := (show d + 1 + 3 + 1 + 1 + 1 = d + 3 + 1 + 1 + 1 + 1 by omega) ▸ b1
      have m9 : RM b N (lnI b N fu (false, p, F, P) 2) t2 := by rw [eI]; exact b2
      obtain ⟨t3, z1, z2, z3⟩ := @rf_endsLine xs sl (d + 1 + 1) J t2 g b N _ m9
      have z1 := (show d + 1 + 1 + 3 + 1 + 1 = d + 3 + 1 + 1 + 1 + 1 by omega) ▸ z1
      obtain ⟨y1, y2, y3, y4⟩ := RF_LF z3
      have i9 := fun r => Runs.iff (r := r) z1
      have i0 := fun r => Runs.iff (r := r) a1
      have i1 := fun r => Runs.iff (r := r) b1
      refine ⟨t3, ?_, z2, LF_trans (LF_trans l1 b3) y1, ?_, fun hw hF => ?_⟩
      · simp (disch := first | omega | assumption | exact Or.inl rfl | exact Or.inr rfl | exact bI_or _ | exact zC81 | exact zC47 | exact zC65 | exact zC0 | exact zC1 | exact zC32 | exact zC70 | exact zC73 | exact ztc (by assumption) | exact zdc (by assumption) | exact zpc (by assumption) | decide) only [Option.some.injEq, exists_eq_left', ex2, Option.toList, List.singleton_append, List.append_nil, List.cons_append, List.nil_append, nI_add, nI_addL, nI_Ladd, pk_mul, nI_mulL, nI_Lmul, nI_subL, pk_sub, nI_divL, sub_dm, nI_leE, nI_ltE, nI_eqE, nI_Lle, nI_leL, nI_Llt, nI_ltL, nI_eqL, va_up_self, va_up_ne, up_up, up_comm, nI_clamp, bI_eq0, not_true_eq_false, not_false_eq_true, Nat.reduceEqDiff, Nat.reduceLeDiff, Nat.reduceAdd, Nat.reduceMul, Nat.one_ne_zero, Nat.zero_ne_one, decide_eq_false_iff_not, decide_eq_true_eq, Bool.false_eq_true, decide_true, decide_false, bI_true, bI_false, one_ne, Nat.le_refl, Nat.lt_irrefl, cleT, cleF, cltT, cltF, ceqT, ceqF, ↓reduceIte, r184_0, r184_1, r184_4, r184_4_1, r184_5, r184_6, r184_7, r184_9, r184_12, r184_13, r184_14_c0, r184_14_c1, r184_14_c2, r184_14_c3, r184_14_c4, r184_14_c5, r184_14_c6, r184_14_d, r184_56, r184_59, r184_60, r184_63, r184_64, r184_65, r184_66, r184_68, r184_71, r184_72, r184_75, r184_76, r184_79, r184_80, r184_81, r184_82, r184_84, r184_87, r184_88, r184_91, r184_92, r184_93, r184_96, r184_99, r184_100, r184_103, r184_106, r184_107, r184_110, r184_111, r184_112, r184_115, r184_117, r184_118, r184_121, r184_123, r184_125, r184_126, r184_127, r184_128, r184_130, r184_131, r184_132, r184_135, r184_136, r184_139, r184_140, r184_141, r184_144, r184_147, r184_148, r184_149, r184_152, r184_153, r184_156, zO81_4, zO81_11, k4, i0, i1, i9]
      · obtain ⟨h', sa', c', q⟩ := b4
        exact ⟨h', sa', c', by unfold CR; rw [y2]; exact q⟩
      · obtain ⟨w1, F1⟩ := seS_ok hw
        rw [F1] at hF
        have w1 : (stI b N 3 (lnB b N fu (false, p, F, P)) 2).1 = false := by rw [← eI]; exact w1
        have hF : (stI b N 3 (lnB b N fu (false, p, F, P)) 2).2.2.1 = 0 := by rw [← eI]; exact hF
        obtain ⟨-, u1, u2, u3⟩ := b5 w1 hF
        rw [y2, u1, y3, u2, y4, u3, l2, l3, l4]
        rw [← eI] at *
        exact ⟨rfl, rfl, rfl⟩
    · subst hv
      rw [show nI (wm 14) = (4 : Int32) from rfl] at a1
      have hfu' : fu = false := hfu
      subst hfu'
      have eB : lnB b N false (false, p, F, P) = (false, e, F, P) := hlB
      have eI : ∀ j, lnI b N false (false, p, F, P) j = stI b N 4 (false, e, F, P) j := fun j => by rw [hlI, eB]; rfl
      obtain ⟨t2, b1, b2, b3, b4, b5⟩ := @rl_visit xs sl d J t1 g b N (false, e, F, P) a2
      have m9 : RM b N (lnI b N false (false, p, F, P) 2) t2 := by rw [eI]; exact b2
      obtain ⟨t3, z1, z2, z3⟩ := @rf_endsLine xs sl (d + 1 + 1) J t2 g b N _ m9
      have z1 := (show d + 1 + 1 + 3 + 1 + 1 = d + 3 + 1 + 1 + 1 + 1 by omega) ▸ z1
      obtain ⟨y1, y2, y3, y4⟩ := RF_LF z3
      have i9 := fun r => Runs.iff (r := r) z1
      have i0 := fun r => Runs.iff (r := r) a1
      have i1 := fun r => Runs.iff (r := r) b1
      refine ⟨t3, ?_, z2, LF_trans (LF_trans l1 b3) y1, ⟨h, sa, c, ?_⟩, fun hw hF => ?_⟩
      · simp (disch := first | omega | assumption | exact Or.inl rfl | exact Or.inr rfl | exact bI_or _ | exact zC81 | exact zC47 | exact zC65 | exact zC0 | exact zC1 | exact zC32 | exact zC70 | exact zC73 | exact ztc (by assumption) | exact zdc (by assumption) | exact zpc (by assumption) | decide) only [Option.some.injEq, exists_eq_left', ex2, Option.toList, List.singleton_append, List.append_nil, List.cons_append, List.nil_append, nI_add, nI_addL, nI_Ladd, pk_mul, nI_mulL, nI_Lmul, nI_subL, pk_sub, nI_divL, sub_dm, nI_leE, nI_ltE, nI_eqE, nI_Lle, nI_leL, nI_Llt, nI_ltL, nI_eqL, va_up_self, va_up_ne, up_up, up_comm, nI_clamp, bI_eq0, not_true_eq_false, not_false_eq_true, Nat.reduceEqDiff, Nat.reduceLeDiff, Nat.reduceAdd, Nat.reduceMul, Nat.one_ne_zero, Nat.zero_ne_one, decide_eq_false_iff_not, decide_eq_true_eq, Bool.false_eq_true, decide_true, decide_false, bI_true, bI_false, one_ne, Nat.le_refl, Nat.lt_irrefl, cleT, cleF, cltT, cltF, ceqT, ceqF, ↓reduceIte, r184_0, r184_1, r184_4, r184_4_1, r184_5, r184_6, r184_7, r184_9, r184_12, r184_13, r184_14_c0, r184_14_c1, r184_14_c2, r184_14_c3, r184_14_c4, r184_14_c5, r184_14_c6, r184_14_d, r184_56, r184_59, r184_60, r184_63, r184_64, r184_65, r184_66, r184_68, r184_71, r184_72, r184_75, r184_76, r184_79, r184_80, r184_81, r184_82, r184_84, r184_87, r184_88, r184_91, r184_92, r184_93, r184_96, r184_99, r184_100, r184_103, r184_106, r184_107, r184_110, r184_111, r184_112, r184_115, r184_117, r184_118, r184_121, r184_123, r184_125, r184_126, r184_127, r184_128, r184_130, r184_131, r184_132, r184_135, r184_136, r184_139, r184_140, r184_141, r184_144, r184_147, r184_148, r184_149, r184_152, r184_153, r184_156, zO81_4, zO81_11, k4, i0, i1, i9]
      · unfold CR
        rw [y2, b4 2 (by decide), b4 3 (by decide), b4 4 (by decide)]
        exact hK1
      · obtain ⟨w1, F1⟩ := seS_ok hw
        rw [F1] at hF
        have w1 : (stI b N 4 (false, e, F, P) 2).1 = false := by rw [← eI]; exact w1
        have hF : (stI b N 4 (false, e, F, P) 2).2.2.1 = 0 := by rw [← eI]; exact hF
        obtain ⟨u1, u2, u3⟩ := b5 w1 hF
        have e0 : slV b N (false, e, F, P) = slV b N (lnI b N false (false, p, F, P) 0) := by rw [eI]; rfl
        rw [y2, u1, y3, u2, y4, u3, l2, l3, l4, e0, ← eI 1]
        exact ⟨rfl, rfl, rfl⟩
    · subst hv
      rw [show nI (wm 15) = (5 : Int32) from rfl] at a1
      have hfu' : fu = false := hfu
      subst hfu'
      have eB : lnB b N false (false, p, F, P) = (false, e, F, P) := hlB
      have eI : ∀ j, lnI b N false (false, p, F, P) j = stI b N 5 (false, e, F, P) j := fun j => by rw [hlI, eB]; rfl
      obtain ⟨v0, t2, b1, b2, b3, b84, b10, b9, b5, b6⟩ := @rf_houseTold xs sl (d + 1) J t1 g b N (false, e, F, P) a2
      have b2 : RM b N (stI b N 5 (false, e, F, P) 1) t2 := b2
      obtain ⟨v1, t3, c1, c2, c3, c84, c9, c10, c5, c6⟩ := @rf_topicTold xs sl (d + 1) J t2 g b N _ b2
      have c2 : RM b N (stI b N 5 (false, e, F, P) 2) t3 := c2
      obtain ⟨x, t4, d1, d2, d3, d6⟩ := @rf_viewTold xs sl (d + 1) J t3 g b N _ c2 (stI b N 5 (false, e, F, P) 3) rfl
      have d2 : RM b N (stI b N 5 (false, e, F, P) 4) t4 := d2
      have b1 := (show d + 1 + 3 + 1 + 1 + 1 = d + 3 + 1 + 1 + 1 + 1 by omega) ▸ b1
      have c1 := (show d + 1 + 3 + 1 + 1 + 1 = d + 3 + 1 + 1 + 1 + 1 by omega) ▸ c1
      have d1 := (show d + 1 + 3 + 1 + 1 + 1 = d + 3 + 1 + 1 + 1 + 1 by omega) ▸ d1
      obtain ⟨n1, n2, n3, n4⟩ := RF_LF d3
      have m9 : RM b N (lnI b N false (false, p, F, P) 4) (va_up t4 84 (va_up (t4 84) (29 + 6 * v0 + v1) x)) := by rw [eI]; exact RM_84 _ d2
      obtain ⟨t5, z1, z2, z3⟩ := @rf_endsLine xs sl (d + 1 + 1) J (va_up t4 84 (va_up (t4 84) (29 + 6 * v0 + v1) x)) g b N _ m9
      have z1 := (show d + 1 + 1 + 3 + 1 + 1 = d + 3 + 1 + 1 + 1 + 1 by omega) ▸ z1
      obtain ⟨y1, y2, y3, y4⟩ := RF_LF z3
      have i9 := fun r => Runs.iff (r := r) z1
      have i0 := fun r => Runs.iff (r := r) a1
      have i1 := fun r => Runs.iff (r := r) b1
      have i2 := fun r => Runs.iff (r := r) c1
      have i3 := fun r => Runs.iff (r := r) d1
      have bd : 29 + 6 * v0 + v1 < 161 := by omega
      have q84 : t5 84 = va_up (s 84) (29 + 6 * v0 + v1) x := by rw [y2, va_up_self, n2, c84, b84, l2]
      refine ⟨t5, ?_, z2, LF_trans (LF_trans (LF_trans (LF_trans (LF_trans l1 b3) c3) n1) (LF_84 _ _)) y1, ⟨h, sa, c, ?_⟩, fun hw hF => ?_⟩
      · simp (disch := first | omega | assumption | exact Or.inl rfl | exact Or.inr rfl | exact bI_or _ | exact zC81 | exact zC47 | exact zC65 | exact zC0 | exact zC1 | exact zC32 | exact zC70 | exact zC73 | exact ztc (by assumption) | exact zdc (by assumption) | exact zpc (by assumption) | decide) only [Option.some.injEq, exists_eq_left', ex2, Option.toList, List.singleton_append, List.append_nil, List.cons_append, List.nil_append, nI_add, nI_addL, nI_Ladd, pk_mul, nI_mulL, nI_Lmul, nI_subL, pk_sub, nI_divL, sub_dm, nI_leE, nI_ltE, nI_eqE, nI_Lle, nI_leL, nI_Llt, nI_ltL, nI_eqL, va_up_self, va_up_ne, up_up, up_comm, nI_clamp, bI_eq0, not_true_eq_false, not_false_eq_true, Nat.reduceEqDiff, Nat.reduceLeDiff, Nat.reduceAdd, Nat.reduceMul, Nat.one_ne_zero, Nat.zero_ne_one, decide_eq_false_iff_not, decide_eq_true_eq, Bool.false_eq_true, decide_true, decide_false, bI_true, bI_false, one_ne, Nat.le_refl, Nat.lt_irrefl, cleT, cleF, cltT, cltF, ceqT, ceqF, ↓reduceIte, r184_0, r184_1, r184_4, r184_4_1, r184_5, r184_6, r184_7, r184_9, r184_12, r184_13, r184_14_c0, r184_14_c1, r184_14_c2, r184_14_c3, r184_14_c4, r184_14_c5, r184_14_c6, r184_14_d, r184_56, r184_59, r184_60, r184_63, r184_64, r184_65, r184_66, r184_68, r184_71, r184_72, r184_75, r184_76, r184_79, r184_80, r184_81, r184_82, r184_84, r184_87, r184_88, r184_91, r184_92, r184_93, r184_96, r184_99, r184_100, r184_103, r184_106, r184_107, r184_110, r184_111, r184_112, r184_115, r184_117, r184_118, r184_121, r184_123, r184_125, r184_126, r184_127, r184_128, r184_130, r184_131, r184_132, r184_135, r184_136, r184_139, r184_140, r184_141, r184_144, r184_147, r184_148, r184_149, r184_152, r184_153, r184_156, zO81_4, zO81_11, k4, i0, i1, i2, i3, zS84, i9, bd]
      · unfold CR
        rw [q84, va_up_ne _ _ (by omega), va_up_ne _ _ (by omega), va_up_ne _ _ (by omega)]
        exact hK
      · obtain ⟨w1, F1⟩ := seS_ok hw
        rw [F1] at hF
        have w1 : (stI b N 5 (false, e, F, P) 4).1 = false := by rw [← eI]; exact w1
        have hF : (stI b N 5 (false, e, F, P) 4).2.2.1 = 0 := by rw [← eI]; exact hF
        obtain ⟨w4, F4, o4⟩ := slS_ok (c := 118) w1 hF
        obtain ⟨w3, F3, o3⟩ := slS_ok (c := 119) w4 F4
        obtain ⟨w2, F2, o2⟩ := slS_ok (c := 116) w3 F3
        obtain ⟨w0, F0, o1⟩ := slS_ok (c := 104) w2 F2
        have o4 : slV b N (stI b N 5 (false, e, F, P) 3) ≤ 3 := of_decide_eq_true o4
        have o2 : slV b N (stI b N 5 (false, e, F, P) 1) < 6 := of_decide_eq_true o2
        have o1 : slV b N (false, e, F, P) < 8 := of_decide_eq_true o1
        have y1 := c6 w3 o2
        have y0 := b6 w2 o1
        have e0 : slV b N (false, e, F, P) = slV b N (lnI b N false (false, p, F, P) 0) := by rw [eI]; rfl
        rw [q84, y3, va_up_ne _ _ (by decide), n3, c9, b9, l3, y4, va_up_ne _ _ (by decide), n4, c10, b10, l4, d6 w1 o4, y1, y0, e0, ← eI 1, ← eI 2, ← eI 3]
        exact ⟨rfl, rfl, rfl⟩
    · subst hv
      rw [show nI (wm 16) = (6 : Int32) from rfl] at a1
      have eI : ∀ j, lnI b N fu (false, p, F, P) j = stI b N 6 (lnB b N fu (false, p, F, P)) j := fun j => by rw [hlI]; rfl
      have hfu' : fu = decide (12 ≤ sa) := hfu
      rw [hfu'] at hlB
      obtain ⟨t2, b1, b2, b3, b4, b5⟩ := @rl_said xs sl (d) J t1 g b N e F P q h sa c a2 hPq eg eN hK1 (lnB b N fu (false, p, F, P)) (by rw [hfu'] ; exact hlB)
      have b1 := (show d + 3 + 1 + 1 + 1 + 1 = d + 3 + 1 + 1 + 1 + 1 by omega) ▸ b1
      have m9 : RM b N (lnI b N fu (false, p, F, P) 4) t2 := by rw [eI]; exact b2
      obtain ⟨t3, z1, z2, z3⟩ := @rf_endsLine xs sl (d + 1 + 1) J t2 g b N _ m9
      have z1 := (show d + 1 + 1 + 3 + 1 + 1 = d + 3 + 1 + 1 + 1 + 1 by omega) ▸ z1
      obtain ⟨y1, y2, y3, y4⟩ := RF_LF z3
      have i9 := fun r => Runs.iff (r := r) z1
      have i0 := fun r => Runs.iff (r := r) a1
      have i1 := fun r => Runs.iff (r := r) b1
      refine ⟨t3, ?_, z2, LF_trans (LF_trans l1 b3) y1, ?_, fun hw hF => ?_⟩
      · simp (disch := first | omega | assumption | exact Or.inl rfl | exact Or.inr rfl | exact bI_or _ | exact zC81 | exact zC47 | exact zC65 | exact zC0 | exact zC1 | exact zC32 | exact zC70 | exact zC73 | exact ztc (by assumption) | exact zdc (by assumption) | exact zpc (by assumption) | decide) only [Option.some.injEq, exists_eq_left', ex2, Option.toList, List.singleton_append, List.append_nil, List.cons_append, List.nil_append, nI_add, nI_addL, nI_Ladd, pk_mul, nI_mulL, nI_Lmul, nI_subL, pk_sub, nI_divL, sub_dm, nI_leE, nI_ltE, nI_eqE, nI_Lle, nI_leL, nI_Llt, nI_ltL, nI_eqL, va_up_self, va_up_ne, up_up, up_comm, nI_clamp, bI_eq0, not_true_eq_false, not_false_eq_true, Nat.reduceEqDiff, Nat.reduceLeDiff, Nat.reduceAdd, Nat.reduceMul, Nat.one_ne_zero, Nat.zero_ne_one, decide_eq_false_iff_not, decide_eq_true_eq, Bool.false_eq_true, decide_true, decide_false, bI_true, bI_false, one_ne, Nat.le_refl, Nat.lt_irrefl, cleT, cleF, cltT, cltF, ceqT, ceqF, ↓reduceIte, r184_0, r184_1, r184_4, r184_4_1, r184_5, r184_6, r184_7, r184_9, r184_12, r184_13, r184_14_c0, r184_14_c1, r184_14_c2, r184_14_c3, r184_14_c4, r184_14_c5, r184_14_c6, r184_14_d, r184_56, r184_59, r184_60, r184_63, r184_64, r184_65, r184_66, r184_68, r184_71, r184_72, r184_75, r184_76, r184_79, r184_80, r184_81, r184_82, r184_84, r184_87, r184_88, r184_91, r184_92, r184_93, r184_96, r184_99, r184_100, r184_103, r184_106, r184_107, r184_110, r184_111, r184_112, r184_115, r184_117, r184_118, r184_121, r184_123, r184_125, r184_126, r184_127, r184_128, r184_130, r184_131, r184_132, r184_135, r184_136, r184_139, r184_140, r184_141, r184_144, r184_147, r184_148, r184_149, r184_152, r184_153, r184_156, zO81_4, zO81_11, k4, i0, i1, i9]
      · obtain ⟨h', sa', c', q⟩ := b4
        exact ⟨h', sa', c', by unfold CR; rw [y2]; exact q⟩
      · obtain ⟨w1, F1⟩ := seS_ok hw
        rw [F1] at hF
        have w1 : (stI b N 6 (lnB b N fu (false, p, F, P)) 4).1 = false := by rw [← eI]; exact w1
        have hF : (stI b N 6 (lnB b N fu (false, p, F, P)) 4).2.2.1 = 0 := by rw [← eI]; exact hF
        obtain ⟨-, u1, u2, u3⟩ := b5 w1 hF
        rw [y2, u1, y3, u2, y4, u3, l2, l3, l4]
        rw [← eI 1, ← eI 2, ← eI 3]
        exact ⟨rfl, rfl, rfl⟩
    · subst hv
      rw [show nI (wm 17) = (7 : Int32) from rfl] at a1
      have eI : ∀ j, lnI b N fu (false, p, F, P) j = stI b N 7 (lnB b N fu (false, p, F, P)) j := fun j => by rw [hlI]; rfl
      have hfu' : fu = decide (8 ≤ c) := hfu
      rw [hfu'] at hlB
      obtain ⟨t2, b1, b2, b3, b4, b5⟩ := @rl_loaf xs sl (d + 1) J t1 g b N e F P q h sa c a2 hPq eg eN hK1 (lnB b N fu (false, p, F, P)) (by rw [hfu'] ; exact hlB)
      have b1 := (show d + 1 + 3 + 1 + 1 + 1 = d + 3 + 1 + 1 + 1 + 1 by omega) ▸ b1
      have m9 : RM b N (lnI b N fu (false, p, F, P) 2) t2 := by rw [eI]; exact b2
      obtain ⟨t3, z1, z2, z3⟩ := @rf_endsLine xs sl (d + 1 + 1) J t2 g b N _ m9
      have z1 := (show d + 1 + 1 + 3 + 1 + 1 = d + 3 + 1 + 1 + 1 + 1 by omega) ▸ z1
      obtain ⟨y1, y2, y3, y4⟩ := RF_LF z3
      have i9 := fun r => Runs.iff (r := r) z1
      have i0 := fun r => Runs.iff (r := r) a1
      have i1 := fun r => Runs.iff (r := r) b1
      refine ⟨t3, ?_, z2, LF_trans (LF_trans l1 b3) y1, ?_, fun hw hF => ?_⟩
      · simp (disch := first | omega | assumption | exact Or.inl rfl | exact Or.inr rfl | exact bI_or _ | exact zC81 | exact zC47 | exact zC65 | exact zC0 | exact zC1 | exact zC32 | exact zC70 | exact zC73 | exact ztc (by assumption) | exact zdc (by assumption) | exact zpc (by assumption) | decide) only [Option.some.injEq, exists_eq_left', ex2, Option.toList, List.singleton_append, List.append_nil, List.cons_append, List.nil_append, nI_add, nI_addL, nI_Ladd, pk_mul, nI_mulL, nI_Lmul, nI_subL, pk_sub, nI_divL, sub_dm, nI_leE, nI_ltE, nI_eqE, nI_Lle, nI_leL, nI_Llt, nI_ltL, nI_eqL, va_up_self, va_up_ne, up_up, up_comm, nI_clamp, bI_eq0, not_true_eq_false, not_false_eq_true, Nat.reduceEqDiff, Nat.reduceLeDiff, Nat.reduceAdd, Nat.reduceMul, Nat.one_ne_zero, Nat.zero_ne_one, decide_eq_false_iff_not, decide_eq_true_eq, Bool.false_eq_true, decide_true, decide_false, bI_true, bI_false, one_ne, Nat.le_refl, Nat.lt_irrefl, cleT, cleF, cltT, cltF, ceqT, ceqF, ↓reduceIte, r184_0, r184_1, r184_4, r184_4_1, r184_5, r184_6, r184_7, r184_9, r184_12, r184_13, r184_14_c0, r184_14_c1, r184_14_c2, r184_14_c3, r184_14_c4, r184_14_c5, r184_14_c6, r184_14_d, r184_56, r184_59, r184_60, r184_63, r184_64, r184_65, r184_66, r184_68, r184_71, r184_72, r184_75, r184_76, r184_79, r184_80, r184_81, r184_82, r184_84, r184_87, r184_88, r184_91, r184_92, r184_93, r184_96, r184_99, r184_100, r184_103, r184_106, r184_107, r184_110, r184_111, r184_112, r184_115, r184_117, r184_118, r184_121, r184_123, r184_125, r184_126, r184_127, r184_128, r184_130, r184_131, r184_132, r184_135, r184_136, r184_139, r184_140, r184_141, r184_144, r184_147, r184_148, r184_149, r184_152, r184_153, r184_156, zO81_4, zO81_11, k4, i0, i1, i9]
      · obtain ⟨h', sa', c', q⟩ := b4
        exact ⟨h', sa', c', by unfold CR; rw [y2]; exact q⟩
      · obtain ⟨w1, F1⟩ := seS_ok hw
        rw [F1] at hF
        have w1 : (stI b N 7 (lnB b N fu (false, p, F, P)) 2).1 = false := by rw [← eI]; exact w1
        have hF : (stI b N 7 (lnB b N fu (false, p, F, P)) 2).2.2.1 = 0 := by rw [← eI]; exact hF
        obtain ⟨-, u1, u2, u3⟩ := b5 w1 hF
        rw [y2, u1, y3, u2, y4, u3, l2, l3, l4]
        rw [← eI] at *
        exact ⟨rfl, rfl, rfl⟩
  · rw [if_neg kk] at hlS hwo
    rw [hwo] at a1 a2
    rw [if_pos rfl] at a1
    rw [hlS]
    obtain ⟨t3, z1, z2, z3⟩ := @rf_endsLine xs sl (d + 1 + 1) J t1 g b N _ a2
    have z1 := (show d + 1 + 1 + 3 + 1 + 1 = d + 3 + 1 + 1 + 1 + 1 by omega) ▸ z1
    rw [seS_w rfl] at z2
    obtain ⟨y1, y2, y3, y4⟩ := RF_LF z3
    have i0 := fun r => Runs.iff (r := r) a1
    have i9 := fun r => Runs.iff (r := r) z1
    refine ⟨t3, ?_, z2, LF_trans l1 y1, ⟨h, sa, c, by unfold CR; rw [y2]; exact hK1⟩, fun h => by cases h⟩
    simp (disch := first | omega | assumption | exact Or.inl rfl | exact Or.inr rfl | exact bI_or _ | exact zC81 | exact zC47 | exact zC65 | exact zC0 | exact zC1 | exact zC32 | exact zC70 | exact zC73 | exact ztc (by assumption) | exact zdc (by assumption) | exact zpc (by assumption) | decide) only [Option.some.injEq, exists_eq_left', ex2, Option.toList, List.singleton_append, List.append_nil, List.cons_append, List.nil_append, nI_add, nI_addL, nI_Ladd, pk_mul, nI_mulL, nI_Lmul, nI_subL, pk_sub, nI_divL, sub_dm, nI_leE, nI_ltE, nI_eqE, nI_Lle, nI_leL, nI_Llt, nI_ltL, nI_eqL, va_up_self, va_up_ne, up_up, up_comm, nI_clamp, bI_eq0, not_true_eq_false, not_false_eq_true, Nat.reduceEqDiff, Nat.reduceLeDiff, Nat.reduceAdd, Nat.reduceMul, Nat.one_ne_zero, Nat.zero_ne_one, decide_eq_false_iff_not, decide_eq_true_eq, Bool.false_eq_true, decide_true, decide_false, bI_true, bI_false, one_ne, Nat.le_refl, Nat.lt_irrefl, cleT, cleF, cltT, cltF, ceqT, ceqF, ↓reduceIte, r184_0, r184_1, r184_4, r184_4_1, r184_5, r184_6, r184_7, r184_9, r184_12, r184_13, r184_14_c0, r184_14_c1, r184_14_c2, r184_14_c3, r184_14_c4, r184_14_c5, r184_14_c6, r184_14_d, r184_56, r184_59, r184_60, r184_63, r184_64, r184_65, r184_66, r184_68, r184_71, r184_72, r184_75, r184_76, r184_79, r184_80, r184_81, r184_82, r184_84, r184_87, r184_88, r184_91, r184_92, r184_93, r184_96, r184_99, r184_100, r184_103, r184_106, r184_107, r184_110, r184_111, r184_112, r184_115, r184_117, r184_118, r184_121, r184_123, r184_125, r184_126, r184_127, r184_128, r184_130, r184_131, r184_132, r184_135, r184_136, r184_139, r184_140, r184_141, r184_144, r184_147, r184_148, r184_149, r184_152, r184_153, r184_156, zO81_4, k4, i0, i9]
end TXT
