/-! BOUND: both the same -/
section BOUNDEQ
variable {xs : Nat → Int32} {sl d : Nat} {H : mH}
set_option maxRecDepth 100000 in
theorem orM0_all : (List.range' 1 12).all (fun n => (List.range 11).all (fun a => decide (orMore n 0 a = pw 10 n 1))) = true := by decide +kernel
theorem orM0 {n a : Nat} (h1 : 1 ≤ n) (h2 : n ≤ 12) (h4 : a ≤ 10) : orMore n 0 a = pw 10 n 1 := of_decide_eq_true (List.all_eq_true.mp (List.all_eq_true.mp orM0_all n (List.mem_range'_1.mpr ⟨h1, by omega⟩)) a (List.mem_range.mpr (by omega)))
theorem i64_back (x y : Int64) : x - x + y = y := by rw [Int64.sub_self, Int64.zero_add]
theorem rf_bound_in (q n a b : Nat) (h1 : 1 ≤ n) (hn : n ≤ 12) (ha : a ≤ 10) (hb : b ≤ 10) : Runs xs sl (d + 1 + 1 + 1) 278 32 [some (.ref q), some (.int (nI n)), some (.int (nI a)), some (.int (nI b)), none, none, none, none, none, none] [] H (some (.int (bestB n a b)), H) := by
  have c : ¬ nI (n + 1) < 0 := nI_pos (by omega)
  have e0 : (0 : Int32) = nI 0 := rfl
  simp only [r278_32, r278_33, r278_35, r278_36, r278_38, r278_39]
  rw [r278_41]
  simp only [r278_43, r278_44, r278_45, r278_46, r278_49, r278_50, r278_51, nI_1, if_neg c]
  rw [r278_52]
  rw [e0]
  refine (rf_orMore n 0 a (by omega) (by omega) ha).on ?_
  simp only [Option.toList, List.singleton_append, List.append_nil, List.cons_append, List.nil_append, r278_55, r278_56, r278_58]
  rw [r278_59]
  refine (rf_orMore n 0 a (by omega) (by omega) ha).on ?_
  simp only [Option.toList, List.singleton_append, List.append_nil, List.cons_append, List.nil_append, r278_62, r278_63, r278_64, r278_66]
  rw [r278_67]
  refine (rf_orMore n 0 b (by omega) (by omega) hb).on ?_
  simp only [Option.toList, List.singleton_append, List.append_nil, List.cons_append, List.nil_append, r278_70, r278_71, r278_73, r278_75, r278_76, r278_79, r278_81, r278_83, r278_84, r278_87, r278_90, r278_92, r278_94, r278_96, r278_98, r278_101, if_pos, nI_1, i64_back, orM0 h1 hn hb]
  have k := rf_bound_loop (xs := xs) (sl := sl) (d := d) (H := H) q n a b h1 hn ha hb (n + 1) 1 (pw 10 n 1) (nI 0) (some (.long (pw 10 n 1))) none (by omega) (by decide)
  rw [orM0 h1 hn ha] at k
  exact k
def fBound (n a b : Int32) : Int32 := if n < 1 then -1 else if 12 < n then -1 else if a < 0 then -1 else if 10 < a then -1 else if b < 0 then -1 else if 10 < b then -1 else bestB n.toNatClampNeg a.toNatClampNeg b.toNatClampNeg
theorem br_bound (q : Nat) (n a b : Int32) : Runs xs sl (d + 1 + 1 + 1 + 1) 29 0 [some (.ref q), some (.int n), some (.int a), some (.int b)] [] H (some (.int (fBound n a b)), H) := by
  have z1 : ¬ (1 : Int32) = 0 := by decide
  have go1 : f_canBe n a = 0 → Runs xs sl (d + 1 + 1 + 1 + 1) 29 0 [some (.ref q), some (.int n), some (.int a), some (.int b)] [] H (some (.int (-1)), H) := by
    intro hc
    simp only [r29_0, r29_1]
    rw [r29_2]
    refine (ch_canBe n a).on ?_
    simp only [Option.toList, List.singleton_append, List.append_nil, List.cons_append, List.nil_append, hc, r29_5, r29_16, r29_17, if_pos]
  have go2 : f_canBe n a = 1 → f_canBe n b = 0 → Runs xs sl (d + 1 + 1 + 1 + 1) 29 0 [some (.ref q), some (.int n), some (.int a), some (.int b)] [] H (some (.int (-1)), H) := by
    intro hc hk
    simp only [r29_0, r29_1]
    rw [r29_2]
    refine (ch_canBe n a).on ?_
    simp only [Option.toList, List.singleton_append, List.append_nil, List.cons_append, List.nil_append, hc, r29_5, r29_8, r29_9, if_neg z1]
    rw [r29_10]
    refine (ch_canBe n b).on ?_
    simp only [Option.toList, List.singleton_append, List.append_nil, List.cons_append, List.nil_append, hk, r29_13, r29_16, r29_17, not_true_eq_false, if_false]
  unfold fBound
  by_cases c1 : n < 1
  · rw [if_pos c1]; exact go1 (by rw [f_canBe, if_pos c1])
  by_cases c2 : 12 < n
  · rw [if_neg c1, if_pos c2]; exact go1 (by rw [f_canBe, if_neg c1, if_pos c2])
  by_cases c5 : a < 0
  · rw [if_neg c1, if_neg c2, if_pos c5]; exact go1 (by rw [f_canBe, if_neg c1, if_neg c2, if_pos c5])
  by_cases c6 : 10 < a
  · rw [if_neg c1, if_neg c2, if_neg c5, if_pos c6]; exact go1 (by rw [f_canBe, if_neg c1, if_neg c2, if_neg c5, if_pos c6])
  have e : f_canBe n a = 1 := by rw [f_canBe, if_neg c1, if_neg c2, if_neg c5, if_neg c6]
  rw [if_neg c1, if_neg c2, if_neg c5, if_neg c6]
  by_cases c3 : b < 0
  · rw [if_pos c3]; exact go2 e (by rw [f_canBe, if_neg c1, if_neg c2, if_pos c3])
  by_cases c4 : 10 < b
  · rw [if_neg c3, if_pos c4]; exact go2 e (by rw [f_canBe, if_neg c1, if_neg c2, if_neg c3, if_pos c4])
  have e2 : f_canBe n b = 1 := by rw [f_canBe, if_neg c1, if_neg c2, if_neg c3, if_neg c4]
  rw [if_neg c3, if_neg c4]
  simp only [r29_0, r29_1]
  rw [r29_2]
  refine (ch_canBe n a).on ?_
  simp only [Option.toList, List.singleton_append, List.append_nil, List.cons_append, List.nil_append, e, r29_5, r29_8, r29_9, if_neg z1]
  rw [r29_10]
  refine (ch_canBe n b).on ?_
  simp only [Option.toList, List.singleton_append, List.append_nil, List.cons_append, List.nil_append, e2, r29_13, r29_16, r29_17, r29_18, r29_19, r29_20, if_pos z1]
  rw [r29_21]
  obtain ⟨n, g1, g2, rfl⟩ := nI_in2 (lo := 1) (hi := 12) (by decide) (by decide) c1 c2
  obtain ⟨b, -, g3, rfl⟩ := nI_in2 (lo := 0) (hi := 10) (by decide) (by decide) c3 c4
  obtain ⟨a, -, g4, rfl⟩ := nI_in2 (lo := 0) (hi := 10) (by decide) (by decide) c5 c6
  rw [nI_clamp (by omega), nI_clamp (by omega), nI_clamp (by omega)]
  refine (ch_bestBound n a b g2 g4 g3).on ?_
  simp only [Option.toList, List.singleton_append, List.append_nil, List.cons_append, List.nil_append, r29_24]
theorem rf_bound (q : Nat) (n a b : Int32) : Runs xs sl (d + 1 + 1 + 1) 278 0 [some (.ref q), some (.int n), some (.int a), some (.int b), none, none, none, none, none, none] [] H (some (.int (fBound n a b)), H) := by
  have z1 : ¬ (1 : Int32) = 0 := by decide
  have i1 : ∀ v lo hi : Int32, ¬ v < lo → ¬ hi < v → f_isIn v lo hi = 1 := fun v lo hi h1 h2 => by rw [f_isIn, if_neg h1, if_neg h2]
  have i0 : ∀ v lo hi : Int32, (v < lo ∨ hi < v) → f_isIn v lo hi = 0 := fun v lo hi h => by
    unfold f_isIn
    by_cases h1 : v < lo
    · rw [if_pos h1]
    · rw [if_neg h1, if_pos (h.resolve_left h1)]
  unfold fBound
  simp only [r278_0, r278_1, r278_2]
  rw [r278_4]
  refine (rf_isIn _ _ _).on ?_
  by_cases c1 : n < 1
  · simp only [if_pos c1, Option.toList, List.singleton_append, List.append_nil, List.cons_append, List.nil_append, i0 _ _ _ (Or.inl c1), r278_7, r278_30, r278_31, if_pos]
  by_cases c2 : 12 < n
  · simp only [if_neg c1, if_pos c2, Option.toList, List.singleton_append, List.append_nil, List.cons_append, List.nil_append, i0 _ _ _ (Or.inr c2), r278_7, r278_30, r278_31, if_pos]
  simp only [if_neg c1, if_neg c2, Option.toList, List.singleton_append, List.append_nil, List.cons_append, List.nil_append, i1 _ _ _ c1 c2, r278_7, r278_10, r278_11, r278_12, if_neg z1]
  rw [r278_14]
  refine (rf_isIn _ _ _).on ?_
  by_cases c5 : a < 0
  · simp only [if_pos c5, Option.toList, List.singleton_append, List.append_nil, List.cons_append, List.nil_append, i0 _ _ _ (Or.inl c5), r278_17, r278_30, r278_31, if_pos]
  by_cases c6 : 10 < a
  · simp only [if_neg c5, if_pos c6, Option.toList, List.singleton_append, List.append_nil, List.cons_append, List.nil_append, i0 _ _ _ (Or.inr c6), r278_17, r278_30, r278_31, if_pos]
  simp only [if_neg c5, if_neg c6, Option.toList, List.singleton_append, List.append_nil, List.cons_append, List.nil_append, i1 _ _ _ c5 c6, r278_17, r278_20, r278_21, r278_22, if_neg z1]
  rw [r278_24]
  refine (rf_isIn _ _ _).on ?_
  by_cases c3 : b < 0
  · simp only [if_pos c3, Option.toList, List.singleton_append, List.append_nil, List.cons_append, List.nil_append, i0 _ _ _ (Or.inl c3), r278_27, r278_30, r278_31, not_true_eq_false, if_false]
  by_cases c4 : 10 < b
  · simp only [if_neg c3, if_pos c4, Option.toList, List.singleton_append, List.append_nil, List.cons_append, List.nil_append, i0 _ _ _ (Or.inr c4), r278_27, r278_30, r278_31, not_true_eq_false, if_false]
  simp only [if_neg c3, if_neg c4, Option.toList, List.singleton_append, List.append_nil, List.cons_append, List.nil_append, i1 _ _ _ c3 c4, r278_27, if_pos z1]
  obtain ⟨n, g1, g2, rfl⟩ := nI_in2 (lo := 1) (hi := 12) (by decide) (by decide) c1 c2
  obtain ⟨b, -, g3, rfl⟩ := nI_in2 (lo := 0) (hi := 10) (by decide) (by decide) c3 c4
  obtain ⟨a, -, g4, rfl⟩ := nI_in2 (lo := 0) (hi := 10) (by decide) (by decide) c5 c6
  rw [nI_clamp (by omega), nI_clamp (by omega), nI_clamp (by omega)]
  exact rf_bound_in q n a b g1 g2 g4 g3
end BOUNDEQ
