/-! JURY: both the same, by the kernel -/
section JURYEQ
variable {xs : Nat → Int32} {sl d : Nat} {H : mH}
def chkJ (n k a : Nat) : Bool := let w := pw 10 n 1; let p := atLeast n k a; let g := cdl 100 w p; decide (p = orMore n k a) && decide (0 < g) && decide (cdE 100 p w = some g)
set_option maxRecDepth 100000 in
theorem chkJ_all : (List.range' 1 12).all (fun n => (List.range 14).all (fun k => (List.range 11).all (fun a => chkJ n k a))) = true := by decide +kernel
theorem chkJ_ok {n k a : Nat} (h1 : 1 ≤ n) (h2 : n ≤ 12) (h3 : k ≤ 13) (h4 : a ≤ 10) : atLeast n k a = orMore n k a ∧ 0 < cdl 100 (pw 10 n 1) (atLeast n k a) ∧ cdE 100 (orMore n k a) (pw 10 n 1) = some (cdl 100 (pw 10 n 1) (atLeast n k a)) := by
  have h := List.all_eq_true.mp (List.all_eq_true.mp (List.all_eq_true.mp chkJ_all n (List.mem_range'_1.mpr ⟨h1, by omega⟩)) k (List.mem_range.mpr (by omega))) a (List.mem_range.mpr (by omega))
  simp only [chkJ, Bool.and_eq_true, decide_eq_true_eq] at h
  refine ⟨h.1.1, h.1.2, ?_⟩
  rw [← h.1.1]
  exact h.2
/-- what jury answers -/
def fJury (n k a under : Int32) : Int64 := if n < 1 then -1 else if 12 < n then -1 else if k < 0 then -1 else if 13 < k then -1 else if a < 0 then -1 else if 10 < a then -1 else f_jury n.toNatClampNeg k.toNatClampNeg a.toNatClampNeg under
theorem nI_in2 {x : Int32} {lo hi : Nat} (hl : lo < 2 ^ 31) (h0 : hi < 2 ^ 31) (h1 : ¬ x < nI lo) (h2 : ¬ nI hi < x) : ∃ j : Nat, lo ≤ j ∧ j ≤ hi ∧ x = nI j := by
  rw [Int32.lt_iff_toInt_lt, nI_toInt hl] at h1
  rw [Int32.lt_iff_toInt_lt, nI_toInt h0] at h2
  have a1 : ¬ x < 0 := by
    rw [Int32.lt_iff_toInt_lt, Int32.toInt_zero]
    omega
  obtain ⟨j, hj, rfl⟩ := nI_of a1
  rw [nI_toInt hj] at h1 h2
  exact ⟨j, by omega, by omega, rfl⟩
theorem br_jury (b : Nat) (n k a under : Int32) : Runs xs sl (d + 1 + 1 + 1) 28 0 [some (.ref b), some (.int n), some (.int k), some (.int a), some (.int under), none, none, none, none, none, none] [] H (some (.long (fJury n k a under)), H) := by
  have z1 : ¬ (1 : Int32) = 0 := by decide
  have go1 : f_canBe n a = 0 → Runs xs sl (d + 1 + 1 + 1) 28 0 [some (.ref b), some (.int n), some (.int k), some (.int a), some (.int under), none, none, none, none, none, none] [] H (some (.long (-1)), H) := by
    intro hc
    simp only [r28_0, r28_1]
    rw [r28_2]
    refine (ch_canBe n a).on ?_
    simp only [Option.toList, List.singleton_append, List.append_nil, List.cons_append, List.nil_append, hc, r28_5, r28_8, r28_9, r28_12, r28_13, r28_15, r28_18, r28_21, if_pos]
  have go2 : f_canBe n a = 1 → (k < 0 ∨ 13 < k) → Runs xs sl (d + 1 + 1 + 1) 28 0 [some (.ref b), some (.int n), some (.int k), some (.int a), some (.int under), none, none, none, none, none, none] [] H (some (.long (-1)), H) := by
    intro hc hk
    simp only [r28_0, r28_1]
    rw [r28_2]
    refine (ch_canBe n a).on ?_
    by_cases c2 : k < 0
    · simp only [Option.toList, List.singleton_append, List.append_nil, List.cons_append, List.nil_append, hc, r28_5, r28_8, r28_9, r28_12, r28_13, r28_15, r28_18, r28_21, if_neg z1, if_pos c2]
    · have c3 : ¬ k ≤ 13 := Int32.not_le.mpr (hk.resolve_left c2)
      simp only [Option.toList, List.singleton_append, List.append_nil, List.cons_append, List.nil_append, hc, r28_5, r28_8, r28_9, r28_12, r28_13, r28_15, r28_18, r28_21, if_neg z1, if_neg c2, if_neg c3]
  unfold fJury
  by_cases c1 : n < 1
  · rw [if_pos c1]; exact go1 (by rw [f_canBe, if_pos c1])
  by_cases c2 : 12 < n
  · rw [if_neg c1, if_pos c2]; exact go1 (by rw [f_canBe, if_neg c1, if_pos c2])
  by_cases c5 : a < 0
  · have e : f_canBe n a = 0 := by rw [f_canBe, if_neg c1, if_neg c2, if_pos c5]
    rw [if_neg c1, if_neg c2, if_pos c5]
    split
    · exact go1 e
    · split
      · exact go1 e
      · exact go1 e
  by_cases c6 : 10 < a
  · have e : f_canBe n a = 0 := by rw [f_canBe, if_neg c1, if_neg c2, if_neg c5, if_pos c6]
    rw [if_neg c1, if_neg c2, if_neg c5, if_pos c6]
    split
    · exact go1 e
    · split
      · exact go1 e
      · exact go1 e
  have e : f_canBe n a = 1 := by rw [f_canBe, if_neg c1, if_neg c2, if_neg c5, if_neg c6]
  rw [if_neg c1, if_neg c2]
  by_cases c3 : k < 0
  · rw [if_pos c3]; exact go2 e (Or.inl c3)
  by_cases c4 : 13 < k
  · rw [if_neg c3, if_pos c4]; exact go2 e (Or.inr c4)
  rw [if_neg c3, if_neg c4, if_neg c5, if_neg c6]
  obtain ⟨n, g1, g2, rfl⟩ := nI_in2 (lo := 1) (hi := 12) (by decide) (by decide) c1 c2
  obtain ⟨k, -, g3, rfl⟩ := nI_in2 (lo := 0) (hi := 13) (by decide) (by decide) c3 c4
  obtain ⟨a, -, g4, rfl⟩ := nI_in2 (lo := 0) (hi := 10) (by decide) (by decide) c5 c6
  rw [nI_clamp (by omega), nI_clamp (by omega), nI_clamp (by omega)]
  exact br_jury_in b n k a under g1 g2 g3 g4
theorem rf_jury (b : Nat) (n k a under : Int32) : Runs xs sl (d + 1 + 1 + 1) 273 0 [some (.ref b), some (.int n), some (.int k), some (.int a), some (.int under), none, none, none, none] [] H (some (.long (fJury n k a under)), H) := by
  have z1 : ¬ (1 : Int32) = 0 := by decide
  have z0 : ¬ ¬ (0 : Int32) = 0 := by decide
  have i1 : ∀ v lo hi : Int32, ¬ v < lo → ¬ hi < v → f_isIn v lo hi = 1 := fun v lo hi h1 h2 => by rw [f_isIn, if_neg h1, if_neg h2]
  have i0 : ∀ v lo hi : Int32, (v < lo ∨ hi < v) → f_isIn v lo hi = 0 := fun v lo hi h => by
    unfold f_isIn
    by_cases h1 : v < lo
    · rw [if_pos h1]
    · rw [if_neg h1, if_pos (h.resolve_left h1)]
  have o1 : (n < 1 ∨ 12 < n) → Runs xs sl (d + 1 + 1 + 1) 273 0 [some (.ref b), some (.int n), some (.int k), some (.int a), some (.int under), none, none, none, none] [] H (some (.long (-1)), H) := by
    intro h
    simp only [r273_0, r273_1, r273_2]
    rw [r273_4]
    refine (rf_isIn _ _ _).on ?_
    simp only [Option.toList, List.singleton_append, List.append_nil, List.cons_append, List.nil_append, i0 _ _ _ h, r273_7, r273_30, r273_33, if_pos]
  have o2 : ¬ n < 1 → ¬ 12 < n → (k < 0 ∨ 13 < k) → Runs xs sl (d + 1 + 1 + 1) 273 0 [some (.ref b), some (.int n), some (.int k), some (.int a), some (.int under), none, none, none, none] [] H (some (.long (-1)), H) := by
    intro h1 h2 h
    simp only [r273_0, r273_1, r273_2]
    rw [r273_4]
    refine (rf_isIn _ _ _).on ?_
    simp only [Option.toList, List.singleton_append, List.append_nil, List.cons_append, List.nil_append, i1 _ _ _ h1 h2, r273_7, r273_10, r273_11, r273_12, if_neg z1]
    rw [r273_14]
    refine (rf_isIn _ _ _).on ?_
    simp only [Option.toList, List.singleton_append, List.append_nil, List.cons_append, List.nil_append, i0 _ _ _ h, r273_17, r273_30, r273_33, if_pos]
  have o3 : ¬ n < 1 → ¬ 12 < n → ¬ k < 0 → ¬ 13 < k → (a < 0 ∨ 10 < a) → Runs xs sl (d + 1 + 1 + 1) 273 0 [some (.ref b), some (.int n), some (.int k), some (.int a), some (.int under), none, none, none, none] [] H (some (.long (-1)), H) := by
    intro h1 h2 h3 h4 h
    simp only [r273_0, r273_1, r273_2]
    rw [r273_4]
    refine (rf_isIn _ _ _).on ?_
    simp only [Option.toList, List.singleton_append, List.append_nil, List.cons_append, List.nil_append, i1 _ _ _ h1 h2, r273_7, r273_10, r273_11, r273_12, if_neg z1]
    rw [r273_14]
    refine (rf_isIn _ _ _).on ?_
    simp only [Option.toList, List.singleton_append, List.append_nil, List.cons_append, List.nil_append, i1 _ _ _ h3 h4, r273_17, r273_20, r273_21, r273_22, if_neg z1]
    rw [r273_24]
    refine (rf_isIn _ _ _).on ?_
    simp only [Option.toList, List.singleton_append, List.append_nil, List.cons_append, List.nil_append, i0 _ _ _ h, r273_27, r273_30, r273_33, not_true_eq_false, if_false]
  unfold fJury
  by_cases c1 : n < 1
  · rw [if_pos c1]; exact o1 (Or.inl c1)
  by_cases c2 : 12 < n
  · rw [if_neg c1, if_pos c2]; exact o1 (Or.inr c2)
  by_cases c3 : k < 0
  · rw [if_neg c1, if_neg c2, if_pos c3]; exact o2 c1 c2 (Or.inl c3)
  by_cases c4 : 13 < k
  · rw [if_neg c1, if_neg c2, if_neg c3, if_pos c4]; exact o2 c1 c2 (Or.inr c4)
  by_cases c5 : a < 0
  · rw [if_neg c1, if_neg c2, if_neg c3, if_neg c4, if_pos c5]; exact o3 c1 c2 c3 c4 (Or.inl c5)
  by_cases c6 : 10 < a
  · rw [if_neg c1, if_neg c2, if_neg c3, if_neg c4, if_neg c5, if_pos c6]; exact o3 c1 c2 c3 c4 (Or.inr c6)
  rw [if_neg c1, if_neg c2, if_neg c3, if_neg c4, if_neg c5, if_neg c6]
  obtain ⟨n, g1, g2, rfl⟩ := nI_in2 (lo := 1) (hi := 12) (by decide) (by decide) c1 c2
  obtain ⟨k, -, g3, rfl⟩ := nI_in2 (lo := 0) (hi := 13) (by decide) (by decide) c3 c4
  obtain ⟨a, -, g4, rfl⟩ := nI_in2 (lo := 0) (hi := 10) (by decide) (by decide) c5 c6
  rw [nI_clamp (by omega), nI_clamp (by omega), nI_clamp (by omega)]
  obtain ⟨e1, e2, e3⟩ := chkJ_ok g1 g2 g3 g4
  have hq0 : ¬ cdl 100 (pw 10 n 1) (atLeast n k a) = 0 := fun q => by rw [q] at e2; exact absurd e2 (by decide)
  have := rf_jury_in (xs := xs) (sl := sl) (d := d) (H := H) b n k a under _ g1 g2 g3 g4 e3 hq0
  rw [f_jury, if_pos e2]
  rw [← e1] at this
  exact this
end JURYEQ
