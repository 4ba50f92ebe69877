/-! CHANCE: what its methods answer -/
section CHANCE
variable {xs : Nat → Int32} {sl d : Nat} {H : mH}
def f_canBe (n a : Int32) : Int32 := if n < 1 then 0 else if 12 < n then 0 else if a < 0 then 0 else if 10 < a then 0 else 1
theorem ch_canBe (n a : Int32) : Runs xs sl d 40 0 [some (.int n), some (.int a)] [] H (some (.int (f_canBe n a)), H) := by
  have h0 : (0 : Int32) = 0 ∨ (0 : Int32) = 1 := Or.inl rfl
  have h1 : (1 : Int32) = 0 ∨ (1 : Int32) = 1 := Or.inr rfl
  simp only [r40_0, r40_1, r40_2, r40_5, r40_6, r40_8, r40_11, r40_12, r40_15, r40_16, r40_18, r40_21, r40_22, r40_25, r40_26 h0, r40_26 h1, f_canBe]
  by_cases c1 : n < 1
  · simp only [if_pos c1]
  · by_cases c2 : 12 < n
    · simp only [if_neg c1, if_pos c2]
    · by_cases c3 : a < 0
      · simp only [if_neg c1, if_neg c2, if_pos c3]
      · by_cases c4 : 10 < a
        · simp only [if_neg c1, if_neg c2, if_neg c3, if_pos c4]
        · simp only [if_neg c1, if_neg c2, if_neg c3, if_neg c4]
def pw (b : Int64) : Nat → Int64 → Int64
  | 0, acc => acc
  | n + 1, acc => pw b n (acc * b)
theorem ch_power_loop (b : Int64) (e : Nat) (he : e < 2 ^ 31) : ∀ (k i : Nat) (acc : Int64), i + k = e → Runs xs sl d 41 5 [some (.long b), none, some (.int (nI e)), some (.long acc), none, some (.int (nI i))] [] H (some (.long (pw b k acc)), H)
  | 0, i, acc, h => by
    have c : nI e ≤ nI i := nI_le (by omega) (by omega)
    rw [r41_5]
    simp only [r41_0, r41_1, r41_2, r41_3, r41_7, r41_8, r41_11, r41_12, r41_13, r41_14, r41_15, r41_18, r41_21, r41_22, if_pos c, pw]
  | k + 1, i, acc, h => by
    have c : ¬ nI e ≤ nI i := nI_ge (by omega) he
    rw [r41_5]
    simp only [r41_0, r41_1, r41_2, r41_3, r41_7, r41_8, r41_11, r41_12, r41_13, r41_14, r41_15, r41_18, r41_21, r41_22, if_neg c, nI_1]
    exact ch_power_loop b e he k (i + 1) (acc * b) (by omega)
theorem ch_power (b : Int64) (e : Nat) (he : e < 2 ^ 31) : Runs xs sl d 41 0 [some (.long b), none, some (.int (nI e)), none, none, none] [] H (some (.long (pw b e 1)), H) := by
  simp only [r41_0, r41_1, r41_2, r41_3, r41_7, r41_8, r41_11, r41_12, r41_13, r41_14, r41_15, r41_18, r41_21, r41_22]
  exact ch_power_loop b e he e 0 1 (by omega)
def exI (n : Nat) : Nat → Nat → Int64 → Int64
  | 0, _, acc => acc
  | k + 1, i, acc => exI n k (i + 1) (acc * lN (n - i) / lN (i + 1))
theorem ch_exact_loop (n k : Nat) (a : Int32) (hn : n < 1000) (hk : k ≤ n) : ∀ (m i : Nat) (acc : Int64), i + m = k → Runs xs sl d 43 22 [some (.int (nI n)), some (.int (nI k)), some (.int a), some (.long acc), none, some (.int (nI i))] [] H (some (.long (exI n m i acc)), H)
  | 0, i, acc, h => by
    have c : nI k ≤ nI i := nI_le (by omega) (by omega)
    rw [r43_22]
    simp only [r43_0, r43_1, r43_2, r43_6, r43_8, r43_9, r43_10, r43_11, r43_12, r43_13, r43_17, r43_18, r43_19, r43_20, r43_24, r43_25, r43_28, r43_29, r43_30, r43_32, r43_33, r43_34, r43_35, r43_37, r43_38, r43_39, r43_41, r43_42, r43_45, r43_48, r43_49, if_pos c, exI]
  | m + 1, i, acc, h => by
    have c : ¬ nI k ≤ nI i := nI_ge (by omega) (by omega)
    have e1 : (nI n - nI i).toInt64 = lN (n - i) := by rw [pk_sub (by omega), nI_l (by omega)]
    have e2 : (nI (i + 1)).toInt64 = lN (i + 1) := nI_l (by omega)
    have e3 : ¬ lN (i + 1) = 0 := by
      intro q
      have := (lN_eq (a := i + 1) (b := 0) (by omega) (by omega)).mp q
      omega
    rw [r43_22]
    simp only [r43_0, r43_1, r43_2, r43_6, r43_8, r43_9, r43_10, r43_11, r43_12, r43_13, r43_17, r43_18, r43_19, r43_20, r43_24, r43_25, r43_28, r43_29, r43_30, r43_32, r43_33, r43_34, r43_35, r43_37, r43_38, r43_39, r43_41, r43_42, r43_45, r43_48, r43_49, if_neg c, nI_1, e1, e2, r43_40 e3]
    exact ch_exact_loop n k a hn hk m (i + 1) _ (by omega)
def exactly (n k a : Nat) : Int64 := exI n k 0 (pw (lN a) k 1 * pw (lN (10 - a)) (n - k) 1)
theorem ch_exactly (n k a : Nat) (hn : n < 1000) (hk : k ≤ n) (ha : a ≤ 10) : Runs xs sl (d + 1) 43 0 [some (.int (nI n)), some (.int (nI k)), some (.int (nI a)), none, none, none] [] H (some (.long (exactly n k a)), H) := by
  have e1 : (nI a).toInt64 = lN a := nI_l (by omega)
  have e2 : (10 - nI a).toInt64 = lN (10 - a) := by rw [show (10 : Int32) = nI 10 from rfl, pk_sub ha, nI_l (by omega)]
  have e3 : nI n - nI k = nI (n - k) := pk_sub hk
  simp only [r43_0, r43_1, r43_2, e1]
  rw [r43_3]
  refine (ch_power (lN a) k (by omega)).on ?_
  simp only [Option.toList, List.singleton_append, List.append_nil, List.cons_append, List.nil_append, r43_6, r43_8, r43_9, r43_10, r43_11, r43_12, r43_13, e2, e3]
  rw [r43_14]
  refine (ch_power (lN (10 - a)) (n - k) (by omega)).on ?_
  simp only [Option.toList, List.singleton_append, List.append_nil, List.cons_append, List.nil_append, r43_17, r43_18, r43_19, r43_20]
  exact ch_exact_loop n k (nI a) hn hk k 0 _ (by omega)
end CHANCE
