/-! JURY: the reference's -/
section REFJURY
variable {xs : Nat → Int32} {sl d : Nat} {H : mH}
def f_isIn (v lo hi : Int32) : Int32 := if v < lo then 0 else if hi < v then 0 else 1
theorem rf_isIn (v lo hi : Int32) : Runs xs sl d 173 0 [some (.int v), some (.int lo), some (.int hi)] [] H (some (.int (f_isIn v lo hi)), H) := by
  have h0 : (0 : Int32) = 0 ∨ (0 : Int32) = 1 := Or.inl rfl
  have h1 : (1 : Int32) = 0 ∨ (1 : Int32) = 1 := Or.inr rfl
  simp only [r173_0, r173_1, r173_2, r173_5, r173_6, r173_7, r173_10, r173_11, r173_14, r173_15 h0, r173_15 h1, f_isIn]
  by_cases c1 : v < lo
  · simp only [if_pos c1]
  · by_cases c2 : hi < v
    · simp only [if_neg c1, if_pos c2]
    · simp only [if_neg c1, if_neg c2]
theorem rf_power_loop (b : Int64) (e : Nat) (he : e < 2 ^ 31) : ∀ (k i : Nat) (acc : Int64), i + k = e → Runs xs sl d 276 5 [some (.long b), none, some (.int (nI e)), some (.long acc), none, some (.int (nI i))] [] H (some (.long (pw b k acc)), H)
  | 0, i, acc, h => by
    have c : nI e ≤ nI i := nI_le (by omega) (by omega)
    rw [r276_5]
    simp only [r276_0, r276_1, r276_2, r276_3, r276_7, r276_8, r276_11, r276_12, r276_13, r276_14, r276_15, r276_18, r276_21, r276_22, if_pos c, pw]
  | k + 1, i, acc, h => by
    have c : ¬ nI e ≤ nI i := nI_ge (by omega) he
    rw [r276_5]
    simp only [r276_0, r276_1, r276_2, r276_3, r276_7, r276_8, r276_11, r276_12, r276_13, r276_14, r276_15, r276_18, r276_21, r276_22, if_neg c, nI_1]
    exact rf_power_loop b e he k (i + 1) (acc * b) (by omega)
theorem rf_power (b : Int64) (e : Nat) (he : e < 2 ^ 31) : Runs xs sl d 276 0 [some (.long b), none, some (.int (nI e)), none, none, none] [] H (some (.long (pw b e 1)), H) := by
  simp only [r276_0, r276_1, r276_2, r276_3, r276_7, r276_8, r276_11, r276_12, r276_13, r276_14, r276_15, r276_18, r276_21, r276_22]
  exact rf_power_loop b e he e 0 1 (by omega)
def just (n k a : Nat) : Int64 := exI n k 0 1 * pw (lN a) k 1 * pw (lN (10 - a)) (n - k) 1
theorem rf_just_loop (n k a : Nat) (hn : n < 1000) (hk : k ≤ n) (ha : a ≤ 10) : ∀ (m i : Nat) (acc : Int64), i + m = k → Runs xs sl (d + 1) 275 5 [some (.int (nI n)), some (.int (nI k)), some (.int (nI a)), some (.long acc), none, some (.int (nI i))] [] H (some (.long (exI n m i acc * pw (lN a) k 1 * pw (lN (10 - a)) (n - k) 1)), H)
  | 0, i, acc, h => by
    have c : nI k ≤ nI i := nI_le (by omega) (by omega)
    have e1 : (nI a).toInt64 = lN a := nI_l (by omega)
    have e2 : (10 - nI a).toInt64 = lN (10 - a) := by rw [show (10 : Int32) = nI 10 from rfl, pk_sub ha, nI_l (by omega)]
    have e3 : nI n - nI k = nI (n - k) := pk_sub hk
    rw [r275_5]
    simp only [r275_0, r275_1, r275_2, r275_3, r275_7, r275_8, r275_11, r275_12, r275_13, r275_15, r275_16, r275_17, r275_18, r275_20, r275_21, r275_22, r275_24, r275_25, r275_28, r275_31, r275_32, r275_33, r275_34, r275_38, r275_39, r275_41, r275_42, r275_43, r275_44, r275_45, r275_46, r275_50, r275_51, if_pos c, e1]
    rw [r275_35]
    refine (rf_power (lN a) k (by omega)).on ?_
    simp only [Option.toList, List.singleton_append, List.append_nil, List.cons_append, List.nil_append, r275_38, r275_39, r275_41, r275_42, r275_43, r275_44, r275_45, r275_46, e2, e3]
    rw [r275_47]
    refine (rf_power (lN (10 - a)) (n - k) (by omega)).on ?_
    simp only [Option.toList, List.singleton_append, List.append_nil, List.cons_append, List.nil_append, r275_50, r275_51, exI]
  | m + 1, i, acc, h => by
    have c : ¬ nI k ≤ nI i := nI_ge (by omega) (by omega)
    have e1 : (nI n - nI i).toInt64 = lN (n - i) := by rw [pk_sub (by omega), nI_l (by omega)]
    have e2 : (nI (i + 1)).toInt64 = lN (i + 1) := nI_l (by omega)
    have e3 : ¬ lN (i + 1) = 0 := by
      intro q
      have := (lN_eq (a := i + 1) (b := 0) (by omega) (by omega)).mp q
      omega
    rw [r275_5]
    simp only [r275_0, r275_1, r275_2, r275_3, r275_7, r275_8, r275_11, r275_12, r275_13, r275_15, r275_16, r275_17, r275_18, r275_20, r275_21, r275_22, r275_24, r275_25, r275_28, r275_31, r275_32, r275_33, r275_34, r275_38, r275_39, r275_41, r275_42, r275_43, r275_44, r275_45, r275_46, r275_50, r275_51, if_neg c, nI_1, e1, e2, r275_23 e3]
    exact rf_just_loop n k a hn hk ha m (i + 1) _ (by omega)
theorem rf_just (n k a : Nat) (hn : n < 1000) (hk : k ≤ n) (ha : a ≤ 10) : Runs xs sl (d + 1) 275 0 [some (.int (nI n)), some (.int (nI k)), some (.int (nI a)), none, none, none] [] H (some (.long (just n k a)), H) := by
  simp only [r275_0, r275_1, r275_2, r275_3]
  exact rf_just_loop n k a hn hk ha k 0 1 (by omega)
def orM (n a : Nat) : Nat → Nat → Int64 → Int64
  | 0, _, acc => acc
  | m + 1, i, acc => orM n a m (i + 1) (acc + just n i a)
theorem rf_orMore_loop (n a : Nat) (hn : n < 1000) (ha : a ≤ 10) (l1 : Option Value) : ∀ (m i : Nat) (acc : Int64), (i + m = n + 1 ∨ m = 0 ∧ n < i) → i < 2000 → Runs xs sl (d + 1 + 1) 274 5 [some (.int (nI n)), l1, some (.int (nI a)), some (.long acc), none, some (.int (nI i))] [] H (some (.long (orM n a m i acc)), H)
  | 0, i, acc, h, hi => by
    have c : nI n < nI i := nI_lt (by omega) (by omega)
    rw [r274_5]
    simp only [r274_0, r274_1, r274_2, r274_3, r274_7, r274_8, r274_11, r274_12, r274_13, r274_15, r274_19, r274_20, r274_21, r274_24, r274_27, r274_28, if_pos c, orM]
  | m + 1, i, acc, h, hi => by
    have c : ¬ nI n < nI i := nI_nlt (by omega) (by omega)
    rw [r274_5]
    simp only [r274_0, r274_1, r274_2, r274_3, r274_7, r274_8, r274_11, r274_12, r274_13, r274_15, r274_19, r274_20, r274_21, r274_24, r274_27, r274_28, if_neg c]
    rw [r274_16]
    refine (rf_just n i a hn (by omega) ha).on ?_
    simp only [Option.toList, List.singleton_append, List.append_nil, List.cons_append, List.nil_append, r274_0, r274_1, r274_2, r274_3, r274_7, r274_8, r274_11, r274_12, r274_13, r274_15, r274_19, r274_20, r274_21, r274_24, r274_27, r274_28, nI_1]
    exact rf_orMore_loop n a hn ha l1 m (i + 1) _ (by omega) (by omega)
def orMore (n k a : Nat) : Int64 := orM n a (n + 1 - k) k 0
theorem rf_orMore (n k a : Nat) (hn : n < 1000) (hk : k < 1000) (ha : a ≤ 10) : Runs xs sl (d + 1 + 1) 274 0 [some (.int (nI n)), some (.int (nI k)), some (.int (nI a)), none, none, none] [] H (some (.long (orMore n k a)), H) := by
  simp only [r274_0, r274_1, r274_2, r274_3]
  exact rf_orMore_loop n a hn ha _ (n + 1 - k) k 0 (by omega) (by omega)
/-- the reference's common divisor, where it ends within f steps -/
def cdE : Nat → Int64 → Int64 → Option Int64
  | 0, _, _ => none
  | f + 1, g, s => if s = 0 then some g else cdE f s (g - g / s * s)
theorem rf_common_loop (l0 l1 l2 : Option Value) : ∀ (f : Nat) (g s q : Int64) (l8 l9 : Option Value), cdE f g s = some q → Runs xs sl d 277 6 [l0, l1, l2, none, some (.long g), none, some (.long s), none, l8, l9] [] H (some (.long q), H)
  | 0, g, s, q, l8, l9, h => by cases h
  | f + 1, g, s, q, l8, l9, h => by
    rw [cdE] at h
    rw [r277_6]
    by_cases hs : s = 0
    · rw [if_pos hs] at h
      cases h
      simp only [r277_0, r277_1, r277_3, r277_4, r277_8, r277_9, r277_10, r277_13, r277_15, r277_18, r277_20, r277_22, r277_24, r277_26, r277_28, r277_31, r277_33, lg_cmp_eq, if_pos hs]
    · rw [if_neg hs] at h
      simp only [r277_0, r277_1, r277_3, r277_4, r277_8, r277_9, r277_10, r277_13, r277_15, r277_18, r277_20, r277_22, r277_24, r277_26, r277_28, r277_31, r277_33, lg_cmp_eq, if_neg hs, r277_17 hs]
      exact rf_common_loop l0 l1 l2 f _ _ q _ _ h
theorem rf_common (a b q : Int64) (f : Nat) (h : cdE f a b = some q) : Runs xs sl d 277 0 [some (.long a), none, some (.long b), none, none, none, none, none, none, none] [] H (some (.long q), H) := by
  simp only [r277_0, r277_1, r277_3, r277_4, r277_8, r277_9, r277_10, r277_13, r277_15, r277_18, r277_20, r277_22, r277_24, r277_26, r277_28, r277_31, r277_33]
  exact rf_common_loop _ _ _ f a b q _ _ h
theorem rf_jury_in (b n k a : Nat) (under : Int32) (q : Int64) (h1 : 1 ≤ n) (h2 : n ≤ 12) (h3 : k ≤ 13) (h4 : a ≤ 10) (hq : cdE 100 (orMore n k a) (pw 10 n 1) = some q) (hq0 : ¬ q = 0) : Runs xs sl (d + 1 + 1 + 1) 273 0 [some (.ref b), some (.int (nI n)), some (.int (nI k)), some (.int (nI a)), some (.int under), none, none, none, none] [] H (some (.long (if under = 0 then orMore n k a / q else pw 10 n 1 / q)), H) := by
  have i1 : f_isIn (nI n) 1 12 = 1 := by
    unfold f_isIn
    rw [if_neg (show ¬ nI n < 1 from nI_nlt (b := 1) h1 (by omega)), if_neg (show ¬ 12 < nI n from nI_nlt (a := 12) h2 (by decide))]
  have i2 : f_isIn (nI k) 0 13 = 1 := by
    unfold f_isIn
    rw [if_neg (nI_pos (by omega)), if_neg (show ¬ 13 < nI k from nI_nlt (a := 13) h3 (by decide))]
  have i3 : f_isIn (nI a) 0 10 = 1 := by
    unfold f_isIn
    rw [if_neg (nI_pos (by omega)), if_neg (show ¬ 10 < nI a from nI_nlt (a := 10) h4 (by decide))]
  have c1 : ¬ (1 : Int32) = 0 := by decide
  simp only [r273_0, r273_1, r273_2]
  rw [r273_4]
  refine (rf_isIn _ _ _).on ?_
  simp only [Option.toList, List.singleton_append, List.append_nil, List.cons_append, List.nil_append, i1, r273_7, r273_10, r273_11, r273_12, if_neg c1]
  rw [r273_14]
  refine (rf_isIn _ _ _).on ?_
  simp only [Option.toList, List.singleton_append, List.append_nil, List.cons_append, List.nil_append, i2, r273_17, r273_20, r273_21, r273_22, if_neg c1]
  rw [r273_24]
  refine (rf_isIn _ _ _).on ?_
  simp only [Option.toList, List.singleton_append, List.append_nil, List.cons_append, List.nil_append, i3, r273_27, r273_30, r273_33, r273_34, r273_35, r273_36, if_pos c1]
  rw [r273_37]
  refine (rf_orMore n k a (by omega) (by omega) h4).on ?_
  simp only [Option.toList, List.singleton_append, List.append_nil, List.cons_append, List.nil_append, r273_40, r273_42, r273_45]
  rw [r273_46]
  refine (rf_power 10 n (by omega)).on ?_
  by_cases c6 : under = 0
  · simp only [Option.toList, List.singleton_append, List.append_nil, List.cons_append, List.nil_append, r273_49, r273_51, r273_53, r273_56, r273_58, r273_61, r273_63, r273_65, if_pos c6]
    rw [r273_67]
    refine (rf_common _ _ q 100 hq).on ?_
    simp only [Option.toList, List.singleton_append, List.append_nil, List.cons_append, List.nil_append, r273_71, r273_70 hq0]
  · simp only [Option.toList, List.singleton_append, List.append_nil, List.cons_append, List.nil_append, r273_49, r273_51, r273_53, r273_56, r273_58, r273_61, r273_63, r273_65, if_neg c6]
    rw [r273_67]
    refine (rf_common _ _ q 100 hq).on ?_
    simp only [Option.toList, List.singleton_append, List.append_nil, List.cons_append, List.nil_append, r273_71, r273_70 hq0]
end REFJURY
