/-! JURY: the class's jury, and the reference's -/
section JURY
variable {xs : Nat → Int32} {sl d : Nat} {H : mH}
def atL (n a : Nat) : Nat → Nat → Int64 → Int64
  | 0, _, acc => acc
  | m + 1, i, acc => atL n a m (i + 1) (acc + exactly n i a)
theorem ch_atLeast_loop (n a : Nat) (hn : n < 1000) (ha : a ≤ 10) (l1 : Option Value) : ∀ (m i : Nat) (acc : Int64), (i + m = n + 1 ∨ m = 0 ∧ n < i) → i < 2000 → Runs xs sl (d + 1 + 1) 42 5 [some (.int (nI n)), l1, some (.int (nI a)), some (.long acc), none, some (.int (nI i))] [] H (some (.long (atL n a m i acc)), H)
  | 0, i, acc, h, hi => by
    have c : nI n < nI i := nI_lt (by omega) (by omega)
    rw [r42_5]
    simp only [r42_0, r42_1, r42_2, r42_3, r42_7, r42_8, r42_11, r42_12, r42_13, r42_15, r42_19, r42_20, r42_21, r42_24, r42_27, r42_28, if_pos c, atL]
  | m + 1, i, acc, h, hi => by
    have c : ¬ nI n < nI i := nI_nlt (by omega) (by omega)
    rw [r42_5]
    simp only [r42_0, r42_1, r42_2, r42_3, r42_7, r42_8, r42_11, r42_12, r42_13, r42_15, r42_19, r42_20, r42_21, r42_24, r42_27, r42_28, if_neg c]
    rw [r42_16]
    refine (ch_exactly n i a hn (by omega) ha).on ?_
    simp only [Option.toList, List.singleton_append, List.append_nil, List.cons_append, List.nil_append, r42_0, r42_1, r42_2, r42_3, r42_7, r42_8, r42_11, r42_12, r42_13, r42_15, r42_19, r42_20, r42_21, r42_24, r42_27, r42_28, nI_1]
    exact ch_atLeast_loop n a hn ha l1 m (i + 1) _ (by omega) (by omega)
def atLeast (n k a : Nat) : Int64 := atL n a (n + 1 - k) k 0
theorem ch_atLeast (n k a : Nat) (hn : n < 1000) (hk : k < 1000) (ha : a ≤ 10) : Runs xs sl (d + 1 + 1) 42 0 [some (.int (nI n)), some (.int (nI k)), some (.int (nI a)), none, none, none] [] H (some (.long (atLeast n k a)), H) := by
  simp only [r42_0, r42_1, r42_2, r42_3, r42_7, r42_8, r42_11, r42_12, r42_13, r42_15, r42_19, r42_20, r42_21, r42_24, r42_27, r42_28]
  exact ch_atLeast_loop n a hn ha _ (n + 1 - k) k 0 (by omega) (by omega)
def cdl : Nat → Int64 → Int64 → Int64
  | 0, g, _ => g
  | f + 1, g, s => if s = 0 then g else cdl f s (g - g / s * s)
theorem ch_common_loop (l0 l1 l2 : Option Value) : ∀ (f i : Nat) (g s : Int64) (l9 l10 : Option Value), i + f = 100 → Runs xs sl d 44 9 [l0, l1, l2, none, some (.long g), none, some (.long s), none, some (.int (nI i)), l9, l10] [] H (some (.long (cdl f g s)), H)
  | 0, i, g, s, l9, l10, h => by
    have c : (100 : Int32) ≤ nI i := nI_le (a := 100) (by omega) (by omega)
    rw [r44_9]
    simp only [r44_0, r44_1, r44_3, r44_4, r44_6, r44_7, r44_11, r44_13, r44_16, r44_18, r44_19, r44_20, r44_23, r44_25, r44_28, r44_30, r44_32, r44_34, r44_36, r44_38, r44_41, r44_44, r44_46, if_pos c, cdl]
  | f + 1, i, g, s, l9, l10, h => by
    have c : ¬ (100 : Int32) ≤ nI i := nI_ge (b := 100) (by omega) (by omega)
    rw [r44_9]
    by_cases hs : s = 0
    · simp only [r44_0, r44_1, r44_3, r44_4, r44_6, r44_7, r44_11, r44_13, r44_16, r44_18, r44_19, r44_20, r44_23, r44_25, r44_28, r44_30, r44_32, r44_34, r44_36, r44_38, r44_41, r44_44, r44_46, if_neg c, lg_cmp_eq, if_pos hs, cdl]
    · simp only [r44_0, r44_1, r44_3, r44_4, r44_6, r44_7, r44_11, r44_13, r44_16, r44_18, r44_19, r44_20, r44_23, r44_25, r44_28, r44_30, r44_32, r44_34, r44_36, r44_38, r44_41, r44_44, r44_46, if_neg c, lg_cmp_eq, if_neg hs, cdl, r44_27 hs, nI_1]
      exact ch_common_loop l0 l1 l2 f (i + 1) _ _ _ _ (by omega)
theorem ch_common (a b : Int64) : Runs xs sl d 44 0 [some (.long a), none, some (.long b), none, none, none, none, none, none, none, none] [] H (some (.long (cdl 100 a b)), H) := by
  simp only [r44_0, r44_1, r44_3, r44_4, r44_6, r44_7, r44_11, r44_13, r44_16, r44_18, r44_19, r44_20, r44_23, r44_25, r44_28, r44_30, r44_32, r44_34, r44_36, r44_38, r44_41, r44_44, r44_46]
  exact ch_common_loop _ _ _ 100 0 a b _ _ (by omega)
theorem f_canBe_in {n a : Nat} (h1 : 1 ≤ n) (h2 : n ≤ 12) (h3 : a ≤ 10) : f_canBe (nI n) (nI a) = 1 := by
  unfold f_canBe
  rw [if_neg (show ¬ nI n < 1 from nI_nlt (b := 1) h1 (by omega)), if_neg (show ¬ 12 < nI n from nI_nlt (a := 12) h2 (by decide)), if_neg (nI_pos (by omega)), if_neg (show ¬ 10 < nI a from nI_nlt (a := 10) h3 (by decide))]
/-- what BreadTalk.jury answers, n, k, a within their bounds -/
def f_jury (n k a : Nat) (under : Int32) : Int64 :=
  if 0 < cdl 100 (pw 10 n 1) (atLeast n k a) then (if under = 0 then atLeast n k a / cdl 100 (pw 10 n 1) (atLeast n k a) else pw 10 n 1 / cdl 100 (pw 10 n 1) (atLeast n k a)) else -1
theorem br_jury_in (b n k a : Nat) (under : Int32) (h1 : 1 ≤ n) (h2 : n ≤ 12) (h3 : k ≤ 13) (h4 : a ≤ 10) : Runs xs sl (d + 1 + 1 + 1) 28 0 [some (.ref b), some (.int (nI n)), some (.int (nI k)), some (.int (nI a)), some (.int under), none, none, none, none, none, none] [] H (some (.long (f_jury n k a under)), H) := by
  have c1 : ¬ (1 : Int32) = 0 := by decide
  have c2 : ¬ nI k < 0 := nI_pos (by omega)
  have c3 : nI k ≤ 13 := nI_le (b := 13) h3 (by decide)
  simp only [r28_0, r28_1]
  rw [r28_2]
  refine (ch_canBe (nI n) (nI a)).on ?_
  simp only [Option.toList, List.singleton_append, List.append_nil, List.cons_append, List.nil_append, f_canBe_in h1 h2 h4, r28_5, r28_8, r28_9, r28_12, r28_13, r28_15, r28_18, r28_21, r28_22, r28_25, if_neg c1, if_neg c2, if_pos c3]
  rw [r28_26]
  refine (ch_power 10 n (by omega)).on ?_
  simp only [Option.toList, List.singleton_append, List.append_nil, List.cons_append, List.nil_append, r28_29, r28_31, r28_32, r28_33]
  rw [r28_34]
  refine (ch_atLeast n k a (by omega) (by omega) h4).on ?_
  simp only [Option.toList, List.singleton_append, List.append_nil, List.cons_append, List.nil_append, r28_37, r28_39, r28_41]
  rw [r28_43]
  refine (ch_common _ _).on ?_
  simp only [Option.toList, List.singleton_append, List.append_nil, List.cons_append, List.nil_append, r28_46, r28_48, r28_50, r28_51, r28_52, r28_55, r28_58, lg_cmp_gt]
  unfold f_jury
  by_cases c4 : 0 < cdl 100 (pw 10 n 1) (atLeast n k a)
  · have c5 : ¬ cdl 100 (pw 10 n 1) (atLeast n k a) = 0 := fun q => by rw [q] at c4; exact absurd c4 (by decide)
    simp only [if_pos c4]
    by_cases c6 : under = 0
    · simp only [r28_59, r28_61, r28_64, r28_66, r28_69, r28_72, r28_74, r28_77, if_pos c6, r28_76 c5]
    · simp only [r28_59, r28_61, r28_64, r28_66, r28_69, r28_72, r28_74, r28_77, if_neg c6, r28_68 c5]
  · simp only [if_neg c4]
end JURY
