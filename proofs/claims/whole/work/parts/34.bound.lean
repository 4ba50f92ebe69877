/-! BOUND: class and reference -/
section BOUND
variable {xs : Nat → Int32} {sl d : Nat} {H : mH}
def bbL (n a b : Nat) (w : Int64) : Nat → Nat → Int64 → Int32 → Int32
  | 0, _, _, best => best
  | m + 1, k, least, best => if w - atLeast n k a + atLeast n k b < least then bbL n a b w m (k + 1) (w - atLeast n k a + atLeast n k b) (nI k) else bbL n a b w m (k + 1) least best
theorem ch_bound_loop (n a b : Nat) (w : Int64) (hn : n ≤ 12) (ha : a ≤ 10) (hb : b ≤ 10) : ∀ (m k : Nat) (least : Int64) (best : Int32) (l9 l10 : Option Value), k + m = n + 2 → Runs xs sl (d + 1 + 1 + 1) 45 17 [some (.int (nI n)), some (.int (nI a)), some (.int (nI b)), some (.long w), none, some (.long least), none, some (.int best), some (.int (nI k)), l9, l10] [] H (some (.int (bbL n a b w m k least best)), H)
  | 0, k, least, best, l9, l10, h => by
    have c : nI (n + 1) < nI k := nI_lt (by omega) (by omega)
    rw [r45_17]
    simp only [r45_0, r45_3, r45_4, r45_7, r45_8, r45_9, r45_11, r45_12, r45_14, r45_15, r45_19, r45_20, r45_21, r45_22, r45_25, r45_26, r45_27, r45_29, r45_33, r45_34, r45_35, r45_37, r45_41, r45_42, r45_44, r45_46, r45_48, r45_49, r45_52, r45_54, r45_56, r45_58, r45_60, r45_63, r45_66, r45_68, nI_1, if_pos c, bbL]
  | m + 1, k, least, best, l9, l10, h => by
    have c : ¬ nI (n + 1) < nI k := nI_nlt (by omega) (by omega)
    rw [r45_17]
    simp only [r45_0, r45_3, r45_4, r45_7, r45_8, r45_9, r45_11, r45_12, r45_14, r45_15, r45_19, r45_20, r45_21, r45_22, r45_25, r45_26, r45_27, r45_29, r45_33, r45_34, r45_35, r45_37, r45_41, r45_42, r45_44, r45_46, r45_48, r45_49, r45_52, r45_54, r45_56, r45_58, r45_60, r45_63, r45_66, r45_68, nI_1, if_neg c]
    rw [r45_30]
    refine (ch_atLeast n k a (by omega) (by omega) ha).on ?_
    simp only [Option.toList, List.singleton_append, List.append_nil, List.cons_append, List.nil_append, r45_33, r45_34, r45_35, r45_37]
    rw [r45_38]
    refine (ch_atLeast n k b (by omega) (by omega) hb).on ?_
    by_cases c2 : w - atLeast n k a + atLeast n k b < least
    · have c3 : ¬ 0 ≤ lg_cmp (w - atLeast n k a + atLeast n k b) least := fun q => absurd ((lg_cmp_ge _ _).mp q) (Int64.not_le.mpr c2)
      simp only [Option.toList, List.singleton_append, List.append_nil, List.cons_append, List.nil_append, r45_41, r45_42, r45_44, r45_46, r45_48, r45_49, r45_52, r45_54, r45_56, r45_58, r45_60, r45_63, if_neg c3, nI_1, bbL, if_pos c2]
      exact ch_bound_loop n a b w hn ha hb m (k + 1) _ _ _ _ (by omega)
    · have c3 : 0 ≤ lg_cmp (w - atLeast n k a + atLeast n k b) least := (lg_cmp_ge _ _).mpr (Int64.not_lt.mp c2)
      simp only [Option.toList, List.singleton_append, List.append_nil, List.cons_append, List.nil_append, r45_41, r45_42, r45_44, r45_46, r45_48, r45_49, r45_52, r45_54, r45_56, r45_58, r45_60, r45_63, if_pos c3, nI_1, bbL, if_neg c2]
      exact ch_bound_loop n a b w hn ha hb m (k + 1) _ _ _ _ (by omega)
def bestB (n a b : Nat) : Int32 := bbL n a b (pw 10 n 1) (n + 1) 1 (pw 10 n 1) 0
theorem ch_bestBound (n a b : Nat) (hn : n ≤ 12) (ha : a ≤ 10) (hb : b ≤ 10) : Runs xs sl (d + 1 + 1 + 1) 45 0 [some (.int (nI n)), some (.int (nI a)), some (.int (nI b)), none, none, none, none, none, none, none, none] [] H (some (.int (bestB n a b)), H) := by
  simp only [r45_0, r45_3]
  rw [r45_4]
  refine (ch_power 10 n (by omega)).on ?_
  simp only [Option.toList, List.singleton_append, List.append_nil, List.cons_append, List.nil_append, r45_7, r45_8, r45_9, r45_11, r45_12, r45_14, r45_15]
  exact ch_bound_loop n a b _ hn ha hb (n + 1) 1 _ 0 _ _ (by omega)
/-- the reference's loop from k = 1 on, with something found -/
theorem rf_bound_loop (q n a b : Nat) (h1 : 1 ≤ n) (hn : n ≤ 12) (ha : a ≤ 10) (hb : b ≤ 10) : ∀ (m k : Nat) (least : Int64) (best : Int32) (l8 l9 : Option Value), k + m = n + 2 → ¬ best < 0 → Runs xs sl (d + 1 + 1 + 1) 278 41 [some (.ref q), some (.int (nI n)), some (.int (nI a)), some (.int (nI b)), some (.int best), some (.long least), none, some (.int (nI k)), l8, l9] [] H (some (.int (bbL n a b (orMore n 0 a) m k least best)), H)
  | 0, k, least, best, l8, l9, h, hbest => by
    have c : nI (n + 1) < nI k := nI_lt (by omega) (by omega)
    rw [r278_41]
    simp only [r278_0, r278_1, r278_2, r278_7, r278_10, r278_11, r278_12, r278_17, r278_20, r278_21, r278_22, r278_27, r278_30, r278_31, r278_32, r278_33, r278_35, r278_36, r278_38, r278_39, r278_43, r278_44, r278_45, r278_46, r278_49, r278_50, r278_51, r278_55, r278_56, r278_58, r278_62, r278_63, r278_64, r278_66, r278_70, r278_71, r278_73, r278_75, r278_76, r278_79, r278_81, r278_83, r278_84, r278_87, r278_90, r278_92, r278_94, r278_96, r278_98, r278_101, r278_104, r278_106, nI_1, if_pos c, bbL]
  | m + 1, k, least, best, l8, l9, h, hbest => by
    have c : ¬ nI (n + 1) < nI k := nI_nlt (by omega) (by omega)
    have cb : ¬ best = -1 := fun z => hbest (by rw [z]; decide)
    have e1 := (chkJ_ok h1 hn (show k ≤ 13 by omega) ha).1
    have e2 := (chkJ_ok h1 hn (show k ≤ 13 by omega) hb).1
    rw [r278_41]
    simp only [r278_0, r278_1, r278_2, r278_7, r278_10, r278_11, r278_12, r278_17, r278_20, r278_21, r278_22, r278_27, r278_30, r278_31, r278_32, r278_33, r278_35, r278_36, r278_38, r278_39, r278_43, r278_44, r278_45, r278_46, r278_49, r278_50, r278_51, r278_55, r278_56, r278_58, r278_62, r278_63, r278_64, r278_66, r278_70, r278_71, r278_73, r278_75, r278_76, r278_79, r278_81, r278_83, r278_84, r278_87, r278_90, r278_92, r278_94, r278_96, r278_98, r278_101, r278_104, r278_106, nI_1, if_neg c]
    rw [r278_52]
    refine (rf_orMore n 0 a (by omega) (by omega) ha).on ?_
    simp only [Option.toList, List.singleton_append, List.append_nil, List.cons_append, List.nil_append, r278_55, r278_56, r278_58]
    rw [r278_59]
    refine (rf_orMore n k a (by omega) (by omega) ha).on ?_
    simp only [Option.toList, List.singleton_append, List.append_nil, List.cons_append, List.nil_append, r278_62, r278_63, r278_64, r278_66]
    rw [r278_67]
    refine (rf_orMore n k b (by omega) (by omega) hb).on ?_
    rw [← e1, ← e2]
    by_cases c2 : orMore n 0 a - atLeast n k a + atLeast n k b < least
    · have c3 : lg_cmp (orMore n 0 a - atLeast n k a + atLeast n k b) least < 0 := (lg_cmp_lt _ _).mpr c2
      simp only [Option.toList, List.singleton_append, List.append_nil, List.cons_append, List.nil_append, r278_70, r278_71, r278_73, r278_75, r278_76, r278_79, r278_81, r278_83, r278_84, r278_87, r278_90, r278_92, r278_94, r278_96, r278_98, r278_101, if_neg cb, if_pos c3, nI_1, bbL, if_pos c2]
      exact rf_bound_loop q n a b h1 hn ha hb m (k + 1) _ _ _ _ (by omega) (nI_pos (by omega))
    · have c3 : ¬ lg_cmp (orMore n 0 a - atLeast n k a + atLeast n k b) least < 0 := fun z => c2 ((lg_cmp_lt _ _).mp z)
      simp only [Option.toList, List.singleton_append, List.append_nil, List.cons_append, List.nil_append, r278_70, r278_71, r278_73, r278_75, r278_76, r278_79, r278_81, r278_83, r278_84, r278_87, r278_90, r278_92, r278_94, r278_96, r278_98, r278_101, if_neg cb, if_neg c3, nI_1, bbL, if_neg c2]
      exact rf_bound_loop q n a b h1 hn ha hb m (k + 1) _ _ _ _ (by omega) hbest
end BOUND
