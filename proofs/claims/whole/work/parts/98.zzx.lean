/-! THE LAW'S LOOP -/
section LWL
variable {xs : Nat → Int32} {sl d : Nat} {J : hJk} {s : hS} {g : hG}
set_option maxHeartbeats 1000000 in
theorem law_step {i K : Nat} (hi : i + 6 ≤ sl) (hl : sl ≤ 3072) (hK : K + 257 < 2 ^ 30) (hL : LI J s K) {w : Nat} (hw : w < 32) : lwD xs sl i w (hp J s g) (K + 257) := by
  have hI := hL.1
  have h : w = 0 ∨ w = 1 ∨ w = 2 ∨ w = 3 ∨ w = 4 ∨ w = 5 ∨ w = 6 ∨ w = 7 ∨ w = 8 ∨ w = 9 ∨ w = 10 ∨ w = 11 ∨ w = 12 ∨ w = 13 ∨ w = 14 ∨ w = 15 ∨ w = 16 ∨ w = 17 ∨ w = 18 ∨ w = 19 ∨ w = 20 ∨ w = 21 ∨ w = 22 ∨ w = 23 ∨ w = 24 ∨ w = 25 ∨ w = 26 ∨ w = 27 ∨ w = 28 ∨ w = 29 ∨ w = 30 ∨ w = 31 := by omega
  rcases h with rfl | rfl | rfl | rfl | rfl | rfl | rfl | rfl | rfl | rfl | rfl | rfl | rfl | rfl | rfl | rfl | rfl | rfl | rfl | rfl | rfl | rfl | rfl | rfl | rfl | rfl | rfl | rfl | rfl | rfl | rfl | rfl
  · exact lw_c0 hi hl (of_StepT hL (pm_feed hI _ _ _ _ _))
  · exact lw_c1 hi hl (of_StepT hL (pm_end hI _))
  · exact lw_c2 hi hl (of_StepT hL (pm_text hI _ _))
  · exact lw_c3 hi hl (of_Same hL (pm_fault hI _))
  · exact lw_c4 hi hl (of_Same hL (pm_town hI _ _))
  · exact lw_c5 hi hl (of_Same hL (pm_mind hI _ _ _))
  · exact lw_c6 hi hl (of_Same hL (pm_said hI _ _ _))
  · exact lw_c7 hi hl (of_Same hL (pm_deed hI _ _ _))
  · exact lw_c8 hi hl (of_Same hL (pm_stop hI _ _))
  · exact lw_c9 hi hl (of_Same hL (pm_state hI _ _ _ _))
  · exact lw_c10 hi hl (of_Same hL (pm_shares hI _ _ _))
  · exact lw_c11 hi hl (of_Same hL (pm_feast hI _ _ _ _ _))
  · exact lw_c12 hi hl (of_Same hL (pm_agree hI _ _))
  · exact lw_c13 hi hl (of_Same hL (pm_side hI _ _ _))
  · exact lw_c14 hi hl (of_SameV hL (pm_visits hI hL.2.2.2.1 hK _ _ _))
  · exact lw_c15 hi hl (of_Same hL (pm_sign hI _ _ _ _))
  · exact lw_c16 hi hl (of_Same hL (pm_sales hI _ _ _ _ _ (lwB_or _)))
  · exact lw_c17 hi hl (of_Same hL (pm_rest hI _ _ _))
  · exact lw_c18 hi hl (of_Same hL (pm_plate hI _ _ _))
  · exact lw_c19 hi hl (of_SameG hL (pm_fits hI hL.2.2.1 _ _))
  · exact lw_c20 hi hl (of_Same hL (pm_jury _ _ _ _))
  · exact lw_c21 hi hl (of_Same hL (pm_bound _ _ _))
  · exact lw_c22 hi hl (of_Same hL (pm_drawn hI _ _ _ _))
  · exact lw_c23 hi hl (of_Same hL (pm_apart hI _ _ _))
  · exact lw_c24 hi hl (of_Same hL (pm_factions hI _ _ _))
  · exact lw_c25 hi hl (of_Same hL (pm_pivots hI _ _))
  · exact lw_c26 hi hl (of_Same hL (pm_sway hI _ _ _ _))
  · exact lw_c27 hi hl (of_Same hL (pm_count hI _))
  · exact lw_c28 hi hl (of_StepI (pm_image hL _))
  · exact lw_c29 hi hl (of_StepI (pm_again hL _))
  · exact ⟨hp J s g, ⟨J, s, g, rfl, LI_mono (by omega) hL⟩, fun r hr => (r0_33_d (Or.inr (by decide))).mpr hr⟩
  · exact ⟨hp J s g, ⟨J, s, g, rfl, LI_mono (by omega) hL⟩, fun r hr => (r0_33_d (Or.inr (by decide))).mpr hr⟩
theorem lw_cond {a j : Nat} (ha : a ≤ 3072) (hj : j ≤ 3072) : (Int32.ofNat a - 6 < nI j) ↔ a < j + 6 := by
  by_cases c : 6 ≤ a
  · have e : Int32.ofNat a - 6 = nI (a - 6) := nI_subL (a := a) (n := 6) c
    rw [e, nI_ltE (by omega) (by omega)]
    omega
  · have h : a = 0 ∨ a = 1 ∨ a = 2 ∨ a = 3 ∨ a = 4 ∨ a = 5 := by omega
    have p : ¬ nI j < 0 := nI_pos (by omega)
    have q : Int32.ofNat a - 6 < 0 := by rcases h with rfl | rfl | rfl | rfl | rfl | rfl <;> decide
    refine ⟨fun _ => by omega, fun _ => ?_⟩
    have p2 := Int32.le_iff_toInt_le.mp (Int32.not_lt.mp p)
    have q2 := Int32.lt_iff_toInt_lt.mp q
    exact Int32.lt_iff_toInt_lt.mpr (by omega)
theorem imn_le : imn J ≤ 3 := by
  have h : ∀ o : Option Nat, ioN o ≤ 1 := fun o => by cases o <;> first | exact Nat.zero_le _ | exact Nat.le_refl _
  have h0 := h (J.2.2.1 0)
  have h1 := h (J.2.2.1 1)
  have h2 := h (J.2.2.1 2)
  unfold imn
  omega
theorem law_loop (hl : sl ≤ 3072) : ∀ (m j : Nat) (J : hJk) (s : hS) (g : hG), sl < 6 * j + 6 * (m + 1) → 6 * j ≤ 3072 → LI J s (257 * j) → ∃ H' : mH, Runs xs sl 1000 0 18 (lwL (6 * j)) [] (hp J s g) (some (.int 1), H') ∧ H'.2.1 ≤ 1000 ∧ H'.2.2 ≤ 40000 := by
  intro m
  induction m with
  | zero =>
    intro j J s g h1 h2 hL
    have c : Int32.ofNat sl - 6 < nI (6 * j) := (lw_cond hl h2).mpr (by omega)
    have m3 := hL.2.2.2.2.2.2
    have m3a : J.2.2.2.2.1 = 103 + 30 * imn J := congrArg (fun q => q.1) m3
    have m3b : J.2.2.2.2.2 = 25658 + 1293 * imn J := congrArg (fun q => q.2) m3
    have m4 := imn_le (J := J)
    refine ⟨hp J s g, ?_, ?_, ?_⟩
    · rw [r0_18]
      simp only [r0_19, r0_20, r0_21, r0_23, r0_24, if_pos c, r0_1464, r0_1465 (Or.inr rfl)]
    · show J.2.2.2.2.1 ≤ 1000
      omega
    · show J.2.2.2.2.2 ≤ 40000
      omega
  | succ m ih =>
    intro j J s g h1 h2 hL
    by_cases c0 : sl < 6 * j + 6
    · have c : Int32.ofNat sl - 6 < nI (6 * j) := (lw_cond hl h2).mpr c0
      have m3 := hL.2.2.2.2.2.2
      have m3a : J.2.2.2.2.1 = 103 + 30 * imn J := congrArg (fun q => q.1) m3
      have m3b : J.2.2.2.2.2 = 25658 + 1293 * imn J := congrArg (fun q => q.2) m3
      have m4 := imn_le (J := J)
      refine ⟨hp J s g, ?_, ?_, ?_⟩
      · rw [r0_18]
        simp only [r0_19, r0_20, r0_21, r0_23, r0_24, if_pos c, r0_1464, r0_1465 (Or.inr rfl)]
      · show J.2.2.2.2.1 ≤ 1000
        omega
      · show J.2.2.2.2.2 ≤ 40000
        omega
    · have c : ¬ Int32.ofNat sl - 6 < nI (6 * j) := fun q => c0 ((lw_cond hl h2).mp q)
      obtain ⟨w, hw, e⟩ := and31 (xs (6 * j))
      obtain ⟨H2, ⟨J2, s2, g2, rfl, hL2⟩, k⟩ := law_step (xs := xs) (g := g) (i := 6 * j) (K := 257 * j) (by omega) hl (by omega) hL hw
      obtain ⟨H', r, b1, b2⟩ := ih (j + 1) J2 s2 g2 (by omega) (by omega) hL2
      refine ⟨H', ?_, b1, b2⟩
      obtain ⟨b0, e0⟩ := lw_at (sl := sl) (i := 6 * j) (n := 0) (by omega) hl (by decide)
      rw [Nat.add_zero] at b0 e0
      rw [r0_18]
      simp (disch := assumption) only [r0_19, r0_20, r0_21, r0_23, r0_24, r0_27, r0_28, r0_29, r0_30, r0_32, if_neg c, e0, e]
      refine k _ ?_
      rw [r0_1458, r0_1461, nI_addL]
      exact r
end LWL
