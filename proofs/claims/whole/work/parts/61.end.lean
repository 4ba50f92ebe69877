/-! END, on both sides -/
section ENDS
variable {xs : Nat → Int32} {sl d : Nat} {H H' : mH} {a t : Nat} {τ : Told} {im : Nat → Option Nat} {I A E P : Nat → Int32}
def setN (τ : Told) (k : Nat) (v : Int32) : Told := (τ.1, τ.2.1, τ.2.2.1, τ.2.2.2.1, τ.2.2.2.2.1, va_up (tN τ) k v)
theorem isTold.putN (h : isTold H t τ) (k : Nat) (hk : k < 3) (v : Int32) : ∃ H1, hOw H t 7 (5 + k) (.int v) = some H1 ∧ isTold H1 t (setN τ k v) ∧ (∀ j, j ≠ t → H1.1 j = H.1 j) ∧ H1.2 = H.2 := by
  obtain ⟨h0, h1, h2, h3, h4, h5, h6⟩ := h
  obtain ⟨H1, w, ⟨F, o1, o2⟩, kp, z⟩ := h0.put (5 + k) (.int v)
  refine ⟨H1, w, ⟨⟨F, o1, fun j hj => (o2 j hj).trans ?_⟩, h1.kept (kp _ (by omega)), h2.kept (kp _ (by omega)), h3.kept (kp _ (by omega)), by rw [kp _ (by omega)]; exact h4, by rw [kp _ (by omega)]; exact h5, fun i hi => ?_⟩, kp, z⟩
  · unfold va_up toldF
    by_cases e : j = 5 + k
    · rw [if_pos e, if_neg (by omega)]
      show _ = Value.int (va_up (tN τ) k v (j - 5))
      rw [va_up, if_pos (by omega)]
    · rw [if_neg e]
      by_cases e2 : j < 5
      · rw [if_pos e2, if_pos e2]
      · rw [if_neg e2, if_neg e2]
        show _ = Value.int (va_up (tN τ) k v (j - 5))
        rw [va_up, if_neg (by omega)]
  · obtain ⟨a1, a2, a3⟩ := h6 i hi
    exact ⟨a1.kept (fun k _ _ => kp k (by omega)), a2.kept (fun k _ _ => kp k (by omega)), a3.kept (fun k _ _ => kp k (by omega))⟩
theorem isBread.withTold (h : isBread H a τ im) {τ1 : Told} (h1 : isTold H' (a + 1) τ1) (hk : ∀ j, (j < a + 1 ∨ a + 31 ≤ j) → H'.1 j = H.1 j) : isBread H' a τ1 im := by
  obtain ⟨⟨s, h0⟩, -, ⟨f, h2, h3⟩, ⟨x4, I4, h4⟩, ⟨x5, I5, h5⟩, ⟨I6, h6⟩, h7, ⟨x8, y8, z8, h8, h9⟩⟩ := h
  exact ⟨⟨s, h0.kept (hk _ (by omega))⟩, h1, ⟨f, (hk _ (by omega)).trans h2, h3⟩, ⟨x4, I4, h4.kept (fun k _ _ => hk k (by omega))⟩, ⟨x5, I5, h5.kept (fun k _ _ => hk k (by omega))⟩, ⟨I6, h6.kept (fun k _ _ => hk k (by omega))⟩, h7.kept (fun k _ _ => hk k (by omega)), ⟨x8, y8, z8, h8.kept (fun k _ _ => hk k (by omega)), h9⟩⟩
/-- what end answers, of the length that is there -/
def fEnd (l n : Int32) : Int32 := if n < 0 then -1 else if n ≤ l then n else -1
theorem br_end (h : isBread H a τ im) (n : Int32) : ∃ H1, Runs xs sl d 3 0 [some (.ref a), some (.int n)] [] H (some (.int (fEnd (tN τ 0) n)), H1) ∧ isBread H1 a (if n < 0 then τ else if n ≤ tN τ 0 then setN τ 0 n else τ) im ∧ (∀ j, j ≠ a + 1 → H1.1 j = H.1 j) ∧ H1.2 = H.2 := by
  have o := h.told
  have o5 : hO H (a + 1) 7 5 = some (.int (tN τ 0)) := h.2.1.get 5 (by decide)
  unfold fEnd
  by_cases c1 : n < 0
  · refine ⟨H, ?_, by rw [if_pos c1]; exact h, fun _ _ => rfl, rfl⟩
    simp only [r3_0, r3_1, r3_4, r3_5, r3_6, r3_9, r3_12, r3_15, r3_16, r3_17, r3_18, r3_21, r3_22, r3_25, r3_26, if_pos c1]
  by_cases c2 : n ≤ tN τ 0
  · obtain ⟨H1, w, i1, kp, z⟩ := h.2.1.putN 0 (by decide) n
    have w : hOw H (a + 1) 7 5 (.int n) = some H1 := w
    refine ⟨H1, ?_, by rw [if_neg c1, if_pos c2]; exact h.withTold i1 (fun j hj => kp j (by omega)), kp, z⟩
    simp only [r3_0, r3_1, r3_4, r3_5, r3_6, r3_9, r3_12, r3_15, r3_16, r3_17, r3_18, r3_21, r3_22, r3_25, r3_26, if_neg c1, if_pos c2, o, o5, w, Option.some.injEq, exists_eq_left']
  · refine ⟨H, ?_, by rw [if_neg c1, if_neg c2]; exact h, fun _ _ => rfl, rfl⟩
    simp only [r3_0, r3_1, r3_4, r3_5, r3_6, r3_9, r3_12, r3_15, r3_16, r3_17, r3_18, r3_21, r3_22, r3_25, r3_26, if_neg c1, if_neg c2, o, o5, Option.some.injEq, exists_eq_left']
theorem rf_end (h : isModel H a I A E P) (n : Int32) : ∃ H1, Runs xs sl d 171 0 [some (.ref a), some (.int n)] [] H (some (.int (fEnd (A 4) n)), H1) ∧ isModel H1 a I (if n < 0 then A else if n ≤ A 4 then va_up A 4 n else A) E P ∧ (∀ j, j ≠ a + 1 → H1.1 j = H.1 j) ∧ H1.2 = H.2 := by
  have o := h.all
  have o5 : hA H (a + 1) 0 4 = some (A 4) := h.at 4 (by decide)
  unfold fEnd
  by_cases c1 : n < 0
  · refine ⟨H, ?_, by rw [if_pos c1]; exact h, fun _ _ => rfl, rfl⟩
    simp only [r171_0, r171_1, r171_4, r171_5, r171_6, r171_9, r171_10, r171_11, r171_14, r171_15, r171_16, r171_17, r171_20, r171_21, r171_22, r171_23, r171_24, if_pos c1]
  by_cases c2 : n ≤ A 4
  · have w : hAw H (a + 1) 0 4 n = some (mset H (a + 1) (mI 0 5072 (va_up A 4 n))) := hAw_of (i := 4) h.2.1 (by decide) (by decide)
    have kp : ∀ j, j ≠ a + 1 → (mset H (a + 1) (mI 0 5072 (va_up A 4 n))).1 j = H.1 j := fun j hj => mset_ne hj
    refine ⟨_, ?_, ?_, kp, rfl⟩
    · simp only [r171_0, r171_1, r171_4, r171_5, r171_6, r171_9, r171_10, r171_11, r171_14, r171_15, r171_16, r171_17, r171_20, r171_21, r171_22, r171_23, r171_24, if_neg c1, if_pos c2, o, o5, w, Option.some.injEq, exists_eq_left']
    · rw [if_neg c1, if_pos c2]
      obtain ⟨h0, h1, h2, h3, g3, g4, g5, g6, g7, g8, g9, g10, g11, g12, g13, g14, g15, g16, g17, g19, g20, g21⟩ := h
      exact ⟨h0.kept (kp _ (by omega)), mset_at, (kp _ (by omega)).trans h2, (kp _ (by omega)).trans h3, g3.kept (kp _ (by omega)), g4.kept (kp _ (by omega)), g5.kept (kp _ (by omega)), g6.kept (kp _ (by omega)), g7.kept (kp _ (by omega)), g8.kept (kp _ (by omega)), g9.kept (kp _ (by omega)), g10.kept (kp _ (by omega)), g11.kept (kp _ (by omega)), g12.kept (kp _ (by omega)), g13.kept (kp _ (by omega)), g14.kept (kp _ (by omega)), g15.kept (kp _ (by omega)), g16.kept (kp _ (by omega)), g17.kept (kp _ (by omega)), g19.kept (kp _ (by omega)), g20.kept (kp _ (by omega)), g21.kept (kp _ (by omega))⟩
  · refine ⟨H, ?_, by rw [if_neg c1, if_neg c2]; exact h, fun _ _ => rfl, rfl⟩
    simp only [r171_0, r171_1, r171_4, r171_5, r171_6, r171_9, r171_10, r171_11, r171_14, r171_15, r171_16, r171_17, r171_20, r171_21, r171_22, r171_23, r171_24, if_neg c1, if_neg c2, o, o5, Option.some.injEq, exists_eq_left']
end ENDS
