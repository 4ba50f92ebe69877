/-! FEED, the class's: a number put on the tape -/
section FEED
variable {xs : Nat → Int32} {sl d : Nat} {H H' : mH} {a t : Nat} {τ : Told} {im : Nat → Option Nat}
def setB (τ : Told) (k : Nat) (v : Int32) : Told := (τ.1, τ.2.1, τ.2.2.1, τ.2.2.2.1, va_up (tB τ) k v, τ.2.2.2.2.2)
theorem hBw_of {a n i : Nat} {f : Nat → Int32} {x : Int32} (h : H.1 a = some (mI 1 n f)) (hi : i < n) (hn : n < 2 ^ 31) : hBw H a (nI i) x = some (mset H a (mI 1 n (va_up f i (vp_nar .byte x)))) := by
  unfold hBw
  rw [h]
  dsimp only
  rw [if_pos rfl, if_neg (nI_in hi hn), nI_clamp (by omega)]
theorem isTold.putB (h : isTold H t τ) (l : Nat) (hl : l < 600) (x : Int32) : ∃ H1, hBw H (t + 5) (nI l) x = some H1 ∧ isTold H1 t (setB τ l (vp_nar .byte x)) ∧ (∀ j, j ≠ t + 5 → H1.1 j = H.1 j) ∧ H1.2 = H.2 := by
  obtain ⟨h0, h1, h2, h3, h4, h5, h6⟩ := h
  have kp : ∀ j, j ≠ t + 5 → (mset H (t + 5) (mI 1 600 (va_up (tB τ) l (vp_nar .byte x)))).1 j = H.1 j := fun j hj => mset_ne hj
  refine ⟨_, hBw_of h5 hl (by decide), ⟨h0.kept (kp _ (by omega)), h1.kept (kp _ (by omega)), h2.kept (kp _ (by omega)), h3.kept (kp _ (by omega)), (kp _ (by omega)).trans h4, mset_at, fun i hi => ?_⟩, kp, rfl⟩
  obtain ⟨a1, a2, a3⟩ := h6 i hi
  exact ⟨a1.kept (fun k _ _ => kp k (by omega)), a2.kept (fun k _ _ => kp k (by omega)), a3.kept (fun k _ _ => kp k (by omega))⟩
/-- one byte of a number -/
theorem td_put1 (h : isTold H t τ) (l : Nat) (hl : l < 600) (hN : tN τ 0 = nI l) (x s : Int32) (hs : ¬ s < 0) : ∃ H1, (∀ r, Runs xs sl d 146 3 [some (.ref t), some (.int x), some (.int (s + (-8)))] [] H1 r → Runs xs sl d 146 3 [some (.ref t), some (.int x), some (.int s)] [] H r) ∧ isTold H1 t (setN (setB τ l (vp_nar .byte (x >>> (s &&& 31)).toInt8.toInt32)) 0 (nI (l + 1))) ∧ (∀ j, j ≠ t → j ≠ t + 5 → H1.1 j = H.1 j) ∧ H1.2 = H.2 := by
  have o5 : hO H t 7 5 = some (.int (nI l)) := by rw [← hN]; exact h.get 5 (by decide)
  have o4 : hO H t 7 4 = some (.ref (t + 5)) := h.get 4 (by decide)
  have c : ¬ (600 : Int32) ≤ nI l := nI_ge (b := 600) hl (by decide)
  obtain ⟨H1, w1, i1, k1, z1⟩ := h.putB l hl (x >>> (s &&& 31)).toInt8.toInt32
  have p5 : hO H1 t 7 5 = some (.int (nI l)) := by rw [← hN]; exact i1.get 5 (by decide)
  obtain ⟨H2, w2, i2, k2, z2⟩ := i1.putN 0 (by decide) (nI (l + 1))
  have w2 : hOw H1 t 7 5 (.int (nI (l + 1))) = some H2 := w2
  refine ⟨H2, fun r hr => ?_, i2, fun j h1 h2 => by rw [k2 j h1, k1 j h2], by rw [z2, z1]⟩
  rw [r146_3]
  simp only [r146_0, r146_2, r146_4, r146_7, r146_8, r146_11, r146_14, r146_17, r146_18, r146_21, r146_22, r146_25, r146_26, r146_27, r146_28, r146_29, r146_30, r146_31, r146_32, r146_35, r146_36, r146_37, r146_40, r146_43, r146_46, if_neg hs, if_neg c, o5, o4, w1, p5, w2, nI_1, Option.some.injEq, exists_eq_left']
  exact hr
end FEED
