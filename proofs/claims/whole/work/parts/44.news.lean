/-! NEW towns, days, plates -/
section NEWS
variable {xs : Nat → Int32} {sl d : Nat} {H H' : mH}
def S0 (k : Nat) : Int32 := if k < 2 then 3 else 0
def Z1 (_ : Nat) : Int32 := 0
def Z2 (_ _ : Nat) : Int32 := 0
theorem new_town {p : Nat} (hp : H.2.1 = p) : ∃ H2, Runs xs sl (d + 1) 148 0 [some (.ref p)] [] (mnew H (mO 8 (fun k => mdef (mTy 8 k))) 12) (none, H2) ∧ isTown H2 p S0 Z2 ∧ H2.2 = (p + 8, H.2.2 + 136) ∧ ∀ j, j < p → H2.1 j = H.1 j := by
  obtain ⟨H2, hr, ho, b1, b2, b3, b4, b5, b6, b7, hz, hf⟩ := tw_init (xs := xs) (sl := sl) (d := d) (H := mnew H (mO 8 (fun k => mdef (mTy 8 k))) 12) (a := p) (by rw [← hp]; exact mnew_at) (by show H.2.1 + 1 = p + 1; rw [hp])
  refine ⟨H2, hr, ⟨?_, fun j hj => ?_⟩, ?_, fun j hj => ?_⟩
  · obtain ⟨F, h1, h2⟩ := ho
    refine ⟨F, h1, fun k hk => (h2 k hk).trans ?_⟩
    have hk2 : k = 0 ∨ k = 1 ∨ k = 2 ∨ k = 3 ∨ k = 4 ∨ k = 5 ∨ k = 6 ∨ k = 7 ∨ k = 8 ∨ k = 9 ∨ k = 10 ∨ k = 11 := by omega
    rcases hk2 with rfl | rfl | rfl | rfl | rfl | rfl | rfl | rfl | rfl | rfl | rfl | rfl <;> rfl
  · have hj2 : j = 0 ∨ j = 1 ∨ j = 2 ∨ j = 3 ∨ j = 4 ∨ j = 5 ∨ j = 6 := by omega
    rcases hj2 with rfl | rfl | rfl | rfl | rfl | rfl | rfl
    · exact b1
    · exact b2
    · exact b3
    · exact b4
    · exact b5
    · exact b6
    · exact b7
  · rw [hz]
    show (p + 8, H.2.2 + 12 + 124) = _
    rw [Nat.add_assoc]
  · rw [hf j hj, mnew_ne (by omega)]
theorem new_days {p : Nat} (hp : H.2.1 = p) : ∃ H2, Runs xs sl (d + 1) 46 0 [some (.ref p)] [] (mnew H (mO 0 (fun k => mdef (mTy 0 k))) 2) (none, H2) ∧ isDays H2 p 0 Z1 ∧ H2.2 = (p + 2, H.2.2 + 162) ∧ ∀ j, j < p → H2.1 j = H.1 j := by
  obtain ⟨H2, hr, ho, hz, hf⟩ := dy_init (xs := xs) (sl := sl) (d := d) (H := mnew H (mO 0 (fun k => mdef (mTy 0 k))) 2) (a := p) (by rw [← hp]; exact mnew_at) (by show H.2.1 + 1 = p + 1; rw [hp])
  refine ⟨H2, hr, ho, ?_, fun j hj => ?_⟩
  · rw [hz]
    show (p + 2, H.2.2 + 2 + 160) = _
    rw [Nat.add_assoc]
  · rw [hf j hj, mnew_ne (by omega)]
def P0 (k : Nat) : Int32 := if k = 0 then 3 else 0
theorem new_plate {p : Nat} (hp : H.2.1 = p) : ∃ H2, Runs xs sl (d + 1) 81 0 [some (.ref p)] [] (mnew H (mO 4 (fun k => mdef (mTy 4 k))) 4) (none, H2) ∧ isPlate H2 p P0 Z1 ∧ H2.2 = (p + 2, H.2.2 + 40) ∧ ∀ j, j < p → H2.1 j = H.1 j := by
  obtain ⟨H2, hr, ho, hz, hf⟩ := pl_init (xs := xs) (sl := sl) (d := d) (H := mnew H (mO 4 (fun k => mdef (mTy 4 k))) 4) (a := p) (by rw [← hp]; exact mnew_at) (by show H.2.1 + 1 = p + 1; rw [hp])
  refine ⟨H2, hr, ho, ?_, fun j hj => ?_⟩
  · rw [hz]
    show (p + 2, H.2.2 + 4 + 36) = _
    rw [Nat.add_assoc]
  · rw [hf j hj, mnew_ne (by omega)]
theorem isDays.kept {a : Nat} {n : Int32} {f : Nat → Int32} (h : isDays H a n f) (hk : ∀ k, a ≤ k → k < a + 2 → H'.1 k = H.1 k) : isDays H' a n f := ⟨h.1.kept (hk a (by omega) (by omega)), by rw [hk (a + 1) (by omega) (by omega)]; exact h.2⟩
theorem isPlate.kept {a : Nat} {S f : Nat → Int32} (h : isPlate H a S f) (hk : ∀ k, a ≤ k → k < a + 2 → H'.1 k = H.1 k) : isPlate H' a S f := ⟨h.1.kept (hk a (by omega) (by omega)), by rw [hk (a + 1) (by omega) (by omega)]; exact h.2⟩
/-- a reference put into an array of references -/
theorem hQw_of {a t n i v : Nat} {f : Nat → Option Nat} {ci : Nat} {F : Nat → Value} (h : H.1 a = some (mQ t n f)) (hv : H.1 v = some (mO ci F)) (he : mEl t = some ci) (hi : i < n) (hn : n < 2 ^ 31) : hQw H a (nI i) v = some (mset H a (mQ t n (va_up f i (some v)))) := by
  unfold hQw
  rw [h]
  dsimp only
  rw [hv]
  dsimp only
  rw [if_pos he, if_neg (nI_in hi hn), nI_clamp (by omega)]
theorem hQ_of {a t n i : Nat} {f : Nat → Option Nat} (h : H.1 a = some (mQ t n f)) (ht : 4 ≤ t ∧ t < 8) (hi : i < n) (hn : n < 2 ^ 31) : hQ H a (nI i) = some (va_rf (f i)) := by
  unfold hQ
  rw [h]
  dsimp only
  rw [if_pos ht, if_neg (nI_in hi hn), nI_clamp (by omega)]
end NEWS
