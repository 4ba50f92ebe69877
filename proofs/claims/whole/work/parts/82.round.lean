/-! WALKS THAT COME ROUND: pure -/
section RND
theorem least_ex {P : Nat → Prop} : ∀ n, P n → ∃ m, P m ∧ ∀ k, k < m → ¬ P k := by
  intro n
  induction n using Nat.strongRecOn with
  | _ n ih =>
    intro h
    by_cases c : ∃ k, k < n ∧ P k
    · obtain ⟨k, k1, k2⟩ := c
      exact ih k k1 k2
    · exact ⟨n, h, fun k hk q => c ⟨k, hk, q⟩⟩
/-- the codes met so far, as bits -/
def metS (c : Nat → Nat) (k : Nat) : Nat := it (fun i b => b ||| 2 ^ c i) k 0
theorem metS_tb {c : Nat → Nat} {v : Nat} : ∀ k, (metS c k).testBit v = true ↔ ∃ i, i < k ∧ c i = v := by
  intro k
  induction k with
  | zero =>
    constructor
    · intro h
      have e : (0 : Nat).testBit v = true := h
      rw [Nat.zero_testBit] at e
      cases e
    · rintro ⟨i, h, -⟩
      omega
  | succ k ih =>
    have e : metS c (k + 1) = metS c k ||| 2 ^ c k := rfl
    rw [e, Nat.testBit_or, Bool.or_eq_true_iff, ih, Nat.testBit_two_pow, decide_eq_true_eq]
    constructor
    · rintro (⟨i, h1, h2⟩ | h)
      · exact ⟨i, by omega, h2⟩
      · exact ⟨k, by omega, h⟩
    · rintro ⟨i, h1, h2⟩
      by_cases q : i = k
      · subst q
        exact Or.inr h2
      · exact Or.inl ⟨i, by omega, h2⟩
theorem pigeon {c : Nat → Nat} {N : Nat} (hc : ∀ i, c i < N) : ∃ k, k ≤ N ∧ ∃ i, i < k ∧ c i = c k := by
  refine Classical.byContradiction (fun no => ?_)
  have G : ∀ k, k ≤ N + 1 → k ≤ cntB (metS c k) N := by
    intro k
    induction k with
    | zero => exact fun _ => Nat.zero_le _
    | succ k ih =>
      intro hk
      have i1 := ih (by omega)
      have e : metS c (k + 1) = metS c k ||| 2 ^ c k := rfl
      have l := cntB_lt (k := metS c k) (k' := metS c (k + 1)) (u := c k) (fun u hu => by rw [e, Nat.testBit_or, hu, Bool.true_or]) (by rw [e, Nat.testBit_or, Nat.testBit_two_pow_self, Bool.or_true]) (fun q => no ⟨k, by omega, (metS_tb k).mp q⟩) N (hc k)
      omega
  have g := G (N + 1) (Nat.le_refl _)
  have l := cntB_le (metS c (N + 1)) N
  omega
/-- the first coming round: m steps ahead, l steps round -/
def rnd (X : Nat → Nat) (m l : Nat) : Prop := 0 < l ∧ X (m + l) = X m ∧ ∀ i j, i < j → j < m + l → X i ≠ X j
theorem rnd_ex {X c : Nat → Nat} {N : Nat} (hc : ∀ i, c i < N) (he : ∀ i j, c i = c j ↔ X i = X j) : ∃ m l, rnd X m l ∧ m + l ≤ N := by
  obtain ⟨k0, k1, k2⟩ := pigeon hc
  obtain ⟨n, ⟨m, n1, n2⟩, n3⟩ := least_ex (P := fun k => ∃ i, i < k ∧ c i = c k) k0 k2
  have hn : n ≤ N := by
    by_cases q : n ≤ k0
    · omega
    · exact absurd k2 (n3 k0 (by omega))
  refine ⟨m, n - m, ⟨by omega, ?_, fun i j hij hj e => ?_⟩, by omega⟩
  · rw [show m + (n - m) = n by omega]
    exact ((he m n).mp n2).symm
  · exact n3 j (by omega) ⟨i, hij, (he i j).mpr e⟩
theorem rnd_per {X : Nat → Nat} {m l : Nat} (hd : ∀ i j, X i = X j → X (i + 1) = X (j + 1)) (h : rnd X m l) : ∀ i, m ≤ i → X (i + l) = X i := by
  have q : ∀ k, X (m + k + l) = X (m + k) := by
    intro k
    induction k with
    | zero => exact h.2.1
    | succ k ih =>
      have := hd _ _ ih
      rw [show m + (k + 1) + l = m + k + l + 1 by omega, show m + (k + 1) = m + k + 1 by omega]
      exact this
  intro i hi
  have := q (i - m)
  rw [show m + (i - m) = i by omega] at this
  exact this
theorem rnd_red {X : Nat → Nat} {m l : Nat} (hd : ∀ i j, X i = X j → X (i + 1) = X (j + 1)) (h : rnd X m l) : ∀ k, X (m + k) = X (m + k % l) := by
  intro k
  induction k using Nat.strongRecOn with
  | _ k ih =>
    by_cases c : k < l
    · rw [Nat.mod_eq_of_lt c]
    · have p := rnd_per hd h (m + (k - l)) (by omega)
      rw [show m + (k - l) + l = m + k by omega] at p
      rw [p, ih (k - l) (by have := h.1; omega), ← Nat.mod_eq_sub_mod (by omega)]
theorem rnd_eq {X : Nat → Nat} {m l i j : Nat} (hd : ∀ i j, X i = X j → X (i + 1) = X (j + 1)) (h : rnd X m l) (hij : i < j) (e : X i = X j) : m ≤ i ∧ l ≤ j - i := by
  have l0 := h.1
  have R : ∀ k, m ≤ k → X k = X (m + (k - m) % l) := by
    intro k hk
    have := rnd_red hd h (k - m)
    rw [show m + (k - m) = k by omega] at this
    exact this
  have mi := Nat.mod_lt (i - m) l0
  have mj := Nat.mod_lt (j - m) l0
  by_cases c : m ≤ i
  · refine ⟨c, ?_⟩
    have e2 : X (m + (i - m) % l) = X (m + (j - m) % l) := by
      rw [← R i c, ← R j (by omega)]
      exact e
    have e3 : (i - m) % l = (j - m) % l := by
      rcases Nat.lt_trichotomy ((i - m) % l) ((j - m) % l) with q | q | q
      · exact absurd e2 (h.2.2 _ _ (by omega) (by omega))
      · exact q
      · exact absurd e2.symm (h.2.2 _ _ (by omega) (by omega))
    have ha := Nat.div_add_mod (i - m) l
    have hb := Nat.div_add_mod (j - m) l
    by_cases q : (j - m) / l ≤ (i - m) / l
    · have := Nat.mul_le_mul_left l q
      omega
    · have q2 : (i - m) / l + 1 ≤ (j - m) / l := by omega
      have := Nat.mul_le_mul_left l q2
      rw [Nat.mul_add, Nat.mul_one] at this
      omega
  · exfalso
    by_cases c2 : m ≤ j
    · rw [R j c2] at e
      exact h.2.2 i _ (by omega) (by omega) e
    · exact h.2.2 i j hij (by omega) e
end RND
